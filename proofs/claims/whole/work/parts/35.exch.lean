/-! the class's exchange of news, word by word; both sides stay alike -/
def aW (S : xS) (P : Nat) (y : Int32) (q : Nat) : Int32 := if q = P then y else S.1 9 P q
def aP (S : xS) (P q g : Nat) : Int32 := if q = P then pPrice S P (nI g) else S.1 10 P (4 * q + g)
theorem ntC_9 (S : xS) (P : Nat) (y : Int32) (a q : Nat) : (ntC S P y).1 9 a q = if a = P then aW S P y q else S.1 9 a q := by
  show (if 9 = 9 ∧ q = P ∧ a = P then y else S.1 9 a q) = _
  unfold aW
  by_cases e : a = P
  · subst e
    rw [if_pos rfl]
    by_cases e2 : q = a
    · rw [if_pos ⟨rfl, e2, rfl⟩, if_pos e2]
    · rw [if_neg (fun g => e2 g.2.1), if_neg e2]
  · rw [if_neg (fun g => e g.2.2), if_neg e]
theorem ntC_10 (S : xS) (P : Nat) (y : Int32) (a q g : Nat) (hg : g < 4) : (ntC S P y).1 10 a (4 * q + g) = if a = P then aP S P q g else S.1 10 a (4 * q + g) := by
  show (if 10 = 10 ∧ 4 * q + g = 4 * P + 3 ∧ a = P then pPrice S P 3 else if 10 = 10 ∧ 4 * q + g = 4 * P + 2 ∧ a = P then pPrice S P 2 else if 10 = 10 ∧ 4 * q + g = 4 * P + 1 ∧ a = P then pPrice S P 1 else if 10 = 10 ∧ 4 * q + g = 4 * P ∧ a = P then pPrice S P 0 else S.1 10 a (4 * q + g)) = _
  unfold aP
  by_cases e : a = P
  · subst e
    rw [if_pos rfl]
    by_cases e2 : q = a
    · subst e2
      rw [if_pos rfl]
      have : g = 0 ∨ g = 1 ∨ g = 2 ∨ g = 3 := by omega
      rcases this with rfl | rfl | rfl | rfl
      · rw [if_neg (fun g => by have := g.2.1; omega), if_neg (fun g => by have := g.2.1; omega), if_neg (fun g => by have := g.2.1; omega), if_pos ⟨rfl, rfl, rfl⟩]; rfl
      · rw [if_neg (fun g => by have := g.2.1; omega), if_neg (fun g => by have := g.2.1; omega), if_pos ⟨rfl, rfl, rfl⟩]; rfl
      · rw [if_neg (fun g => by have := g.2.1; omega), if_pos ⟨rfl, rfl, rfl⟩]; rfl
      · rw [if_pos ⟨rfl, rfl, rfl⟩]; rfl
    · rw [if_neg (fun g => by have := g.2.1; omega), if_neg (fun g => by have := g.2.1; omega), if_neg (fun g => by have := g.2.1; omega), if_neg (fun g => by have := g.2.1; omega), if_neg e2]
  · rw [if_neg (fun g => e g.2.2), if_neg (fun g => e g.2.2), if_neg (fun g => e g.2.2), if_neg (fun g => e g.2.2), if_neg e]
theorem it_lt {α : Type} {a b : Int32} {u v : α} : (if a < (if b < a then a else b) then (if b < a then u else v) else u) = if a < b then v else u := by
  by_cases c : b < a
  · rw [if_pos c, if_neg Int32.lt_irrefl, if_neg (fun q => Int32.lt_irrefl (Int32.lt_trans c q))]
  · rw [if_neg c, if_neg c]
theorem exC_spec {S : xS} {P D : Nat} {y : Int32} (hy : S.1 0 0 13 = y) (hP : P < 6) (hD : D < 4) {q : Nat} (hq : q < 6) : ((exC S P D).1 9 (D + 6) q = if S.1 9 (D + 6) q < aW S P y q then aW S P y q else S.1 9 (D + 6) q) ∧ ((exC S P D).1 9 P q = if aW S P y q < S.1 9 (D + 6) q then S.1 9 (D + 6) q else aW S P y q) ∧ ∀ g, g < 4 → ((exC S P D).1 10 (D + 6) (4 * q + g) = if S.1 9 (D + 6) q < aW S P y q then aP S P q g else S.1 10 (D + 6) (4 * q + g)) ∧ ((exC S P D).1 10 P (4 * q + g) = if aW S P y q < S.1 9 (D + 6) q then S.1 10 (D + 6) (4 * q + g) else aP S P q g) := by
  have hne : D + 6 ≠ P := by omega
  have a1 : ∀ q, (ntC S P y).1 9 (D + 6) q = S.1 9 (D + 6) q := fun q => by rw [ntC_9, if_neg hne]
  have a2 : ∀ q, (ntC S P y).1 9 P q = aW S P y q := fun q => by rw [ntC_9, if_pos rfl]
  have a3 : ∀ q g, g < 4 → (ntC S P y).1 10 (D + 6) (4 * q + g) = S.1 10 (D + 6) (4 * q + g) := fun q g hg => by rw [ntC_10 _ _ _ _ _ _ hg, if_neg hne]
  have a4 : ∀ q g, g < 4 → (ntC S P y).1 10 P (4 * q + g) = aP S P q g := fun q g hg => by rw [ntC_10 _ _ _ _ _ _ hg, if_pos rfl]
  unfold exC
  rw [hy]
  have b1 : ∀ q, q < 6 → (hrC (ntC S P y) (D + 6) P 6).1 9 (D + 6) q = if S.1 9 (D + 6) q < aW S P y q then aW S P y q else S.1 9 (D + 6) q := fun q hq => by
    rw [hrC_9 hne, a1, a2]
    by_cases c : S.1 9 (D + 6) q < aW S P y q
    · rw [if_pos ⟨hq, c⟩, if_pos c]
    · rw [if_neg (fun g => c g.2), if_neg c]
  have b2 : ∀ q, (hrC (ntC S P y) (D + 6) P 6).1 9 P q = aW S P y q := fun q => by rw [hrC_off _ _ _ _ _ _ _ (fun g => hne g.2.symm) (fun g => absurd g.1 (by decide)), a2]
  have b3 : ∀ g, g < 4 → (hrC (ntC S P y) (D + 6) P 6).1 10 (D + 6) (4 * q + g) = if S.1 9 (D + 6) q < aW S P y q then aP S P q g else S.1 10 (D + 6) (4 * q + g) := fun g hg => by
    rw [hrC_10 hne, show (4 * q + g) / 4 = q by omega, a1, a2, a3 q g hg, a4 q g hg]
    by_cases c : S.1 9 (D + 6) q < aW S P y q
    · rw [if_pos ⟨hq, c⟩, if_pos c]
    · rw [if_neg (fun g => c g.2), if_neg c]
  have b4 : ∀ g, g < 4 → (hrC (ntC S P y) (D + 6) P 6).1 10 P (4 * q + g) = aP S P q g := fun g hg => by rw [hrC_off _ _ _ _ _ _ _ (fun g => absurd g.1 (by decide)) (fun g => hne g.2.symm), a4 q g hg]
  refine ⟨?_, ?_, fun g hg => ⟨?_, ?_⟩⟩
  · rw [hrC_off _ _ _ _ _ _ _ (fun g => hne g.2) (fun g => absurd g.1 (by decide)), b1 q hq]
  · rw [hrC_9 (Ne.symm hne), b1 q hq, b2 q, ← it_lt (a := aW S P y q) (b := S.1 9 (D + 6) q)]
    by_cases c : aW S P y q < (if S.1 9 (D + 6) q < aW S P y q then aW S P y q else S.1 9 (D + 6) q)
    · rw [if_pos ⟨hq, c⟩, if_pos c]
    · rw [if_neg (fun g => c g.2), if_neg c]
  · rw [hrC_off _ _ _ _ _ _ _ (fun g => absurd g.1 (by decide)) (fun g => hne g.2), b3 g hg]
  · rw [hrC_10 (Ne.symm hne), show (4 * q + g) / 4 = q by omega, b1 q hq, b2 q, b3 g hg, b4 g hg, ← it_lt (a := aW S P y q) (b := S.1 9 (D + 6) q)]
    by_cases c : aW S P y q < (if S.1 9 (D + 6) q < aW S P y q then aW S P y q else S.1 9 (D + 6) q)
    · rw [if_pos ⟨hq, c⟩, if_pos c]
    · rw [if_neg (fun g => c g.2), if_neg c]
theorem exC_off {S : xS} {P D : Nat} {k i j : Nat} (h1 : ¬ ((k = 9 ∨ k = 10) ∧ (i = P ∨ i = D + 6))) : (exC S P D).1 k i j = S.1 k i j := by
  unfold exC
  rw [hrC_off _ _ _ _ _ _ _ (fun g => h1 ⟨Or.inl g.1, Or.inl g.2⟩) (fun g => h1 ⟨Or.inr g.1, Or.inl g.2⟩), hrC_off _ _ _ _ _ _ _ (fun g => h1 ⟨Or.inl g.1, Or.inr g.2⟩) (fun g => h1 ⟨Or.inr g.1, Or.inr g.2⟩)]
  have n9 : ¬ (k = 9 ∧ i = P) := fun g => h1 ⟨Or.inl g.1, Or.inl g.2⟩
  have n10 : ¬ (k = 10 ∧ i = P) := fun g => h1 ⟨Or.inr g.1, Or.inl g.2⟩
  show (if k = 10 ∧ j = 4 * P + 3 ∧ i = P then _ else if k = 10 ∧ j = 4 * P + 2 ∧ i = P then _ else if k = 10 ∧ j = 4 * P + 1 ∧ i = P then _ else if k = 10 ∧ j = 4 * P ∧ i = P then _ else if k = 9 ∧ j = P ∧ i = P then _ else S.1 k i j) = _
  rw [if_neg (fun g => n10 ⟨g.1, g.2.2⟩), if_neg (fun g => n10 ⟨g.1, g.2.2⟩), if_neg (fun g => n10 ⟨g.1, g.2.2⟩), if_neg (fun g => n10 ⟨g.1, g.2.2⟩), if_neg (fun g => n9 ⟨g.1, g.2.2⟩)]
theorem exC_2 (S : xS) (P D : Nat) : (exC S P D).2 = S.2 := by
  unfold exC
  rw [hrC_2, hrC_2]; rfl
theorem knM_51 (S : xS) (P w : Nat) : (knM S P).1 51 0 w = if w = 7 * P then S.1 36 0 0 else S.1 51 0 w := by
  show (if 51 = 51 ∧ w = 7 * P ∧ 0 = 0 then S.1 36 0 0 else S.1 51 0 w) = _
  by_cases e : w = 7 * P
  · rw [if_pos ⟨rfl, e, rfl⟩, if_pos e]
  · rw [if_neg (fun g => e g.2.1), if_neg e]
theorem knM_52 (S : xS) (P w g : Nat) (hg : g < 4) : (knM S P).1 52 0 (4 * w + g) = if w = 7 * P then mPrice S (nI P) (nI g) else S.1 52 0 (4 * w + g) := by
  show (if 52 = 52 ∧ 4 * w + g = 28 * P + 3 ∧ 0 = 0 then mPrice S (nI P) (nI 3) else if 52 = 52 ∧ 4 * w + g = 28 * P + 2 ∧ 0 = 0 then mPrice S (nI P) (nI 2) else if 52 = 52 ∧ 4 * w + g = 28 * P + 1 ∧ 0 = 0 then mPrice S (nI P) (nI 1) else if 52 = 52 ∧ 4 * w + g = 28 * P + 0 ∧ 0 = 0 then mPrice S (nI P) (nI 0) else S.1 52 0 (4 * w + g)) = _
  by_cases e : w = 7 * P
  · subst e
    rw [if_pos rfl]
    have : g = 0 ∨ g = 1 ∨ g = 2 ∨ g = 3 := by omega
    rcases this with rfl | rfl | rfl | rfl
    · rw [if_neg (fun g => by have := g.2.1; omega), if_neg (fun g => by have := g.2.1; omega), if_neg (fun g => by have := g.2.1; omega), if_pos ⟨rfl, by omega, rfl⟩]
    · rw [if_neg (fun g => by have := g.2.1; omega), if_neg (fun g => by have := g.2.1; omega), if_pos ⟨rfl, by omega, rfl⟩]
    · rw [if_neg (fun g => by have := g.2.1; omega), if_pos ⟨rfl, by omega, rfl⟩]
    · rw [if_pos ⟨rfl, by omega, rfl⟩]
  · rw [if_neg (fun g => by have := g.2.1; omega), if_neg (fun g => by have := g.2.1; omega), if_neg (fun g => by have := g.2.1; omega), if_neg (fun g => by have := g.2.1; omega), if_neg e]
