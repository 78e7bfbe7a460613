/-! the model's cells as the machine's world, and the contract of its constructor (written by ctor8.py) -/
def moW (m0 : Nat) (q : Nat → Nat) (c : Nat → ClassId) (f51 f65 f66 f67 f72 : Nat → Int32) : va_W := [(m0, .inr (12, [.int 0, .int 0, .ref (q 37), .ref (q 38), .ref (q 39), .ref (q 40), .ref (q 41), .ref (q 42), .int 0, .ref (q 43), .ref (q 44), .ref (q 45), .ref (q 46), .ref (q 47), .ref (q 48), .ref (q 49), .ref (q 50), .ref (q 51), .ref (q 52), .int 0, .ref (q 53), .ref (q 54), .ref (q 55), .ref (q 56), .ref (q 57), .ref (q 58), .ref (q 59), .int 0, .int 0, .int 0, .ref (q 60), .ref (q 61), .int 0, .int 0, .int 0, .ref (q 62), .ref (q 63), .ref (q 64), .ref (q 65), .ref (q 66), .ref (q 67), .int 0, .int 0, .int 0, .int 0, .ref (q 68), .int 0, .ref (q 69), .ref (q 70), .ref (q 71), .int 0, .int 0, .int 0, .int 0, .int 0, .int 0, .ref (q 72), .ref (q 73), .ref (q 74)])), (q 74, .inl (c 74, 160, .inl fun _ => 0)), (q 73, .inl (c 73, 4, .inl fun _ => 0)), (q 72, .inl (c 72, 4, .inl f72)), (q 71, .inl (c 71, 24, .inl fun _ => 0)), (q 70, .inl (c 70, 6, .inl fun _ => 0)), (q 69, .inl (c 69, 200, .inl fun _ => 0)), (q 68, .inl (c 68, 200, .inl fun _ => 0)), (q 67, .inl (c 67, 12, .inl f67)), (q 66, .inl (c 66, 12, .inl f66)), (q 65, .inl (c 65, 45, .inl f65)), (q 64, .inl (c 64, 2880, .inl fun _ => 0)), (q 63, .inl (c 63, 2880, .inl fun _ => 0)), (q 62, .inl (c 62, 18, .inl fun _ => 0)), (q 61, .inl (c 61, 160, .inl fun _ => 0)), (q 60, .inl (c 60, 16, .inr (.inl fun _ => 0))), (q 59, .inl (c 59, 16, .inl fun _ => 0)), (q 58, .inl (c 58, 16, .inl fun _ => 0)), (q 57, .inl (c 57, 16, .inl fun _ => 0)), (q 56, .inl (c 56, 16, .inl fun _ => 0)), (q 55, .inl (c 55, 16, .inl fun _ => 0)), (q 54, .inl (c 54, 16, .inl fun _ => 0)), (q 53, .inl (c 53, 16, .inl fun _ => 0)), (q 52, .inl (c 52, 240, .inl fun _ => 0)), (q 51, .inl (c 51, 60, .inl f51)), (q 50, .inl (c 50, 16, .inl fun _ => 0)), (q 49, .inl (c 49, 4, .inl fun _ => 0)), (q 48, .inl (c 48, 4, .inl fun _ => 0)), (q 47, .inl (c 47, 4, .inl fun _ => 0)), (q 46, .inl (c 46, 4, .inl fun _ => 0)), (q 45, .inl (c 45, 4, .inl fun _ => 0)), (q 44, .inl (c 44, 4, .inl fun _ => 0)), (q 43, .inl (c 43, 4, .inl fun _ => 0)), (q 42, .inl (c 42, 12, .inl fun _ => 0)), (q 41, .inl (c 41, 24, .inl fun _ => 0)), (q 40, .inl (c 40, 24, .inl fun _ => 0)), (q 39, .inl (c 39, 24, .inl fun _ => 0)), (q 38, .inl (c 38, 6, .inl fun _ => 0)), (q 37, .inl (c 37, 6, .inl fun _ => 0))]
def moK (c : Nat → ClassId) : List (ClassId × FieldType) := [(c 74, .int), (c 73, .int), (c 72, .int), (c 71, .int), (c 70, .boolean), (c 69, .int), (c 68, .int), (c 67, .int), (c 66, .int), (c 65, .char), (c 64, .int), (c 63, .int), (c 62, .int), (c 61, .byte), (c 60, .long), (c 59, .int), (c 58, .boolean), (c 57, .int), (c 56, .int), (c 55, .int), (c 54, .int), (c 53, .int), (c 52, .int), (c 51, .int), (c 50, .int), (c 49, .boolean), (c 48, .int), (c 47, .int), (c 46, .int), (c 45, .int), (c 44, .int), (c 43, .int), (c 42, .int), (c 41, .int), (c 40, .int), (c 39, .int), (c 38, .int), (c 37, .int)]
def moL (L : xL) (m0 : Nat) (q : Nat → Nat) : xL := fun k i => bif Nat.beq k 36 then m0 else bif (Nat.ble 37 k && Nat.ble k 74) then q k else bif Nat.beq k 99 then 1 else L k i
def moS (S : xS) (f51 f65 f66 f67 f72 : Nat → Int32) : xS := (fun k i j => bif Nat.beq k 51 then f51 j else bif Nat.beq k 65 then f65 j else bif Nat.beq k 66 then f66 j else bif Nat.beq k 67 then f67 j else bif Nat.beq k 72 then f72 j else bif (Nat.ble 36 k && Nat.ble k 74) then 0 else S.1 k i j, fun k i j => bif Nat.beq k 60 then 0 else S.2 k i j)
def lo (k : Nat) : Bool := Nat.ble k 35 || (Nat.ble 75 k && Nat.ble k 76)
def xlo (k : Nat) : Bool := match xsh k with
  | .inl o => o.2.all (fun x => match x with
    | none => true
    | some q => lo q.1)
  | .inr a => lo a.2.2
theorem xlo_all : ∀ k, k < 77 → lo k = true → xlo k = true := by decide +kernel
theorem xfl_lo {L L' : xL} {S S' : xS} {k i : Nat} (hL : ∀ k i, lo k = true → L' k i = L k i) (h : ∀ j, S'.1 k i j = S.1 k i j) : ∀ (sl : List (Option (Nat × Nat × Nat))) (j : Nat), sl.all (fun x => match x with
    | none => true
    | some q => lo q.1) = true → xfl L' S' k i j sl = xfl L S k i j sl
  | [], _, _ => rfl
  | none :: r, j, hs => by
    show Value.int (S'.1 k i j) :: xfl L' S' k i (j + 1) r = Value.int (S.1 k i j) :: xfl L S k i (j + 1) r
    rw [h, xfl_lo hL h r (j + 1) (by simpa using hs)]
  | some q :: r, j, hs => by
    have hs2 := (Bool.and_eq_true_iff.mp (show (lo q.1 && r.all _) = true from hs))
    show Value.ref (L' (xrf q i).1 (xrf q i).2) :: xfl L' S' k i (j + 1) r = Value.ref (L (xrf q i).1 (xrf q i).2) :: xfl L S k i (j + 1) r
    rw [xfl_lo hL h r (j + 1) hs2.2, hL _ _ (by rw [xrf_k]; exact hs2.1)]
theorem xcell_lo {U : State} {D : va_G} {L L' : xL} {S S' : xS} {k i : Nat} {H H' : Heap} (h : xcell U D L S k i H) (hk : k < 77) (hlo : lo k = true) (hL : ∀ k i, lo k = true → L' k i = L k i) (hS : ∀ j, S'.1 k i j = S.1 k i j ∧ S'.2 k i j = S.2 k i j) (hq : H'[L k i]? = H[L k i]?) : xcell U D L' S' k i H' := by
  have hn := xlo_all k hk hlo
  have h := (h.congr hS).kept hq
  unfold xcell at h ⊢
  unfold xlo at hn
  cases hsh : xsh k with
  | inl o =>
    rw [hsh] at h hn
    rw [hL k i hlo]
    show _ ∨ _
    rw [xfl_lo (S := S') (S' := S') hL (fun _ => rfl) o.2 0 hn]
    exact h
  | inr a =>
    obtain ⟨ty, n, rk⟩ := a
    rw [hsh] at h hn
    have hn : lo rk = true := hn
    have e : xel L' S' k i rk ty = xel L S' k i rk ty := by
      funext j
      cases ty <;> first | rfl | (show Value.ref (L' rk j) = Value.ref (L rk j); rw [hL _ _ hn])
    rw [hL k i hlo]
    show _ ∨ _
    dsimp only at h ⊢
    rw [e]
    exact h
set_option maxRecDepth 20000 in
theorem mo_cell {Dg : va_G} {L : xL} {S : xS} {m0 : Nat} {q : Nat → Nat} {c : Nat → ClassId} {f51 f65 f66 f67 f72 : Nat → Int32} {U : State} {H : Heap} (hP : va_P Dg classes (moW m0 q c f51 f65 f66 f67 f72) H) (hK : va_K Dg classes (moK c) U) : ∀ k, 36 ≤ k → k < 75 → xcell U Dg (moL L m0 q) (moS S f51 f65 f66 f67 f72) k 0 H ∧ ∃ e, (moW m0 q c f51 f65 f66 f67 f72)[if k = 36 then 0 else 75 - k]? = some (moL L m0 q k 0, e)
  | 36, _, _ => ⟨Or.inr (hP 0 _ rfl), _, rfl⟩
  | 37, _, _ => ⟨Or.inr ⟨rfl, _, hK.2 37 _ rfl, hP 38 _ rfl⟩, _, rfl⟩
  | 38, _, _ => ⟨Or.inr ⟨rfl, _, hK.2 36 _ rfl, hP 37 _ rfl⟩, _, rfl⟩
  | 39, _, _ => ⟨Or.inr ⟨rfl, _, hK.2 35 _ rfl, hP 36 _ rfl⟩, _, rfl⟩
  | 40, _, _ => ⟨Or.inr ⟨rfl, _, hK.2 34 _ rfl, hP 35 _ rfl⟩, _, rfl⟩
  | 41, _, _ => ⟨Or.inr ⟨rfl, _, hK.2 33 _ rfl, hP 34 _ rfl⟩, _, rfl⟩
  | 42, _, _ => ⟨Or.inr ⟨rfl, _, hK.2 32 _ rfl, hP 33 _ rfl⟩, _, rfl⟩
  | 43, _, _ => ⟨Or.inr ⟨rfl, _, hK.2 31 _ rfl, hP 32 _ rfl⟩, _, rfl⟩
  | 44, _, _ => ⟨Or.inr ⟨rfl, _, hK.2 30 _ rfl, hP 31 _ rfl⟩, _, rfl⟩
  | 45, _, _ => ⟨Or.inr ⟨rfl, _, hK.2 29 _ rfl, hP 30 _ rfl⟩, _, rfl⟩
  | 46, _, _ => ⟨Or.inr ⟨rfl, _, hK.2 28 _ rfl, hP 29 _ rfl⟩, _, rfl⟩
  | 47, _, _ => ⟨Or.inr ⟨rfl, _, hK.2 27 _ rfl, hP 28 _ rfl⟩, _, rfl⟩
  | 48, _, _ => ⟨Or.inr ⟨rfl, _, hK.2 26 _ rfl, hP 27 _ rfl⟩, _, rfl⟩
  | 49, _, _ => ⟨Or.inr ⟨rfl, _, hK.2 25 _ rfl, hP 26 _ rfl⟩, _, rfl⟩
  | 50, _, _ => ⟨Or.inr ⟨rfl, _, hK.2 24 _ rfl, hP 25 _ rfl⟩, _, rfl⟩
  | 51, _, _ => ⟨Or.inr ⟨rfl, _, hK.2 23 _ rfl, hP 24 _ rfl⟩, _, rfl⟩
  | 52, _, _ => ⟨Or.inr ⟨rfl, _, hK.2 22 _ rfl, hP 23 _ rfl⟩, _, rfl⟩
  | 53, _, _ => ⟨Or.inr ⟨rfl, _, hK.2 21 _ rfl, hP 22 _ rfl⟩, _, rfl⟩
  | 54, _, _ => ⟨Or.inr ⟨rfl, _, hK.2 20 _ rfl, hP 21 _ rfl⟩, _, rfl⟩
  | 55, _, _ => ⟨Or.inr ⟨rfl, _, hK.2 19 _ rfl, hP 20 _ rfl⟩, _, rfl⟩
  | 56, _, _ => ⟨Or.inr ⟨rfl, _, hK.2 18 _ rfl, hP 19 _ rfl⟩, _, rfl⟩
  | 57, _, _ => ⟨Or.inr ⟨rfl, _, hK.2 17 _ rfl, hP 18 _ rfl⟩, _, rfl⟩
  | 58, _, _ => ⟨Or.inr ⟨rfl, _, hK.2 16 _ rfl, hP 17 _ rfl⟩, _, rfl⟩
  | 59, _, _ => ⟨Or.inr ⟨rfl, _, hK.2 15 _ rfl, hP 16 _ rfl⟩, _, rfl⟩
  | 60, _, _ => ⟨Or.inr ⟨rfl, _, hK.2 14 _ rfl, hP 15 _ rfl⟩, _, rfl⟩
  | 61, _, _ => ⟨Or.inr ⟨rfl, _, hK.2 13 _ rfl, hP 14 _ rfl⟩, _, rfl⟩
  | 62, _, _ => ⟨Or.inr ⟨rfl, _, hK.2 12 _ rfl, hP 13 _ rfl⟩, _, rfl⟩
  | 63, _, _ => ⟨Or.inr ⟨rfl, _, hK.2 11 _ rfl, hP 12 _ rfl⟩, _, rfl⟩
  | 64, _, _ => ⟨Or.inr ⟨rfl, _, hK.2 10 _ rfl, hP 11 _ rfl⟩, _, rfl⟩
  | 65, _, _ => ⟨Or.inr ⟨rfl, _, hK.2 9 _ rfl, hP 10 _ rfl⟩, _, rfl⟩
  | 66, _, _ => ⟨Or.inr ⟨rfl, _, hK.2 8 _ rfl, hP 9 _ rfl⟩, _, rfl⟩
  | 67, _, _ => ⟨Or.inr ⟨rfl, _, hK.2 7 _ rfl, hP 8 _ rfl⟩, _, rfl⟩
  | 68, _, _ => ⟨Or.inr ⟨rfl, _, hK.2 6 _ rfl, hP 7 _ rfl⟩, _, rfl⟩
  | 69, _, _ => ⟨Or.inr ⟨rfl, _, hK.2 5 _ rfl, hP 6 _ rfl⟩, _, rfl⟩
  | 70, _, _ => ⟨Or.inr ⟨rfl, _, hK.2 4 _ rfl, hP 5 _ rfl⟩, _, rfl⟩
  | 71, _, _ => ⟨Or.inr ⟨rfl, _, hK.2 3 _ rfl, hP 4 _ rfl⟩, _, rfl⟩
  | 72, _, _ => ⟨Or.inr ⟨rfl, _, hK.2 2 _ rfl, hP 3 _ rfl⟩, _, rfl⟩
  | 73, _, _ => ⟨Or.inr ⟨rfl, _, hK.2 1 _ rfl, hP 2 _ rfl⟩, _, rfl⟩
  | 74, _, _ => ⟨Or.inr ⟨rfl, _, hK.2 0 _ rfl, hP 1 _ rfl⟩, _, rfl⟩
  | k + 75, _, h => absurd h (by omega)
  | 0, h, _ => absurd h (by decide)
  | 1, h, _ => absurd h (by decide)
  | 2, h, _ => absurd h (by decide)
  | 3, h, _ => absurd h (by decide)
  | 4, h, _ => absurd h (by decide)
  | 5, h, _ => absurd h (by decide)
  | 6, h, _ => absurd h (by decide)
  | 7, h, _ => absurd h (by decide)
  | 8, h, _ => absurd h (by decide)
  | 9, h, _ => absurd h (by decide)
  | 10, h, _ => absurd h (by decide)
  | 11, h, _ => absurd h (by decide)
  | 12, h, _ => absurd h (by decide)
  | 13, h, _ => absurd h (by decide)
  | 14, h, _ => absurd h (by decide)
  | 15, h, _ => absurd h (by decide)
  | 16, h, _ => absurd h (by decide)
  | 17, h, _ => absurd h (by decide)
  | 18, h, _ => absurd h (by decide)
  | 19, h, _ => absurd h (by decide)
  | 20, h, _ => absurd h (by decide)
  | 21, h, _ => absurd h (by decide)
  | 22, h, _ => absurd h (by decide)
  | 23, h, _ => absurd h (by decide)
  | 24, h, _ => absurd h (by decide)
  | 25, h, _ => absurd h (by decide)
  | 26, h, _ => absurd h (by decide)
  | 27, h, _ => absurd h (by decide)
  | 28, h, _ => absurd h (by decide)
  | 29, h, _ => absurd h (by decide)
  | 30, h, _ => absurd h (by decide)
  | 31, h, _ => absurd h (by decide)
  | 32, h, _ => absurd h (by decide)
  | 33, h, _ => absurd h (by decide)
  | 34, h, _ => absurd h (by decide)
  | 35, h, _ => absurd h (by decide)
theorem mo_cnt : ∀ k, 36 ≤ k → k < 75 → xcnt k = 1 ∧ xro k = false ∧ lo k = false := by
  have h : ∀ k : Fin 75, 36 ≤ k.1 → xcnt k.1 = 1 ∧ xro k.1 = false ∧ lo k.1 = false := by decide +kernel
  exact fun k h1 h2 => h ⟨k, h2⟩ h1
theorem mo_lo {k : Nat} (h : lo k = true) : k ≤ 35 ∨ k = 75 ∨ k = 76 := by
  unfold lo at h
  simp only [Bool.or_eq_true, Bool.and_eq_true] at h
  rcases h with h | ⟨h, h2⟩
  · exact Or.inl (Nat.le_of_ble_eq_true h)
  · have := Nat.le_of_ble_eq_true h
    have := Nat.le_of_ble_eq_true h2
    omega
theorem moL_lo {L : xL} {m0 : Nat} {q : Nat → Nat} : ∀ k i, lo k = true → moL L m0 q k i = L k i := by
  intro k i h
  unfold moL
  rcases mo_lo h with h | rfl | rfl
  · have e1 : Nat.beq k 36 = false := by cases z : Nat.beq k 36 with | true => have := Nat.eq_of_beq_eq_true z; omega | false => rfl
    have e2 : Nat.ble 37 k = false := by cases z : Nat.ble 37 k with | true => have := Nat.le_of_ble_eq_true z; omega | false => rfl
    have e3 : Nat.beq k 99 = false := by cases z : Nat.beq k 99 with | true => have := Nat.eq_of_beq_eq_true z; omega | false => rfl
    rw [e1, e2, e3]; rfl
  · rfl
  · rfl
theorem moS_lo {S : xS} {f51 f65 f66 f67 f72 : Nat → Int32} : ∀ k i j, lo k = true → (moS S f51 f65 f66 f67 f72).1 k i j = S.1 k i j ∧ (moS S f51 f65 f66 f67 f72).2 k i j = S.2 k i j := by
  intro k i j h
  unfold moS
  rcases mo_lo h with h | rfl | rfl
  · have e : ∀ n, 36 ≤ n → Nat.beq k n = false := fun n hn => by cases z : Nat.beq k n with | true => have := Nat.eq_of_beq_eq_true z; omega | false => rfl
    have e2 : Nat.ble 36 k = false := by cases z : Nat.ble 36 k with | true => have := Nat.le_of_ble_eq_true z; omega | false => rfl
    dsimp only
    rw [e 51 (by decide), e 65 (by decide), e 66 (by decide), e 67 (by decide), e 72 (by decide), e 60 (by decide), e2]
    exact ⟨rfl, rfl⟩
  · exact ⟨rfl, rfl⟩
  · exact ⟨rfl, rfl⟩
theorem mo_W {Dg : va_G} {B : Nat} {L : xL} {S : xS} {m0 : Nat} {q : Nat → Nat} {c : Nat → ClassId} {f51 f65 f66 f67 f72 : Nat → Int32} {U : State} {H0 H : Heap} (hP : va_P Dg classes (moW m0 q c f51 f65 f66 f67 f72) H) (hD : va_D (xA m0) (moW m0 q c f51 f65 f66 f67 f72)) (hK : va_K Dg classes (moK c) U) (hW : xW U Dg B L S H0) (h99 : L 99 0 = 0) (hB : B ≤ m0) (hlt : ∀ k i, i < xcn L k → L k i < m0) (hz : m0 ≤ H0.size) (hH : ∀ a : Nat, a < m0 → H[a]? = H0[a]?) : xW U Dg B (moL L m0 q) (moS S f51 f65 f66 f67 f72) H := by
  obtain ⟨h1, h2, h3, h4, h5, h6, h7⟩ := hW
  have e99 : moL L m0 q 99 0 = 1 := rfl
  have cl : ∀ k i, i < xcn (moL L m0 q) k → (lo k = true ∧ k < 77 ∧ i < xcn L k) ∨ (36 ≤ k ∧ k < 75 ∧ i = 0) := by
    intro k i hi
    have q1 := xcn_le hi
    have q2 := xcnt_lt q1
    by_cases c1 : k ≤ 35
    · have b1 : Nat.ble k 35 = true := Nat.ble_eq_true_of_le c1
      refine Or.inl ⟨by unfold lo; rw [b1]; rfl, q2, ?_⟩
      unfold xcn
      rw [b1]; exact q1
    · by_cases c2 : 75 ≤ k
      · have b1 : Nat.ble 75 k = true := Nat.ble_eq_true_of_le c2
        have b2 : Nat.ble k 76 = true := Nat.ble_eq_true_of_le (by omega)
        refine Or.inl ⟨by unfold lo; rw [b1, b2, Bool.and_self, Bool.or_true], q2, ?_⟩
        unfold xcn
        rw [b1, Bool.true_or, Bool.or_true]; exact q1
      · have := (mo_cnt k (by omega) (by omega)).1
        exact Or.inr ⟨by omega, by omega, by omega⟩
  have ge : ∀ k, 36 ≤ k → k < 75 → m0 ≤ moL L m0 q k 0 := fun k a b => by
    obtain ⟨e, he⟩ := (mo_cell (L := L) (S := S) hP hK k a b).2
    exact hD.2 _ _ he
  refine ⟨h1, fun k i hi => ?_, fun k i k' i' hi hi' hr e => ?_, fun k i hi hr => ?_, h5, ?_, h7⟩
  · rcases cl k i hi with ⟨a, b, c⟩ | ⟨a, b, rfl⟩
    · exact xcell_lo (h2 k i c) b a moL_lo (fun j => moS_lo k i j a) (hH _ (hlt k i c))
    · exact (mo_cell hP hK k a b).1
  · rcases cl k i hi with ⟨a, b, c⟩ | ⟨a, b, rfl⟩
    · rcases cl k' i' hi' with ⟨a', b', c'⟩ | ⟨a', b', rfl⟩
      · rw [moL_lo k i a, moL_lo k' i' a'] at e
        exact h3 k i k' i' c c' hr e
      · exfalso
        have g1 := ge k' a' b'
        have g2 := hlt k i c
        rw [moL_lo k i a] at e
        omega
    · rcases cl k' i' hi' with ⟨a', b', c'⟩ | ⟨a', b', rfl⟩
      · exfalso
        have g1 := ge k a b
        have g2 := hlt k' i' c'
        rw [moL_lo k' i' a'] at e
        omega
      · obtain ⟨e1, p1⟩ := (mo_cell (L := L) (S := S) hP hK k a b).2
        obtain ⟨e2, p2⟩ := (mo_cell (L := L) (S := S) hP hK k' a' b').2
        have := hD.1 _ _ _ _ p1 p2 e
        refine ⟨?_, rfl⟩
        by_cases z : k = 36
        · by_cases z' : k' = 36
          · omega
          · rw [if_pos z, if_neg z'] at this; omega
        · by_cases z' : k' = 36
          · rw [if_neg z, if_pos z'] at this; omega
          · rw [if_neg z, if_neg z'] at this; omega
  · rcases cl k i hi with ⟨a, b, c⟩ | ⟨a, b, rfl⟩
    · rw [moL_lo k i a]; exact h4 k i c hr
    · exact Nat.le_trans hB (ge k a b)
  · exact (show xEX U B (moL L m0 q) (moS S f51 f65 f66 f67 f72) H0 from h6).kept (fun a _ hx => hH a (by have : ¬ B ≤ a := hx; omega))
