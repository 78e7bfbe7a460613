/-! frames, and two stores as one -/
theorem Fr.off {l s : List Nat} {S S2 : xS} (f : Fr (fl l) S S2) (hd : s.all (fun q => !l.elem q) = true) {k i j : Nat} (h : s.elem (fk k j) = true) : S2.1 k i j = S.1 k i j := by
  refine f.1 k i j ?_
  have hm : fk k j ∈ s := List.elem_iff.mp h
  have := List.all_eq_true.mp hd _ hm
  simpa using this
theorem Fr.tr {f : Nat → Nat → Bool} {S S1 S2 : xS} (h1 : Fr f S S1) (h2 : Fr f S1 S2) : Fr f S S2 := ⟨fun k i j q => (h2.1 k i j q).trans (h1.1 k i j q), h2.2.trans h1.2⟩
theorem Fr.of {f : Nat → Nat → Bool} {S S2 : xS} (h : ∀ k i j, f k j = false → S2.1 k i j = S.1 k i j) (h2 : S2.2 = S.2) : Fr f S S2 := ⟨h, h2⟩
/-- the class's part of one store and the model's of another -/
def mix (S T : xS) : xS := (fun k i j => cond (Nat.ble 36 k && Nat.ble k 74) (T.1 k i j) (S.1 k i j), fun k i j => cond (Nat.ble 36 k && Nat.ble k 74) (T.2 k i j) (S.2 k i j))
theorem mix_self (S : xS) : mix S S = S := by
  unfold mix
  refine Prod.ext ?_ ?_
  · funext k i j
    dsimp only
    cases (Nat.ble 36 k && Nat.ble k 74) <;> rfl
  · funext k i j
    dsimp only
    cases (Nat.ble 36 k && Nat.ble k 74) <;> rfl
/-- numbers -/
theorem nI_mul (a b : Nat) : nI a * nI b = nI (a * b) := (Int32.ofNat_mul a b).symm
theorem nI_div {a b : Nat} (ha : a < 2 ^ 31) (hb : b < 2 ^ 31) (h0 : 0 < b) : nI a / nI b = nI (a / b) := by
  apply Int32.toInt_inj.mp
  rw [Int32.toInt_div_of_ne_right _ _ (fun e => by have := congrArg Int32.toInt e; rw [nI_toInt hb] at this; have h1 : (-1 : Int32).toInt = -1 := rfl; omega), nI_toInt ha, nI_toInt hb, nI_toInt (Nat.lt_of_le_of_lt (Nat.div_le_self a b) ha)]
  exact Int.ofNat_tdiv a b |>.symm
