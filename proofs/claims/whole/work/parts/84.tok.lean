/-! text: tokens, what they are -/
def gBl (x : Int32) : Bool := decide (x = 32 ∨ x = 10)
def gLt (x : Int32) : Bool := decide (97 ≤ x ∧ x ≤ 122)
def gDg (x : Int32) : Bool := decide (48 ≤ x ∧ x ≤ 57)
def gRun (p : Int32 → Bool) (b : Nat → Int32) : Nat → Nat → Nat
  | 0, q => q
  | k + 1, q => if p (b q) = true then gRun p b k (q + 1) else q
theorem gRun_ge (p : Int32 → Bool) (b : Nat → Int32) : ∀ k q, q ≤ gRun p b k q ∧ gRun p b k q ≤ q + k
  | 0, q => ⟨Nat.le_refl _, Nat.le_refl _⟩
  | k + 1, q => by
    unfold gRun
    by_cases c : p (b q) = true
    · rw [if_pos c]
      have := gRun_ge p b k (q + 1)
      omega
    · rw [if_neg c]; omega
theorem gRun_gt {p : Int32 → Bool} {b : Nat → Int32} {k q : Nat} (hk : 0 < k) (h : p (b q) = true) : q < gRun p b k q := by
  obtain ⟨m, rfl⟩ : ∃ m, k = m + 1 := ⟨k - 1, by omega⟩
  unfold gRun
  rw [if_pos h]
  have := (gRun_ge p b m (q + 1)).1
  omega
def gOf : List Nat := [0, 5, 10, 15, 18, 22, 26, 31, 36, 40, 46, 51, 57]
def gLn : List Nat := [4, 4, 4, 2, 3, 3, 4, 4, 3, 5, 4, 5, 0]
def gOw (w : Nat) : Nat := gOf.getD w 0
def gLw (w : Nat) : Nat := gLn.getD w 0
def gCw (j : Nat) : Nat := wchs.getD j 0
theorem gW_f : ∀ w : Fin 12, gOw (w.1 + 1) = gOw w.1 + gLw w.1 + 1 ∧ gCw (gOw w.1 + gLw w.1) = 32 ∧ gLw w.1 ≤ 5 ∧ 1 ≤ gLw w.1 := by decide
theorem gW_l : ∀ w : Fin 12, ∀ t : Fin 5, t.1 < gLw w.1 → ¬ gCw (gOw w.1 + t.1) = 32 := by decide
theorem gW_c : ∀ j : Fin 57, gCw j.1 < 128 := by decide
theorem gW_o : ∀ w : Fin 13, gOw w.1 ≤ 57 := by decide
/-- the first t letters of word w stand from s on, before e -/
def gPm (b : Nat → Int32) (s e w : Nat) : Nat → Bool
  | 0 => true
  | t + 1 => gPm b s e w t && (decide (s + t < e) && decide (b (s + t) = nI (gCw (gOw w + t))))
def gMt (b : Nat → Int32) (s e w : Nat) : Bool := gPm b s e w (gLw w) && decide (s + gLw w = e)
def gWk (b : Nat → Int32) (s e : Nat) : Nat → Nat
  | 0 => 1
  | w + 1 => if gMt b s e w = true then 128 + w else gWk b s e w
theorem gWk_b (b : Nat → Int32) (s e : Nat) : ∀ w, w ≤ 12 → gWk b s e w = 1 ∨ (128 ≤ gWk b s e w ∧ gWk b s e w ≤ 139)
  | 0, _ => Or.inl rfl
  | w + 1, h => by
    unfold gWk
    by_cases c : gMt b s e w = true
    · rw [if_pos c]; omega
    · rw [if_neg c]; exact gWk_b b s e w (by omega)
def gNv (b : Nat → Int32) (s : Nat) : Nat → Nat
  | 0 => 0
  | m + 1 => gNv b s m * 10 + ((b (s + m)).toNatClampNeg - 48)
def gSg (x : Int32) : Nat := if 0 < x ∧ x.toNatClampNeg ∈ sgs then x.toNatClampNeg else 1
def gSt (b : Nat → Int32) (n p : Nat) : Nat := gRun gBl b (n - p) p
def gEn (b : Nat → Int32) (n s : Nat) : Nat := if n ≤ s then s else if gLt (b s) = true then gRun gLt b (n - s) s else if gDg (b s) = true then gRun gDg b (n - s) s else s + 1
def gKd (b : Nat → Int32) (n s : Nat) : Nat := if n ≤ s then 0 else if gLt (b s) = true then gWk b s (gRun gLt b (n - s) s) 12 else if gDg (b s) = true then (if 4 < gRun gDg b (n - s) s - s then 1 else 2) else gSg (b s)
def gVl (b : Nat → Int32) (n s : Nat) : Nat := gNv b s (min 4 (gRun gDg b (n - s) s - s))
def gPos (b : Nat → Int32) (n : Nat) : Nat → Nat
  | 0 => 0
  | i + 1 => gEn b n (gSt b n (gPos b n i))
def gK (b : Nat → Int32) (n : Nat) : GT := (fun i => gKd b n (gSt b n (gPos b n i)), fun i => gVl b n (gSt b n (gPos b n i)))
def gP (b : Nat → Int32) (n : Nat) : GP := (gPos b n, fun i => gSt b n (gPos b n i))
theorem gSt_b {b : Nat → Int32} {n p : Nat} (h : p ≤ n) : p ≤ gSt b n p ∧ gSt b n p ≤ n := by
  have := gRun_ge gBl b (n - p) p
  unfold gSt
  omega
theorem gEn_b {b : Nat → Int32} {n s : Nat} (h : s ≤ n) : s ≤ gEn b n s ∧ gEn b n s ≤ n ∧ (¬ n ≤ s → s < gEn b n s) := by
  unfold gEn
  by_cases c : n ≤ s
  · rw [if_pos c]; omega
  · rw [if_neg c]
    by_cases c1 : gLt (b s) = true
    · rw [if_pos c1]
      have h1 := gRun_ge gLt b (n - s) s
      have h2 := gRun_gt (p := gLt) (b := b) (k := n - s) (q := s) (by omega) c1
      omega
    · rw [if_neg c1]
      by_cases c2 : gDg (b s) = true
      · rw [if_pos c2]
        have h1 := gRun_ge gDg b (n - s) s
        have h2 := gRun_gt (p := gDg) (b := b) (k := n - s) (q := s) (by omega) c2
        omega
      · rw [if_neg c2]; omega
theorem gPos_b {b : Nat → Int32} {n : Nat} : ∀ i, gPos b n i ≤ n
  | 0 => Nat.zero_le _
  | i + 1 => (gEn_b (gSt_b (gPos_b i)).2).2.1
theorem gRun_all {p : Int32 → Bool} {b : Nat → Int32} : ∀ k q t, t < gRun p b k q - q → p (b (q + t)) = true
  | 0, q, t, h => by unfold gRun at h; omega
  | k + 1, q, t, h => by
    unfold gRun at h
    by_cases c : p (b q) = true
    · rw [if_pos c] at h
      cases t with
      | zero => exact c
      | succ t =>
        have := gRun_all (p := p) (b := b) k (q + 1) t (by omega)
        rw [show q + 1 + t = q + (t + 1) by omega] at this
        exact this
    · rw [if_neg c] at h; omega
theorem gDg_N {x : Int32} (h : gDg x = true) : ∃ k, 48 ≤ k ∧ k ≤ 57 ∧ x = nI k := by
  have h := of_decide_eq_true h
  exact (inR_iff (lo := 48) (hi := 57) rfl rfl (by decide) (by decide)).mp h
theorem gNv_b {b : Nat → Int32} {s : Nat} : ∀ m, (∀ t, t < m → gDg (b (s + t)) = true) → gNv b s m < 10 ^ m
  | 0, _ => Nat.one_pos
  | m + 1, h => by
    have ih := gNv_b m (fun t ht => h t (by omega))
    obtain ⟨k, k1, k2, e⟩ := gDg_N (h m (by omega))
    unfold gNv
    rw [e, nI_clamp (by omega), Nat.pow_succ]
    omega
theorem gVl_b (b : Nat → Int32) (n s : Nat) : gVl b n s ≤ 9999 := by
  unfold gVl
  have h := gNv_b (b := b) (s := s) (min 4 (gRun gDg b (n - s) s - s)) (fun t ht => gRun_all (n - s) s t (by omega))
  have h2 : 10 ^ (min 4 (gRun gDg b (n - s) s - s)) ≤ 10 ^ 4 := Nat.pow_le_pow_right (by decide) (by omega)
  omega
theorem gSg_b (x : Int32) : gSg x = 1 ∨ (40 ≤ gSg x ∧ gSg x ≤ 61) := by
  unfold gSg
  by_cases c : 0 < x ∧ x.toNatClampNeg ∈ sgs
  · rw [if_pos c]
    have : ∀ y ∈ sgs, 40 ≤ y ∧ y ≤ 61 := by decide
    exact Or.inr (this _ c.2)
  · rw [if_neg c]; exact Or.inl rfl
theorem gKd_b (b : Nat → Int32) (n s : Nat) : gKd b n s = 0 ∨ gKd b n s = 1 ∨ gKd b n s = 2 ∨ (40 ≤ gKd b n s ∧ gKd b n s ≤ 61) ∨ (128 ≤ gKd b n s ∧ gKd b n s ≤ 139) := by
  unfold gKd
  by_cases c : n ≤ s
  · rw [if_pos c]; exact Or.inl rfl
  · rw [if_neg c]
    by_cases c1 : gLt (b s) = true
    · rw [if_pos c1]
      rcases gWk_b b s (gRun gLt b (n - s) s) 12 (Nat.le_refl _) with e | e
      · rw [e]; exact Or.inr (Or.inl rfl)
      · omega
    · rw [if_neg c1]
      by_cases c2 : gDg (b s) = true
      · rw [if_pos c2]; split
        · exact Or.inr (Or.inl rfl)
        · exact Or.inr (Or.inr (Or.inl rfl))
      · rw [if_neg c2]
        have := gSg_b (b s)
        omega
theorem gTs_of (b : Nat → Int32) {n : Nat} (hn : n ≤ 160) : gTs (gK b n) (gP b n) := by
  refine ⟨fun i => ⟨?_, ?_, ?_, gVl_b _ _ _⟩, fun i h => ?_, fun i h => ?_⟩
  · have := gPos_b (b := b) (n := n) i; show gPos b n i ≤ 160; omega
  · have := (gSt_b (b := b) (gPos_b (b := b) (n := n) i)).2; show gSt b n (gPos b n i) ≤ 160; omega
  · have := gKd_b b n (gSt b n (gPos b n i)); show gKd b n (gSt b n (gPos b n i)) < 200; omega
  · have h : ¬ gKd b n (gSt b n (gPos b n i)) = 0 := h
    have h1 := gSt_b (b := b) (gPos_b (b := b) (n := n) i)
    have h2 := gEn_b (b := b) h1.2
    have h3 : ¬ n ≤ gSt b n (gPos b n i) := fun c => h (if_pos c)
    have h4 := h2.2.2 h3
    show gPos b n i < gEn b n (gSt b n (gPos b n i))
    omega
  · have := gKd_b b n (gSt b n (gPos b n i))
    have h : gKd b n (gSt b n (gPos b n i)) = 3 := h
    omega
