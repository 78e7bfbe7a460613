/-! the model's order: one code -/
def PlD.big (D : PlD) : PlD := ((D.np, D.hd, 20000), D.2)
theorem PlD.arr_some {D : PlD} {a b t t1 : Nat} : D.arr a b t = some t1 ↔ (¬ b = a ∧ b < D.np ∧ D.kn b = true) ∧ ∃ w, D.wy a b t = some w ∧ t + w = t1 ∧ t1 ≤ D.la := by
  unfold PlD.arr
  by_cases c : b = a ∨ ¬ b < D.np ∨ D.kn b = false
  · rw [if_pos c]
    refine ⟨fun h => by (cases h), fun h => ?_⟩
    rcases c with c | c | c
    · exact absurd c h.1.1
    · exact absurd h.1.2.1 c
    · rw [c] at h; exact absurd h.1.2.2 (by decide)
  · rw [if_neg c]
    have h0 : ¬ b = a ∧ b < D.np ∧ D.kn b = true := ⟨fun q => c (Or.inl q), Decidable.not_not.mp (fun q => c (Or.inr (Or.inl q))), by
      cases hk : D.kn b with
      | true => rfl
      | false => exact absurd (Or.inr (Or.inr hk)) c⟩
    cases e : D.wy a b t with
    | none => exact ⟨fun h => by (cases h), fun ⟨_, w, h, _⟩ => by (cases h)⟩
    | some w =>
      show (if t + w ≤ D.la then some (t + w) else none) = some t1 ↔ _
      by_cases z : t + w ≤ D.la
      · rw [if_pos z]
        refine ⟨fun h => ?_, fun ⟨_, w2, h, h2, _⟩ => ?_⟩
        · cases h; exact ⟨h0, w, rfl, rfl, z⟩
        · cases h; rw [h2]
      · rw [if_neg z]
        refine ⟨fun h => by (cases h), fun ⟨_, w2, h, h2, h3⟩ => ?_⟩
        cases h; omega
theorem PlD.run_cases {D : PlD} {k code a t c : Nat} : D.runP (k + 1) code a t c = (match D.arr a (code / 30 ^ k % 30 % 6) t with | none => none | some t1 => D.runP k code (code / 30 ^ k % 30 % 6) t1 (D.aft a (code / 30 ^ k % 30 % 6) (code / 30 ^ k % 30 / 6) c)) := rfl
theorem PlD.big_up {D : PlD} (hl : D.la ≤ 9999) : ∀ (k : Nat) {code a t c : Nat} {p : Nat × Nat}, D.runP k code a t c = some p → D.big.runP k code a t c = some p
  | 0, _, _, _, _, _, h => h
  | k + 1, code, a, t, c, p, h => by
    rw [PlD.run_cases] at h ⊢
    cases e : D.arr a (code / 30 ^ k % 30 % 6) t with
    | none => rw [e] at h; cases h
    | some t1 =>
      rw [e] at h
      obtain ⟨h1, w, h2, h3, h4⟩ := PlD.arr_some.mp e
      have e2 : D.big.arr a (code / 30 ^ k % 30 % 6) t = some t1 := PlD.arr_some.mpr ⟨h1, w, h2, h3, show t1 ≤ 20000 by omega⟩
      rw [e2]
      exact PlD.big_up hl k h
theorem PlD.big_ge {D : PlD} : ∀ (k : Nat) {code a t c : Nat} {p : Nat × Nat}, D.big.runP k code a t c = some p → t ≤ p.2
  | 0, _, _, _, _, _, h => by cases h; exact Nat.le_refl _
  | k + 1, code, a, t, c, p, h => by
    rw [PlD.run_cases] at h
    cases e : D.big.arr a (code / 30 ^ k % 30 % 6) t with
    | none => rw [e] at h; cases h
    | some t1 =>
      rw [e] at h
      obtain ⟨h1, w, h2, h3, h4⟩ := PlD.arr_some.mp e
      have := PlD.big_ge k h
      omega
theorem PlD.big_dn {D : PlD} : ∀ (k : Nat) {code a t c : Nat} {p : Nat × Nat}, D.big.runP k code a t c = some p → p.2 ≤ D.la → D.runP k code a t c = some p
  | 0, _, _, _, _, _, h, _ => h
  | k + 1, code, a, t, c, p, h, hp => by
    rw [PlD.run_cases] at h ⊢
    cases e : D.big.arr a (code / 30 ^ k % 30 % 6) t with
    | none => rw [e] at h; cases h
    | some t1 =>
      rw [e] at h
      have hg := PlD.big_ge k h
      obtain ⟨h1, w, h2, h3, h4⟩ := PlD.arr_some.mp e
      have e2 : D.arr a (code / 30 ^ k % 30 % 6) t = some t1 := PlD.arr_some.mpr ⟨h1, w, h2, h3, by omega⟩
      rw [e2]
      exact PlD.big_dn k h hp
theorem PlD.run_la {D : PlD} : ∀ (k : Nat) {code a t c : Nat} {p : Nat × Nat}, D.runP (k + 1) code a t c = some p → p.2 ≤ D.la
  | k, code, a, t, c, p, h => by
    rw [PlD.run_cases] at h
    cases e : D.arr a (code / 30 ^ k % 30 % 6) t with
    | none => rw [e] at h; cases h
    | some t1 =>
      rw [e] at h
      cases k with
      | zero =>
        cases h
        exact (PlD.arr_kn e).2
      | succ k => exact PlD.run_la k h
/-- the model's figures as D -/
def PMd (D : PlD) (dh P t c : Nat) (T : xS) : Prop :=
  T.1 36 0 1 = nI D.np ∧ T.1 45 0 dh = nI D.hd ∧ T.1 43 0 dh = nI P ∧ T.1 36 0 0 = nI t ∧
  T.1 46 0 dh + T.1 50 0 (4 * dh + 0) * T.1 71 0 (4 * P + 0) + T.1 50 0 (4 * dh + 1) * T.1 71 0 (4 * P + 1) + T.1 50 0 (4 * dh + 2) * T.1 71 0 (4 * P + 2) + T.1 50 0 (4 * dh + 3) * T.1 71 0 (4 * P + 3) = nI c ∧
  (∀ q, q < D.np → T.1 70 0 q = if D.kn q = true then 1 else 0) ∧
  (∀ q, q < D.np → D.kn q = true → ∀ g, g < 4 → T.1 71 0 (4 * q + g) = nI (D.pr q g)) ∧
  ∀ a b y, a < 6 → b < 6 → (D.wy a b y = none ∧ mWay T a b (y / 30 % 12) = -1) ∨ ∃ w, w ≤ 198 ∧ D.wy a b y = some w ∧ mWay T a b (y / 30 % 12) = nI w
abbrev suppPM : List Nat := [37000, 37001, 45, 43, 46, 50, 71, 70, 37, 38, 42]
theorem PMd.fr {D : PlD} {dh P t c : Nat} {l : List Nat} {S S2 : xS} (f : Fr (fl l) S S2) (hd : suppPM.all (fun q => !l.elem q) = true) (h : PMd D dh P t c S) : PMd D dh P t c S2 := by
  have e0 : ∀ i, S2.1 36 i 0 = S.1 36 i 0 := fun i => f.off hd rfl
  have e1 : ∀ i, S2.1 36 i 1 = S.1 36 i 1 := fun i => f.off hd rfl
  have e2 : ∀ i j, S2.1 45 i j = S.1 45 i j := fun i j => f.off hd rfl
  have e3 : ∀ i j, S2.1 43 i j = S.1 43 i j := fun i j => f.off hd rfl
  have e4 : ∀ i j, S2.1 46 i j = S.1 46 i j := fun i j => f.off hd rfl
  have e5 : ∀ i j, S2.1 50 i j = S.1 50 i j := fun i j => f.off hd rfl
  have e6 : ∀ i j, S2.1 71 i j = S.1 71 i j := fun i j => f.off hd rfl
  have e7 : ∀ i j, S2.1 70 i j = S.1 70 i j := fun i j => f.off hd rfl
  have e8 : ∀ i j, S2.1 37 i j = S.1 37 i j := fun i j => f.off hd rfl
  have e9 : ∀ i j, S2.1 38 i j = S.1 38 i j := fun i j => f.off hd rfl
  have e10 : ∀ i j, S2.1 42 i j = S.1 42 i j := fun i j => f.off hd rfl
  unfold PMd mWay at h ⊢
  simp only [e0, e1, e2, e3, e4, e5, e6, e7, e8, e9, e10]
  exact h
theorem rem_N {a b : Nat} (ha : a < 2 ^ 31) (hb : b < 2 ^ 31) (h0 : 0 < b) : nI a - nI a / nI b * nI b = nI (a % b) := by
  rw [nI_div ha hb h0, nI_mul]
  have := Nat.div_add_mod a b
  have h2 : a / b * b = b * (a / b) := Nat.mul_comm _ _
  rw [nI_sb (by omega) ha]
  congr 1
  omega
