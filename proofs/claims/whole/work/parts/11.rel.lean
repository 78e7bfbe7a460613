/-! what ties the class and the model, topic by topic; n: calls so far; np, nd, nv, nt: ports, dhows, ventures, texts; r: the rule; t: the day -/
/-- the counts, the rule, the day -/
def IN (np : Nat) (nd : Nat) (nv : Nat) (nt : Nat) (r : Nat) (t : Nat) (S : xS) : Prop :=
  (np ≤ 6 ∧ nd ≤ 4 ∧ nv ≤ 16 ∧ (1 ≤ nt ∧ nt ≤ 6) ∧ r < nt ∧ t ≤ 9999) ∧
  (S.1 1 0 2 = nI np ∧ S.1 36 0 1 = nI np) ∧ (S.1 0 0 9 = nI nd ∧ S.1 36 0 8 = nI nd) ∧ (S.1 0 0 10 = nI nv ∧ S.1 36 0 19 = nI nv) ∧ (S.1 0 0 11 = nI nt ∧ S.1 36 0 33 = nI nt) ∧ (S.1 0 0 12 = nI r ∧ S.1 36 0 34 = nI r) ∧ S.1 0 0 13 = nI t ∧ S.1 36 0 0 = nI t
abbrev suppIN : List Nat := [2002, 37001, 1009, 37008, 1010, 37019, 1011, 37033, 1012, 37034, 1013, 37000]
theorem IN.fr {np nd nv nt r t : Nat} {l : List Nat} {S S2 : xS} (f : Fr (fl l) S S2) (hd : suppIN.all (fun q => !l.elem q) = true) (h : IN np nd nv nt r t S) : IN np nd nv nt r t S2 := by
  have e0 : ∀ i, S2.1 1 i 2 = S.1 1 i 2 := fun i => f.off hd rfl
  have e1 : ∀ i, S2.1 36 i 1 = S.1 36 i 1 := fun i => f.off hd rfl
  have e2 : ∀ i, S2.1 0 i 9 = S.1 0 i 9 := fun i => f.off hd rfl
  have e3 : ∀ i, S2.1 36 i 8 = S.1 36 i 8 := fun i => f.off hd rfl
  have e4 : ∀ i, S2.1 0 i 10 = S.1 0 i 10 := fun i => f.off hd rfl
  have e5 : ∀ i, S2.1 36 i 19 = S.1 36 i 19 := fun i => f.off hd rfl
  have e6 : ∀ i, S2.1 0 i 11 = S.1 0 i 11 := fun i => f.off hd rfl
  have e7 : ∀ i, S2.1 36 i 33 = S.1 36 i 33 := fun i => f.off hd rfl
  have e8 : ∀ i, S2.1 0 i 12 = S.1 0 i 12 := fun i => f.off hd rfl
  have e9 : ∀ i, S2.1 36 i 34 = S.1 36 i 34 := fun i => f.off hd rfl
  have e10 : ∀ i, S2.1 0 i 13 = S.1 0 i 13 := fun i => f.off hd rfl
  have e11 : ∀ i, S2.1 36 i 0 = S.1 36 i 0 := fun i => f.off hd rfl
  unfold IN at h ⊢
  simp only [e0, e1, e2, e3, e4, e5, e6, e7, e8, e9, e10, e11]
  exact h
/-- a dhow that has come -/
def IBl (n : Nat) (np : Nat) (t : Nat) (d : Nat) (S : xS) : Prop :=
  (S.1 49 0 d = S.1 12 d 2 ∧ S.1 44 0 d = S.1 12 d 1 ∧ S.1 45 0 d = S.1 12 d 3 ∧ S.1 46 0 d = S.1 12 d 4 ∧ S.1 47 0 d = S.1 12 d 6 ∧ S.1 48 0 d = S.1 12 d 7) ∧
  ((S.1 12 d 2 = 0 ∧ ∃ p, p < np ∧ S.1 12 d 0 = nI p ∧ S.1 43 0 d = nI p) ∨ (S.1 12 d 2 = 1 ∧ S.1 12 d 0 = -1 ∧ S.1 12 d 1 = -1)) ∧
  (S.1 12 d 1 = -1 ∨ ∃ c, c ≤ 20000 ∧ S.1 12 d 1 = nI c) ∧
  (∃ (h : Nat) (G : Nat → Nat), (1 ≤ h ∧ h ≤ 99) ∧ S.1 12 d 3 = nI h ∧ (∀ g, g < 4 → S.1 13 d g = nI (G g) ∧ S.1 50 0 (4 * d + g) = nI (G g)) ∧ G 0 + G 1 + G 2 + G 3 ≤ h) ∧
  (∃ c, c ≤ 100000 * (n + 1) ∧ S.1 12 d 4 = nI c) ∧
  (S.1 12 d 6 = -1 ∨ ∃ c, c ≤ 100000 * (n + 1) ∧ S.1 12 d 6 = nI c) ∧
  ∃ c, c ≤ t ∧ S.1 12 d 7 = nI c
abbrev suppIBl : List Nat := [49, 13002, 44, 13001, 45, 13003, 46, 13004, 47, 13006, 48, 13007, 13000, 43, 13, 50]
theorem IBl.fr {n np t d : Nat} {l : List Nat} {S S2 : xS} (f : Fr (fl l) S S2) (hd : suppIBl.all (fun q => !l.elem q) = true) (h : IBl n np t d S) : IBl n np t d S2 := by
  have e0 : ∀ i j, S2.1 49 i j = S.1 49 i j := fun i j => f.off hd rfl
  have e1 : ∀ i, S2.1 12 i 2 = S.1 12 i 2 := fun i => f.off hd rfl
  have e2 : ∀ i j, S2.1 44 i j = S.1 44 i j := fun i j => f.off hd rfl
  have e3 : ∀ i, S2.1 12 i 1 = S.1 12 i 1 := fun i => f.off hd rfl
  have e4 : ∀ i j, S2.1 45 i j = S.1 45 i j := fun i j => f.off hd rfl
  have e5 : ∀ i, S2.1 12 i 3 = S.1 12 i 3 := fun i => f.off hd rfl
  have e6 : ∀ i j, S2.1 46 i j = S.1 46 i j := fun i j => f.off hd rfl
  have e7 : ∀ i, S2.1 12 i 4 = S.1 12 i 4 := fun i => f.off hd rfl
  have e8 : ∀ i j, S2.1 47 i j = S.1 47 i j := fun i j => f.off hd rfl
  have e9 : ∀ i, S2.1 12 i 6 = S.1 12 i 6 := fun i => f.off hd rfl
  have e10 : ∀ i j, S2.1 48 i j = S.1 48 i j := fun i j => f.off hd rfl
  have e11 : ∀ i, S2.1 12 i 7 = S.1 12 i 7 := fun i => f.off hd rfl
  have e12 : ∀ i, S2.1 12 i 0 = S.1 12 i 0 := fun i => f.off hd rfl
  have e13 : ∀ i j, S2.1 43 i j = S.1 43 i j := fun i j => f.off hd rfl
  have e14 : ∀ i j, S2.1 13 i j = S.1 13 i j := fun i j => f.off hd rfl
  have e15 : ∀ i j, S2.1 50 i j = S.1 50 i j := fun i j => f.off hd rfl
  unfold IBl at h ⊢
  simp only [e0, e1, e2, e3, e4, e5, e6, e7, e8, e9, e10, e11, e12, e13, e14, e15]
  exact h
/-- a dhow that is yet to come -/
def IBf (d : Nat) (S : xS) : Prop :=
  S.1 12 d 0 = -1 ∧ S.1 12 d 1 = -1 ∧ S.1 12 d 2 = 0 ∧ S.1 12 d 6 = -1 ∧ S.1 12 d 7 = 0 ∧ (∀ g, g < 4 → S.1 13 d g = 0 ∧ S.1 50 0 (4 * d + g) = 0) ∧ S.1 49 0 d = 0 ∧ S.1 48 0 d = 0
abbrev suppIBf : List Nat := [13000, 13001, 13002, 13006, 13007, 13, 50, 49, 48]
theorem IBf.fr {d : Nat} {l : List Nat} {S S2 : xS} (f : Fr (fl l) S S2) (hd : suppIBf.all (fun q => !l.elem q) = true) (h : IBf d S) : IBf d S2 := by
  have e0 : ∀ i, S2.1 12 i 0 = S.1 12 i 0 := fun i => f.off hd rfl
  have e1 : ∀ i, S2.1 12 i 1 = S.1 12 i 1 := fun i => f.off hd rfl
  have e2 : ∀ i, S2.1 12 i 2 = S.1 12 i 2 := fun i => f.off hd rfl
  have e3 : ∀ i, S2.1 12 i 6 = S.1 12 i 6 := fun i => f.off hd rfl
  have e4 : ∀ i, S2.1 12 i 7 = S.1 12 i 7 := fun i => f.off hd rfl
  have e5 : ∀ i j, S2.1 13 i j = S.1 13 i j := fun i j => f.off hd rfl
  have e6 : ∀ i j, S2.1 50 i j = S.1 50 i j := fun i j => f.off hd rfl
  have e7 : ∀ i j, S2.1 49 i j = S.1 49 i j := fun i j => f.off hd rfl
  have e8 : ∀ i j, S2.1 48 i j = S.1 48 i j := fun i j => f.off hd rfl
  unfold IBf at h ⊢
  simp only [e0, e1, e2, e3, e4, e5, e6, e7, e8]
  exact h
def IB (n np nd t : Nat) (S : xS) : Prop := ∀ d, d < 4 → (d < nd → IBl n np t d S) ∧ (nd ≤ d → IBf d S)
abbrev suppIB : List Nat := suppIBl ++ suppIBf
theorem all_l {s1 s2 : List Nat} {f : Nat → Bool} (h : (s1 ++ s2).all f = true) : s1.all f = true ∧ s2.all f = true := by
  rw [List.all_append] at h
  exact Bool.and_eq_true_iff.mp h
theorem IB.fr {n np nd t : Nat} {l : List Nat} {S S2 : xS} (f : Fr (fl l) S S2) (hd : suppIB.all (fun q => !l.elem q) = true) (h : IB n np nd t S) : IB n np nd t S2 := fun d hd4 => ⟨fun q => ((h d hd4).1 q).fr f (all_l hd).1, fun q => ((h d hd4).2 q).fr f (all_l hd).2⟩
/-- the words -/
def IC (np : Nat) (t : Nat) (S : xS) : Prop :=
  (∀ p q, p < 6 → q < 6 → p ≠ q → S.1 51 0 (6 * p + q) = S.1 9 p q ∧ ∀ g, g < 4 → S.1 52 0 (4 * (6 * p + q) + g) = S.1 10 p (4 * q + g)) ∧
  (∀ d q, d < 4 → q < 6 → S.1 51 0 (36 + 6 * d + q) = S.1 9 (6 + d) q ∧ ∀ g, g < 4 → S.1 52 0 (4 * (36 + 6 * d + q) + g) = S.1 10 (6 + d) (4 * q + g)) ∧
  ∀ a q, a < 10 → q < 6 → (S.1 9 a q = -1 ∨ (q < np ∧ ∃ c, c ≤ t ∧ S.1 9 a q = nI c)) ∧ ∀ g, g < 4 → ∃ c, c ≤ 99 ∧ S.1 10 a (4 * q + g) = nI c
abbrev suppIC : List Nat := [51, 9, 52, 10]
theorem IC.fr {np t : Nat} {l : List Nat} {S S2 : xS} (f : Fr (fl l) S S2) (hd : suppIC.all (fun q => !l.elem q) = true) (h : IC np t S) : IC np t S2 := by
  have e0 : ∀ i j, S2.1 51 i j = S.1 51 i j := fun i j => f.off hd rfl
  have e1 : ∀ i j, S2.1 9 i j = S.1 9 i j := fun i j => f.off hd rfl
  have e2 : ∀ i j, S2.1 52 i j = S.1 52 i j := fun i j => f.off hd rfl
  have e3 : ∀ i j, S2.1 10 i j = S.1 10 i j := fun i j => f.off hd rfl
  unfold IC at h ⊢
  simp only [e0, e1, e2, e3]
  exact h
/-- a venture that has come -/
def IDl (nd : Nat) (v : Nat) (S : xS) : Prop :=
  (S.1 53 0 v = S.1 15 v 0 ∧ S.1 54 0 v = S.1 15 v 1 ∧ S.1 55 0 v = S.1 15 v 2 ∧ S.1 56 0 v = S.1 15 v 3 ∧ S.1 57 0 v = S.1 15 v 4 ∧ S.1 59 0 v = S.1 15 v 5 ∧ S.1 58 0 v = S.1 15 v 7) ∧
  (∃ k, k < 6 ∧ S.1 15 v 0 = nI k) ∧ (S.1 15 v 1 = -1 ∨ ∃ d, d < nd ∧ S.1 15 v 1 = nI d) ∧ (∃ c, c ≤ 9999 ∧ S.1 15 v 2 = nI c) ∧ (∃ c, c ≤ 9 ∧ S.1 15 v 3 = nI c) ∧ (∃ c, c ≤ 20000 ∧ S.1 15 v 4 = nI c) ∧ (S.1 15 v 7 = 0 ∨ S.1 15 v 7 = 1)
abbrev suppIDl : List Nat := [53, 16000, 54, 16001, 55, 16002, 56, 16003, 57, 16004, 59, 16005, 58, 16007]
theorem IDl.fr {nd v : Nat} {l : List Nat} {S S2 : xS} (f : Fr (fl l) S S2) (hd : suppIDl.all (fun q => !l.elem q) = true) (h : IDl nd v S) : IDl nd v S2 := by
  have e0 : ∀ i j, S2.1 53 i j = S.1 53 i j := fun i j => f.off hd rfl
  have e1 : ∀ i, S2.1 15 i 0 = S.1 15 i 0 := fun i => f.off hd rfl
  have e2 : ∀ i j, S2.1 54 i j = S.1 54 i j := fun i j => f.off hd rfl
  have e3 : ∀ i, S2.1 15 i 1 = S.1 15 i 1 := fun i => f.off hd rfl
  have e4 : ∀ i j, S2.1 55 i j = S.1 55 i j := fun i j => f.off hd rfl
  have e5 : ∀ i, S2.1 15 i 2 = S.1 15 i 2 := fun i => f.off hd rfl
  have e6 : ∀ i j, S2.1 56 i j = S.1 56 i j := fun i j => f.off hd rfl
  have e7 : ∀ i, S2.1 15 i 3 = S.1 15 i 3 := fun i => f.off hd rfl
  have e8 : ∀ i j, S2.1 57 i j = S.1 57 i j := fun i j => f.off hd rfl
  have e9 : ∀ i, S2.1 15 i 4 = S.1 15 i 4 := fun i => f.off hd rfl
  have e10 : ∀ i j, S2.1 59 i j = S.1 59 i j := fun i j => f.off hd rfl
  have e11 : ∀ i, S2.1 15 i 5 = S.1 15 i 5 := fun i => f.off hd rfl
  have e12 : ∀ i j, S2.1 58 i j = S.1 58 i j := fun i j => f.off hd rfl
  have e13 : ∀ i, S2.1 15 i 7 = S.1 15 i 7 := fun i => f.off hd rfl
  unfold IDl at h ⊢
  simp only [e0, e1, e2, e3, e4, e5, e6, e7, e8, e9, e10, e11, e12, e13]
  exact h
/-- a venture that is yet to come -/
def IDf (v : Nat) (S : xS) : Prop :=
  S.1 15 v 4 = 0 ∧ S.1 15 v 5 = 0 ∧ S.1 15 v 7 = 0 ∧ S.1 58 0 v = 0 ∧ S.1 59 0 v = 0
abbrev suppIDf : List Nat := [16004, 16005, 16007, 58, 59]
theorem IDf.fr {v : Nat} {l : List Nat} {S S2 : xS} (f : Fr (fl l) S S2) (hd : suppIDf.all (fun q => !l.elem q) = true) (h : IDf v S) : IDf v S2 := by
  have e0 : ∀ i, S2.1 15 i 4 = S.1 15 i 4 := fun i => f.off hd rfl
  have e1 : ∀ i, S2.1 15 i 5 = S.1 15 i 5 := fun i => f.off hd rfl
  have e2 : ∀ i, S2.1 15 i 7 = S.1 15 i 7 := fun i => f.off hd rfl
  have e3 : ∀ i j, S2.1 58 i j = S.1 58 i j := fun i j => f.off hd rfl
  have e4 : ∀ i j, S2.1 59 i j = S.1 59 i j := fun i j => f.off hd rfl
  unfold IDf at h ⊢
  simp only [e0, e1, e2, e3, e4]
  exact h
def ID (nd nv : Nat) (S : xS) : Prop := ∀ v, v < 16 → (v < nv → IDl nd v S) ∧ (nv ≤ v → IDf v S)
abbrev suppID : List Nat := suppIDl ++ suppIDf
theorem ID.fr {nd nv : Nat} {l : List Nat} {S S2 : xS} (f : Fr (fl l) S S2) (hd : suppID.all (fun q => !l.elem q) = true) (h : ID nd nv S) : ID nd nv S2 := fun v hv => ⟨fun q => ((h v hv).1 q).fr f (all_l hd).1, fun q => ((h v hv).2 q).fr f (all_l hd).2⟩
/-- the sheets -/
def IE  (S : xS) : Prop :=
  ∀ s, s < 4 → (S.1 72 0 s = S.1 21 s 1 ∧ S.1 73 0 s = S.1 21 s 2) ∧ (S.1 21 s 1 = -1 ∨ ∃ c, c ≤ 2 ∧ S.1 21 s 1 = nI c) ∧ (∃ c, c ≤ 40 ∧ S.1 21 s 2 = nI c) ∧ ∀ i, i < 40 → S.1 74 0 (40 * s + i) = S.1 22 s i
abbrev suppIE : List Nat := [72, 22001, 73, 22002, 74, 22]
theorem IE.fr  {l : List Nat} {S S2 : xS} (f : Fr (fl l) S S2) (hd : suppIE.all (fun q => !l.elem q) = true) (h : IE  S) : IE  S2 := by
  have e0 : ∀ i j, S2.1 72 i j = S.1 72 i j := fun i j => f.off hd rfl
  have e1 : ∀ i, S2.1 21 i 1 = S.1 21 i 1 := fun i => f.off hd rfl
  have e2 : ∀ i j, S2.1 73 i j = S.1 73 i j := fun i j => f.off hd rfl
  have e3 : ∀ i, S2.1 21 i 2 = S.1 21 i 2 := fun i => f.off hd rfl
  have e4 : ∀ i j, S2.1 74 i j = S.1 74 i j := fun i j => f.off hd rfl
  have e5 : ∀ i j, S2.1 22 i j = S.1 22 i j := fun i j => f.off hd rfl
  unfold IE at h ⊢
  simp only [e0, e1, e2, e3, e4, e5]
  exact h
/-- the tape -/
def IF (nb : Nat) (S : xS) : Prop :=
  nb ≤ 160 ∧ S.1 23 0 1 = nI nb ∧ S.1 36 0 32 = nI nb ∧ ∀ i, i < nb → S.1 61 0 i = S.1 24 0 i ∧ -128 ≤ S.1 24 0 i ∧ S.1 24 0 i ≤ 127
abbrev suppIF : List Nat := [24001, 37032, 61, 24]
theorem IF.fr {nb : Nat} {l : List Nat} {S S2 : xS} (f : Fr (fl l) S S2) (hd : suppIF.all (fun q => !l.elem q) = true) (h : IF nb S) : IF nb S2 := by
  have e0 : ∀ i, S2.1 23 i 1 = S.1 23 i 1 := fun i => f.off hd rfl
  have e1 : ∀ i, S2.1 36 i 32 = S.1 36 i 32 := fun i => f.off hd rfl
  have e2 : ∀ i j, S2.1 61 i j = S.1 61 i j := fun i j => f.off hd rfl
  have e3 : ∀ i j, S2.1 24 i j = S.1 24 i j := fun i j => f.off hd rfl
  unfold IF at h ⊢
  simp only [e0, e1, e2, e3]
  exact h
/-- constants -/
def IK  (S : xS) : Prop :=
  (S.1 34 0 0 = -1 ∧ S.1 34 0 1 = 0 ∧ S.1 34 0 2 = 1 ∧ S.1 34 0 3 = 0 ∧ S.1 34 0 4 = 3 ∧ S.1 34 0 5 = 2)
abbrev suppIK : List Nat := [34]
theorem IK.fr  {l : List Nat} {S S2 : xS} (f : Fr (fl l) S S2) (hd : suppIK.all (fun q => !l.elem q) = true) (h : IK  S) : IK  S2 := by
  have e0 : ∀ i j, S2.1 34 i j = S.1 34 i j := fun i j => f.off hd rfl
  unfold IK at h ⊢
  simp only [e0]
  exact h
abbrev suppIA : List Nat := [2002, 37001, 37, 5000, 38, 5001, 39, 5, 40, 6, 41, 7, 42, 3]
theorem IA.fr {n : Nat} {l : List Nat} {S S2 : xS} (f : Fr (fl l) S S2) (hd : suppIA.all (fun q => !l.elem q) = true) (h : IA n S) : IA n S2 := by
  have e0 : ∀ i, S2.1 1 i 2 = S.1 1 i 2 := fun i => f.off hd rfl
  have e1 : ∀ i, S2.1 36 i 1 = S.1 36 i 1 := fun i => f.off hd rfl
  have e2 : ∀ i j, S2.1 37 i j = S.1 37 i j := fun i j => f.off hd rfl
  have e3 : ∀ i, S2.1 4 i 0 = S.1 4 i 0 := fun i => f.off hd rfl
  have e4 : ∀ i j, S2.1 38 i j = S.1 38 i j := fun i j => f.off hd rfl
  have e5 : ∀ i, S2.1 4 i 1 = S.1 4 i 1 := fun i => f.off hd rfl
  have e6 : ∀ i j, S2.1 39 i j = S.1 39 i j := fun i j => f.off hd rfl
  have e7 : ∀ i j, S2.1 5 i j = S.1 5 i j := fun i j => f.off hd rfl
  have e8 : ∀ i j, S2.1 40 i j = S.1 40 i j := fun i j => f.off hd rfl
  have e9 : ∀ i j, S2.1 6 i j = S.1 6 i j := fun i j => f.off hd rfl
  have e10 : ∀ i j, S2.1 41 i j = S.1 41 i j := fun i j => f.off hd rfl
  have e11 : ∀ i j, S2.1 7 i j = S.1 7 i j := fun i j => f.off hd rfl
  have e12 : ∀ i j, S2.1 42 i j = S.1 42 i j := fun i j => f.off hd rfl
  have e13 : ∀ i j, S2.1 3 i j = S.1 3 i j := fun i j => f.off hd rfl
  unfold IA at h ⊢
  simp only [e0, e1, e2, e3, e4, e5, e6, e7, e8, e9, e10, e11, e12, e13]
  exact h
