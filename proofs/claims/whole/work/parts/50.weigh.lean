/-! longs; weights; the voyage's figures in the reckoner -/
def lI (n : Nat) : Int64 := Int64.ofNat n
theorem lI_toInt {n : Nat} (h : n < 2 ^ 63) : (lI n).toInt = n := Int64.toInt_ofNat_of_lt h
theorem lI_ad (a b : Nat) : lI a + lI b = lI (a + b) := (Int64.ofNat_add a b).symm
theorem lI_ml (a b : Nat) : lI a * lI b = lI (a * b) := (Int64.ofNat_mul a b).symm
theorem lI_of {n : Nat} (h : n < 2 ^ 31) : (nI n).toInt64 = lI n := by
  apply Int64.toInt_inj.mp
  rw [Int32.toInt_toInt64, nI_toInt h, lI_toInt (by omega)]
theorem lI_sb {a b : Nat} (h : b ≤ a) (ha : a < 2 ^ 31) : lI a - lI b = lI (a - b) := by
  apply Int64.toInt_inj.mp
  rw [Int64.toInt_sub, lI_toInt (by omega), lI_toInt (by omega), lI_toInt (by omega), Int.bmod_eq_of_le (by omega) (by omega)]
  omega
theorem lI_dv {a b : Nat} (ha : a < 2 ^ 63) (hb : b < 2 ^ 63) (h0 : 0 < b) : lI a / lI b = lI (a / b) := by
  apply Int64.toInt_inj.mp
  rw [Int64.toInt_div_of_ne_right _ _ (fun e => by have := congrArg Int64.toInt e; rw [lI_toInt hb] at this; have h1 : (-1 : Int64).toInt = -1 := rfl; omega), lI_toInt ha, lI_toInt hb, lI_toInt (Nat.lt_of_le_of_lt (Nat.div_le_self a b) ha)]
  exact Int.ofNat_tdiv a b |>.symm
theorem lI_32 {n : Nat} (h : n < 2 ^ 31) : (lI n).toInt32 = nI n := by
  rw [← lI_of h, Int32.toInt32_toInt64]
theorem lI_inj {a b : Nat} (ha : a < 2 ^ 63) (hb : b < 2 ^ 63) : lI a = lI b ↔ a = b := by
  refine ⟨fun h => ?_, fun h => by rw [h]⟩
  have := congrArg Int64.toInt h
  rw [lI_toInt ha, lI_toInt hb] at this
  omega
theorem lI_lt {a b : Nat} (ha : a < 2 ^ 63) (hb : b < 2 ^ 63) : lI a < lI b ↔ a < b := by
  rw [Int64.lt_iff_toInt_lt, lI_toInt ha, lI_toInt hb]; omega
def wtP (k r : Int32) : Int32 := if k = 4 then 0 else if k = 3 then (if 0 < r then r else 0) / 2 else if 0 < r then r else 0
theorem nI_ex {r : Int32} (h : 0 ≤ r) : ∃ n, n < 2 ^ 31 ∧ r = nI n := by
  have h1 := Int32.le_iff_toInt_le.mp h
  have h2 := r.toInt_lt
  have h0 : (0 : Int32).toInt = 0 := rfl
  refine ⟨r.toInt.toNat, by omega, ?_⟩
  apply Int32.toInt_inj.mp
  rw [nI_toInt (by omega)]; omega
theorem mx_N (r : Int32) : ∃ n, n < 2 ^ 31 ∧ (if 0 < r then r else 0) = nI n := by
  by_cases h : 0 < r
  · rw [if_pos h]; exact nI_ex (Int32.le_of_lt h)
  · rw [if_neg h]; exact ⟨0, by omega, rfl⟩
theorem du_N {a w A : Nat} (ha : a < 2 ^ 31) (hw : w < 2 ^ 31) (hA : A < 2 ^ 63) (hwA : w ≤ A) : ∃ k, k ≤ a ∧ (if lI A = 0 then (0 : Int64) else (nI a).toInt64 * (nI w).toInt64 / lI A) = lI k := by
  by_cases c : lI A = 0
  · rw [if_pos c]; exact ⟨0, Nat.zero_le _, rfl⟩
  · rw [if_neg c, lI_of ha, lI_of hw, lI_ml]
    have hA0 : 0 < A := by
      rcases Nat.eq_zero_or_pos A with e | e
      · exact absurd (by rw [e]; rfl) c
      · exact e
    have h1 : a * w < 2 ^ 31 * 2 ^ 31 := Nat.mul_lt_mul'' ha hw
    rw [lI_dv (by omega) hA hA0]
    refine ⟨_, ?_, rfl⟩
    apply Nat.div_le_of_le_mul
    rw [Nat.mul_comm]
    exact Nat.mul_le_mul hwA (Nat.le_refl a)
theorem lI_0 : lI 0 = 0 := rfl
theorem lI_le {a b : Nat} (ha : a < 2 ^ 63) (hb : b < 2 ^ 63) : lI a ≤ lI b ↔ a ≤ b := by
  rw [Int64.le_iff_toInt_le, lI_toInt ha, lI_toInt hb]; omega
theorem wtP_N (k r : Int32) : ∃ n, n < 2 ^ 31 ∧ wtP k r = nI n := by
  obtain ⟨n, hn, e⟩ := mx_N r
  unfold wtP
  rw [e]
  by_cases c : k = 4
  · rw [if_pos c]; exact ⟨0, by omega, rfl⟩
  · rw [if_neg c]
    by_cases c3 : k = 3
    · rw [if_pos c3]
      exact ⟨n / 2, by omega, nI_div hn (by decide) (by decide)⟩
    · rw [if_neg c3]; exact ⟨n, hn, rfl⟩
theorem wtP_L {k r : Int32} (h : ¬ k = 4) : (if r.toInt64 < 0 then (0 : Int64) else if k = 3 then r.toInt64 / 2 else r.toInt64) = (wtP k r).toInt64 := by
  unfold wtP
  rw [if_neg h]
  have e1 : r.toInt64 < 0 ↔ r < 0 := by rw [Int64.lt_iff_toInt_lt, Int32.lt_iff_toInt_lt, Int32.toInt_toInt64]; rfl
  by_cases c : r < 0
  · rw [if_pos (e1.mpr c), if_neg (fun q => Int32.lt_irrefl (Int32.lt_trans q c))]
    by_cases c3 : k = 3
    · rw [if_pos c3]; rfl
    · rw [if_neg c3]; rfl
  · rw [if_neg (fun q => c (e1.mp q))]
    obtain ⟨n, hn, e⟩ := nI_ex (Int32.not_lt.mp c)
    have em : (if 0 < r then r else 0) = nI n := by
      by_cases c0 : 0 < r
      · rw [if_pos c0, e]
      · rw [if_neg c0, ← e]; exact (Int32.le_antisymm (Int32.not_lt.mp c0) (Int32.not_lt.mp c)).symm
    rw [em, e]
    by_cases c3 : k = 3
    · rw [if_pos c3, if_pos c3, lI_of hn, show (2 : Int64) = lI 2 from rfl, lI_dv (by omega) (by decide) (by decide), show (2 : Int32) = nI 2 from rfl, nI_div hn (by decide) (by decide), lI_of (by omega)]
    · rw [if_neg c3, if_neg c3]
/-- the sum of the weights of those of the first m that p takes -/
def sgP (p : Nat → Bool) (w : Nat → Int32) : Nat → Int64
  | 0 => 0
  | m + 1 => if p m = true then sgP p w m + (w m).toInt64 else sgP p w m
theorem sgP_N {p : Nat → Bool} {w : Nat → Int32} (hw : ∀ v, ∃ n, n < 2 ^ 31 ∧ w v = nI n) : ∀ m, m ≤ 16 → ∃ A, A ≤ m * 2 ^ 31 ∧ sgP p w m = lI A ∧ ∀ v, v < m → p v = true → ∃ n, n < 2 ^ 31 ∧ w v = nI n ∧ n ≤ A
  | 0, _ => ⟨0, by omega, rfl, fun v h => absurd h (Nat.not_lt_zero _)⟩
  | m + 1, hm => by
    obtain ⟨A, hA, e, h⟩ := sgP_N (p := p) hw m (by omega)
    show ∃ A, A ≤ (m + 1) * 2 ^ 31 ∧ (if p m = true then sgP p w m + (w m).toInt64 else sgP p w m) = lI A ∧ _
    obtain ⟨n, hn, en⟩ := hw m
    by_cases c : p m = true
    · rw [if_pos c, e, en, lI_of hn, lI_ad]
      refine ⟨A + n, by omega, rfl, fun v hv q => ?_⟩
      by_cases ev : v = m
      · subst ev; exact ⟨n, hn, en, by omega⟩
      · obtain ⟨n2, h1, h2, h3⟩ := h v (by omega) q
        exact ⟨n2, h1, h2, by omega⟩
    · rw [if_neg c]
      refine ⟨A, Nat.le_trans hA (Nat.mul_le_mul_right _ (Nat.le_succ m)), e, fun v hv q => ?_⟩
      by_cases ev : v = m
      · subst ev; exact absurd q c
      · exact h v (by omega) q
theorem sgP_c {p p2 : Nat → Bool} {w w2 : Nat → Int32} : ∀ m, (∀ v, v < m → p v = p2 v ∧ w v = w2 v) → sgP p w m = sgP p2 w2 m
  | 0, _ => rfl
  | m + 1, h => by
    show (if p m = true then sgP p w m + (w m).toInt64 else sgP p w m) = (if p2 m = true then sgP p2 w2 m + (w2 m).toInt64 else sgP p2 w2 m)
    rw [sgP_c m (fun v hv => h v (by omega)), (h m (by omega)).1, (h m (by omega)).2]
theorem Fr.cong {P : Nat → Nat → Bool} {A B : xS} (h : Fr P A B) {k i j : Nat} {x : Int32} : Fr P (xupd A k i j x) (xupd B k i j x) := by
  refine ⟨fun k' i' j' q => ?_, h.2⟩
  show (if k' = k ∧ j' = j ∧ i' = i then x else B.1 k' i' j') = (if k' = k ∧ j' = j ∧ i' = i then x else A.1 k' i' j')
  rw [h.1 k' i' j' q]
def vvP (g b m p o s : Int32) : Nat → Int32 := fun i => if i = 0 then g else if i = 1 then b else if i = 2 then m else if i = 3 then p else if i = 4 then o else s
def rvP (c : Nat → Int32) (e : Nat) (g b m s p o : Int32) : Int32 := (rnP (vvP g b m p o s) c e).1 0
def RVc (g b m s : Int32) (S : xS) : Prop := S.1 29 0 0 = g ∧ S.1 29 0 1 = b ∧ S.1 29 0 2 = m ∧ S.1 29 0 5 = s
def CPc (r P a e : Nat) (c : Nat → Int32) (S : xS) : Prop := (if P = 0 then 0 else S.1 19 r (P - 1)) = nI a ∧ S.1 19 r P = nI (a + e) ∧ a + e ≤ 160 ∧ a + e ≤ (S.1 18 r 65536).toNatClampNeg ∧ wfP c e ∧ ∀ m, m < e → S.1 18 r (a + m) = c m
def MPc (r P e : Nat) (c : Nat → Int32) (S : xS) : Prop := S.1 62 0 (3 * r + P) = nI e ∧ wfP c e ∧ ∀ i, i < e → okI_ (c i) ∧ S.1 63 0 (160 * (3 * r + P) + i) = encM (c i) ∧ (0 ≤ c i → S.1 64 0 (160 * (3 * r + P) + i) = c i)
theorem CPc.fr {r P a e : Nat} {c : Nat → Int32} {l : List Nat} {S S2 : xS} (f : Fr (fl l) S S2) (hd : [18, 19].all (fun q => !l.elem q) = true) (h : CPc r P a e c S) : CPc r P a e c S2 := by
  have e0 : ∀ i j, S2.1 18 i j = S.1 18 i j := fun i j => f.off hd rfl
  have e1 : ∀ i j, S2.1 19 i j = S.1 19 i j := fun i j => f.off hd rfl
  unfold CPc at h ⊢
  simp only [e0, e1]
  exact h
theorem MPc.fr {r P e : Nat} {c : Nat → Int32} {l : List Nat} {S S2 : xS} (f : Fr (fl l) S S2) (hd : [62, 63, 64].all (fun q => !l.elem q) = true) (h : MPc r P e c S) : MPc r P e c S2 := by
  have e0 : ∀ i j, S2.1 62 i j = S.1 62 i j := fun i j => f.off hd rfl
  have e1 : ∀ i j, S2.1 63 i j = S.1 63 i j := fun i j => f.off hd rfl
  have e2 : ∀ i j, S2.1 64 i j = S.1 64 i j := fun i j => f.off hd rfl
  unfold MPc at h ⊢
  simp only [e0, e1, e2]
  exact h
theorem IGp.two {r P : Nat} {S : xS} (h : IGp r P S) : ∃ a e c, CPc r P a e c S ∧ MPc r P e c S := by
  obtain ⟨a, e, c, h1, h2, h3, h4, h5, h6, h7⟩ := h
  exact ⟨a, e, c, ⟨h1, h2, h3, h4, h6, fun m hm => (h7 m hm).2.1⟩, h5, h6, fun i hi => ⟨(h7 i hi).1, (h7 i hi).2.2.1, (h7 i hi).2.2.2⟩⟩
theorem ct_rkC {d r P a e : Nat} {c : Nat → Int32} {g b m s p o : Int32} {S : xS} {Q : xQ} (hP : P < 3) (hC : CPc r P a e c S) (hv : RVc g b m s S) (hp : S.1 29 0 3 = p) (ho : S.1 29 0 4 = o) (h : ∀ S', Fr (fl [30, 29002]) S S' → Q (some (.inl (rvP c e g b m s p o))) S') : CT (d + 2) 0 0 m_Reckoner_reckon [.inr (.inr (28, 0)), .inr (.inr (17, r)), .inl (nI P)] S Q := by
  obtain ⟨h1, h2, h3, h4, h6, h7⟩ := hC
  obtain ⟨v0, v1, v2, v5⟩ := hv
  refine ct_reckon (vals := vvP g b m p o s) hP h1 h2 h3 h4 h6 h7 (fun i hi => ?_) h
  match i, hi with
  | 0, _ => exact v0
  | 1, _ => exact v1
  | 2, _ => exact v2
  | 3, _ => exact hp
  | 4, _ => exact ho
  | 5, _ => exact v5
theorem ct_vlM {d r P e t : Nat} {c : Nat → Int32} {g b m s p o : Int32} {S : xS} {Q : xQ} (hr : r < 6) (hP : P < 3) (hM : MPc r P e c S) (ht : S.1 36 0 0 = nI t) (t9 : t ≤ 9999) (hs : s = nI (t / 30 % 12)) (h : ∀ S', Fr (fl [69]) S S' → Q (some (.inl (rvP c e g b m s p o))) S') : CT (d + 1) 0 0 m_M_value [M0, .inl (nI r), .inl (nI P), .inl g, .inl b, .inl m, .inl p, .inl o] S Q := by
  obtain ⟨h1, h2, h3⟩ := hM
  exact ct_M_value (vals := vvP g b m p o s) (by omega) h1 h2 (fun i hi => (h3 i hi).1) (fun i hi => (h3 i hi).2) ht t9 ⟨rfl, rfl, rfl, rfl, rfl, hs⟩ h
theorem RVc.own {g b m s p o : Int32} {S : xS} (h : RVc g b m s S) : RVc g b m s (xupd (xupd S 29 0 3 p) 29 0 4 o) := h
theorem RVc.fr {g b m s : Int32} {l : List Nat} {S S2 : xS} (f : Fr (fl l) S S2) (hd : [29].all (fun q => !l.elem q) = true) (h : RVc g b m s S) : RVc g b m s S2 := by
  have e0 : ∀ i j, S2.1 29 i j = S.1 29 i j := fun i j => f.off hd rfl
  unfold RVc at h ⊢
  simp only [e0]
  exact h
theorem ct_C_weigh {d r a e v : Nat} {c : Nat → Int32} {g b m s : Int32} {S : xS} {Q : xQ} (er : S.1 0 0 12 = nI r) (r6 : r < 6) (hC : CPc r 0 a e c S) (hv : RVc g b m s S) (h : ∀ S', Fr (fl [29, 30, 29002]) S S' → RVc g b m s S' → Q (some (.inl (wtP (S.1 15 v 0) (rvP c e g b m s (S.1 15 v 3) (S.1 15 v 4))))) S') : CT (d + 3) 0 0 m_C_weigh [C0, .inr (.inr (15, v))] S Q := by
  have eR : (nI r).toNatClampNeg = r := nI_clamp (by omega)
  refine ct_of (xmok_all (by decide)) rfl (V_go (pc := 0) pk_102 [] 60 ?_)
  refine And.intro (fun k4 => ?_) (fun k4 => ?_)
  · have k4 : ¬ S.1 15 v 0 = 4 := k4
    refine ct_setOwn ?_
    refine And.intro (by rw [show (xupd (xupd S 29 0 3 (S.1 15 v 3)) 29 0 4 (S.1 15 v 4)).1 0 0 12 = S.1 0 0 12 from rfl, er]; exact vi (N := 6) r6) ?_
    rw [show (xupd (xupd S 29 0 3 (S.1 15 v 3)) 29 0 4 (S.1 15 v 4)).1 0 0 12 = S.1 0 0 12 from rfl, er, eR]
    have f0 : Fr (fl [29]) S (xupd (xupd S 29 0 3 (S.1 15 v 3)) 29 0 4 (S.1 15 v 4)) := (Fr.rf.up rfl).up rfl
    refine ct_rkC (P := 0) (by decide) (hC.fr f0 (by decide)) hv.own rfl rfl (fun S1 f1 => ?_)
    have f2 : Fr (fl [29, 30, 29002]) S S1 := (f0.wk (by decide)).tr (f1.wk (by decide))
    have h := h S1 f2 (hv.own.fr f1 (by decide))
    have ek : S1.1 15 v 0 = S.1 15 v 0 := f2.1 15 v 0 rfl
    unfold wtP at h
    rw [if_neg k4] at h
    refine And.intro (fun k3 => ?_) (fun k3 => ?_)
    · have k3 : ¬ S1.1 15 v 0 = 3 := k3
      rw [ek] at k3
      rw [if_neg k3] at h
      exact h
    · have k3 : S1.1 15 v 0 = 3 := k3
      rw [ek] at k3
      rw [if_pos k3] at h
      refine And.intro (by decide) ?_
      exact h
  · have k4 : S.1 15 v 0 = 4 := k4
    have h := h S Fr.rf hv
    unfold wtP at h
    rw [if_pos k4] at h
    exact h
/-- the class gives each venture on D its weight -/
def onB (S : xS) (D v : Nat) : Bool := decide (S.1 15 v 7 = 0 ∧ S.1 15 v 1 = nI D)
def wtC (S : xS) (f : Int32 → Int32 → Int32) (v : Nat) : Int32 := wtP (S.1 15 v 0) (f (S.1 15 v 3) (S.1 15 v 4))
def wg1 (S T : xS) (D : Nat) (f : Int32 → Int32 → Int32) (v : Nat) : xS := if onB S D v = true then xupd T 15 v 6 (wtC S f v) else T
def wgC (S : xS) (D : Nat) (f : Int32 → Int32 → Int32) : Nat → xS
  | 0 => S
  | m + 1 => wg1 S (wgC S D f m) D f m
theorem wg1_fr (S T : xS) (D : Nat) (f : Int32 → Int32 → Int32) (v : Nat) : Fr (fl [16006]) T (wg1 S T D f v) := by
  unfold wg1
  by_cases c : onB S D v = true
  · rw [if_pos c]; exact Fr.rf.up rfl
  · rw [if_neg c]; exact Fr.rf
theorem wgC_fr (S : xS) (D : Nat) (f : Int32 → Int32 → Int32) : ∀ m, Fr (fl [16006]) S (wgC S D f m)
  | 0 => Fr.rf
  | m + 1 => (wgC_fr S D f m).tr (wg1_fr _ _ D f m)
theorem wgC_at (S : xS) (D : Nat) (f : Int32 → Int32 → Int32) : ∀ m v, v < m → onB S D v = true → (wgC S D f m).1 15 v 6 = wtC S f v
  | 0, v, h, _ => absurd h (Nat.not_lt_zero _)
  | m + 1, v, h, q => by
    show (wg1 S (wgC S D f m) D f m).1 15 v 6 = _
    unfold wg1
    by_cases ev : v = m
    · subst ev
      rw [if_pos q]
      simp (decide := true) only [xu, true_and, false_and, and_true, and_false, if_true, if_false]
    · have ih := wgC_at S D f m v (by omega) q
      by_cases c : onB S D m = true
      · rw [if_pos c]
        simp (decide := true) only [xu, true_and, false_and, and_true, and_false, if_true, if_false, ev]; exact ih
      · rw [if_neg c]; exact ih
theorem ct_C_weighAll {d r a e nv D : Nat} {c : Nat → Int32} {g b m s : Int32} {S : xS} {Q : xQ} (e7 : S.1 0 0 10 = nI nv) (b2 : nv ≤ 16) (er : S.1 0 0 12 = nI r) (r6 : r < 6) (hC : CPc r 0 a e c S) (hv : RVc g b m s S) (h : ∀ S', Fr (fl [29, 30, 29002]) (wgC S D (rvP c e g b m s) nv) S' → RVc g b m s S' → Q (some (.inr (.inl (sgP (onB S D) (wtC S (rvP c e g b m s)) nv)))) S') : CT (d + 4) 0 0 m_C_weighAll [C0, .inl (nI D)] S Q := by
  generalize hf : rvP c e g b m s = f at h
  have loop : ∀ k j, j + k = nv → ∀ T, Fr (fl [29, 30, 29002]) (wgC S D f j) T → RVc g b m s T → ∀ o, xn8o o = true → V (d + 4) 0 0 m_C_weighAll 5 [some C0, some (.inl (nI D)), some (.inr (.inl (sgP (onB S D) (wtC S f) j))), none, some (.inl (nI j)), o] [] T Q := by
    intro k
    induction k with
    | zero =>
      intro j hj T hT hvT o ho
      obtain rfl : j = nv := by omega
      have en : T.1 0 0 10 = nI j := ((hT.1 0 0 10 rfl).trans ((wgC_fr S D f j).1 0 0 10 rfl)).trans e7
      refine V_go pk_101 [5] 40 ?_
      refine And.intro (fun _ => h T hT hvT) (fun q => absurd ?_ q)
      show T.1 0 0 10 ≤ nI j
      rw [en]; exact Int32.le_refl _
    | succ k ih =>
      intro j hj T hT hvT o ho
      have ej : (nI j).toNatClampNeg = j := nI_clamp (by omega)
      have fT : Fr (fl [16006, 29, 30, 29002]) S T := ((wgC_fr S D f j).wk (by decide)).tr (hT.wk (by decide))
      have en : T.1 0 0 10 = nI nv := (fT.1 0 0 10 rfl).trans e7
      have t7 : T.1 15 j 7 = S.1 15 j 7 := fT.1 15 j 7 rfl
      have t1 : T.1 15 j 1 = S.1 15 j 1 := fT.1 15 j 1 rfl
      have t0 : T.1 15 j 0 = S.1 15 j 0 := fT.1 15 j 0 rfl
      have t3 : T.1 15 j 3 = S.1 15 j 3 := fT.1 15 j 3 rfl
      have t4 : T.1 15 j 4 = S.1 15 j 4 := fT.1 15 j 4 rfl
      have es : sgP (onB S D) (wtC S f) (j + 1) = if onB S D j = true then sgP (onB S D) (wtC S f) j + (wtC S f j).toInt64 else sgP (onB S D) (wtC S f) j := rfl
      have ew : wgC S D f (j + 1) = if onB S D j = true then xupd (wgC S D f j) 15 j 6 (wtC S f j) else wgC S D f j := rfl
      have ih := fun T2 => ih (j + 1) (by omega) T2
      rw [es, ew, ← nI_1] at ih
      generalize sgP (onB S D) (wtC S f) j = su at ih ⊢
      refine V_go pk_101 [5, 23] 60 ?_
      refine And.intro (fun q => ?_) (fun _ => ?_)
      · have q : T.1 0 0 10 ≤ nI j := q
        rw [en] at q
        exact absurd ((nI_leI (by omega) (by omega)).mp q) (by omega)
      · refine And.intro (vi (N := 16) (by omega)) ?_
        show V (d + 4) 0 0 m_C_weighAll 23 [some C0, some (.inl (nI D)), some (.inr (.inl su)), none, some (.inl (nI j)), some (.inr (.inr (15, (nI j).toNatClampNeg)))] [] T Q
        rw [ej]
        refine V_go pk_101 [5] 60 ?_
        refine ct_isOn (fun g1 g2 => ?_) (fun g1 => ?_)
        · (repeat' first | (refine And.intro (fun q => absurd q (by decide)) (fun _ => ?_)) | (refine And.intro (fun _ => ?_) (fun q => absurd q (by decide))) | fail)
          rw [t7] at g1
          rw [t1] at g2
          have c1 : onB S D j = true := decide_eq_true ⟨g1, g2⟩
          rw [if_pos c1, if_pos c1] at ih
          refine ct_C_weigh (d := d) (g := g) (b := b) (m := m) (s := s) (a := a) (e := e) (c := c) ((fT.1 0 0 12 rfl).trans er) r6 (hC.fr fT (by decide)) hvT (fun S1 f1 hv1 => ?_)
          rw [hf, t0, t3, t4]
          have ih := ih (xupd S1 15 j 6 (wtC S f j)) (hT.tr f1).cong hv1 (some (.inr (.inr (15, j)))) rfl
          show V (d + 4) 0 0 m_C_weighAll 5 [some C0, some (.inl (nI D)), some (.inr (.inl (su + ((xupd S1 15 j 6 (wtC S f j)).1 15 j 6).toInt64))), none, some (.inl (nI j + 1)), some (.inr (.inr (15, j)))] [] (xupd S1 15 j 6 (wtC S f j)) Q
          rw [show (xupd S1 15 j 6 (wtC S f j)).1 15 j 6 = wtC S f j from if_pos ⟨rfl, rfl, rfl⟩]
          exact ih
        · (repeat' first | (refine And.intro (fun q => absurd q (by decide)) (fun _ => ?_)) | (refine And.intro (fun _ => ?_) (fun q => absurd q (by decide))) | fail)
          have c1 : ¬ onB S D j = true := fun q => by
            have q := of_decide_eq_true q
            exact g1 ⟨t7.trans q.1, t1.trans q.2⟩
          rw [if_neg c1, if_neg c1] at ih
          exact ih T hT hvT _ rfl
  refine ct_of (xmok_all (by decide)) rfl (V_go (pc := 0) pk_101 [5] 20 ?_)
  exact loop nv 0 (by omega) S Fr.rf hv none rfl
