/-! ways -/
theorem mon_N {t : Nat} (h : t < 2 ^ 31) : nI t / 30 - nI t / 30 / 12 * 12 = nI (t / 30 % 12) := by
  rw [show (30 : Int32) = nI 30 from rfl, show (12 : Int32) = nI 12 from rfl, nI_div h (by decide) (by decide), nI_div (by omega) (by decide) (by decide), nI_mul]
  apply Int32.toInt_inj.mp
  have h1 : t / 30 < 2 ^ 31 := by omega
  have h2 : t / 30 / 12 * 12 < 2 ^ 31 := by omega
  rw [sbI (by rw [nI_toInt h1, nI_toInt h2]; omega) (by rw [nI_toInt h1, nI_toInt h2]; omega), nI_toInt h1, nI_toInt h2, nI_toInt (by omega)]
  omega
def cmpI (x y : Int32) : Int32 := if x < y then -1 else if x = y then 0 else 1
theorem ct_compare {d : Nat} {x y : Int32} {S : xS} {Q : xQ} (h : Q (some (.inl (cmpI x y))) S) : CT d 0 0 m_Integer_compare [.inl x, .inl y] S Q := by
  refine ct_of (xmok_all (by decide)) rfl (V_go (pc := 0) pk_200 [] 50 ?_)
  refine And.intro (fun c => ?_) (fun c => ?_)
  · refine And.intro (fun c2 => ?_) (fun c2 => ?_)
    · refine qi h ?_ rfl
      unfold cmpI
      rw [if_neg (Int32.not_lt.mpr c), if_neg c2]
    · refine qi h ?_ rfl
      unfold cmpI
      rw [if_neg (Int32.not_lt.mpr c), if_pos c2]
  · refine qi h ?_ rfl
    unfold cmpI
    rw [if_pos (Int32.not_le.mp c)]
def absI (x : Int32) : Int32 := if 0 ≤ x then x else 0 - x
def ngI (x : Int32) : Int32 := if x < 0 then -x else x
theorem abs_ng (x : Int32) : absI x = ngI x := by
  unfold absI ngI
  by_cases h : x < 0
  · rw [if_pos h, if_neg (Int32.not_le.mpr h), Int32.zero_sub]
  · rw [if_neg h, if_pos (Int32.not_lt.mp h)]
def crossP (far speed : Int32) : Int32 := if 0 < speed then (if 1 < (far + speed - 1) / speed then (far + speed - 1) / speed else 1) else -1
def wayP (far speed : Int32) : Int32 := if speed = 0 then -1 else (if (far + speed - 1) / speed < 1 then 1 else (far + speed - 1) / speed)
def cSpeed (ax bx w : Int32) : Int32 := 2 + cmpI bx ax * w
def mSpeed (ax bx w : Int32) : Int32 := if 0 < bx - ax then 2 + w else if bx - ax < 0 then 2 - w else 2
theorem far_N {a b c e : Nat} (ha : a ≤ 99) (hb : b ≤ 99) (hc : c ≤ 99) (he : e ≤ 99) : ∃ F, F ≤ 198 ∧ absI (nI b - nI a) + absI (nI e - nI c) = nI F := by
  have key : ∀ x y : Nat, x ≤ 99 → y ≤ 99 → ∃ z, z ≤ 99 ∧ absI (nI y - nI x) = nI z := by
    intro x y hx hy
    have e1 : (nI y - nI x).toInt = (y : Int) - x := by
      rw [sbI (by rw [nI_toInt (show y < 2 ^ 31 by omega), nI_toInt (show x < 2 ^ 31 by omega)]; omega) (by rw [nI_toInt (show y < 2 ^ 31 by omega), nI_toInt (show x < 2 ^ 31 by omega)]; omega), nI_toInt (show y < 2 ^ 31 by omega), nI_toInt (show x < 2 ^ 31 by omega)]
    unfold absI
    by_cases h : 0 ≤ nI y - nI x
    · rw [if_pos h]
      have := Int32.le_iff_toInt_le.mp h
      rw [e1, show (0 : Int32).toInt = 0 from rfl] at this
      refine ⟨y - x, by omega, Int32.toInt_inj.mp ?_⟩
      rw [e1, nI_toInt (by omega)]; omega
    · rw [if_neg h]
      have := Int32.lt_iff_toInt_lt.mp (Int32.not_le.mp h)
      rw [e1, show (0 : Int32).toInt = 0 from rfl] at this
      refine ⟨x - y, by omega, Int32.toInt_inj.mp ?_⟩
      rw [sbI (by rw [e1, show (0 : Int32).toInt = 0 from rfl]; omega) (by rw [e1, show (0 : Int32).toInt = 0 from rfl]; omega), e1, nI_toInt (by omega), show (0 : Int32).toInt = 0 from rfl]; omega
  obtain ⟨z1, h1, q1⟩ := key a b ha hb
  obtain ⟨z2, h2, q2⟩ := key c e hc he
  exact ⟨z1 + z2, by omega, by rw [q1, q2, nI_add]⟩
theorem speed_N {a b : Nat} {w : Int32} (ha : a ≤ 99) (hb : b ≤ 99) (h1 : -2 ≤ w) (h2 : w ≤ 2) : ∃ s, s ≤ 4 ∧ cSpeed (nI a) (nI b) w = nI s ∧ mSpeed (nI a) (nI b) w = nI s := by
  have e1 : (nI b - nI a).toInt = (b : Int) - a := by
    rw [sbI (by rw [nI_toInt (show b < 2 ^ 31 by omega), nI_toInt (show a < 2 ^ 31 by omega)]; omega) (by rw [nI_toInt (show b < 2 ^ 31 by omega), nI_toInt (show a < 2 ^ 31 by omega)]; omega), nI_toInt (show b < 2 ^ 31 by omega), nI_toInt (show a < 2 ^ 31 by omega)]
  have g1 := Int32.le_iff_toInt_le.mp h1
  have g2 := Int32.le_iff_toInt_le.mp h2
  rw [show (-2 : Int32).toInt = -2 from rfl] at g1
  rw [show (2 : Int32).toInt = 2 from rfl] at g2
  have ep : ((2 : Int32) + w).toInt = 2 + w.toInt := adI (by rw [show (2 : Int32).toInt = 2 from rfl]; omega) (by rw [show (2 : Int32).toInt = 2 from rfl]; omega)
  have em : ((2 : Int32) - w).toInt = 2 - w.toInt := sbI (by rw [show (2 : Int32).toInt = 2 from rfl]; omega) (by rw [show (2 : Int32).toInt = 2 from rfl]; omega)
  have ew : ∀ v : Int32, 0 ≤ v.toInt → v = nI v.toInt.toNat := fun v hv => Int32.toInt_inj.mp (by rw [nI_toInt (by have := v.toInt_lt; omega)]; omega)
  unfold cSpeed mSpeed cmpI
  rcases Nat.lt_trichotomy a b with h | h | h
  · refine ⟨(2 + w.toInt).toNat, by omega, ?_, ?_⟩
    · rw [if_neg (Int32.not_lt.mpr (nI_le (Nat.le_of_lt h) (by omega))), if_neg (fun q => by have := (nI_eq (by omega) (by omega)).mp q; omega), Int32.one_mul, ew (2 + w) (by omega), ep]
    · rw [if_pos (Int32.lt_iff_toInt_lt.mpr (by rw [e1, show (0 : Int32).toInt = 0 from rfl]; omega)), ew (2 + w) (by omega), ep]
  · subst h
    refine ⟨2, by omega, ?_, ?_⟩
    · rw [if_neg (Int32.lt_irrefl), if_pos rfl, Int32.zero_mul]; rfl
    · rw [if_neg (fun q => by have := Int32.lt_iff_toInt_lt.mp q; rw [e1, show (0 : Int32).toInt = 0 from rfl] at this; omega), if_neg (fun q => by have := Int32.lt_iff_toInt_lt.mp q; rw [e1, show (0 : Int32).toInt = 0 from rfl] at this; omega)]; rfl
  · refine ⟨(2 - w.toInt).toNat, by omega, ?_, ?_⟩
    · rw [if_pos (nI_lt h (by omega)), Int32.neg_mul, Int32.one_mul, ← Int32.sub_eq_add_neg, ew (2 - w) (by omega), em]
    · rw [if_neg (fun q => by have := Int32.lt_iff_toInt_lt.mp q; rw [e1, show (0 : Int32).toInt = 0 from rfl] at this; omega), if_pos (Int32.lt_iff_toInt_lt.mpr (by rw [e1, show (0 : Int32).toInt = 0 from rfl]; omega)), ew (2 - w) (by omega), em]
theorem way_N {F s : Nat} (hF : F ≤ 198) (hs : s ≤ 4) : (crossP (nI F) (nI s) = -1 ∧ wayP (nI F) (nI s) = -1) ∨ ∃ c, 1 ≤ c ∧ c ≤ 198 ∧ crossP (nI F) (nI s) = nI c ∧ wayP (nI F) (nI s) = nI c := by
  unfold crossP wayP
  by_cases h : s = 0
  · subst h
    left
    exact ⟨if_neg (fun q => absurd q (by decide)), if_pos rfl⟩
  · right
    have e : (nI F + nI s - 1) / nI s = nI ((F + s - 1) / s) := by
      rw [nI_add, show F + s = (F + s - 1) + 1 by omega, nI_pred, nI_div (by omega) (by omega) (by omega)]
      congr 2
    have hz : (F + s - 1) / s ≤ 198 := by
      have : s = 1 ∨ s = 2 ∨ s = 3 ∨ s = 4 := by omega
      rcases this with rfl | rfl | rfl | rfl <;> omega
    rw [e, if_pos (show (0 : Int32) < nI s from nI_lt (a := 0) (by omega) (by omega)), if_neg (show ¬ nI s = 0 from fun q => h ((nI_eq (b := 0) (by omega) (by decide)).mp q))]
    by_cases q : 1 < (F + s - 1) / s
    · refine ⟨_, by omega, hz, if_pos (nI_lt (a := 1) q (by omega)), if_neg (fun q2 => ?_)⟩
      have := (nI_ltI (b := 1) (by omega) (by decide)).mp q2
      omega
    · refine ⟨1, by omega, by omega, if_neg (fun q2 => q ((nI_ltI (a := 1) (by decide) (by omega)).mp q2)), ?_⟩
      by_cases q3 : (F + s - 1) / s < 1
      · exact (if_pos (nI_lt (b := 1) q3 (by decide))).trans rfl
      · refine (if_neg (fun q2 => q3 ((nI_ltI (b := 1) (by omega) (by decide)).mp q2))).trans ?_
        rw [show (F + s - 1) / s = 1 by omega]
/-! the two methods -/
def mo (x : Int32) : Nat := (x / 30 - x / 30 / 12 * 12).toNatClampNeg
def cCross (S : xS) (f t m : Nat) : Int32 := crossP (absI (S.1 4 t 0 - S.1 4 f 0) + absI (S.1 4 t 1 - S.1 4 f 1)) (cSpeed (S.1 4 f 0) (S.1 4 t 0) (S.1 3 0 m))
def mWay (S : xS) (f t m : Nat) : Int32 := wayP (ngI (S.1 37 0 t - S.1 37 0 f) + ngI (S.1 38 0 t - S.1 38 0 f)) (mSpeed (S.1 37 0 f) (S.1 37 0 t) (S.1 42 0 m))
theorem way_eq {n : Nat} {S : xS} (h : IA n S) {f t m : Nat} (hf : f < 6) (ht : t < 6) (hm : m < 12) : (cCross S f t m = -1 ∧ mWay S f t m = -1) ∨ ∃ c, 1 ≤ c ∧ c ≤ 198 ∧ cCross S f t m = nI c ∧ mWay S f t m = nI c := by
  obtain ⟨-, -, h3, -, h5⟩ := h
  obtain ⟨a1, a2, ⟨a3, a4⟩, a5, a6⟩ := h3 f hf
  obtain ⟨b1, b2, ⟨b3, b4⟩, b5, b6⟩ := h3 t ht
  obtain ⟨w1, w2, w3⟩ := h5 m hm
  obtain ⟨fx, q1, e1⟩ := nI_of2 (M := 99) (n := 99) rfl (Int32.not_lt.mpr a3) a4
  obtain ⟨fy, q2, e2⟩ := nI_of2 (M := 99) (n := 99) rfl (Int32.not_lt.mpr a5) a6
  obtain ⟨tx, q3, e3⟩ := nI_of2 (M := 99) (n := 99) rfl (Int32.not_lt.mpr b3) b4
  obtain ⟨ty, q4, e4⟩ := nI_of2 (M := 99) (n := 99) rfl (Int32.not_lt.mpr b5) b6
  obtain ⟨F, hF, eF⟩ := far_N q1 q3 q2 q4
  obtain ⟨s, hs, es1, es2⟩ := speed_N q1 q3 w2 w3
  unfold cCross mWay
  rw [a1, a2, b1, b2, w1, e1, e2, e3, e4, ← abs_ng, ← abs_ng, eF, es1, es2]
  exact way_N hF hs
theorem ct_crossing {d : Nat} {f t x : Int32} {S : xS} {Q : xQ} (hf : inC 6 f) (ht : inC 6 t) (hm : vp_in (x / 30 - x / 30 / 12 * 12) 12) (h : Q (some (.inl (cCross S f.toNatClampNeg t.toNatClampNeg (mo x)))) S) : CT (d + 1) 0 0 m_Sea_crossing [.inr (.inr (1, 0)), .inl f, .inl t, .inl x] S Q := by
  refine ct_of (xmok_all (by decide)) rfl (V_go (pc := 0) pk_44 [] 120 ?_)
  refine And.intro (hf.vp (N := 6) (by decide)) ?_
  refine And.intro (ht.vp (N := 6) (by decide)) ?_
  refine ct_compare ?_
  refine ct_C_monthOf ?_
  refine And.intro hm ?_
  refine And.intro (fun c => ?_) (fun c => ?_)
  · refine And.intro ?_ ?_
    · intro q
      rw [q] at c
      exact absurd c (by decide)
    · refine qi h ?_ rfl
      exact (if_pos c).symm
  · refine qi h ?_ rfl
    exact (if_neg c).symm
theorem ct_wayOf {d : Nat} {f t x : Int32} {S : xS} {Q : xQ} (hf : inC 6 f) (ht : inC 6 t) (hm : vp_in (x / 30 - x / 30 / 12 * 12) 12) (h : Q (some (.inl (mWay S f.toNatClampNeg t.toNatClampNeg (mo x)))) S) : CT d 0 0 m_M_wayOf [.inr (.inr (36, 0)), .inl f, .inl t, .inl x] S Q := by
  have hf' := hf.vp (N := 6) (by decide)
  have ht' := ht.vp (N := 6) (by decide)
  refine ct_of (xmok_all (by decide)) rfl (V_go (pc := 0) pk_128 [30] 40 ?_)
  refine And.intro ht' ?_
  refine And.intro hf' ?_
  refine And.intro ht' ?_
  refine And.intro hf' ?_
  show V d 0 0 m_M_wayOf 30 [some M0, some (.inl f), some (.inl t), some (.inl x), some (.inl (S.1 37 0 t.toNatClampNeg - S.1 37 0 f.toNatClampNeg)), some (.inl (S.1 38 0 t.toNatClampNeg - S.1 38 0 f.toNatClampNeg)), none, none, none, none] [] S Q
  have h : Q (some (.inl (wayP (ngI (S.1 37 0 t.toNatClampNeg - S.1 37 0 f.toNatClampNeg) + ngI (S.1 38 0 t.toNatClampNeg - S.1 38 0 f.toNatClampNeg)) (mSpeed (S.1 37 0 f.toNatClampNeg) (S.1 37 0 t.toNatClampNeg) (S.1 42 0 (mo x)))))) S := h
  generalize hdx : S.1 37 0 t.toNatClampNeg - S.1 37 0 f.toNatClampNeg = dx at h
  generalize hdy : S.1 38 0 t.toNatClampNeg - S.1 38 0 f.toNatClampNeg = dy at h
  have h' : Q (some (.inl (wayP (ngI dx + ngI dy) (if 0 < dx then 2 + S.1 42 0 (mo x) else if dx < 0 then 2 - S.1 42 0 (mo x) else 2)))) S := by
    unfold mSpeed at h; rw [hdx] at h; exact h
  clear h
  have last : ∀ far sp : Int32, Q (some (.inl (wayP far sp))) S → V d 0 0 m_M_wayOf 100 [some M0, some (.inl f), some (.inl t), some (.inl x), some (.inl dx), some (.inl dy), some (.inl far), some (.inl (S.1 42 0 (mo x))), some (.inl sp), none] [] S Q := by
    intro far sp hq
    refine V_go pk_128 [] 40 ?_
    refine And.intro (fun c => ?_) (fun c => ?_)
    · refine And.intro c ?_
      refine And.intro (fun c2 => ?_) (fun c2 => ?_)
      · refine qi hq ?_ rfl
        unfold wayP
        rw [if_neg c, if_neg (Int32.not_lt.mpr c2)]
      · refine qi hq ?_ rfl
        unfold wayP
        rw [if_neg c, if_pos (Int32.not_le.mp c2)]
    · refine qi hq ?_ rfl
      unfold wayP
      rw [if_pos c]
  have mid : ∀ far : Int32, Q (some (.inl (wayP far (if 0 < dx then 2 + S.1 42 0 (mo x) else if dx < 0 then 2 - S.1 42 0 (mo x) else 2)))) S → V d 0 0 m_M_wayOf 59 [some M0, some (.inl f), some (.inl t), some (.inl x), some (.inl dx), some (.inl dy), some (.inl far), none, none, none] [] S Q := by
    intro far hq
    refine V_go pk_128 [100] 40 ?_
    refine And.intro (by decide) ?_
    refine And.intro (by decide) ?_
    refine And.intro hm ?_
    refine And.intro (fun c => ?_) (fun c => ?_)
    · refine And.intro (fun c2 => ?_) (fun c2 => ?_)
      · rw [if_neg (Int32.not_lt.mpr c), if_neg (Int32.not_lt.mpr c2)] at hq
        exact last far 2 hq
      · rw [if_neg (Int32.not_lt.mpr c), if_pos (Int32.not_le.mp c2)] at hq
        exact last far _ hq
    · rw [if_pos (Int32.not_le.mp c)] at hq
      exact last far _ hq
  refine V_go pk_128 [59] 30 ?_
  refine And.intro (fun c => ?_) (fun c => ?_)
  · have e1 : ngI dx = dx := if_neg (Int32.not_lt.mpr c)
    rw [e1] at h'
    refine And.intro (fun c2 => ?_) (fun c2 => ?_)
    · have e2 : ngI dy = dy := if_neg (Int32.not_lt.mpr c2)
      rw [e2] at h'
      exact mid _ h'
    · have e2 : ngI dy = -dy := if_pos (Int32.not_le.mp c2)
      rw [e2] at h'
      exact mid _ h'
  · have e1 : ngI dx = -dx := if_pos (Int32.not_le.mp c)
    rw [e1] at h'
    refine And.intro (fun c2 => ?_) (fun c2 => ?_)
    · have e2 : ngI dy = dy := if_neg (Int32.not_lt.mpr c2)
      rw [e2] at h'
      exact mid _ h'
    · have e2 : ngI dy = -dy := if_pos (Int32.not_le.mp c2)
      rw [e2] at h'
      exact mid _ h'
