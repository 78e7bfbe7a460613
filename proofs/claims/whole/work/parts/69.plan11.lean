/-! the model's order: goes -/
def csM (T : xS) (dh P : Nat) : Nat → Int32
  | 0 => T.1 46 0 dh
  | j + 1 => csM T dh P j + T.1 50 0 (4 * dh + j) * T.1 71 0 (4 * P + j)
def gsS (T : xS) (p : Nat × Nat) : xS := xupd (xupd T 36 0 54 (nI p.1)) 36 0 55 (nI p.2)
def gsQ (Q : xQ) (la : Nat) (T : xS) (o : Option (Nat × Nat)) : Prop := match o with
  | none => Q (some (.inl 0)) T
  | some p => Q (some (.inl (if p.2 ≤ la then 1 else 0))) (gsS T p)
abbrev oI (o : Option Int32) : Option xV := o.map .inl
theorem ct_goes {d dh P t c legs code la : Nat} {D : PlD} {T : xS} {Q : xQ} (ok : D.ok) (hM : PMd D dh P t c T) (hdh : dh < 4) (hP : P < D.np) (kP : D.kn P = true) (ht : t ≤ 9999) (hc : c + 80000 < 2 ^ 30) (hl1 : 1 ≤ legs) (hl3 : legs ≤ 3) (hcd : code < 27000) (hla : la ≤ 9999) (h : gsQ Q la T (D.big.runP legs code P t c)) : CT (d + 1) 0 0 m_M_goes [M0, .inl (nI dh), .inl (nI legs), .inl (nI code), .inl (nI la)] T Q := by
  obtain ⟨m1, m2, m3, m4, m5, m6, m7, m8⟩ := id hM
  obtain ⟨n6, h99, l99, p99⟩ := id ok
  have edh : (nI dh).toNatClampNeg = dh := nI_clamp (by omega)
  have vdh : vp_in (nI dh) 4 := vi hdh
  have loop3 : ∀ k j, j + k = legs → ∀ (a y cc : Nat), a < D.np → D.kn a = true → y ≤ 9999 + 198 * j → cc + 9801 * k + 40000 < 2 ^ 30 → gsQ Q la T (D.big.runP k code a y cc) → ∀ o10 o11 o12 o13 o14, V (d + 1) 0 0 m_M_goes 94 [some M0, some (.inl (nI dh)), some (.inl (nI legs)), some (.inl (nI code)), some (.inl (nI la)), some (.inl (nI a)), some (.inl (nI y)), some (.inl (nI cc)), some (.inl (nI (30 ^ k / 30))), some (.inl (nI j)), oI o10, oI o11, oI o12, oI o13, oI o14] [] T Q := by
    intro k
    induction k with
    | zero =>
      intro j hj a y cc ha ka hy hcc hq o10 o11 o12 o13 o14
      obtain rfl : j = legs := by omega
      have h : Q (some (.inl (if y ≤ la then 1 else 0))) (gsS T (cc, y)) := hq
      refine V_go pk_180 [94] 60 ?_
      refine And.intro (fun _ => ?_) (fun q => absurd (Int32.le_refl (nI j)) q)
      refine And.intro (fun q => ?_) (fun q => ?_)
      · have q : nI la < nI y := q
        rw [if_neg (by have := (nI_ltI (by omega) (by omega)).mp q; omega)] at h
        exact And.intro (Or.inl rfl) h
      · have q : ¬ nI la < nI y := q
        rw [if_pos (Nat.not_lt.mp (fun z => q (nI_lt z (by omega))))] at h
        exact And.intro (Or.inr rfl) h
    | succ k ih =>
      intro j hj a y cc ha ka hy hcc hq o10 o11 o12 o13 o14
      have kk : k ≤ 2 := by omega
      have p0 : 0 < 30 ^ k := Nat.pow_pos (by decide)
      have p1 : 30 ^ k ≤ 900 := by
        have := Nat.pow_le_pow_right (show 0 < 30 by decide) kk
        exact this
      have eby : 30 ^ (k + 1) / 30 = 30 ^ k := by rw [Nat.pow_succ, Nat.mul_div_cancel _ (by decide)]
      rw [eby]
      rw [PlD.run_cases] at hq
      have ih := ih (j + 1) (by omega)
      generalize 30 ^ k = z at p0 p1 hq ih ⊢
      have ec : nI code / nI z = nI (code / z) := nI_div (by omega) (by omega) p0
      have hcz : code / z < 2 ^ 31 := Nat.lt_of_le_of_lt (Nat.div_le_self _ _) (by omega)
      have eg : (nI code / nI z - nI code / nI z / 30 * 30) / 6 = nI (code / z % 30 / 6) := by
        rw [ec, show (30 : Int32) = nI 30 from rfl, rem_N hcz (by decide) (by decide), show (6 : Int32) = nI 6 from rfl, nI_div (by omega) (by decide) (by decide)]
      have eb : nI code / nI z - nI code / nI z / 6 * 6 = nI (code / z % 30 % 6) := by
        rw [ec, show (6 : Int32) = nI 6 from rfl, rem_N hcz (by decide) (by decide)]
        congr 1; omega
      have ez : nI z / 30 = nI (z / 30) := nI_div (b := 30) (by omega) (by decide) (by decide)
      have hg : code / z % 30 / 6 ≤ 4 := by omega
      have hb : code / z % 30 % 6 < 6 := Nat.mod_lt _ (by decide)
      generalize code / z % 30 / 6 = g at hq eg hg
      generalize code / z % 30 % 6 = b at hq eb hb
      have ebn : (nI b).toNatClampNeg = b := nI_clamp (by omega)
      have ea6 : a < 6 := by omega
      have at128 : V (d + 1) 0 0 m_M_goes 128 [some M0, some (.inl (nI dh)), some (.inl (nI legs)), some (.inl (nI code)), some (.inl (nI la)), some (.inl (nI a)), some (.inl (nI y)), some (.inl (nI cc)), some (.inl (nI (z / 30))), some (.inl (nI j)), some (.inl (nI g)), some (.inl (nI b)), oI o12, oI o13, oI o14] [] T Q := by
        have hF : D.big.arr a b y = none → Q (some (.inl 0)) T := fun e => by rw [e] at hq; exact hq
        have hF2 : ¬ (¬ b = a ∧ b < D.np ∧ D.kn b = true) → Q (some (.inl 0)) T := fun hn => hF (by
          cases e : D.big.arr a b y with
          | none => rfl
          | some t1 => exact absurd (PlD.arr_some.mp e).1 hn)
        have tlS : ∀ w, w ≤ 198 → D.wy a b y = some w → ¬ b = a → b < D.np → D.kn b = true → ∀ (o12 o13 : Option xV) (o14 : Option Int32), V (d + 1) 0 0 m_M_goes 168 [some M0, some (.inl (nI dh)), some (.inl (nI legs)), some (.inl (nI code)), some (.inl (nI la)), some (.inl (nI a)), some (.inl (nI y)), some (.inl (nI cc)), some (.inl (nI (z / 30))), some (.inl (nI j)), some (.inl (nI g)), some (.inl (nI b)), o12, o13, oI o14] [.inl (nI w)] T Q := by
          intro w hw ew h1 h2 h3 o12 o13 o14
          have e : D.big.arr a b y = some (y + w) := PlD.arr_some.mpr ⟨⟨h1, h2, h3⟩, w, ew, rfl, show y + w ≤ 20000 by omega⟩
          rw [e] at hq
          have hq : gsQ Q la T (D.big.runP k code b (y + w) (D.aft a b g cc)) := hq
          have bA := PlD.aft_le (D := D) (a := a) (b := b) (g := g) (c := cc) h99 (fun hg => p99 b hb h3 g hg)
          have ih := ih b (y + w) (D.aft a b g cc) h2 h3 (by omega) (by omega) hq
          refine V_go pk_180 [94] 120 ?_
          refine And.intro (fun _ => ?_) (fun q => absurd q (nI_m (by omega)))
          refine And.intro (fun q => ?_) (fun q => ?_)
          · have q : nI 4 ≤ nI g := q
            have g4 : ¬ g < 4 := by have := (nI_leI (by omega) (by omega)).mp q; omega
            have ea : D.aft a b g cc = cc := by unfold PlD.aft; rw [if_neg g4]
            rw [ea, ← nI_add, ← nI_1] at ih
            exact ih (some (nI g)) (some (nI b)) (some (nI w)) (some 0) o14
          · have q : ¬ nI 4 ≤ nI g := q
            have g4 : g < 4 := Nat.not_le.mp (fun g => q ((nI_leI (by omega) (by omega)).mpr g))
            obtain ⟨x1, x2, x3⟩ := ix4 (a := a) (g := g) (N := 24) (by omega)
            obtain ⟨y1, y2, y3⟩ := ix4 (a := b) (g := g) (N := 24) (by omega)
            have pa := m7 a ha ka g g4
            have pb := m7 b h2 h3 g g4
            have pa9 := p99 a ea6 ka g g4
            have ea : D.aft a b g cc = cc - D.cnt a g cc * (D.pr a g + 1) + D.cnt a g cc * D.pr b g := by unfold PlD.aft; rw [if_pos g4]
            have fin : ∀ n : Int32, n = nI (D.cnt a g cc) → ∀ o14, V (d + 1) 0 0 m_M_goes 94 [some M0, some (.inl (nI dh)), some (.inl (nI legs)), some (.inl (nI code)), some (.inl (nI la)), some (.inl (nI b)), some (.inl (nI y + nI w)), some (.inl (nI cc - n * (nI (D.pr a g) + 1) + n * nI (D.pr b g))), some (.inl (nI (z / 30))), some (.inl (nI j + 1)), some (.inl (nI g)), some (.inl (nI b)), some (.inl (nI w)), some (.inl n), oI o14] [] T Q := by
              intro n hn o14
              rw [hn, nI_1, nI_1, nI_mul, nI_mul, nI_sb PlD.cnt_le (by omega), nI_add, nI_add, ← ea]
              exact ih (some (nI g)) (some (nI b)) (some (nI w)) (some (nI (D.cnt a g cc))) o14
            have e1 : nI (D.pr a g) + 1 = nI (D.pr a g + 1) := nI_1 _
            have hdv : cc / (D.pr a g + 1) < 2 ^ 31 := Nat.lt_of_le_of_lt (Nat.div_le_self _ _) (by omega)
            have ecan : nI cc / (nI (D.pr a g) + 1) = nI (cc / (D.pr a g + 1)) := by rw [e1, nI_div (by omega) (by omega) (by omega)]
            refine And.intro x2 ?_
            rw [x3, pa]
            refine And.intro (by rw [e1]; exact nI_ne0 (by omega) (by omega)) ?_
            refine And.intro vdh ?_
            refine And.intro (fun q => ?_) (fun q => ?_)
            · have q : T.1 45 0 (nI dh).toNatClampNeg ≤ nI cc / (nI (D.pr a g) + 1) := q
              rw [edh, m2, ecan] at q
              have q := (nI_leI (by omega) hdv).mp q
              refine And.intro vdh ?_
              refine And.intro x2 ?_
              refine And.intro y2 ?_
              rw [x3, y3, pa, pb, edh, m2]
              exact fin (nI D.hd) (by unfold PlD.cnt; rw [Nat.min_eq_left q]) (some (nI cc / (nI (D.pr a g) + 1)))
            · have q : ¬ T.1 45 0 (nI dh).toNatClampNeg ≤ nI cc / (nI (D.pr a g) + 1) := q
              rw [edh, m2, ecan] at q
              have q : cc / (D.pr a g + 1) < D.hd := Nat.not_le.mp (fun y => q ((nI_leI (by omega) hdv).mpr y))
              refine And.intro x2 ?_
              refine And.intro y2 ?_
              rw [x3, y3, pa, pb]
              exact fin (nI cc / (nI (D.pr a g) + 1)) (by rw [ecan]; unfold PlD.cnt; rw [Nat.min_eq_right (by omega)]) (some (nI cc / (nI (D.pr a g) + 1)))
        have tlN : Q (some (.inl 0)) T → ∀ o12 o13 o14 : Option xV, V (d + 1) 0 0 m_M_goes 168 [some M0, some (.inl (nI dh)), some (.inl (nI legs)), some (.inl (nI code)), some (.inl (nI la)), some (.inl (nI a)), some (.inl (nI y)), some (.inl (nI cc)), some (.inl (nI (z / 30))), some (.inl (nI j)), some (.inl (nI g)), some (.inl (nI b)), o12, o13, o14] [.inl (-1)] T Q := by
          intro q o12 o13 o14
          refine V_go pk_180 [] 20 ?_
          (repeat' first | (refine And.intro (fun q => absurd q (by decide)) (fun _ => ?_)) | (refine And.intro (fun _ => ?_) (fun q => absurd q (by decide))) | fail)
          exact And.intro (Or.inl rfl) q
        rcases o12 with _ | o12 <;> rcases o13 with _ | o13 <;> rcases o14 with _ | o14
        all_goals (
          refine V_go pk_180 [168] 60 ?_
          refine And.intro (fun q => ?_) (fun q => ?_)
          · have q : b = a := (nI_eq (by omega) (by omega)).mp q
            exact tlN (hF2 (fun z => z.1 q)) _ _ _
          · have h1 : ¬ b = a := fun g => q (by rw [g])
            refine And.intro (fun q2 => ?_) (fun q2 => ?_)
            · have q2 : T.1 36 0 1 ≤ nI b := q2
              rw [m1] at q2
              have q2 := (nI_leI (by omega) (by omega)).mp q2
              exact tlN (hF2 (fun z => by omega)) _ _ _
            · have q2 : ¬ T.1 36 0 1 ≤ nI b := q2
              rw [m1] at q2
              have h2 : b < D.np := Nat.not_le.mp (fun y => q2 ((nI_leI (by omega) (by omega)).mpr y))
              refine And.intro (vi (N := 6) (by omega)) ?_
              rw [ebn, m6 b h2]
              refine And.intro (fun q3 => ?_) (fun q3 => ?_)
              · have h3 : D.kn b = true := by
                  cases e : D.kn b with
                  | true => rfl
                  | false => rw [e] at q3; exact absurd rfl q3
                obtain ⟨em, hm⟩ := mo_N (t := y) (by omega)
                refine ct_wayOf (inC_nI ea6) (inC_nI hb) hm ?_
                rw [ebn, nI_clamp (show a < 2 ^ 31 by omega), em]
                rcases m8 a b y ea6 hb with ⟨w1, w2⟩ | ⟨w, hw, w1, w2⟩
                · rw [w2]
                  refine tlN (hF ?_) _ _ _
                  cases e : D.big.arr a b y with
                  | none => rfl
                  | some t1 =>
                    obtain ⟨_, w, h4, _⟩ := PlD.arr_some.mp e
                    have h4 : D.wy a b y = some w := h4
                    rw [w1] at h4; cases h4
                · rw [w2]
                  first
                    | exact tlS w hw w1 h1 h2 h3 _ _ none
                    | exact tlS w hw w1 h1 h2 h3 _ _ (some o14)
              · refine tlN (hF2 (fun z => ?_)) _ _ _
                rw [z.2.2] at q3
                exact absurd (show (1 : Int32) = 0 from q3) (by decide))
      refine V_go pk_180 [94, 128] 60 ?_
      refine And.intro (fun q => ?_) (fun _ => ?_)
      · exact absurd ((nI_leI (by omega) (by omega)).mp (show nI legs ≤ nI j from q)) (by omega)
      · have nz : ¬ nI z = 0 := nI_ne0 p0 (by omega)
        refine And.intro nz ?_
        refine And.intro (by decide) ?_
        refine And.intro (by decide) ?_
        refine And.intro nz ?_
        refine And.intro (by decide) ?_
        refine And.intro (by decide) ?_
        show V (d + 1) 0 0 m_M_goes 128 [some M0, some (.inl (nI dh)), some (.inl (nI legs)), some (.inl (nI code)), some (.inl (nI la)), some (.inl (nI a)), some (.inl (nI y)), some (.inl (nI cc)), some (.inl (nI z / 30)), some (.inl (nI j)), some (.inl ((nI code / nI z - nI code / nI z / 30 * 30) / 6)), some (.inl (nI code / nI z - nI code / nI z / 6 * 6)), oI o12, oI o13, oI o14] [] T Q
        rw [eg, eb, ez]
        exact at128
  have loop2 : ∀ m j, j + 1 + m = legs → V (d + 1) 0 0 m_M_goes 72 [some M0, some (.inl (nI dh)), some (.inl (nI legs)), some (.inl (nI code)), some (.inl (nI la)), some (.inl (nI P)), some (.inl (nI t)), some (.inl (nI c)), some (.inl (nI (30 ^ j))), some (.inl (nI (j + 1))), none, none, none, none, none] [] T Q := by
    intro m
    induction m with
    | zero =>
      intro j hj
      obtain rfl : j + 1 = legs := by omega
      have g := loop3 (j + 1) 0 (by omega) P t c hP kP (by omega) (Nat.lt_of_le_of_lt (show c + 9801 * (j + 1) + 40000 ≤ c + 80000 by omega) hc) h none none none none none
      have e : 30 ^ j = 30 ^ (j + 1) / 30 := by rw [Nat.pow_succ]; omega
      refine V_go pk_180 [72, 94] 40 ?_
      refine And.intro (fun _ => ?_) (fun q => absurd (Int32.le_refl (nI (j + 1))) q)
      rw [← e] at g
      generalize 30 ^ j = z at g ⊢
      exact g
    | succ m ih =>
      intro j hj
      have ih := ih (j + 1) (by omega)
      refine V_go pk_180 [72, 94] 40 ?_
      refine And.intro (fun q => ?_) (fun _ => ?_)
      · exact absurd ((nI_leI (by omega) (by omega)).mp (show nI legs ≤ nI (j + 1) from q)) (by omega)
      · show V (d + 1) 0 0 m_M_goes 72 [some M0, some (.inl (nI dh)), some (.inl (nI legs)), some (.inl (nI code)), some (.inl (nI la)), some (.inl (nI P)), some (.inl (nI t)), some (.inl (nI c)), some (.inl (nI (30 ^ j) * nI 30)), some (.inl (nI (j + 1) + 1)), none, none, none, none, none] [] T Q
        rw [nI_mul, nI_1]
        exact ih
  have loop1 : ∀ m j, j + m = 4 → V (d + 1) 0 0 m_M_goes 25 [some M0, some (.inl (nI dh)), some (.inl (nI legs)), some (.inl (nI code)), some (.inl (nI la)), some (.inl (nI P)), some (.inl (nI t)), some (.inl (csM T dh P j)), some (.inl (nI j)), none, none, none, none, none, none] [] T Q := by
    intro m
    induction m with
    | zero =>
      intro j hj
      obtain rfl : j = 4 := by omega
      have e : csM T dh P 4 = nI c := m5
      rw [e]
      refine V_go pk_180 [25, 72] 40 ?_
      refine And.intro (fun _ => ?_) (fun q => absurd (Int32.le_refl (nI 4)) q)
      exact loop2 (legs - 1) 0 (by omega)
    | succ m ih =>
      intro j hj
      have ih := ih (j + 1) (by omega)
      have e : csM T dh P (j + 1) = csM T dh P j + T.1 50 0 (4 * dh + j) * T.1 71 0 (4 * P + j) := rfl
      rw [e, ← nI_1] at ih
      obtain ⟨x1, x2, x3⟩ := ix4 (a := dh) (g := j) (N := 16) (by omega)
      obtain ⟨y1, y2, y3⟩ := ix4 (a := P) (g := j) (N := 24) (by omega)
      refine V_go pk_180 [25] 60 ?_
      refine And.intro (fun q => ?_) (fun _ => ?_)
      · exact absurd ((nI_leI (by omega) (by omega)).mp (show nI 4 ≤ nI j from q)) (by omega)
      · refine And.intro x2 ?_
        refine And.intro y2 ?_
        rw [x3, y3]
        exact ih
  refine ct_of (xmok_all (by decide)) rfl (V_go (pc := 0) pk_180 [25] 60 ?_)
  refine And.intro vdh ?_
  refine And.intro vdh ?_
  show V (d + 1) 0 0 m_M_goes 25 [some M0, some (.inl (nI dh)), some (.inl (nI legs)), some (.inl (nI code)), some (.inl (nI la)), some (.inl (T.1 43 0 (nI dh).toNatClampNeg)), some (.inl (T.1 36 0 0)), some (.inl (T.1 46 0 (nI dh).toNatClampNeg)), some (.inl (nI 0)), none, none, none, none, none, none] [] T Q
  rw [edh, m3, m4]
  exact loop1 4 0 (by omega)
