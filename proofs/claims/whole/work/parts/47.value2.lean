theorem negc {c : Int32} {k : Nat} (h : -c = nI k) (h1 : 1 ≤ k) (h2 : k < 2 ^ 31) : ¬ 0 ≤ c := by
  intro h0
  have a := Int32.le_iff_toInt_le.mp h0
  rw [show (0 : Int32).toInt = 0 from rfl] at a
  have b := congrArg Int32.toInt h
  have l := c.toInt_lt
  rw [Int32.toInt_neg, nI_toInt h2, Int.bmod_eq_of_le (by omega) (by omega)] at b
  omega
theorem ct_M_value {d T P e dy : Nat} {g dd m p o : Int32} {vals c : Nat → Int32} {S : xS} {Q : xQ} (hrow : 3 * T + P < 18) (hact : S.1 62 0 (3 * T + P) = nI e) (hw : wfP c e) (hok : ∀ i, i < e → okI_ (c i)) (hc : ∀ i, i < e → S.1 63 0 (160 * (3 * T + P) + i) = encM (c i) ∧ (0 ≤ c i → S.1 64 0 (160 * (3 * T + P) + i) = c i)) (hdy : S.1 36 0 0 = nI dy) (dy9 : dy ≤ 9999) (hv : vals 0 = g ∧ vals 1 = dd ∧ vals 2 = m ∧ vals 3 = p ∧ vals 4 = o ∧ vals 5 = nI (dy / 30 % 12)) (h : ∀ S', Fr (fl [69]) S S' → Q (some (.inl ((rnP vals c e).1 0))) S') : CT (d + 1) 0 0 m_M_value [M0, .inl (nI T), .inl (nI P), .inl g, .inl dd, .inl m, .inl p, .inl o] S Q := by
  obtain ⟨w1, w2, w3⟩ := hw
  generalize hR : 3 * T + P = row at hrow hact hc
  have vrow : vp_in (nI row) 18 := vi hrow
  have erow : (nI row).toNatClampNeg = row := nI_clamp (by omega)
  have e160 : (160 : Int32) * nI row = nI (160 * row) := by rw [show (160 : Int32) = nI 160 from rfl, nI_mul]
  have loop : ∀ k j, j + k = e → ∀ S', Fr (fl [69]) S S' → rpM S' (rnP vals c j) → ∀ ow, V (d + 1) 0 0 m_M_value 18 [some M0, some (.inl (nI T)), some (.inl (nI P)), some (.inl g), some (.inl dd), some (.inl m), some (.inl p), some (.inl o), some (.inl (nI row)), some (.inl (nI (htP c j))), some (.inl (nI (160 * row + j))), ow] [] S' Q := by
    intro k
    induction k with
    | zero =>
      intro j hj S' hf hr ow
      obtain rfl : j = e := by omega
      have ea : S'.1 62 0 row = nI j := (hf.1 62 0 row rfl).trans hact
      refine V_go pk_150 [18] 40 ?_
      refine And.intro vrow ?_
      refine And.intro (fun _ => ?_) (fun q => absurd ?_ q)
      · refine And.intro (vi (n := 0) (N := 200) (by decide)) ?_
        have h1 := rnP_2 vals c j
        rw [w3] at h1
        have := h S' hf
        rw [← hr 0 (by omega)] at this
        exact this
      · show (160 : Int32) * nI row + S'.1 62 0 (nI row).toNatClampNeg ≤ nI (160 * row + j)
        rw [erow, ea, e160, nI_add]; exact Int32.le_refl _
    | succ k ih =>
      intro j hj S' hf hr ow
      have ea : S'.1 62 0 row = nI e := (hf.1 62 0 row rfl).trans hact
      have vj : vp_in (nI (160 * row + j)) 2880 := vi (by omega)
      have ej : (nI (160 * row + j)).toNatClampNeg = 160 * row + j := nI_clamp (by omega)
      have e63 : S'.1 63 0 (160 * row + j) = encM (c j) := (hf.1 63 0 _ rfl).trans (hc j (by omega)).1
      have e64 : 0 ≤ c j → S'.1 64 0 (160 * row + j) = c j := fun q => (hf.1 64 0 _ rfl).trans ((hc j (by omega)).2 q)
      have eday : S'.1 36 0 0 = nI dy := (hf.1 36 0 0 rfl).trans hdy
      have hn := rnP_2 vals c j
      have hle := htP_le c j
      have hnd := w2 j (by omega)
      have eS : rnP vals c (j + 1) = stP vals (c j) (rnP vals c j) := rfl
      have eH : htP c (j + 1) = hS (c j) (htP c j) := rfl
      have ih := ih (j + 1) (by omega)
      rw [eS, eH] at ih
      have okj := hok j (by omega)
      generalize rnP vals c j = w at hr hn ih
      obtain ⟨st, n⟩ := w
      have hn : n = htP c j := hn
      rw [← hn] at hle hnd ih ⊢
      have hr : ∀ i, i < n → S'.1 69 0 i = st i := hr
      refine V_go pk_150 [46] 40 ?_
      refine And.intro vrow ?_
      refine And.intro (fun q => ?_) (fun _ => ?_)
      · have q : (160 : Int32) * nI row + S'.1 62 0 (nI row).toNatClampNeg ≤ nI (160 * row + j) := q
        rw [erow, ea, e160, nI_add] at q
        exact absurd ((nI_leI (by omega) (by omega)).mp q) (by omega)
      · refine And.intro vj ?_
        show V (d + 1) 0 0 m_M_value 46 [some M0, some (.inl (nI T)), some (.inl (nI P)), some (.inl g), some (.inl dd), some (.inl m), some (.inl p), some (.inl o), some (.inl (nI row)), some (.inl (nI n)), some (.inl (nI (160 * row + j))), some (.inl (S'.1 63 0 (nI (160 * row + j)).toNatClampNeg))] [] S' Q
        rw [ej, e63]
        have nxt : ∀ (n' : Nat) (st' : Nat → Int32) (S2 : xS) (ow : Int32), stP vals (c j) (st, n) = (st', n') → hS (c j) n = n' → Fr (fl [69]) S S2 → rpM S2 (st', n') → V (d + 1) 0 0 m_M_value 269 [some M0, some (.inl (nI T)), some (.inl (nI P)), some (.inl g), some (.inl dd), some (.inl m), some (.inl p), some (.inl o), some (.inl (nI row)), some (.inl (nI n')), some (.inl (nI (160 * row + j))), some (.inl ow)] [] S2 Q := by
          intro n' st' S2 ow h1 h2 h3 h4
          have := ih S2 h3 (by rw [h1]; exact h4) (some (.inl ow))
          rw [h2, ← Nat.add_assoc, ← nI_1] at this
          refine V_go pk_150 [18] 40 ?_
          exact this
        rcases okj with q | q | q | q | q
        · have ee : encM (c j) = 200 := if_pos q
          rw [ee]
          refine V_go pk_150 [269] 40 ?_
          (repeat' first | (refine And.intro (fun q => absurd q (by decide)) (fun _ => ?_)) | (refine And.intro (fun _ => ?_) (fun q => absurd q (by decide))) | fail)
          refine And.intro vj ?_
          refine And.intro (vi (N := 200) (by omega)) ?_
          show V (d + 1) 0 0 m_M_value 269 [some M0, some (.inl (nI T)), some (.inl (nI P)), some (.inl g), some (.inl dd), some (.inl m), some (.inl p), some (.inl o), some (.inl (nI row)), some (.inl (nI n + 1)), some (.inl (nI (160 * row + j))), some (.inl 200)] [] (xupd S' 69 0 (nI n).toNatClampNeg (S'.1 64 0 (nI (160 * row + j)).toNatClampNeg)) Q
          rw [nI_1, ej, e64 q, nI_clamp (show n < 2 ^ 31 by omega)]
          exact nxt (n + 1) _ _ 200 (by unfold stP; exact if_pos q) (by unfold hS; exact if_pos q) (hf.up rfl) (rpM_push hr)
        · obtain ⟨k0, k1, k2, q⟩ := q
          have nc := negc q (by omega) (by omega)
          have name : ∀ (i : Nat) (v : Int32), i < 6 → k0 = 134 + i → vals i = v → V (d + 1) 0 0 m_M_value 163 [some M0, some (.inl (nI T)), some (.inl (nI P)), some (.inl g), some (.inl dd), some (.inl m), some (.inl p), some (.inl o), some (.inl (nI row)), some (.inl (nI n)), some (.inl (nI (160 * row + j))), some (.inl (encM (c j)))] [.inl v, .inl (nI n), .inr (.inr (69, 0))] S' Q := by
            intro i v hi hk hvv
            refine V_go pk_150 [269] 40 ?_
            refine And.intro (vi (N := 200) (by omega)) ?_
            show V (d + 1) 0 0 m_M_value 269 [some M0, some (.inl (nI T)), some (.inl (nI P)), some (.inl g), some (.inl dd), some (.inl m), some (.inl p), some (.inl o), some (.inl (nI row)), some (.inl (nI n + 1)), some (.inl (nI (160 * row + j))), some (.inl (encM (c j)))] [] (xupd S' 69 0 (nI n).toNatClampNeg v) Q
            rw [nI_1, nI_clamp (show n < 2 ^ 31 by omega)]
            have e2 : 134 ≤ -(c j) ∧ -(c j) ≤ 139 := (inR_iff (lo := 134) (hi := 139) rfl rfl (by decide) (by decide)).mpr ⟨k0, k1, k2, q⟩
            have e4 : vals (-(c j) - 134).toNatClampNeg = v := by
              rw [q, show (134 : Int32) = nI 134 from rfl, nI_sb (by omega) (by omega), nI_clamp (by omega), show k0 - 134 = i by omega]
              exact hvv
            refine nxt (n + 1) (uf st n v) _ _ ?_ ?_ (hf.up rfl) (rpM_push hr)
            · unfold stP
              rw [if_neg nc, if_pos e2, e4]
            · unfold hS
              rw [if_neg nc, if_pos e2]
          have ee : encM (c j) = nI (k0 - 34) := by
            unfold encM
            rw [if_neg nc, if_pos (show 134 ≤ -(c j) ∧ -(c j) ≤ 139 from (inR_iff (lo := 134) (hi := 139) rfl rfl (by decide) (by decide)).mpr ⟨k0, k1, k2, q⟩), q, show (34 : Int32) = nI 34 from rfl, nI_sb (by omega) (by omega)]
          rw [ee] at name ⊢
          have k6 : k0 = 134 ∨ k0 = 135 ∨ k0 = 136 ∨ k0 = 137 ∨ k0 = 138 ∨ k0 = 139 := by omega
          rcases k6 with rfl | rfl | rfl | rfl | rfl | rfl
          · refine V_go pk_150 [163] 40 ?_
            (repeat' first | (refine And.intro (fun q => absurd q (by decide)) (fun _ => ?_)) | (refine And.intro (fun _ => ?_) (fun q => absurd q (by decide))) | fail)
            exact name 0 g (by omega) rfl hv.1
          · refine V_go pk_150 [163] 40 ?_
            (repeat' first | (refine And.intro (fun q => absurd q (by decide)) (fun _ => ?_)) | (refine And.intro (fun _ => ?_) (fun q => absurd q (by decide))) | fail)
            exact name 1 dd (by omega) rfl hv.2.1
          · refine V_go pk_150 [163] 40 ?_
            (repeat' first | (refine And.intro (fun q => absurd q (by decide)) (fun _ => ?_)) | (refine And.intro (fun _ => ?_) (fun q => absurd q (by decide))) | fail)
            exact name 2 m (by omega) rfl hv.2.2.1
          · refine V_go pk_150 [163] 40 ?_
            (repeat' first | (refine And.intro (fun q => absurd q (by decide)) (fun _ => ?_)) | (refine And.intro (fun _ => ?_) (fun q => absurd q (by decide))) | fail)
            exact name 3 p (by omega) rfl hv.2.2.2.1
          · refine V_go pk_150 [163] 40 ?_
            (repeat' first | (refine And.intro (fun q => absurd q (by decide)) (fun _ => ?_)) | (refine And.intro (fun _ => ?_) (fun q => absurd q (by decide))) | fail)
            exact name 4 o (by omega) rfl hv.2.2.2.2.1
          · refine V_go pk_150 [163] 40 ?_
            (repeat' first | (refine And.intro (fun q => absurd q (by decide)) (fun _ => ?_)) | (refine And.intro (fun _ => ?_) (fun q => absurd q (by decide))) | fail)
            refine And.intro (by decide) (And.intro (by decide) ?_)
            have e5 : S'.1 36 0 0 / 30 - S'.1 36 0 0 / 30 / 12 * 12 = nI (dy / 30 % 12) := by rw [eday]; exact mon_N (by omega)
            exact name 5 _ (by omega) rfl (hv.2.2.2.2.2.trans e5.symm)
        · have nc := negc (k := 133) q (by decide) (by decide)
          have n2 : ¬ (134 ≤ -(c j) ∧ -(c j) ≤ 139) := by rw [q]; decide
          have ee : encM (c j) = 111 := by
            unfold encM
            rw [if_neg nc, if_neg n2, if_pos q]
          have h1 : 1 ≤ n := by
            unfold ndP at hnd
            rw [if_neg nc, if_neg n2, if_pos q] at hnd
            exact hnd
          obtain ⟨u, rfl⟩ : ∃ u, n = u + 1 := ⟨n - 1, by omega⟩
          have eu : S'.1 69 0 u = st u := hr u (by omega)
          have vu : vp_in (nI (u + 1) - 1) 200 := by rw [nI_pred]; exact vi (by omega)
          have cu : (nI (u + 1) - 1).toNatClampNeg = u := by rw [nI_pred]; exact nI_clamp (by omega)
          have e1 : stP vals (c j) (st, u + 1) = (uf st u (if st u = 0 then 1 else 0), u + 1) := by
            unfold stP
            rw [if_neg nc, if_neg n2, if_pos q]
            rfl
          have e2 : hS (c j) (u + 1) = u + 1 := by
            unfold hS
            rw [if_neg nc, if_neg n2, if_pos q]
          rw [ee]
          refine V_go pk_150 [269] 40 ?_
          (repeat' first | (refine And.intro (fun q => absurd q (by decide)) (fun _ => ?_)) | (refine And.intro (fun _ => ?_) (fun q => absurd q (by decide))) | fail)
          refine And.intro vu ?_
          refine And.intro (fun g0 => ?_) (fun g0 => ?_)
          · have g0 : ¬ S'.1 69 0 (nI (u + 1) - 1).toNatClampNeg = 0 := g0
            rw [cu, eu] at g0
            refine And.intro vu ?_
            show V (d + 1) 0 0 m_M_value 269 [some M0, some (.inl (nI T)), some (.inl (nI P)), some (.inl g), some (.inl dd), some (.inl m), some (.inl p), some (.inl o), some (.inl (nI row)), some (.inl (nI (u + 1))), some (.inl (nI (160 * row + j))), some (.inl 111)] [] (xupd S' 69 0 (nI (u + 1) - 1).toNatClampNeg 0) Q
            rw [cu]
            rw [if_neg g0] at e1
            exact nxt (u + 1) _ _ 111 e1 e2 (hf.up rfl) (rpM_push (fun i hi => hr i (by omega)))
          · have g0 : S'.1 69 0 (nI (u + 1) - 1).toNatClampNeg = 0 := g0
            rw [cu, eu] at g0
            refine And.intro vu ?_
            show V (d + 1) 0 0 m_M_value 269 [some M0, some (.inl (nI T)), some (.inl (nI P)), some (.inl g), some (.inl dd), some (.inl m), some (.inl p), some (.inl o), some (.inl (nI row)), some (.inl (nI (u + 1))), some (.inl (nI (160 * row + j))), some (.inl 111)] [] (xupd S' 69 0 (nI (u + 1) - 1).toNatClampNeg 1) Q
            rw [cu]
            rw [if_pos g0] at e1
            exact nxt (u + 1) _ _ 111 e1 e2 (hf.up rfl) (rpM_push (fun i hi => hr i (by omega)))
        · have nc := negc (k := 3) q (by decide) (by decide)
          have n2 : ¬ (134 ≤ -(c j) ∧ -(c j) ≤ 139) := by rw [q]; decide
          have n3 : ¬ -(c j) = 133 := by rw [q]; decide
          have ee : encM (c j) = 300 := by
            unfold encM
            rw [if_neg nc, if_neg n2, if_neg n3, if_pos q]
          have h1 : 1 ≤ n := by
            unfold ndP at hnd
            rw [if_neg nc, if_neg n2, if_neg n3, if_pos q] at hnd
            exact hnd
          obtain ⟨u, rfl⟩ : ∃ u, n = u + 1 := ⟨n - 1, by omega⟩
          have eu : S'.1 69 0 u = st u := hr u (by omega)
          have vu : vp_in (nI (u + 1) - 1) 200 := by rw [nI_pred]; exact vi (by omega)
          have cu : (nI (u + 1) - 1).toNatClampNeg = u := by rw [nI_pred]; exact nI_clamp (by omega)
          have e1 : stP vals (c j) (st, u + 1) = (uf st u (-(st u)), u + 1) := by
            unfold stP
            rw [if_neg nc, if_neg n2, if_neg n3, if_pos q]
            rfl
          have e2 : hS (c j) (u + 1) = u + 1 := by
            unfold hS
            rw [if_neg nc, if_neg n2, if_neg n3, if_pos q]
          rw [ee]
          refine V_go pk_150 [269] 40 ?_
          (repeat' first | (refine And.intro (fun q => absurd q (by decide)) (fun _ => ?_)) | (refine And.intro (fun _ => ?_) (fun q => absurd q (by decide))) | fail)
          refine And.intro vu ?_
          refine And.intro vu ?_
          show V (d + 1) 0 0 m_M_value 269 [some M0, some (.inl (nI T)), some (.inl (nI P)), some (.inl g), some (.inl dd), some (.inl m), some (.inl p), some (.inl o), some (.inl (nI row)), some (.inl (nI (u + 1))), some (.inl (nI (160 * row + j))), some (.inl 300)] [] (xupd S' 69 0 (nI (u + 1) - 1).toNatClampNeg (-(S'.1 69 0 (nI (u + 1) - 1).toNatClampNeg))) Q
          rw [cu, eu]
          exact nxt (u + 1) _ _ 300 e1 e2 (hf.up rfl) (rpM_push (fun i hi => hr i (by omega)))
        · have bin : ∀ k0 w0 : Int32, -(c j) = k0 → encM (c j) = w0 → ¬ 0 ≤ c j → ¬ (134 ≤ k0 ∧ k0 ≤ 139) → ¬ k0 = 133 → ¬ k0 = 3 → ((k0 = 131 ∧ w0 = 109) ∨ (k0 = 132 ∧ w0 = 110) ∨ (k0 = 60 ∧ w0 = 60) ∨ (k0 = 61 ∧ w0 = 61) ∨ (k0 = 43 ∧ w0 = 43) ∨ (k0 = 45 ∧ w0 = 45) ∨ (k0 = 42 ∧ w0 = 42)) → V (d + 1) 0 0 m_M_value 236 [some M0, some (.inl (nI T)), some (.inl (nI P)), some (.inl g), some (.inl dd), some (.inl m), some (.inl p), some (.inl o), some (.inl (nI row)), some (.inl (nI n)), some (.inl (nI (160 * row + j))), some (.inl w0)] [] S' Q := by
            intro k0 w0 hk hw0 nc n2 n3 n4 hkw
            subst hk
            have h2 : 2 ≤ n := by
              unfold ndP at hnd
              rw [if_neg nc, if_neg n2, if_neg n3, if_neg n4] at hnd
              exact hnd
            obtain ⟨u, rfl⟩ : ∃ u, n = u + 2 := ⟨n - 2, by omega⟩
            have e0 : S'.1 69 0 u = st u := hr u (by omega)
            have e9 : S'.1 69 0 (u + 1) = st (u + 1) := hr (u + 1) (by omega)
            have em : nI (u + 2) + -1 = nI (u + 1) := by rw [← Int32.sub_eq_add_neg]; exact nI_pred (u + 1)
            have vu : vp_in (nI (u + 2) + -1 - 1) 200 := by rw [em, nI_pred]; exact vi (by omega)
            have cu : (nI (u + 2) + -1 - 1).toNatClampNeg = u := by rw [em, nI_pred]; exact nI_clamp (by omega)
            have vu1 : vp_in (nI (u + 2) + -1) 200 := by rw [em]; exact vi (by omega)
            have cu1 : (nI (u + 2) + -1).toNatClampNeg = u + 1 := by rw [em]; exact nI_clamp (by omega)
            have e1 : stP vals (c j) (st, u + 2) = (uf st u (joinP (-(c j)) (st u) (st (u + 1))), u + 1) := by
              unfold stP
              rw [if_neg nc, if_neg n2, if_neg n3, if_neg n4]
              rfl
            have e2 : hS (c j) (u + 2) = u + 1 := by
              unfold hS
              rw [if_neg nc, if_neg n2, if_neg n3, if_neg n4]
              rfl
            refine V_go pk_150 [269] 40 ?_
            refine And.intro vu ?_
            refine And.intro vu1 ?_
            refine ct_joined (k := -(c j)) hkw ?_
            refine And.intro vu ?_
            show V (d + 1) 0 0 m_M_value 269 [some M0, some (.inl (nI T)), some (.inl (nI P)), some (.inl g), some (.inl dd), some (.inl m), some (.inl p), some (.inl o), some (.inl (nI row)), some (.inl (nI (u + 2) + -1)), some (.inl (nI (160 * row + j))), some (.inl w0)] [] (xupd S' 69 0 (nI (u + 2) + -1 - 1).toNatClampNeg (joinP (-(c j)) (S'.1 69 0 (nI (u + 2) + -1 - 1).toNatClampNeg) (S'.1 69 0 (nI (u + 2) + -1).toNatClampNeg))) Q
            rw [cu, cu1, e0, e9, em]
            exact nxt (u + 1) _ _ _ e1 e2 (hf.up rfl) (rpM_push (fun i hi => hr i (by omega)))
          have go : ∀ (k0 : Nat) (w0 : Int32), -(c j) = nI k0 → 1 ≤ k0 → k0 < 133 → ¬ k0 = 3 → encM (c j) = w0 → ((nI k0 = 131 ∧ w0 = 109) ∨ (nI k0 = 132 ∧ w0 = 110) ∨ (nI k0 = 60 ∧ w0 = 60) ∨ (nI k0 = 61 ∧ w0 = 61) ∨ (nI k0 = 43 ∧ w0 = 43) ∨ (nI k0 = 45 ∧ w0 = 45) ∨ (nI k0 = 42 ∧ w0 = 42)) → V (d + 1) 0 0 m_M_value 236 [some M0, some (.inl (nI T)), some (.inl (nI P)), some (.inl g), some (.inl dd), some (.inl m), some (.inl p), some (.inl o), some (.inl (nI row)), some (.inl (nI n)), some (.inl (nI (160 * row + j))), some (.inl w0)] [] S' Q := by
            intro k0 w0 hk g1 g2 g3 hw0 hkw
            refine bin (nI k0) w0 hk hw0 (negc hk g1 (by omega)) (fun g => ?_) (fun g => ?_) (fun g => ?_) hkw
            · have := (nI_leI (a := 134) (b := k0) (by decide) (by omega)).mp g.1
              omega
            · have := (nI_eq (a := k0) (b := 133) (by omega) (by decide)).mp g
              omega
            · exact g3 ((nI_eq (a := k0) (b := 3) (by omega) (by decide)).mp g)
          have encq : ∀ (k0 : Nat), -(c j) = nI k0 → 1 ≤ k0 → k0 < 133 → ¬ k0 = 3 → encM (c j) = if nI k0 = 131 then 109 else if nI k0 = 132 then 110 else nI k0 := by
            intro k0 hk g1 g2 g3
            unfold encM
            rw [if_neg (negc hk g1 (by omega)), hk, if_neg (show ¬ (134 ≤ nI k0 ∧ nI k0 ≤ 139) from fun g => by have := (nI_leI (a := 134) (b := k0) (by decide) (by omega)).mp g.1; omega), if_neg (show ¬ nI k0 = 133 from fun g => by have := (nI_eq (a := k0) (b := 133) (by omega) (by decide)).mp g; omega), if_neg (show ¬ nI k0 = 3 from fun g => g3 ((nI_eq (a := k0) (b := 3) (by omega) (by decide)).mp g))]
          rcases q with q | q | q | q | q | q | q
          · have ee : encM (c j) = 109 := encq 131 q (by decide) (by decide) (by decide)
            have fin := go 131 109 q (by decide) (by decide) (by decide) ee (by decide)
            rw [ee]
            refine V_go pk_150 [236] 40 ?_
            (repeat' first | (refine And.intro (fun q => absurd q (by decide)) (fun _ => ?_)) | (refine And.intro (fun _ => ?_) (fun q => absurd q (by decide))) | fail)
            exact fin
          · have ee : encM (c j) = 110 := encq 132 q (by decide) (by decide) (by decide)
            have fin := go 132 110 q (by decide) (by decide) (by decide) ee (by decide)
            rw [ee]
            refine V_go pk_150 [236] 40 ?_
            (repeat' first | (refine And.intro (fun q => absurd q (by decide)) (fun _ => ?_)) | (refine And.intro (fun _ => ?_) (fun q => absurd q (by decide))) | fail)
            exact fin
          · have ee : encM (c j) = 60 := encq 60 q (by decide) (by decide) (by decide)
            have fin := go 60 60 q (by decide) (by decide) (by decide) ee (by decide)
            rw [ee]
            refine V_go pk_150 [236] 40 ?_
            (repeat' first | (refine And.intro (fun q => absurd q (by decide)) (fun _ => ?_)) | (refine And.intro (fun _ => ?_) (fun q => absurd q (by decide))) | fail)
            exact fin
          · have ee : encM (c j) = 61 := encq 61 q (by decide) (by decide) (by decide)
            have fin := go 61 61 q (by decide) (by decide) (by decide) ee (by decide)
            rw [ee]
            refine V_go pk_150 [236] 40 ?_
            (repeat' first | (refine And.intro (fun q => absurd q (by decide)) (fun _ => ?_)) | (refine And.intro (fun _ => ?_) (fun q => absurd q (by decide))) | fail)
            exact fin
          · have ee : encM (c j) = 43 := encq 43 q (by decide) (by decide) (by decide)
            have fin := go 43 43 q (by decide) (by decide) (by decide) ee (by decide)
            rw [ee]
            refine V_go pk_150 [236] 40 ?_
            (repeat' first | (refine And.intro (fun q => absurd q (by decide)) (fun _ => ?_)) | (refine And.intro (fun _ => ?_) (fun q => absurd q (by decide))) | fail)
            exact fin
          · have ee : encM (c j) = 45 := encq 45 q (by decide) (by decide) (by decide)
            have fin := go 45 45 q (by decide) (by decide) (by decide) ee (by decide)
            rw [ee]
            refine V_go pk_150 [236] 40 ?_
            (repeat' first | (refine And.intro (fun q => absurd q (by decide)) (fun _ => ?_)) | (refine And.intro (fun _ => ?_) (fun q => absurd q (by decide))) | fail)
            exact fin
          · have ee : encM (c j) = 42 := encq 42 q (by decide) (by decide) (by decide)
            have fin := go 42 42 q (by decide) (by decide) (by decide) ee (by decide)
            rw [ee]
            refine V_go pk_150 [236] 40 ?_
            (repeat' first | (refine And.intro (fun q => absurd q (by decide)) (fun _ => ?_)) | (refine And.intro (fun _ => ?_) (fun q => absurd q (by decide))) | fail)
            exact fin
  refine ct_of (xmok_all (by decide)) rfl (V_go (pc := 0) pk_150 [18] 40 ?_)
  have e3 : (3 : Int32) * nI T + nI P = nI row := by rw [show (3 : Int32) = nI 3 from rfl, nI_mul, nI_add, hR]
  show V (d + 1) 0 0 m_M_value 18 [some M0, some (.inl (nI T)), some (.inl (nI P)), some (.inl g), some (.inl dd), some (.inl m), some (.inl p), some (.inl o), some (.inl (3 * nI T + nI P)), some (.inl 0), some (.inl (160 * (3 * nI T + nI P))), none] [] S Q
  rw [e3, e160]
  exact loop e 0 (by omega) S Fr.rf (fun i hi => absurd hi (Nat.not_lt_zero i)) none
