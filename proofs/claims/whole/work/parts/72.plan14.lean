/-! the model's order: finds, the call -/
theorem gsQ_1 {Q : xQ} {la : Nat} {T : xS} {p : Nat × Nat} (z : p.2 ≤ la) (h : Q (some (.inl 1)) (gsS T p)) : gsQ Q la T (some p) := by
  show Q (some (.inl (if p.2 ≤ la then 1 else 0))) (gsS T p)
  rw [if_pos z]; exact h
theorem gsQ_0 {Q : xQ} {la : Nat} {T : xS} {p : Nat × Nat} (z : ¬ p.2 ≤ la) (h : Q (some (.inl 0)) (gsS T p)) : gsQ Q la T (some p) := by
  show Q (some (.inl (if p.2 ≤ la then 1 else 0))) (gsS T p)
  rw [if_neg z]; exact h
theorem ct_finds {d P D t c n : Nat} {Dp : PlD} {S : xS} {Q : xQ} (ok : Dp.ok) (hD : D < 4) (hn : n ≤ 3) (h0 : ¬ mThere S D → Q (some (.inl 0)) S)
    (hw : mThere S D → ∀ Q2 : xQ, (∀ T, PMd Dp D P t c T → P < Dp.np → Dp.kn P = true → t ≤ 9999 → c + 80000 < 2 ^ 30 → (∀ T' L W t9 C, Fr (fl [37050, 37051, 37052, 37053, 37054, 37055]) T T' → Dp.Best P t c n L W t9 C → T'.1 36 0 51 = nI L → (1 ≤ L → T'.1 36 0 50 = nI W ∧ T'.1 36 0 52 = nI t9 ∧ T'.1 36 0 53 = nI C) → Q (some (.inl (if 1 ≤ L then 1 else 0))) T') → Q2 none T) → CT (d + 2) 0 0 m_M_takeWords [M0, .inl (nI D)] S Q2) : CT (d + 3) 0 0 m_M_finds [M0, .inl (nI D), .inl (nI n), .inl (nI Dp.la)] S Q := by
  refine ct_of (xmok_all (by decide)) rfl (V_go (pc := 0) pk_178 [15] 60 ?_)
  refine ct_isThere hD (fun p1 p2 => ?_) (fun p => ?_)
  · (repeat' first | (refine And.intro (fun q => absurd q (by decide)) (fun _ => ?_)) | (refine And.intro (fun _ => ?_) (fun q => absurd q (by decide))) | fail)
    refine hw ⟨p1, p2⟩ _ (fun T hM hP kP ht hc h => ?_)
    have loop : ∀ m k, k + m = n → ∀ T' l6, Fr (fl [37050, 37051, 37052, 37053, 37054, 37055]) T T' → IvF Dp P t c (k + 1) 0 T' → V (d + 3) 0 0 m_M_finds 26 [some M0, some (.inl (nI D)), some (.inl (nI n)), some (.inl (nI Dp.la)), some (.inl (nI (30 ^ k))), some (.inl (nI (k + 1))), l6] [] T' Q := by
      intro m
      induction m with
      | zero =>
        intro k hk T' l6 fT hI
        obtain rfl : k = n := by omega
        obtain ⟨L, W, t9, C, q1, q0, q⟩ := hI
        have best : Dp.Best P t c k L W t9 C := by
          rcases q with ⟨q2, q3⟩ | ⟨q2, q3, q4, q5, q6, q7, q8⟩
          · exact Or.inl ⟨q2, fun k2 code a1 a2 a3 => q3 k2 code (Or.inl ⟨a1, by omega, a3⟩)⟩
          · rcases q6 with ⟨z1, z2, z3⟩ | ⟨z1, z2⟩
            · exact Or.inr ⟨q2, by omega, z3, q7, fun k2 code w t2 a1 a2 a3 hr => q8 k2 code w t2 (Or.inl ⟨a1, by omega, a3⟩) hr⟩
            · omega
        have h := h T' L W t9 C fT best q1 (fun hL => by
          rcases q with ⟨q2, _⟩ | ⟨q2, q3, q4, q5, _⟩
          · omega
          · exact ⟨q3, q4, q5⟩)
        refine V_go pk_178 [26] 40 ?_
        refine And.intro (fun _ => ?_) (fun z => absurd (nI_lt (a := k) (b := k + 1) (by omega) (by omega)) z)
        refine And.intro (fun z => ?_) (fun z => ?_)
        · have z : T'.1 36 0 51 ≤ 0 := z
          rw [q1] at z
          have zz : ¬ 1 ≤ L := fun y => absurd z (nI_nle (by omega) (by omega))
          rw [if_neg zz] at h
          exact And.intro (Or.inl rfl) h
        · have z : ¬ T'.1 36 0 51 ≤ 0 := z
          rw [q1] at z
          have zz : 1 ≤ L := by
            rcases Nat.eq_zero_or_pos L with e | e
            · rw [e] at z; exact absurd (Int32.le_refl (nI 0)) z
            · exact e
          rw [if_pos zz] at h
          exact And.intro (Or.inr rfl) h
      | succ m ih =>
        intro k hk T' l6 fT hI
        have k2 : k ≤ 2 := by omega
        have p1 : 30 ^ (k + 1) ≤ 27000 := Nat.pow_le_pow_right (show 0 < 30 by decide) (show k + 1 ≤ 3 by omega)
        have ih := ih (k + 1) (by omega)
        have inner : ∀ m j, j + m = 30 ^ (k + 1) → ∀ T', Fr (fl [37050, 37051, 37052, 37053, 37054, 37055]) T T' → IvF Dp P t c (k + 1) j T' → V (d + 3) 0 0 m_M_finds 42 [some M0, some (.inl (nI D)), some (.inl (nI n)), some (.inl (nI Dp.la)), some (.inl (nI (30 ^ (k + 1)))), some (.inl (nI (k + 1))), some (.inl (nI j))] [] T' Q := by
          intro m2
          induction m2 with
          | zero =>
            intro j hj T' fT hI
            have ej : j = 30 ^ (k + 1) := by omega
            rw [ej] at hI ⊢
            have g := ih T' (some (.inl (nI (30 ^ (k + 1))))) fT (hI.next (by omega))
            rw [show nI (k + 1 + 1) = nI (k + 1) + 1 from (nI_1 _).symm] at g
            generalize 30 ^ (k + 1) = z at g ⊢
            refine V_go pk_178 [26, 42] 40 ?_
            exact And.intro (fun _ => g) (fun y => absurd (Int32.le_refl (nI z)) y)
          | succ m2 ih2 =>
            intro j hj T' fT hI
            have ih2 := ih2 (j + 1) (by omega)
            generalize 30 ^ (k + 1) = z0 at p1 hj ih2 ⊢
            have go : ∀ T2, Fr (fl [37050, 37051, 37052, 37053, 37054, 37055]) T T2 → IvF Dp P t c (k + 1) (j + 1) T2 → V (d + 3) 0 0 m_M_finds 42 [some M0, some (.inl (nI D)), some (.inl (nI n)), some (.inl (nI Dp.la)), some (.inl (nI z0)), some (.inl (nI (k + 1))), some (.inl (nI j + 1))] [] T2 Q := by
              intro T2 f2 h2
              rw [nI_1]
              exact ih2 T2 f2 h2
            refine V_go pk_178 [26, 42, 80] 60 ?_
            refine And.intro (fun y => ?_) (fun _ => ?_)
            · exact absurd ((nI_leI (by omega) (by omega)).mp (show nI z0 ≤ nI j from y)) (by omega)
            · have hM' : PMd Dp D P t c T' := hM.fr fT (by decide)
              refine ct_goes (d := d + 1) ok hM' hD hP kP ht hc (by omega) (by omega) (by omega) ok.2.2.1 ?_
              cases e : Dp.big.runP (k + 1) j P t c with
              | none =>
                (repeat' first | (refine And.intro (fun q => absurd q (by decide)) (fun _ => ?_)) | (refine And.intro (fun _ => ?_) (fun q => absurd q (by decide))) | fail)
                refine go T' fT (hI.skip ?_ rfl rfl rfl rfl)
                cases e2 : Dp.runP (k + 1) j P t c with
                | none => rfl
                | some p => rw [PlD.big_up ok.2.2.1 _ e2] at e; cases e
              | some p =>
                have fG : Fr (fl [37050, 37051, 37052, 37053, 37054, 37055]) T' (gsS T' p) := (Fr.rf.up rfl).up rfl
                by_cases z : p.2 ≤ Dp.la
                · have er : Dp.runP (k + 1) j P t c = some (p.1, p.2) := PlD.big_dn _ e z
                  have bw := PlD.run_bd ok er
                  refine gsQ_1 z ?_
                  (repeat' first | (refine And.intro (fun q => absurd q (by decide)) (fun _ => ?_)) | (refine And.intro (fun _ => ?_) (fun q => absurd q (by decide))) | fail)
                  have tk : (∀ L W : Nat, T'.1 36 0 51 = nI L → L ≤ 3 → 1 ≤ L → T'.1 36 0 50 = nI W → (∃ L2 C2 t2, Dp.runP L2 C2 P t c = some (W, t2) ∧ L2 ≤ 3) → W < p.1) → V (d + 3) 0 0 m_M_finds 80 [some M0, some (.inl (nI D)), some (.inl (nI n)), some (.inl (nI Dp.la)), some (.inl (nI z0)), some (.inl (nI (k + 1))), some (.inl (nI j))] [] (gsS T' p) Q := by
                    intro hw
                    have g54 : (gsS T' p).1 36 0 54 = nI p.1 := rfl
                    have g55 : (gsS T' p).1 36 0 55 = nI p.2 := rfl
                    generalize gsS T' p = G at fG g54 g55 ⊢
                    refine V_go pk_178 [94] 60 ?_
                    have f9 : Fr (fl [37050, 37051, 37052, 37053, 37054, 37055]) G (xupd (xupd (xupd (xupd G 36 0 50 (G.1 36 0 54)) 36 0 51 (nI (k + 1))) 36 0 52 (G.1 36 0 55)) 36 0 53 (nI j)) := (((Fr.rf.up rfl).up rfl).up rfl).up rfl
                    have X := go (xupd (xupd (xupd (xupd G 36 0 50 (G.1 36 0 54)) 36 0 51 (nI (k + 1))) 36 0 52 (G.1 36 0 55)) 36 0 53 (nI j)) ((fT.tr fG).tr f9) (hI.take (Nat.succ_le_succ (Nat.zero_le k)) (Nat.succ_le_succ k2) er hw g54 rfl g55 rfl)
                    show V (d + 3) 0 0 m_M_finds 94 [some M0, some (.inl (nI D)), some (.inl (nI n)), some (.inl (nI Dp.la)), some (.inl (nI z0)), some (.inl (nI (k + 1))), some (.inl (nI j))] [] (xupd (xupd G 36 0 50 (G.1 36 0 54)) 36 0 51 (nI (k + 1))) Q
                    refine V_go pk_178 [42] 60 ?_
                    exact X
                  refine And.intro (fun y => ?_) (fun y => ?_)
                  · have y : T'.1 36 0 51 = 0 := y
                    refine tk (fun L W h1 h2 h3 _ _ => ?_)
                    rw [h1] at y
                    exact absurd y (nI_ne0 (by omega) (by omega))
                  · have y : ¬ T'.1 36 0 51 = 0 := y
                    refine And.intro (fun x => ?_) (fun x => ?_)
                    · have x : nI p.1 ≤ T'.1 36 0 50 := x
                      refine go _ (fT.tr fG) ?_
                      obtain ⟨L, W, t9, C, q1, q0, q⟩ := hI
                      rcases q with ⟨q2, _⟩ | q
                      · rw [q1, q2] at y; exact absurd rfl y
                      · have bW := PlD.run_bd ok q.2.2.2.2.2.1
                        rw [q.2.1] at x
                        exact IvF.keep q1 q0 q er ((nI_leI (by omega) (by omega)).mp x) rfl rfl rfl rfl
                    · have x : ¬ nI p.1 ≤ T'.1 36 0 50 := x
                      refine tk (fun L W h1 h2 h3 h4 ⟨L2, C2, t2, h5, h6⟩ => ?_)
                      have bW := PlD.run_bd ok h5
                      rw [h4] at x
                      exact Nat.not_le.mp (fun g => x ((nI_leI (by omega) (by omega)).mpr g))
                · refine gsQ_0 z ?_
                  (repeat' first | (refine And.intro (fun q => absurd q (by decide)) (fun _ => ?_)) | (refine And.intro (fun _ => ?_) (fun q => absurd q (by decide))) | fail)
                  refine go _ (fT.tr fG) (hI.skip ?_ rfl rfl rfl rfl)
                  cases e2 : Dp.runP (k + 1) j P t c with
                  | none => rfl
                  | some p2 =>
                    have := PlD.big_up ok.2.2.1 _ e2
                    rw [e] at this
                    cases this
                    exact absurd (PlD.run_la k e2) z
        refine V_go pk_178 [26, 42] 60 ?_
        refine And.intro (fun y => ?_) (fun _ => ?_)
        · exact absurd ((nI_ltI (by omega) (by omega)).mp (show nI n < nI (k + 1) from y)) (by omega)
        · show V (d + 3) 0 0 m_M_finds 42 [some M0, some (.inl (nI D)), some (.inl (nI n)), some (.inl (nI Dp.la)), some (.inl (nI (30 ^ k) * nI 30)), some (.inl (nI (k + 1))), some (.inl (nI 0))] [] T' Q
          rw [nI_mul]
          exact inner (30 ^ (k + 1)) 0 (Nat.zero_add _) T' fT hI
    refine V_go pk_178 [26] 60 ?_
    refine loop n 0 (by omega) (xupd T 36 0 51 0) none (Fr.rf.up rfl) ⟨0, 0, 0, 0, rfl, by omega, Or.inl ⟨rfl, fun k2 code hs => ?_⟩⟩
    rcases hs with ⟨h1, h2, _⟩ | ⟨_, h2⟩
    · omega
    · omega
  · (repeat' first | (refine And.intro (fun q => absurd q (by decide)) (fun _ => ?_)) | (refine And.intro (fun _ => ?_) (fun q => absurd q (by decide))) | fail)
    exact And.intro (Or.inl rfl) (h0 p)
