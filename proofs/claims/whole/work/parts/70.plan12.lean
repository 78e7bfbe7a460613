/-! the model's order: takeWords -/
def bwM (U : xS) (P D q : Nat) : Nat := if U.1 51 0 (36 + 6 * D + q) < U.1 51 0 (6 * P + q) then 6 * P + q else 36 + 6 * D + q
theorem ix6 {b a q N : Nat} (h : b + 6 * a + q < N) (hN : N < 2 ^ 31 := by decide) : nI b + (6 : Int32) * nI a + nI q = nI (b + 6 * a + q) ∧ vp_in (nI (b + 6 * a + q)) N ∧ (nI (b + 6 * a + q)).toNatClampNeg = b + 6 * a + q := by
  refine ⟨by rw [show (6 : Int32) = nI 6 from rfl, nI_mul, nI_add, nI_add], vi h hN, nI_clamp (by omega)⟩
theorem ct_takeWords {d P D np : Nat} {S : xS} {Q : xQ} (hP : P < 6) (hD : D < 4) (hnp : np ≤ 6) (e1 : S.1 36 0 1 = nI np) (ep : S.1 43 0 D = nI P) (h : ∀ T, Fr (fl [70, 71]) (knM S P) T → (∀ q, q < np → T.1 70 0 q = (if (knM S P).1 51 0 (bwM (knM S P) P D q) < 0 then (0 : Int32) else 1) ∧ ∀ g, g < 4 → T.1 71 0 (4 * q + g) = (knM S P).1 52 0 (4 * bwM (knM S P) P D q + g)) → Q none T) : CT (d + 2) 0 0 m_M_takeWords [M0, .inl (nI D)] S Q := by
  have eD : (nI D).toNatClampNeg = D := nI_clamp (by omega)
  have vD : vp_in (nI D) 4 := vi hD
  have kp : Fr (fl [51, 52]) S (knM S P) := ((((Fr.rf.up rfl).up rfl).up rfl).up rfl).up rfl
  have n1 : (knM S P).1 36 0 1 = nI np := (kp.1 36 0 1 rfl).trans e1
  have np' : (knM S P).1 43 0 D = nI P := (kp.1 43 0 D rfl).trans ep
  refine ct_of (xmok_all (by decide)) rfl (V_go (pc := 0) pk_179 [10] 40 ?_)
  refine And.intro vD ?_
  rw [eD, ep]
  refine ct_know (d := d) hP rfl ?_
  generalize knM S P = U at h n1 np' ⊢
  have loop : ∀ m q, q + m = np → ∀ T l3 l4 l5 l6, Fr (fl [70, 71]) U T → (∀ q2, q2 < q → T.1 70 0 q2 = (if U.1 51 0 (bwM U P D q2) < 0 then (0 : Int32) else 1) ∧ ∀ g, g < 4 → T.1 71 0 (4 * q2 + g) = U.1 52 0 (4 * bwM U P D q2 + g)) → V (d + 2) 0 0 m_M_takeWords 12 [some M0, some (.inl (nI D)), some (.inl (nI q)), l3, l4, l5, l6] [] T Q := by
    intro m
    induction m with
    | zero =>
      intro q hq T l3 l4 l5 l6 fT hT
      obtain rfl : q = np := by omega
      refine V_go pk_179 [12] 40 ?_
      refine And.intro (fun _ => h T fT hT) (fun z => absurd ?_ z)
      show T.1 36 0 1 ≤ nI q
      rw [fT.1 36 0 1 rfl, n1]; exact Int32.le_refl _
    | succ m ih =>
      intro q hq T l3 l4 l5 l6 fT hT
      have eq : (nI q).toNatClampNeg = q := nI_clamp (by omega)
      have hB : bwM U P D q < 60 := by unfold bwM; split <;> omega
      have ih := ih (q + 1) (by omega)
      rw [← nI_1] at ih
      obtain ⟨x1, x2, x3⟩ := ix6 (b := 36) (a := D) (q := q) (N := 60) (by omega)
      obtain ⟨y1, y2, y3⟩ := ixk (k := 6) (a := P) (g := q) (N := 60) (by omega)
      have inner : ∀ m g, g + m = 4 → ∀ T2 l3 l4, Fr (fl [70, 71]) U T2 → (∀ q2, q2 < q → T2.1 70 0 q2 = (if U.1 51 0 (bwM U P D q2) < 0 then (0 : Int32) else 1) ∧ ∀ g, g < 4 → T2.1 71 0 (4 * q2 + g) = U.1 52 0 (4 * bwM U P D q2 + g)) → T2.1 70 0 q = (if U.1 51 0 (bwM U P D q) < 0 then (0 : Int32) else 1) → (∀ g2, g2 < g → T2.1 71 0 (4 * q + g2) = U.1 52 0 (4 * bwM U P D q + g2)) → V (d + 2) 0 0 m_M_takeWords 91 [some M0, some (.inl (nI D)), some (.inl (nI q)), l3, l4, some (.inl (nI (bwM U P D q))), some (.inl (nI g))] [] T2 Q := by
        intro m2
        induction m2 with
        | zero =>
          intro g hg T2 l3 l4 f2 h1 h2 h3
          obtain rfl : g = 4 := by omega
          refine V_go pk_179 [12, 91] 40 ?_
          refine And.intro (fun _ => ?_) (fun z => absurd (Int32.le_refl (nI 4)) z)
          refine ih T2 _ _ _ _ f2 (fun q2 hq2 => ?_)
          by_cases e : q2 = q
          · subst e; exact ⟨h2, h3⟩
          · exact h1 q2 (by omega)
        | succ m2 ih2 =>
          intro g hg T2 l3 l4 f2 h1 h2 h3
          have ih2 := ih2 (g + 1) (by omega)
          rw [← nI_1] at ih2
          obtain ⟨u1, u2, u3⟩ := ix4 (a := q) (g := g) (N := 24) (by omega)
          obtain ⟨w1, w2, w3⟩ := ix4 (a := bwM U P D q) (g := g) (N := 240) (by omega)
          refine V_go pk_179 [12, 91] 40 ?_
          refine And.intro (fun z => ?_) (fun _ => ?_)
          · exact absurd ((nI_leI (by omega) (by omega)).mp (show nI 4 ≤ nI g from z)) (by omega)
          · refine And.intro w2 ?_
            refine And.intro u2 ?_
            rw [u3, w3, f2.1 52 0 _ rfl]
            refine ih2 _ _ _ (f2.up rfl) (fun q2 hq2 => ?_) h2 (fun g2 hg2 => ?_)
            · refine ⟨(h1 q2 hq2).1, fun g3 hg3 => ?_⟩
              refine (if_neg (fun z => ?_)).trans ((h1 q2 hq2).2 g3 hg3)
              have := z.2.1
              omega
            · by_cases e : g2 = g
              · subst e; exact if_pos ⟨rfl, rfl, rfl⟩
              · refine (if_neg (fun z => ?_)).trans (h3 g2 (by omega))
                have := z.2.1
                omega
      have at67 : ∀ l3 l4 l6, V (d + 2) 0 0 m_M_takeWords 67 [some M0, some (.inl (nI D)), some (.inl (nI q)), l3, l4, some (.inl (nI (bwM U P D q))), l6] [] T Q := by
        intro l3 l4 l6
        refine V_go pk_179 [91] 60 ?_
        refine And.intro (vi (N := 60) hB) ?_
        rw [nI_clamp (show bwM U P D q < 2 ^ 31 by omega)]
        have go : ∀ x : Int32, x = (if U.1 51 0 (bwM U P D q) < 0 then (0 : Int32) else 1) → V (d + 2) 0 0 m_M_takeWords 91 [some M0, some (.inl (nI D)), some (.inl (nI q)), l3, l4, some (.inl (nI (bwM U P D q))), some (.inl (nI 0))] [] (xupd T 70 0 q x) Q := by
          intro x hx
          refine inner 4 0 (by omega) _ _ _ (fT.up rfl) (fun q2 hq2 => ⟨(if_neg (fun z => by have := z.2.1; omega)).trans (hT q2 hq2).1, (hT q2 hq2).2⟩) ((if_pos ⟨rfl, rfl, rfl⟩).trans hx) (fun g2 h => absurd h (Nat.not_lt_zero _))
        refine And.intro (fun z => ?_) (fun z => ?_)
        · have z : T.1 51 0 (bwM U P D q) < 0 := z
          rw [fT.1 51 0 _ rfl] at z
          refine And.intro (vi (N := 6) (by omega)) ?_
          rw [eq]
          exact go 0 (if_pos z).symm
        · have z : ¬ T.1 51 0 (bwM U P D q) < 0 := z
          rw [fT.1 51 0 _ rfl] at z
          refine And.intro (vi (N := 6) (by omega)) ?_
          rw [eq]
          exact go 1 (if_neg z).symm
      refine V_go pk_179 [12, 67] 60 ?_
      refine And.intro (fun z => ?_) (fun _ => ?_)
      · have z : T.1 36 0 1 ≤ nI q := z
        rw [fT.1 36 0 1 rfl, n1] at z
        exact absurd ((nI_leI (by omega) (by omega)).mp z) (by omega)
      · refine And.intro vD ?_
        rw [eD, fT.1 43 0 D rfl, np']
        refine And.intro y2 ?_
        refine And.intro (show vp_in (nI 36 + 6 * nI D + nI q) 60 by rw [x1]; exact x2) ?_
        have z1 : T.1 51 0 (nI 6 * nI P + nI q).toNatClampNeg = U.1 51 0 (6 * P + q) := by rw [y3, fT.1 51 0 _ rfl]
        have z2 : T.1 51 0 (nI 36 + 6 * nI D + nI q).toNatClampNeg = U.1 51 0 (36 + 6 * D + q) := by rw [x1, x3, fT.1 51 0 _ rfl]
        refine And.intro (fun z => ?_) (fun z => ?_)
        · have z : T.1 51 0 (nI 6 * nI P + nI q).toNatClampNeg ≤ T.1 51 0 (nI 36 + 6 * nI D + nI q).toNatClampNeg := z
          rw [z1, z2] at z
          have e : bwM U P D q = 36 + 6 * D + q := if_neg (Int32.not_lt.mpr z)
          rw [e] at at67
          show V (d + 2) 0 0 m_M_takeWords 67 [some M0, some (.inl (nI D)), some (.inl (nI q)), _, _, some (.inl (nI 36 + 6 * nI D + nI q)), l6] [] T Q
          rw [x1]
          exact at67 _ _ _
        · have z : ¬ T.1 51 0 (nI 6 * nI P + nI q).toNatClampNeg ≤ T.1 51 0 (nI 36 + 6 * nI D + nI q).toNatClampNeg := z
          rw [z1, z2] at z
          have e : bwM U P D q = 6 * P + q := if_pos (Int32.not_le.mp z)
          rw [e] at at67
          show V (d + 2) 0 0 m_M_takeWords 67 [some M0, some (.inl (nI D)), some (.inl (nI q)), _, _, some (.inl (nI 6 * nI P + nI q)), l6] [] T Q
          rw [y1]
          exact at67 _ _ _
  refine V_go pk_179 [12] 40 ?_
  exact loop np 0 (by omega) U none none none none Fr.rf (fun q h => absurd h (Nat.not_lt_zero _))
