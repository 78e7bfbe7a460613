/-! leg -/
def lvW (U : xS) (P D q : Nat) : Int32 := if U.1 9 (D + 6) q < U.1 9 P q then U.1 9 P q else U.1 9 (D + 6) q
def lvP (U : xS) (P D j : Nat) : Int32 := if U.1 9 (D + 6) (j / 4) < U.1 9 P (j / 4) then U.1 10 P j else U.1 10 (D + 6) j
/-- what the class's planner would have learnt -/
def lnV (U : xS) (P D : Nat) (t la : Int32) : xS := (fun k i j => if k = 9 ∧ i = 10 then lvW U P D j else if k = 10 ∧ i = 10 then lvP U P D j else if k = 31 ∧ 4 ≤ j ∧ j ≤ 8 then (if j = 4 then nI P else if j = 5 then t else if j = 6 then U.1 12 D 4 + U.1 13 D 0 * lvP U P D (4 * P + 0) + U.1 13 D 1 * lvP U P D (4 * P + 1) + U.1 13 D 2 * lvP U P D (4 * P + 2) + U.1 13 D 3 * lvP U P D (4 * P + 3) else if j = 7 then U.1 12 D 3 else la) else U.1 k i j, U.2)
theorem lnV_R (U : xS) (P D : Nat) (t la : Int32) : lnR U (lnV U P D t la) P D t la := by
  refine ⟨fun k i j h1 h2 => ?_, rfl, ⟨rfl, rfl, rfl, rfl⟩, rfl, fun q hq => rfl, fun q hq hn g hg => ?_⟩
  · exact (if_neg (fun q => h1 ⟨Or.inl q.1, q.2⟩)).trans ((if_neg (fun q => h1 ⟨Or.inr q.1, q.2⟩)).trans (if_neg h2))
  · show lvP U P D (4 * q + g) = _
    unfold lvP
    rw [show (4 * q + g) / 4 = q by omega]
theorem ct_finds_alone {d n0 np nd nv nt r t D la n : Nat} {S : xS} {Q : xQ} (hn0 : n0 ≤ 600) (hN : IN np nd nv nt r t S) (hA : IA n0 S) (hB : IB n0 np nd t S) (hC : IC np t S) (hD : D < nd) (hn : n ≤ 3) (hla : la ≤ 9999) (h0 : ¬ cThere S D → Q (some (.inl 0)) S) (h : ∀ S2 L, L ≤ 3 → IC np t S2 → Fr (fl fPl) S S2 → S2.1 36 0 51 = nI L → Q (some (.inl (if 1 ≤ L then 1 else 0))) S2) : CT (d + 3) 0 0 m_M_finds [M0, .inl (nI D), .inl (nI n), .inl (nI la)] S Q := by
  obtain ⟨⟨b1, b2, b3, b4, b5, b6⟩, ⟨e1, e2⟩, -⟩ := id hN
  have hb := (hB D (by omega)).1 hD
  by_cases th : cThere S D
  · obtain ⟨P, hP, eP, e43⟩ : ∃ p, p < np ∧ S.1 12 D 0 = nI p ∧ S.1 43 0 D = nI p := by
      rcases hb.2.1 with q | q
      · exact q.2
      · exact absurd q.2.1 th.1
    have fU := ntC_fr S P (nI t)
    have hl := lnV_R (ntC S P (nI t)) P D (nI t) (nI la)
    generalize lnV (ntC S P (nI t)) P D (nI t) (nI la) = S1 at hl
    have kf : Fr (fl [51, 52]) S (knM S P) := ((((Fr.rf.up rfl).up rfl).up rfl).up rfl).up rfl
    have hth : mThere S D := (there_eq hb b1).mpr th
    have hok : (plD S1).ok ∧ (plD S1).la = la ∧ ∃ c, S1.1 31 0 6 = nI c ∧ c + 80000 < 2 ^ 30 := by
      obtain ⟨_, _, _, ⟨h, G, ⟨hh1, hh9⟩, hh, hG, hG9⟩, ⟨A, hA9, eA⟩, _⟩ := hb
      obtain ⟨hPC, enp, epr, eP1, ekP⟩ := pc_ok hA (IC.note hA hn0 hC hP b1) b1 e1 fU hP (by omega) b6 hh hh9 hla (by rw [ntC_9, if_pos rfl]; exact if_pos rfl) hl
      refine ⟨hPC.ok, ?_, ?_⟩
      · show (S1.1 31 0 8).toNatClampNeg = la
        rw [hl.2.2.1.2.2.2]; exact nI_clamp (by omega)
      · obtain ⟨q0, x0, y0, z0⟩ := epr P (by omega) ekP 0 (by decide)
        obtain ⟨q1, x1, y1, z1⟩ := epr P (by omega) ekP 1 (by decide)
        obtain ⟨q2, x2, y2, z2⟩ := epr P (by omega) ekP 2 (by decide)
        obtain ⟨q3, x3, y3, z3⟩ := epr P (by omega) ekP 3 (by decide)
        obtain ⟨c, hc, ec⟩ := goods_N (A := A) hG9 hh9 x0 x1 x2 x3
        refine ⟨c, ?_, by omega⟩
        rw [hl.2.2.2.1, y0, y1, y2, y3, fU.1 12 D 4 rfl, fU.1 13 D 0 rfl, fU.1 13 D 1 rfl, fU.1 13 D 2 rfl, fU.1 13 D 3 rfl, (hG 0 (by decide)).1, (hG 1 (by decide)).1, (hG 2 (by decide)).1, (hG 3 (by decide)).1, eA]
        exact ec
    obtain ⟨ok, ela, c, hc, hc9⟩ := hok
    have key := ct_finds (d := d) (P := P) (D := D) (t := t) (c := c) (n := n) (Dp := plD S1) (S := S) (Q := Q) ok (by omega) hn (fun q => absurd hth q) (fun _ Q2 hQ2 => by
      refine ct_takeWords (P := P) (np := np) (by omega) (by omega) b1 e2 e43 (fun T fT hT => ?_)
      obtain ⟨m1, m2, m3, m4, m5⟩ := pm_ok (S' := S) hn0 hN hA hB hC hD hP hla th eP hl hc (fun _ _ _ _ _ => rfl) fT hT
      refine hQ2 T m1 m3 m4 b6 hc9 (fun T' L2 W2 t92 C2 f2 best2 q51 q50 => ?_)
      have fT' : Fr (fl [51, 52, 70, 71, 37050, 37051, 37052, 37053, 37054, 37055]) S T' := (kf.wk (by decide)).tr ((fT.wk (by decide)).tr (f2.wk (by decide)))
      refine h T' L2 ?_ ?_ (fT'.wk (by decide)) q51
      · rcases best2 with ⟨z, _⟩ | ⟨_, z, _⟩ <;> omega
      · refine IC.plan (P := P) (U := S) hC (by omega) (fun a q ha => fT'.1 9 a q rfl) (fun a q ha => fT'.1 10 a q rfl) (fun w hw => ?_) (fun w g hw hg => ?_)
        · have : T'.1 51 0 w = (knM S P).1 51 0 w := ((fT.wk (l' := [70, 71, 37050, 37051, 37052, 37053, 37054, 37055]) (by decide)).tr (f2.wk (by decide))).1 51 0 w rfl
          rw [this, knM_51, if_neg hw]
        · have : T'.1 52 0 (4 * w + g) = (knM S P).1 52 0 (4 * w + g) := ((fT.wk (l' := [70, 71, 37050, 37051, 37052, 37053, 37054, 37055]) (by decide)).tr (f2.wk (by decide))).1 52 0 _ rfl
          rw [this, knM_52 _ _ _ _ hg, if_neg hw])
    rw [ela] at key
    exact key
  · exact ct_finds_no (by omega) (fun g => th ((there_eq hb b1).mp g)) (h0 th)
