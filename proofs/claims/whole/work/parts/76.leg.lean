/-! leg -/
def lvW (U : xS) (P D q : Nat) : Int32 := if U.1 9 (D + 6) q < U.1 9 P q then U.1 9 P q else U.1 9 (D + 6) q
def lvP (U : xS) (P D j : Nat) : Int32 := if U.1 9 (D + 6) (j / 4) < U.1 9 P (j / 4) then U.1 10 P j else U.1 10 (D + 6) j
/-- what the class's planner would have learnt -/
def lnV (U : xS) (P D : Nat) (t la : Int32) : xS := (fun k i j => if k = 9 ∧ i = 10 then lvW U P D j else if k = 10 ∧ i = 10 then lvP U P D j else if k = 31 ∧ 4 ≤ j ∧ j ≤ 8 then (if j = 4 then nI P else if j = 5 then t else if j = 6 then U.1 12 D 4 + U.1 13 D 0 * lvP U P D (4 * P + 0) + U.1 13 D 1 * lvP U P D (4 * P + 1) + U.1 13 D 2 * lvP U P D (4 * P + 2) + U.1 13 D 3 * lvP U P D (4 * P + 3) else if j = 7 then U.1 12 D 3 else la) else U.1 k i j, U.2)
theorem lnV_R (U : xS) (P D : Nat) (t la : Int32) : lnR U (lnV U P D t la) P D t la := by
  refine ⟨fun k i j h1 h2 => ?_, rfl, ⟨rfl, rfl, rfl, rfl⟩, rfl, fun q hq => rfl, fun q hq hn g hg => ?_⟩
  · exact (if_neg (fun q => h1 ⟨Or.inl q.1, q.2⟩)).trans ((if_neg (fun q => h1 ⟨Or.inr q.1, q.2⟩)).trans (if_neg h2))
  · show lvP U P D (4 * q + g) = _
    unfold lvP
    rw [show (4 * q + g) / 4 = q by omega]
theorem ct_finds_alone {d n0 np nd nv nt r t D la n : Nat} {S : xS} {Q : xQ} (hn0 : n0 ≤ 600) (hN : IN np nd nv nt r t S) (hA : IA n0 S) (hB : IB n0 np nd t S) (hC : IC np t S) (hD : D < nd) (hn : n ≤ 3) (hla : la ≤ 9999) (h0 : ¬ cThere S D → Q (some (.inl 0)) S) (h : ∀ S2 L, L ≤ 3 → IC np t S2 → Fr (fl fPl) S S2 → S2.1 36 0 51 = nI L → Q (some (.inl (if 1 ≤ L then 1 else 0))) S2) : CT (d + 3) 0 0 m_M_finds [M0, .inl (nI D), .inl (nI n), .inl (nI la)] S Q := by
  obtain ⟨⟨b1, b2, b3, b4, b5, b6⟩, ⟨e1, e2⟩, -⟩ := id hN
  have hb := (hB D (by omega)).1 hD
  by_cases th : cThere S D
  · obtain ⟨P, hP, eP, e43⟩ : ∃ p, p < np ∧ S.1 12 D 0 = nI p ∧ S.1 43 0 D = nI p := by
      rcases hb.2.1 with q | q
      · exact q.2
      · exact absurd q.2.1 th.1
    have fU := ntC_fr S P (nI t)
    have hl := lnV_R (ntC S P (nI t)) P D (nI t) (nI la)
    generalize lnV (ntC S P (nI t)) P D (nI t) (nI la) = S1 at hl
    have kf : Fr (fl [51, 52]) S (knM S P) := ((((Fr.rf.up rfl).up rfl).up rfl).up rfl).up rfl
    have hth : mThere S D := (there_eq hb b1).mpr th
    have hok : (plD S1).ok ∧ (plD S1).la = la ∧ ∃ c, S1.1 31 0 6 = nI c ∧ c + 80000 < 2 ^ 30 := by
      obtain ⟨_, _, _, ⟨h, G, ⟨hh1, hh9⟩, hh, hG, hG9⟩, ⟨A, hA9, eA⟩, _⟩ := hb
      obtain ⟨hPC, enp, epr, eP1, ekP⟩ := pc_ok hA (IC.note hA hn0 hC hP b1) b1 e1 fU hP (by omega) b6 hh hh9 hla (by rw [ntC_9, if_pos rfl]; exact if_pos rfl) hl
      refine ⟨hPC.ok, ?_, ?_⟩
      · show (S1.1 31 0 8).toNatClampNeg = la
        rw [hl.2.2.1.2.2.2]; exact nI_clamp (by omega)
      · obtain ⟨q0, x0, y0, z0⟩ := epr P (by omega) ekP 0 (by decide)
        obtain ⟨q1, x1, y1, z1⟩ := epr P (by omega) ekP 1 (by decide)
        obtain ⟨q2, x2, y2, z2⟩ := epr P (by omega) ekP 2 (by decide)
        obtain ⟨q3, x3, y3, z3⟩ := epr P (by omega) ekP 3 (by decide)
        obtain ⟨c, hc, ec⟩ := goods_N (A := A) hG9 hh9 x0 x1 x2 x3
        refine ⟨c, ?_, by omega⟩
        rw [hl.2.2.2.1, y0, y1, y2, y3, fU.1 12 D 4 rfl, fU.1 13 D 0 rfl, fU.1 13 D 1 rfl, fU.1 13 D 2 rfl, fU.1 13 D 3 rfl, (hG 0 (by decide)).1, (hG 1 (by decide)).1, (hG 2 (by decide)).1, (hG 3 (by decide)).1, eA]
        exact ec
    obtain ⟨ok, ela, c, hc, hc9⟩ := hok
    have key := ct_finds (d := d) (P := P) (D := D) (t := t) (c := c) (n := n) (Dp := plD S1) (S := S) (Q := Q) ok (by omega) hn (fun q => absurd hth q) (fun _ Q2 hQ2 => by
      refine ct_takeWords (P := P) (np := np) (by omega) (by omega) b1 e2 e43 (fun T fT hT => ?_)
      obtain ⟨m1, m2, m3, m4, m5⟩ := pm_ok (S' := S) hn0 hN hA hB hC hD hP hla th eP hl hc (fun _ _ _ _ _ => rfl) fT hT
      refine hQ2 T m1 m3 m4 b6 hc9 (fun T' L2 W2 t92 C2 f2 best2 q51 q50 => ?_)
      have fT' : Fr (fl [51, 52, 70, 71, 37050, 37051, 37052, 37053, 37054, 37055]) S T' := (kf.wk (by decide)).tr ((fT.wk (by decide)).tr (f2.wk (by decide)))
      refine h T' L2 ?_ ?_ (fT'.wk (by decide)) q51
      · rcases best2 with ⟨z, _⟩ | ⟨_, z, _⟩ <;> omega
      · refine IC.plan (P := P) (U := S) hC (by omega) (fun a q ha => fT'.1 9 a q rfl) (fun a q ha => fT'.1 10 a q rfl) (fun w hw => ?_) (fun w g hw hg => ?_)
        · have : T'.1 51 0 w = (knM S P).1 51 0 w := ((fT.wk (l' := [70, 71, 37050, 37051, 37052, 37053, 37054, 37055]) (by decide)).tr (f2.wk (by decide))).1 51 0 w rfl
          rw [this, knM_51, if_neg hw]
        · have : T'.1 52 0 (4 * w + g) = (knM S P).1 52 0 (4 * w + g) := ((fT.wk (l' := [70, 71, 37050, 37051, 37052, 37053, 37054, 37055]) (by decide)).tr (f2.wk (by decide))).1 52 0 _ rfl
          rw [this, knM_52 _ _ _ _ hg, if_neg hw])
    rw [ela] at key
    exact key
  · exact ct_finds_no (by omega) (fun g => th ((there_eq hb b1).mp g)) (h0 th)
def lgA (L C I : Nat) : Int32 := 10 * nI (C / 30 ^ (L - 1 - I) % 30 / 6) + nI (C / 30 ^ (L - 1 - I) % 30 % 6)
theorem cm_leg {dp n0 np nd nv nt r t : Nat} {S : xS} (hn0 : n0 ≤ 600) (hN : IN np nd nv nt r t S) (hA : IA n0 S) (hB : IB n0 np nd t S) (hC : IC np t S) {x n la w : Int32} : CT (dp + 10) 0 0 m_C_leg [C0, .inl x, .inl n, .inl la, .inl w] S (fun a S1 => CT (dp + 10) 0 0 m_M_leg [M0, .inl x, .inl n, .inl la, .inl w] S1 (fun a' S2 => a' = a ∧ IC np t S2 ∧ Fr (fl fPl) S S2)) := by
  obtain ⟨⟨b1, b2, b3, b4, b5, b6⟩, ⟨e1, e2⟩, ⟨e3, e4⟩, -⟩ := id hN
  have keep : IC np t S ∧ Fr (fl fPl) S S := ⟨hC, Fr.rf⟩
  have mm : ∀ {S' : xS} {Q : xQ}, S'.1 36 0 8 = nI nd → (¬ okP nd x n la → Q (some (.inl (-2))) S') → (okP nd x n la → w < 0 → Q (some (.inl (-1))) S') → (okP nd x n la → ¬ w < 0 → CT (dp + 9) 0 0 m_M_finds [M0, .inl x, .inl n, .inl la] S' (fun a S2 => (a = some (.inl 0) ∧ Q (some (.inl (-1))) S2) ∨ (a = some (.inl 1) ∧ ∃ L C : Nat, S2.1 36 0 51 = nI L ∧ L ≤ 3 ∧ (nI L ≤ w → Q (some (.inl (-1))) S2) ∧ ∀ I, w = nI I → I < L → S2.1 36 0 53 = nI C ∧ C < 27000 ∧ Q (some (.inl (lgA L C I))) S2))) → CT (dp + 10) 0 0 m_M_leg [M0, .inl x, .inl n, .inl la, .inl w] S' Q := by
    intro S' Q h8 q1 q2 q3
    refine ct_of (xmok_all (by decide)) rfl (V_go (pc := 0) pk_181 [45] 60 ?_)
    refine ct_mayOrder (d := dp + 7) h8 b2 (fun ok => ?_) (fun q => ?_)
    · (repeat' first | (refine And.intro (fun q => absurd q (by decide)) (fun _ => ?_)) | (refine And.intro (fun _ => ?_) (fun q => absurd q (by decide))) | fail)
      refine And.intro (fun z => q2 ok z) (fun z => ?_)
      refine (q3 ok z).mono (fun a S2 hq => ?_)
      rcases hq with ⟨rfl, hq⟩ | ⟨rfl, L, C, h51, hL, hn, hk⟩
      · (repeat' first | (refine And.intro (fun q => absurd q (by decide)) (fun _ => ?_)) | (refine And.intro (fun _ => ?_) (fun q => absurd q (by decide))) | fail)
        exact hq
      · (repeat' first | (refine And.intro (fun q => absurd q (by decide)) (fun _ => ?_)) | (refine And.intro (fun _ => ?_) (fun q => absurd q (by decide))) | fail)
        refine And.intro (fun y => ?_) (fun y => ?_)
        · have y : w < S2.1 36 0 51 := y
          rw [h51] at y
          obtain ⟨I, hI, e⟩ := nI_of2 (M := nI L) (n := L) (nI_toInt (by omega)) z (Int32.le_of_lt y)
          subst e
          have IL : I < L := (nI_ltI (by omega) (by omega)).mp y
          obtain ⟨h53, hC9, hq⟩ := hk I rfl IL
          show V (dp + 10) 0 0 m_M_leg 45 [some M0, some (.inl x), some (.inl n), some (.inl la), some (.inl (nI I)), some (.inl (S2.1 36 0 53)), none] [] S2 Q
          rw [h53]
          have loop : ∀ m j, I + 1 + j + m = L → V (dp + 10) 0 0 m_M_leg 51 [some M0, some (.inl x), some (.inl n), some (.inl la), some (.inl (nI I)), some (.inl (nI (C / 30 ^ j))), some (.inl (nI (I + 1 + j)))] [] S2 Q := by
            intro m
            induction m with
            | zero =>
              intro j hj
              have ej : L - 1 - I = j := by omega
              unfold lgA at hq
              rw [ej] at hq
              have hcz : C / 30 ^ j < 2 ^ 31 := Nat.lt_of_le_of_lt (Nat.div_le_self _ _) (by omega)
              generalize C / 30 ^ j = z at hq hcz ⊢
              have g1 : (nI z - nI z / 30 * 30) / 6 = nI (z % 30 / 6) := by rw [show (30 : Int32) = nI 30 from rfl, rem_N hcz (by decide) (by decide), show (6 : Int32) = nI 6 from rfl, nI_div (by omega) (by decide) (by decide)]
              have g2 : nI z - nI z / 6 * 6 = nI (z % 30 % 6) := by
                rw [show (6 : Int32) = nI 6 from rfl, rem_N hcz (by decide) (by decide)]
                congr 1; omega
              refine V_go pk_181 [51] 60 ?_
              refine And.intro (fun _ => ?_) (fun k => absurd ?_ k)
              · refine And.intro (by decide) ?_
                refine And.intro (by decide) ?_
                refine And.intro (by decide) ?_
                refine qi hq ?_ rfl
                show 10 * ((nI z - nI z / 30 * 30) / 6) + (nI z - nI z / 6 * 6) = _
                rw [g1, g2]
              · show S2.1 36 0 51 ≤ nI (I + 1 + j)
                rw [h51]; exact nI_le (by omega) (by omega)
            | succ m ih =>
              intro j hj
              have ih := ih (j + 1) (by omega)
              have hcz : C / 30 ^ j < 2 ^ 31 := Nat.lt_of_le_of_lt (Nat.div_le_self _ _) (by omega)
              have ez : nI (C / 30 ^ j) / 30 = nI (C / 30 ^ (j + 1)) := by
                rw [show (30 : Int32) = nI 30 from rfl, nI_div hcz (by decide) (by decide), Nat.div_div_eq_div_mul, Nat.pow_succ]
              rw [← ez, show nI (I + 1 + (j + 1)) = nI (I + 1 + j) + 1 from (nI_1 _).symm] at ih
              generalize nI (C / 30 ^ j) = z at ih ⊢
              refine V_go pk_181 [51] 60 ?_
              refine And.intro (fun k => ?_) (fun _ => ?_)
              · have k : S2.1 36 0 51 ≤ nI (I + 1 + j) := k
                rw [h51] at k
                exact absurd ((nI_leI (by omega) (by omega)).mp k) (by omega)
              · refine And.intro (by decide) ?_
                exact ih
          have g := loop (L - 1 - I) 0 (by omega)
          rw [show C / 30 ^ 0 = C by rw [Nat.pow_zero, Nat.div_one], show nI (I + 1 + 0) = nI I + 1 from (nI_1 _).symm] at g
          refine V_go pk_181 [51] 60 ?_
          exact g
        · have y : ¬ w < S2.1 36 0 51 := y
          rw [h51] at y
          exact hn (Int32.not_lt.mp y)
    · (repeat' first | (refine And.intro (fun q => absurd q (by decide)) (fun _ => ?_)) | (refine And.intro (fun _ => ?_) (fun q => absurd q (by decide))) | fail)
      exact q1 q
  have bad : ¬ okP nd x n la → CT (dp + 10) 0 0 m_M_leg [M0, .inl x, .inl n, .inl la, .inl w] S (fun a' S2 => a' = some (.inl (-2)) ∧ IC np t S2 ∧ Fr (fl fPl) S S2) := fun nn => mm e4 (fun _ => ⟨rfl, keep⟩) (fun h1 h2 => absurd h1 nn) (fun h1 h2 => absurd h1 nn)
  refine ct_of (xmok_all (by decide)) rfl (V_go (pc := 0) pk_111 [] 60 ?_)
  refine ct_isPlan (d := dp + 7) e3 b2 (fun ok => ?_) (fun q => ?_)
  · (repeat' first | (refine And.intro (fun q => absurd q (by decide)) (fun _ => ?_)) | (refine And.intro (fun _ => ?_) (fun q => absurd q (by decide))) | fail)
    obtain ⟨⟨D, hD, rfl⟩, ⟨N, n1, n3, rfl⟩, ⟨la, _, l9, rfl⟩⟩ := id ok
    have hb := (hB D (by omega)).1 hD
    refine cC_w 0 2 rfl rfl (by decide) (by decide) (fun hw => ?_) (fun q => ?_)
    · (repeat' first | (refine And.intro (fun q => absurd q (by decide)) (fun _ => ?_)) | (refine And.intro (fun _ => ?_) (fun q => absurd q (by decide))) | fail)
      obtain ⟨I, _, hI, rfl⟩ := hw
      have eI : (nI I).toNatClampNeg = I := nI_clamp (by omega)
      have wn : ¬ nI I < 0 := nI_pos (by omega)
      refine ct_C_plan (d := dp) hn0 hN hA hB hC hD n3 l9 (fun th => ?_) (fun P hP th eP S1 S' c L W t9 C hl f1 hc hc9 best q10 q9 q11 hdg => ?_)
      · (repeat' first | (refine And.intro (fun q => absurd q (by decide)) (fun _ => ?_)) | (refine And.intro (fun _ => ?_) (fun q => absurd q (by decide))) | fail)
        refine mm e4 (fun g => absurd ok g) (fun _ z => absurd z wn) (fun _ _ => ?_)
        exact ct_finds_no (d := dp + 6) (by omega) (fun g => th ((there_eq hb b1).mp g)) (Or.inl ⟨rfl, rfl, keep⟩)
      · have fS' : Fr (fl [9, 10, 32004, 32005, 32006, 32007, 32008, 32009, 32010, 32011, 32, 33]) S S' := ((ntC_fr S P (nI t)).wk (by decide)).tr ((hl.fr.wk (by decide)).tr (f1.wk (by decide)))
        have q8 : S'.1 36 0 8 = nI nd := (fS'.1 36 0 8 rfl).trans e4
        have fin : ∀ v : Int32, v = (if I < L then lgA L C I else -1) → CT (dp + 10) 0 0 m_M_leg [M0, .inl (nI D), .inl (nI N), .inl (nI la), .inl (nI I)] S' (fun a' S2 => a' = some (.inl v) ∧ IC np t S2 ∧ Fr (fl fPl) S S2) := by
          intro v hv
          refine mm q8 (fun g => absurd ok g) (fun _ z => absurd z wn) (fun _ _ => ?_)
          refine ct_finds_after (d := dp + 6) hn0 hN hA hB hC hD n3 hP l9 th eP hl f1 hc hc9 best (fun S2 k1 k2 k3 k4 => ?_)
          by_cases y : 1 ≤ L
          · rw [if_pos y]
            have hL3 : L ≤ 3 ∧ C < 27000 := by
              rcases best with ⟨z, _⟩ | ⟨_, z, z2, _⟩
              · omega
              · have p1 : 30 ^ L ≤ 27000 := Nat.pow_le_pow_right (show 0 < 30 by decide) (show L ≤ 3 by omega)
                exact ⟨by omega, Nat.lt_of_lt_of_le z2 p1⟩
            refine Or.inr ⟨rfl, L, C, k3, hL3.1, fun z => ⟨?_, k1, k2⟩, fun I2 e h2 => ?_⟩
            · have z := (nI_leI (by omega) (by omega)).mp z
              rw [hv, if_neg (by omega)]
            · have e := (nI_eq (by omega) (by omega)).mp e
              subst e
              refine ⟨(k4 y).2.2, hL3.2, ?_, k1, k2⟩
              rw [hv, if_pos h2]
          · rw [if_neg y]
            exact Or.inl ⟨rfl, by rw [hv, if_neg (by omega)], k1, k2⟩
        by_cases hL : 1 ≤ L
        · rw [if_pos hL]
          (repeat' first | (refine And.intro (fun q => absurd q (by decide)) (fun _ => ?_)) | (refine And.intro (fun _ => ?_) (fun q => absurd q (by decide))) | fail)
          refine And.intro (fun z => ?_) (fun z => ?_)
          · have z : nI I < S'.1 31 0 10 := z
            rw [q10] at z
            have hL3 : L ≤ 3 := by rcases best with ⟨z, _⟩ | ⟨_, z, _⟩ <;> omega
            have z := (nI_ltI (by omega) (by omega)).mp z
            have g := hdg I z
            refine And.intro (vi (N := 3) (by omega)) ?_
            refine And.intro (vi (N := 3) (by omega)) ?_
            rw [eI]
            refine fin _ ?_
            rw [if_pos z, g.1, g.2]
            rfl
          · have z : ¬ nI I < S'.1 31 0 10 := z
            rw [q10] at z
            have hL3 : L ≤ 3 := by rcases best with ⟨z, _⟩ | ⟨_, z, _⟩ <;> omega
            exact fin (-1) (if_neg (fun y => z (nI_lt y (by omega)))).symm
        · rw [if_neg hL]
          (repeat' first | (refine And.intro (fun q => absurd q (by decide)) (fun _ => ?_)) | (refine And.intro (fun _ => ?_) (fun q => absurd q (by decide))) | fail)
          exact fin (-1) (if_neg (by omega)).symm
    · (repeat' first | (refine And.intro (fun q => absurd q (by decide)) (fun _ => ?_)) | (refine And.intro (fun _ => ?_) (fun q => absurd q (by decide))) | fail)
      refine mm e4 (fun g => absurd ok g) (fun _ _ => ⟨rfl, keep⟩) (fun _ z => ?_)
      refine ct_finds_alone (d := dp + 6) hn0 hN hA hB hC hD n3 l9 (fun _ => Or.inl ⟨rfl, rfl, keep⟩) (fun S2 L hL k1 k2 k3 => ?_)
      by_cases y : 1 ≤ L
      · rw [if_pos y]
        refine Or.inr ⟨rfl, L, 0, k3, hL, fun _ => ⟨rfl, k1, k2⟩, fun I hI h2 => ?_⟩
        exact absurd ⟨I, Nat.zero_le _, by omega, hI⟩ q
      · rw [if_neg y]
        exact Or.inl ⟨rfl, rfl, k1, k2⟩
  · (repeat' first | (refine And.intro (fun q => absurd q (by decide)) (fun _ => ?_)) | (refine And.intro (fun _ => ?_) (fun q => absurd q (by decide))) | fail)
    exact bad q
