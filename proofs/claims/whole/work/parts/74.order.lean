/-! order, leg -/
abbrev fPl : List Nat := [9, 10, 32004, 32005, 32006, 32007, 32008, 32009, 32010, 32011, 32, 33, 51, 52, 70, 71, 37050, 37051, 37052, 37053, 37054, 37055]
theorem lnR.fr {S S' : xS} {P D : Nat} {t la : Int32} (h : lnR S S' P D t la) : Fr (fl [9, 10, 32004, 32005, 32006, 32007, 32008]) S S' := by
  refine ⟨fun k i j hf => h.1 k i j (fun q => ?_) (fun q => ?_), h.2.1⟩
  · rcases q.1 with e | e
    · subst e
      rw [show fl [9, 10, 32004, 32005, 32006, 32007, 32008] 9 j = true from rfl] at hf
      cases hf
    · subst e
      rw [show fl [9, 10, 32004, 32005, 32006, 32007, 32008] 10 j = true from rfl] at hf
      cases hf
  · obtain ⟨e, h1, h2⟩ := q
    subst e
    have : j = 4 ∨ j = 5 ∨ j = 6 ∨ j = 7 ∨ j = 8 := by omega
    rcases this with e | e | e | e | e <;> (subst e; rw [show fl [9, 10, 32004, 32005, 32006, 32007, 32008] 31 _ = true from rfl] at hf; cases hf)
theorem ct_finds_after {d n0 np nd nv nt r t P D la n c L W t9 C : Nat} {S S1 S' : xS} {Q : xQ} (hn0 : n0 ≤ 600) (hN : IN np nd nv nt r t S) (hA : IA n0 S) (hB : IB n0 np nd t S) (hC : IC np t S) (hD : D < nd) (hn : n ≤ 3) (hP : P < np) (hla : la ≤ 9999) (th : cThere S D) (eP : S.1 12 D 0 = nI P) (hl : lnR (ntC S P (nI t)) S1 P D (nI t) (nI la)) (f1 : Fr (fl [32, 33, 32009, 32010, 32011]) S1 S') (hc : S1.1 31 0 6 = nI c) (hc9 : c + 80000 < 2 ^ 30) (best : (plD S1).Best P t c n L W t9 C) (h : ∀ S2, IC np t S2 → Fr (fl fPl) S S2 → S2.1 36 0 51 = nI L → (1 ≤ L → S2.1 36 0 50 = nI W ∧ S2.1 36 0 52 = nI t9 ∧ S2.1 36 0 53 = nI C) → Q (some (.inl (if 1 ≤ L then 1 else 0))) S2) : CT (d + 3) 0 0 m_M_finds [M0, .inl (nI D), .inl (nI n), .inl (nI la)] S' Q := by
  obtain ⟨⟨b1, b2, b3, b4, b5, b6⟩, ⟨e1, e2⟩, -⟩ := id hN
  have hb := (hB D (by omega)).1 hD
  have fU := ntC_fr S P (nI t)
  have fS1 : Fr (fl [9, 10, 32004, 32005, 32006, 32007, 32008]) S S1 := (fU.wk (by decide)).tr hl.fr
  have fS' : Fr (fl [9, 10, 32004, 32005, 32006, 32007, 32008, 32009, 32010, 32011, 32, 33]) S S' := (fS1.wk (by decide)).tr (f1.wk (by decide))
  have h36 : ∀ k i j, 36 ≤ k → k ≤ 74 → S'.1 k i j = S.1 k i j := fun k i j h1 h2 => fS'.1 k i j (fl_36 (by decide) h1 h2)
  have e43 : S'.1 43 0 D = nI P := by
    rw [h36 43 0 D (by decide) (by decide)]
    rcases hb.2.1 with ⟨_, p, _, q1, q2⟩ | q
    · rw [q2, ← q1, eP]
    · exact absurd q.2.1 th.1
  have kf : Fr (fl [51, 52]) S' (knM S' P) := ((((Fr.rf.up rfl).up rfl).up rfl).up rfl).up rfl
  have hth : mThere S' D := ⟨(h36 49 0 D (by decide) (by decide)).trans ((there_eq hb b1).mpr th).1, (h36 44 0 D (by decide) (by decide)).trans ((there_eq hb b1).mpr th).2⟩
  have hok : (plD S1).ok ∧ (plD S1).la = la := by
    obtain ⟨_, _, _, ⟨h, G, ⟨hh1, hh9⟩, hh, _⟩, _⟩ := hb
    obtain ⟨hPC, _⟩ := pc_ok hA (IC.note hA hn0 hC hP b1) b1 e1 fU hP (by omega) b6 hh hh9 hla (by rw [ntC_9, if_pos rfl]; exact if_pos rfl) hl
    refine ⟨hPC.ok, ?_⟩
    show (S1.1 31 0 8).toNatClampNeg = la
    rw [hl.2.2.1.2.2.2]; exact nI_clamp (by omega)
  have key := ct_finds (d := d) (P := P) (D := D) (t := t) (c := c) (n := n) (Dp := plD S1) (S := S') (Q := Q) hok.1 (by omega) hn (fun q => absurd hth q) (fun _ Q2 hQ2 => by
    refine ct_takeWords (P := P) (np := np) (by omega) (by omega) b1 ((h36 36 0 1 (by decide) (by decide)).trans e2) e43 (fun T fT hT => ?_)
    obtain ⟨m1, m2, m3, m4, m5⟩ := pm_ok hn0 hN hA hB hC hD hP hla th eP hl hc h36 fT hT
    refine hQ2 T m1 m3 m4 b6 hc9 (fun T' L2 W2 t92 C2 f2 best2 q51 q50 => ?_)
    obtain ⟨eL, eW⟩ := PlD.Best.uniq best2 best
    subst eL
    have fT' : Fr (fl [51, 52, 70, 71, 37050, 37051, 37052, 37053, 37054, 37055]) S' T' := (kf.wk (by decide)).tr ((fT.wk (by decide)).tr (f2.wk (by decide)))
    refine h T' ?_ ((fS'.wk (by decide)).tr (fT'.wk (by decide))) q51 (fun hL => ?_)
    · refine IC.plan (P := P) (U := ntC S P (nI t)) (IC.note hA hn0 hC hP b1) (by omega) (fun a q ha => ?_) (fun a q ha => ?_) (fun w hw => ?_) (fun w g hw hg => ?_)
      · rw [fT'.1 9 a q rfl, f1.1 9 a q rfl]; exact hl.1 9 a q (by omega) (by omega)
      · rw [fT'.1 10 a q rfl, f1.1 10 a q rfl]; exact hl.1 10 a q (by omega) (by omega)
      · have : T'.1 51 0 w = (knM S' P).1 51 0 w := ((fT.wk (l' := [70, 71, 37050, 37051, 37052, 37053, 37054, 37055]) (by decide)).tr (f2.wk (by decide))).1 51 0 w rfl
        rw [this, knM_51, if_neg hw, h36 51 0 w (by decide) (by decide)]
        rfl
      · have : T'.1 52 0 (4 * w + g) = (knM S' P).1 52 0 (4 * w + g) := ((fT.wk (l' := [70, 71, 37050, 37051, 37052, 37053, 37054, 37055]) (by decide)).tr (f2.wk (by decide))).1 52 0 _ rfl
        rw [this, knM_52 _ _ _ _ hg, if_neg hw, h36 52 0 _ (by decide) (by decide)]
        rfl
    · obtain ⟨g1, g2, g3⟩ := eW hL
      obtain ⟨z1, z2, z3⟩ := q50 hL
      rw [← g1, ← g2, ← g3]
      exact ⟨z1, z2, z3⟩)
  rw [hok.2] at key
  exact key
