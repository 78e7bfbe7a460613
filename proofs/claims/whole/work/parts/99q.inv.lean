/-! what holds between the calls (written by law1.py) -/
def INV (n : Nat) (S : xS) : Prop := ∃ np nd nv nt nb r t, IN np nd nv nt r t S ∧ IA n S ∧ IB n np nd t S ∧ IC np t S ∧ ID nd nv S ∧ IE S ∧ IF nb S ∧ IG nt S ∧ IK S ∧ gStr S ∧ gMw S
theorem shI.mono {a : Option xV} {P P' : Prop} (h : P → P') (g : shI a P) : shI a P' := by
  unfold shI at g ⊢
  split at g
  · exact h g
  · exact g.elim
theorem shJ.mono {a : Option xV} {P P' : Prop} (h : P → P') (g : shJ a P) : shJ a P' := by
  unfold shJ at g ⊢
  split at g
  · exact h g
  · exact g.elim
theorem shI.out {a : Option xV} {P : Prop} (g : shI a P) : ∃ v, a = some (.inl v) ∧ P := by
  unfold shI at g
  split at g
  · exact ⟨_, rfl, g⟩
  · exact g.elim
theorem shJ.out {a : Option xV} {P : Prop} (g : shJ a P) : ∃ v, a = some (.inr (.inl v)) ∧ P := by
  unfold shJ at g
  split at g
  · exact ⟨_, rfl, g⟩
  · exact g.elim
theorem IB.np {n np np' nd t : Nat} {S : xS} (h : IB n np nd t S) (hp : np ≤ np') : IB n np' nd t S := fun d hd => ⟨fun q => by
  obtain ⟨a, b, c⟩ := (h d hd).1 q
  exact ⟨a, b.imp (fun ⟨x, p, y, z⟩ => ⟨x, p, by omega, z⟩) id, c⟩, (h d hd).2⟩
theorem IC.np {np np' t : Nat} {S : xS} (h : IC np t S) (hp : np ≤ np') : IC np' t S := ⟨h.1, h.2.1, fun a q ha hq => ⟨(h.2.2 a q ha hq).1.imp id (fun ⟨x, y⟩ => ⟨by omega, y⟩), (h.2.2 a q ha hq).2⟩⟩
theorem iv_port {n : Nat} {S : xS} {x1 x2 : Int32} (hn : n ≤ 600) (h : INV n S) : CT 60 0 0 m_C_port [C0, .inl x1, .inl x2] S (fun a S1 => shI a (CT 60 0 0 m_M_port [M0, .inl x1, .inl x2] S1 (fun a' S2 => a' = a ∧ INV (n + 1) S2))) := by
  obtain ⟨np, nd, nv, nt, nb, r, t, hN, hA, hB, hC, hD, hE, hF, hG, hK, hS, hM⟩ := h
  refine (cs_port (d := 57) hA).mono (fun a S1 g => g.mono (fun g => g.mono (fun a' S2 g => ?_)))
  obtain ⟨e, ⟨hA', hc⟩, f⟩ := g
  obtain ⟨⟨b1, b2⟩, ⟨e1, e2⟩, e3⟩ := id hN
  obtain ⟨np', hp, hp6, ep⟩ : ∃ np', np ≤ np' ∧ np' ≤ 6 ∧ S2.1 1 0 2 = nI np' := by
    rcases hc with hc | hc
    · exact ⟨np, Nat.le_refl _, b1, hc.trans e1⟩
    · have e4 : S2.1 1 0 2 = nI (np + 1) := by rw [hc, e1, nI_1]
      refine ⟨np + 1, Nat.le_succ _, ?_, e4⟩
      have h6 := hA'.1.2
      rw [e4] at h6
      exact (nI_leI (a := np + 1) (b := 6) (by omega) (by decide)).mp h6
  obtain ⟨⟨p1, p2⟩, ⟨p3, p4⟩, ⟨p5, p6⟩, ⟨p7, p8⟩, p9, p10⟩ := e3
  have hN' : IN np' nd nv nt r t S2 := ⟨⟨hp6, b2⟩, ⟨ep, hA'.2.1.trans ep⟩, ⟨(f.1 0 0 9 rfl).trans p1, (f.1 36 0 8 rfl).trans p2⟩, ⟨(f.1 0 0 10 rfl).trans p3, (f.1 36 0 19 rfl).trans p4⟩, ⟨(f.1 0 0 11 rfl).trans p5, (f.1 36 0 33 rfl).trans p6⟩, ⟨(f.1 0 0 12 rfl).trans p7, (f.1 36 0 34 rfl).trans p8⟩, (f.1 0 0 13 rfl).trans p9, (f.1 36 0 0 rfl).trans p10⟩
  exact ⟨e, np', nd, nv, nt, nb, r, t, hN', hA'.succ, ((hB.fr f (by decide)).np hp).succ, (hC.fr f (by decide)).np hp, (hD.fr f (by decide)), (hE.fr f (by decide)), (hF.fr f (by decide)), (hG.fr f (by decide)), (hK.fr f (by decide)), hS.fr f (by decide), hM.fr f (by decide)⟩
theorem iv_wants {n : Nat} {S : xS} {x1 x2 x3 x4 : Int32} (hn : n ≤ 600) (h : INV n S) : CT 60 0 0 m_C_wants [C0, .inl x1, .inl x2, .inl x3, .inl x4] S (fun a S1 => shI a (CT 60 0 0 m_M_wants [M0, .inl x1, .inl x2, .inl x3, .inl x4] S1 (fun a' S2 => a' = a ∧ INV (n + 1) S2))) := by
  obtain ⟨np, nd, nv, nt, nb, r, t, hN, hA, hB, hC, hD, hE, hF, hG, hK, hS, hM⟩ := h
  refine (cs_wants (d := 57) hA).mono (fun a S1 g => g.mono (fun g => g.mono (fun a' S2 g => ?_)))
  obtain ⟨e, hA', f⟩ := g
  exact ⟨e, np, nd, nv, nt, nb, r, t, (hN.fr f (by decide)), hA'.succ, (hB.fr f (by decide)).succ, (hC.fr f (by decide)), (hD.fr f (by decide)), (hE.fr f (by decide)), (hF.fr f (by decide)), (hG.fr f (by decide)), (hK.fr f (by decide)), hS.fr f (by decide), hM.fr f (by decide)⟩
theorem iv_price {n : Nat} {S : xS} {x1 x2 : Int32} (hn : n ≤ 600) (h : INV n S) : CT 60 0 0 m_C_price [C0, .inl x1, .inl x2] S (fun a S1 => shI a (CT 60 0 0 m_M_price [M0, .inl x1, .inl x2] S1 (fun a' S2 => a' = a ∧ INV (n + 1) S2))) := by
  obtain ⟨np, nd, nv, nt, nb, r, t, hN, hA, hB, hC, hD, hE, hF, hG, hK, hS, hM⟩ := h
  refine (cs_price (d := 57) hA).mono (fun a S1 g => g.mono (fun g => g.mono (fun a' S2 g => ?_)))
  obtain ⟨e, e2⟩ := g
  subst e2
  exact ⟨e, np, nd, nv, nt, nb, r, t, hN, hA.succ, hB.succ, hC, hD, hE, hF, hG, hK, hS, hM⟩
theorem iv_wind {n : Nat} {S : xS} {x1 x2 : Int32} (hn : n ≤ 600) (h : INV n S) : CT 60 0 0 m_C_wind [C0, .inl x1, .inl x2] S (fun a S1 => shI a (CT 60 0 0 m_M_wind [M0, .inl x1, .inl x2] S1 (fun a' S2 => a' = a ∧ INV (n + 1) S2))) := by
  obtain ⟨np, nd, nv, nt, nb, r, t, hN, hA, hB, hC, hD, hE, hF, hG, hK, hS, hM⟩ := h
  refine (cs_wind (d := 57) hA).mono (fun a S1 g => g.mono (fun g => g.mono (fun a' S2 g => ?_)))
  obtain ⟨e, hA', f⟩ := g
  exact ⟨e, np, nd, nv, nt, nb, r, t, (hN.fr f (by decide)), hA'.succ, (hB.fr f (by decide)).succ, (hC.fr f (by decide)), (hD.fr f (by decide)), (hE.fr f (by decide)), (hF.fr f (by decide)), (hG.fr f (by decide)), (hK.fr f (by decide)), hS.fr f (by decide), hM.fr f (by decide)⟩
theorem iv_winds {n : Nat} {S : xS} {x1 x2 x3 x4 : Int32} (hn : n ≤ 600) (h : INV n S) : CT 60 0 0 m_C_winds [C0, .inl x1, .inl x2, .inl x3, .inl x4] S (fun a S1 => shI a (CT 60 0 0 m_M_winds [M0, .inl x1, .inl x2, .inl x3, .inl x4] S1 (fun a' S2 => a' = a ∧ INV (n + 1) S2))) := by
  obtain ⟨np, nd, nv, nt, nb, r, t, hN, hA, hB, hC, hD, hE, hF, hG, hK, hS, hM⟩ := h
  refine (cs_winds (dp := 57) hA hE).mono (fun a S1 g => g.mono (fun g => g.mono (fun a' S2 g => ?_)))
  obtain ⟨e, hA', f⟩ := g
  exact ⟨e, np, nd, nv, nt, nb, r, t, (hN.fr f (by decide)), hA'.succ, (hB.fr f (by decide)).succ, (hC.fr f (by decide)), (hD.fr f (by decide)), (hE.fr f (by decide)), (hF.fr f (by decide)), (hG.fr f (by decide)), (hK.fr f (by decide)), hS.fr f (by decide), hM.fr f (by decide)⟩
theorem iv_way {n : Nat} {S : xS} {x1 x2 x3 : Int32} (hn : n ≤ 600) (h : INV n S) : CT 60 0 0 m_C_way [C0, .inl x1, .inl x2, .inl x3] S (fun a S1 => shI a (CT 60 0 0 m_M_way [M0, .inl x1, .inl x2, .inl x3] S1 (fun a' S2 => a' = a ∧ INV (n + 1) S2))) := by
  obtain ⟨np, nd, nv, nt, nb, r, t, hN, hA, hB, hC, hD, hE, hF, hG, hK, hS, hM⟩ := h
  refine (cs_way (dp := 57) hN hA).mono (fun a S1 g => g.mono (fun g => g.mono (fun a' S2 g => ?_)))
  obtain ⟨e, e2⟩ := g
  subst e2
  exact ⟨e, np, nd, nv, nt, nb, r, t, hN, hA.succ, hB.succ, hC, hD, hE, hF, hG, hK, hS, hM⟩
theorem iv_dhow {n : Nat} {S : xS} {x1 x2 x3 : Int32} (hn : n ≤ 600) (h : INV n S) : CT 60 0 0 m_C_dhow [C0, .inl x1, .inl x2, .inl x3] S (fun a S1 => shI a (CT 60 0 0 m_M_dhow [M0, .inl x1, .inl x2, .inl x3] S1 (fun a' S2 => a' = a ∧ INV (n + 1) S2))) := by
  obtain ⟨np, nd, nv, nt, nb, r, t, hN, hA, hB, hC, hD, hE, hF, hG, hK, hS, hM⟩ := h
  refine (cs_dhow (dp := 57) hN hB).mono (fun a S1 g => g.mono (fun g => g.mono (fun a' S2 g => ?_)))
  obtain ⟨e, ⟨nd', hd, hN', hB'⟩, f⟩ := g
  exact ⟨e, np, nd', nv, nt, nb, r, t, hN', (hA.fr f (by decide)).succ, hB'.succ, (hC.fr f (by decide)), (hD.fr f (by decide)).mono hd, (hE.fr f (by decide)), (hF.fr f (by decide)), (hG.fr f (by decide)), (hK.fr f (by decide)), hS.fr f (by decide), hM.fr f (by decide)⟩
theorem iv_told {n : Nat} {S : xS} {x1 x2 : Int32} (hn : n ≤ 600) (h : INV n S) : CT 60 0 0 m_C_told [C0, .inl x1, .inl x2] S (fun a S1 => shI a (CT 60 0 0 m_M_told [M0, .inl x1, .inl x2] S1 (fun a' S2 => a' = a ∧ INV (n + 1) S2))) := by
  obtain ⟨np, nd, nv, nt, nb, r, t, hN, hA, hB, hC, hD, hE, hF, hG, hK, hS, hM⟩ := h
  refine (cs_told (dp := 57) hN hB).mono (fun a S1 g => g.mono (fun g => g.mono (fun a' S2 g => ?_)))
  obtain ⟨e, e2⟩ := g
  subst e2
  exact ⟨e, np, nd, nv, nt, nb, r, t, hN, hA.succ, hB.succ, hC, hD, hE, hF, hG, hK, hS, hM⟩
theorem iv_good {n : Nat} {S : xS} {x1 x2 : Int32} (hn : n ≤ 600) (h : INV n S) : CT 60 0 0 m_C_good [C0, .inl x1, .inl x2] S (fun a S1 => shI a (CT 60 0 0 m_M_good [M0, .inl x1, .inl x2] S1 (fun a' S2 => a' = a ∧ INV (n + 1) S2))) := by
  obtain ⟨np, nd, nv, nt, nb, r, t, hN, hA, hB, hC, hD, hE, hF, hG, hK, hS, hM⟩ := h
  refine (cs_good (dp := 57) hN hB).mono (fun a S1 g => g.mono (fun g => g.mono (fun a' S2 g => ?_)))
  obtain ⟨e, e2⟩ := g
  subst e2
  exact ⟨e, np, nd, nv, nt, nb, r, t, hN, hA.succ, hB.succ, hC, hD, hE, hF, hG, hK, hS, hM⟩
theorem iv_sell {n : Nat} {S : xS} {x1 x2 x3 : Int32} (hn : n ≤ 600) (h : INV n S) : CT 60 0 0 m_C_sell [C0, .inl x1, .inl x2, .inl x3] S (fun a S1 => shI a (CT 60 0 0 m_M_sell [M0, .inl x1, .inl x2, .inl x3] S1 (fun a' S2 => a' = a ∧ INV (n + 1) S2))) := by
  obtain ⟨np, nd, nv, nt, nb, r, t, hN, hA, hB, hC, hD, hE, hF, hG, hK, hS, hM⟩ := h
  refine (cs_sell (dp := 57) hn hN hA hB).mono (fun a S1 g => g.mono (fun g => g.mono (fun a' S2 g => ?_)))
  obtain ⟨e, ⟨hA', hB'⟩, f⟩ := g
  exact ⟨e, np, nd, nv, nt, nb, r, t, (hN.fr f (by decide)), hA', hB', (hC.fr f (by decide)), (hD.fr f (by decide)), (hE.fr f (by decide)), (hF.fr f (by decide)), (hG.fr f (by decide)), (hK.fr f (by decide)), hS.fr f (by decide), hM.fr f (by decide)⟩
theorem iv_buy {n : Nat} {S : xS} {x1 x2 x3 : Int32} (hn : n ≤ 600) (h : INV n S) : CT 60 0 0 m_C_buy [C0, .inl x1, .inl x2, .inl x3] S (fun a S1 => shI a (CT 60 0 0 m_M_buy [M0, .inl x1, .inl x2, .inl x3] S1 (fun a' S2 => a' = a ∧ INV (n + 1) S2))) := by
  obtain ⟨np, nd, nv, nt, nb, r, t, hN, hA, hB, hC, hD, hE, hF, hG, hK, hS, hM⟩ := h
  refine (cs_buy (dp := 57) hn hN hA hB).mono (fun a S1 g => g.mono (fun g => g.mono (fun a' S2 g => ?_)))
  obtain ⟨e, ⟨hA', hB'⟩, f⟩ := g
  exact ⟨e, np, nd, nv, nt, nb, r, t, (hN.fr f (by decide)), hA', hB', (hC.fr f (by decide)), (hD.fr f (by decide)), (hE.fr f (by decide)), (hF.fr f (by decide)), (hG.fr f (by decide)), (hK.fr f (by decide)), hS.fr f (by decide), hM.fr f (by decide)⟩
theorem iv_sail {n : Nat} {S : xS} {x1 x2 : Int32} (hn : n ≤ 600) (h : INV n S) : CT 60 0 0 m_C_sail [C0, .inl x1, .inl x2] S (fun a S1 => shI a (CT 60 0 0 m_M_sail [M0, .inl x1, .inl x2] S1 (fun a' S2 => a' = a ∧ INV (n + 1) S2))) := by
  obtain ⟨np, nd, nv, nt, nb, r, t, hN, hA, hB, hC, hD, hE, hF, hG, hK, hS, hM⟩ := h
  refine (cs_sail (dp := 55) hn hN hA hB hC).mono (fun a S1 g => g.mono (fun g => g.mono (fun a' S2 g => ?_)))
  obtain ⟨e, ⟨hB', hC'⟩, f⟩ := g
  exact ⟨e, np, nd, nv, nt, nb, r, t, (hN.fr f (by decide)), (hA.fr f (by decide)).succ, hB'.succ, hC', (hD.fr f (by decide)), (hE.fr f (by decide)), (hF.fr f (by decide)), (hG.fr f (by decide)), (hK.fr f (by decide)), hS.fr f (by decide), hM.fr f (by decide)⟩
theorem iv_days {n : Nat} {S : xS} {x1 : Int32} (hn : n ≤ 600) (h : INV n S) : CT 60 0 0 m_C_days [C0, .inl x1] S (fun a S1 => shI a (CT 60 0 0 m_M_days [M0, .inl x1] S1 (fun a' S2 => a' = a ∧ INV (n + 1) S2))) := by
  obtain ⟨np, nd, nv, nt, nb, r, t, hN, hA, hB, hC, hD, hE, hF, hG, hK, hS, hM⟩ := h
  refine (cs_days (dp := 54) hn hN hA hB hC).mono (fun a S1 g => g.mono (fun g => g.mono (fun a' S2 g => ?_)))
  obtain ⟨e, ⟨t', hN', hA', hB', hC'⟩, f⟩ := g
  exact ⟨e, np, nd, nv, nt, nb, r, t', hN', hA'.succ, hB'.succ, hC', (hD.fr f (by decide)), (hE.fr f (by decide)), (hF.fr f (by decide)), (hG.fr f (by decide)), (hK.fr f (by decide)), hS.fr f (by decide), hM.fr f (by decide)⟩
theorem iv_lose {n : Nat} {S : xS} {x1 : Int32} (hn : n ≤ 600) (h : INV n S) : CT 60 0 0 m_C_lose [C0, .inl x1] S (fun a S1 => shI a (CT 60 0 0 m_M_lose [M0, .inl x1] S1 (fun a' S2 => a' = a ∧ INV (n + 1) S2))) := by
  obtain ⟨np, nd, nv, nt, nb, r, t, hN, hA, hB, hC, hD, hE, hF, hG, hK, hS, hM⟩ := h
  refine (cs_lose (dp := 57) hN hB hD).mono (fun a S1 g => g.mono (fun g => g.mono (fun a' S2 g => ?_)))
  obtain ⟨e, ⟨hB', hD'⟩, f⟩ := g
  exact ⟨e, np, nd, nv, nt, nb, r, t, (hN.fr f (by decide)), (hA.fr f (by decide)).succ, hB'.succ, (hC.fr f (by decide)), hD', (hE.fr f (by decide)), (hF.fr f (by decide)), (hG.fr f (by decide)), (hK.fr f (by decide)), hS.fr f (by decide), hM.fr f (by decide)⟩
theorem iv_heard {n : Nat} {S : xS} {x1 x2 x3 x4 : Int32} (hn : n ≤ 600) (h : INV n S) : CT 60 0 0 m_C_heard [C0, .inl x1, .inl x2, .inl x3, .inl x4] S (fun a S1 => shI a (CT 60 0 0 m_M_heard [M0, .inl x1, .inl x2, .inl x3, .inl x4] S1 (fun a' S2 => a' = a ∧ INV (n + 1) S2))) := by
  obtain ⟨np, nd, nv, nt, nb, r, t, hN, hA, hB, hC, hD, hE, hF, hG, hK, hS, hM⟩ := h
  refine (cs_heard (dp := 55) hn hN hA hB hC).mono (fun a S1 g => g.mono (fun g => g.mono (fun a' S2 g => ?_)))
  obtain ⟨e, hC', f⟩ := g
  exact ⟨e, np, nd, nv, nt, nb, r, t, (hN.fr f (by decide)), (hA.fr f (by decide)).succ, (hB.fr f (by decide)).succ, hC', (hD.fr f (by decide)), (hE.fr f (by decide)), (hF.fr f (by decide)), (hG.fr f (by decide)), (hK.fr f (by decide)), hS.fr f (by decide), hM.fr f (by decide)⟩
theorem iv_venture {n : Nat} {S : xS} {x1 x2 x3 x4 : Int32} (hn : n ≤ 600) (h : INV n S) : CT 60 0 0 m_C_venture [C0, .inl x1, .inl x2, .inl x3, .inl x4] S (fun a S1 => shI a (CT 60 0 0 m_M_venture [M0, .inl x1, .inl x2, .inl x3, .inl x4] S1 (fun a' S2 => a' = a ∧ INV (n + 1) S2))) := by
  obtain ⟨np, nd, nv, nt, nb, r, t, hN, hA, hB, hC, hD, hE, hF, hG, hK, hS, hM⟩ := h
  refine (cs_venture (dp := 57) hn hN hB hD).mono (fun a S1 g => g.mono (fun g => g.mono (fun a' S2 g => ?_)))
  obtain ⟨e, ⟨nv', hN', hB', hD'⟩, f⟩ := g
  exact ⟨e, np, nd, nv', nt, nb, r, t, hN', (hA.fr f (by decide)).succ, hB', (hC.fr f (by decide)), hD', (hE.fr f (by decide)), (hF.fr f (by decide)), (hG.fr f (by decide)), (hK.fr f (by decide)), hS.fr f (by decide), hM.fr f (by decide)⟩
theorem iv_ventureTold {n : Nat} {S : xS} {x1 x2 : Int32} (hn : n ≤ 600) (h : INV n S) : CT 60 0 0 m_C_ventureTold [C0, .inl x1, .inl x2] S (fun a S1 => shI a (CT 60 0 0 m_M_ventureTold [M0, .inl x1, .inl x2] S1 (fun a' S2 => a' = a ∧ INV (n + 1) S2))) := by
  obtain ⟨np, nd, nv, nt, nb, r, t, hN, hA, hB, hC, hD, hE, hF, hG, hK, hS, hM⟩ := h
  refine (cs_vtold (dp := 57) hN hD).mono (fun a S1 g => g.mono (fun g => g.mono (fun a' S2 g => ?_)))
  obtain ⟨e, e2⟩ := g
  subst e2
  exact ⟨e, np, nd, nv, nt, nb, r, t, hN, hA.succ, hB.succ, hC, hD, hE, hF, hG, hK, hS, hM⟩
theorem iv_on {n : Nat} {S : xS} {x1 x2 : Int32} (hn : n ≤ 600) (h : INV n S) : CT 60 0 0 m_C_on [C0, .inl x1, .inl x2] S (fun a S1 => shI a (CT 60 0 0 m_M_on [M0, .inl x1, .inl x2] S1 (fun a' S2 => a' = a ∧ INV (n + 1) S2))) := by
  obtain ⟨np, nd, nv, nt, nb, r, t, hN, hA, hB, hC, hD, hE, hF, hG, hK, hS, hM⟩ := h
  refine (cs_on (dp := 57) hN hB hD).mono (fun a S1 g => g.mono (fun g => g.mono (fun a' S2 g => ?_)))
  obtain ⟨e, hD', f⟩ := g
  exact ⟨e, np, nd, nv, nt, nb, r, t, (hN.fr f (by decide)), (hA.fr f (by decide)).succ, (hB.fr f (by decide)).succ, (hC.fr f (by decide)), hD', (hE.fr f (by decide)), (hF.fr f (by decide)), (hG.fr f (by decide)), (hK.fr f (by decide)), hS.fr f (by decide), hM.fr f (by decide)⟩
theorem iv_begin {n : Nat} {S : xS} {x1 : Int32} (hn : n ≤ 600) (h : INV n S) : CT 60 0 0 m_C_begin [C0, .inl x1] S (fun a S1 => shI a (CT 60 0 0 m_M_begin [M0, .inl x1] S1 (fun a' S2 => a' = a ∧ INV (n + 1) S2))) := by
  obtain ⟨np, nd, nv, nt, nb, r, t, hN, hA, hB, hC, hD, hE, hF, hG, hK, hS, hM⟩ := h
  refine (cs_begin (dp := 57) hN hB).mono (fun a S1 g => g.mono (fun g => g.mono (fun a' S2 g => ?_)))
  obtain ⟨e, hB', f⟩ := g
  exact ⟨e, np, nd, nv, nt, nb, r, t, (hN.fr f (by decide)), (hA.fr f (by decide)).succ, hB'.succ, (hC.fr f (by decide)), (hD.fr f (by decide)), (hE.fr f (by decide)), (hF.fr f (by decide)), (hG.fr f (by decide)), (hK.fr f (by decide)), hS.fr f (by decide), hM.fr f (by decide)⟩
theorem iv_end {n : Nat} {S : xS} {x1 : Int32} (hn : n ≤ 600) (h : INV n S) : CT 60 0 0 m_C_end [C0, .inl x1] S (fun a S1 => shI a (CT 60 0 0 m_M_end [M0, .inl x1] S1 (fun a' S2 => a' = a ∧ INV (n + 1) S2))) := by
  obtain ⟨np, nd, nv, nt, nb, r, t, hN, hA, hB, hC, hD, hE, hF, hG, hK, hS, hM⟩ := h
  refine (cs_end (dp := 55) hn hN hB hD hG).mono (fun a S1 g => g.mono (fun g => g.mono (fun a' S2 g => ?_)))
  obtain ⟨e, ⟨hB', hD'⟩, f⟩ := g
  have zN : IN np nd nv nt r t S2 := (show IN np nd nv nt r t (S2.1, S.2) from hN.fr f (by decide))
  have zA : IA n S2 := (show IA n (S2.1, S.2) from hA.fr f (by decide))
  have zC : IC np t S2 := (show IC np t (S2.1, S.2) from hC.fr f (by decide))
  have zE : IE S2 := (show IE (S2.1, S.2) from hE.fr f (by decide))
  have zF : IF nb S2 := (show IF nb (S2.1, S.2) from hF.fr f (by decide))
  have zG : IG nt S2 := (show IG nt (S2.1, S.2) from hG.fr f (by decide))
  have zK : IK S2 := (show IK (S2.1, S.2) from hK.fr f (by decide))
  have zS : gStr S2 := (show gStr (S2.1, S.2) from hS.fr f (by decide))
  have zM : gMw S2 := (show gMw (S2.1, S.2) from hM.fr f (by decide))
  exact ⟨e, np, nd, nv, nt, nb, r, t, zN, zA.succ, hB'.succ, zC, hD', zE, zF, zG, zK, zS, zM⟩
theorem iv_feed {n : Nat} {S : xS} {x1 : Int32} {w : Int64} (hn : n ≤ 600) (h : INV n S) : CT 60 0 0 m_C_feed [C0, .inl x1, .inr (.inl w)] S (fun a S1 => shI a (CT 60 0 0 m_M_feed [M0, .inl x1, .inr (.inl w)] S1 (fun a' S2 => a' = a ∧ INV (n + 1) S2))) := by
  obtain ⟨np, nd, nv, nt, nb, r, t, hN, hA, hB, hC, hD, hE, hF, hG, hK, hS, hM⟩ := h
  refine (cs_feed (dp := 57) hF).mono (fun a S1 g => g.mono (fun g => g.mono (fun a' S2 g => ?_)))
  obtain ⟨e, ⟨nb', hF'⟩, f⟩ := g
  exact ⟨e, np, nd, nv, nt, nb', r, t, (hN.fr f (by decide)), (hA.fr f (by decide)).succ, (hB.fr f (by decide)).succ, (hC.fr f (by decide)), (hD.fr f (by decide)), (hE.fr f (by decide)), hF', (hG.fr f (by decide)), (hK.fr f (by decide)), hS.fr f (by decide), hM.fr f (by decide)⟩
theorem iv_text {n : Nat} {S : xS} (hn : n ≤ 600) (h : INV n S) : CT 60 1 160 m_C_text [C0] S (fun a S1 => shI a (CT 60 0 0 m_M_text [M0] S1 (fun a' S2 => a' = a ∧ INV (n + 1) S2))) := by
  obtain ⟨np, nd, nv, nt, nb, r, t, hN, hA, hB, hC, hD, hE, hF, hG, hK, hS, hM⟩ := h
  refine (cs_text (dp := 0) cix kpx hN hF hG hS hM).mono (fun a S1 g => g.mono (fun g => g.mono (fun a' S2 g => ?_)))
  obtain ⟨e, nt', nb', hN', hF', hG', f⟩ := g
  exact ⟨e, np, nd, nv, nt', nb', r, t, hN', (hA.fr f (by decide)).succ, (hB.fr f (by decide)).succ, (hC.fr f (by decide)), (hD.fr f (by decide)), (hE.fr f (by decide)), hF', hG', (hK.fr f (by decide)), hS.fr f (by decide), hM.fr f (by decide)⟩
theorem iv_force {n : Nat} {S : xS} {x1 : Int32} (hn : n ≤ 600) (h : INV n S) : CT 60 0 0 m_C_force [C0, .inl x1] S (fun a S1 => shI a (CT 60 0 0 m_M_force [M0, .inl x1] S1 (fun a' S2 => a' = a ∧ INV (n + 1) S2))) := by
  obtain ⟨np, nd, nv, nt, nb, r, t, hN, hA, hB, hC, hD, hE, hF, hG, hK, hS, hM⟩ := h
  refine (cs_force (dp := 57) hN).mono (fun a S1 g => g.mono (fun g => g.mono (fun a' S2 g => ?_)))
  obtain ⟨e, ⟨r', hN'⟩, f⟩ := g
  exact ⟨e, np, nd, nv, nt, nb, r', t, hN', (hA.fr f (by decide)).succ, (hB.fr f (by decide)).succ, (hC.fr f (by decide)), (hD.fr f (by decide)), (hE.fr f (by decide)), (hF.fr f (by decide)), (hG.fr f (by decide)), (hK.fr f (by decide)), hS.fr f (by decide), hM.fr f (by decide)⟩
theorem iv_says {n : Nat} {S : xS} {x1 x2 x3 x4 x5 x6 x7 : Int32} (hn : n ≤ 600) (h : INV n S) : CT 60 0 0 m_C_says [C0, .inl x1, .inl x2, .inl x3, .inl x4, .inl x5, .inl x6, .inl x7] S (fun a S1 => shJ a (CT 60 0 0 m_M_says [M0, .inl x1, .inl x2, .inl x3, .inl x4, .inl x5, .inl x6, .inl x7] S1 (fun a' S2 => a' = a ∧ INV (n + 1) S2))) := by
  obtain ⟨np, nd, nv, nt, nb, r, t, hN, hA, hB, hC, hD, hE, hF, hG, hK, hS, hM⟩ := h
  refine (cs_says (dp := 55) hN hG).mono (fun a S1 g => g.mono (fun g => g.mono (fun a' S2 g => ?_)))
  obtain ⟨e, f⟩ := g
  exact ⟨e, np, nd, nv, nt, nb, r, t, (hN.fr f (by decide)), (hA.fr f (by decide)).succ, (hB.fr f (by decide)).succ, (hC.fr f (by decide)), (hD.fr f (by decide)), (hE.fr f (by decide)), (hF.fr f (by decide)), (hG.fr f (by decide)), (hK.fr f (by decide)), hS.fr f (by decide), hM.fr f (by decide)⟩
theorem iv_order {n : Nat} {S : xS} {x1 x2 x3 x4 : Int32} (hn : n ≤ 600) (h : INV n S) : CT 60 0 0 m_C_order [C0, .inl x1, .inl x2, .inl x3, .inl x4] S (fun a S1 => shJ a (CT 60 0 0 m_M_order [M0, .inl x1, .inl x2, .inl x3, .inl x4] S1 (fun a' S2 => a' = a ∧ INV (n + 1) S2))) := by
  obtain ⟨np, nd, nv, nt, nb, r, t, hN, hA, hB, hC, hD, hE, hF, hG, hK, hS, hM⟩ := h
  refine (cs_order (dp := 50) hn hN hA hB hC).mono (fun a S1 g => g.mono (fun g => g.mono (fun a' S2 g => ?_)))
  obtain ⟨e, hC', f⟩ := g
  exact ⟨e, np, nd, nv, nt, nb, r, t, (hN.fr f (by decide)), (hA.fr f (by decide)).succ, (hB.fr f (by decide)).succ, hC', (hD.fr f (by decide)), (hE.fr f (by decide)), (hF.fr f (by decide)), (hG.fr f (by decide)), (hK.fr f (by decide)), hS.fr f (by decide), hM.fr f (by decide)⟩
theorem iv_leg {n : Nat} {S : xS} {x1 x2 x3 x4 : Int32} (hn : n ≤ 600) (h : INV n S) : CT 60 0 0 m_C_leg [C0, .inl x1, .inl x2, .inl x3, .inl x4] S (fun a S1 => shI a (CT 60 0 0 m_M_leg [M0, .inl x1, .inl x2, .inl x3, .inl x4] S1 (fun a' S2 => a' = a ∧ INV (n + 1) S2))) := by
  obtain ⟨np, nd, nv, nt, nb, r, t, hN, hA, hB, hC, hD, hE, hF, hG, hK, hS, hM⟩ := h
  refine (cs_leg (dp := 50) hn hN hA hB hC).mono (fun a S1 g => g.mono (fun g => g.mono (fun a' S2 g => ?_)))
  obtain ⟨e, hC', f⟩ := g
  exact ⟨e, np, nd, nv, nt, nb, r, t, (hN.fr f (by decide)), (hA.fr f (by decide)).succ, (hB.fr f (by decide)).succ, hC', (hD.fr f (by decide)), (hE.fr f (by decide)), (hF.fr f (by decide)), (hG.fr f (by decide)), (hK.fr f (by decide)), hS.fr f (by decide), hM.fr f (by decide)⟩
theorem iv_count {n : Nat} {S : xS} {x1 : Int32} (hn : n ≤ 600) (h : INV n S) : CT 60 0 0 m_C_count [C0, .inl x1] S (fun a S1 => shI a (CT 60 0 0 m_M_count [M0, .inl x1] S1 (fun a' S2 => a' = a ∧ INV (n + 1) S2))) := by
  obtain ⟨np, nd, nv, nt, nb, r, t, hN, hA, hB, hC, hD, hE, hF, hG, hK, hS, hM⟩ := h
  refine (cs_count (dp := 57) hN hB hD hF).mono (fun a S1 g => g.mono (fun g => g.mono (fun a' S2 g => ?_)))
  obtain ⟨e, e2⟩ := g
  subst e2
  exact ⟨e, np, nd, nv, nt, nb, r, t, hN, hA.succ, hB.succ, hC, hD, hE, hF, hG, hK, hS, hM⟩
theorem iv_sheet {n : Nat} {S : xS} {x1 x2 x3 : Int32} (hn : n ≤ 600) (h : INV n S) : CT 60 0 0 m_C_sheet [C0, .inl x1, .inl x2, .inl x3] S (fun a S1 => shI a (CT 60 0 0 m_M_sheet [M0, .inl x1, .inl x2, .inl x3] S1 (fun a' S2 => a' = a ∧ INV (n + 1) S2))) := by
  obtain ⟨np, nd, nv, nt, nb, r, t, hN, hA, hB, hC, hD, hE, hF, hG, hK, hS, hM⟩ := h
  refine (cs_sheet (dp := 57) hE).mono (fun a S1 g => g.mono (fun g => g.mono (fun a' S2 g => ?_)))
  obtain ⟨e, hE', f⟩ := g
  exact ⟨e, np, nd, nv, nt, nb, r, t, (hN.fr f (by decide)), (hA.fr f (by decide)).succ, (hB.fr f (by decide)).succ, (hC.fr f (by decide)), (hD.fr f (by decide)), hE', (hF.fr f (by decide)), (hG.fr f (by decide)), (hK.fr f (by decide)), hS.fr f (by decide), hM.fr f (by decide)⟩
theorem iv_cell {n : Nat} {S : xS} {x1 x2 x3 : Int32} (hn : n ≤ 600) (h : INV n S) : CT 60 0 0 m_C_cell [C0, .inl x1, .inl x2, .inl x3] S (fun a S1 => shI a (CT 60 0 0 m_M_cell [M0, .inl x1, .inl x2, .inl x3] S1 (fun a' S2 => a' = a ∧ INV (n + 1) S2))) := by
  obtain ⟨np, nd, nv, nt, nb, r, t, hN, hA, hB, hC, hD, hE, hF, hG, hK, hS, hM⟩ := h
  refine (cs_cell (dp := 57) hE).mono (fun a S1 g => g.mono (fun g => g.mono (fun a' S2 g => ?_)))
  obtain ⟨e, hE', f⟩ := g
  exact ⟨e, np, nd, nv, nt, nb, r, t, (hN.fr f (by decide)), (hA.fr f (by decide)).succ, (hB.fr f (by decide)).succ, (hC.fr f (by decide)), (hD.fr f (by decide)), hE', (hF.fr f (by decide)), (hG.fr f (by decide)), (hK.fr f (by decide)), hS.fr f (by decide), hM.fr f (by decide)⟩
theorem iv_taken {n : Nat} {S : xS} {x1 x2 : Int32} (hn : n ≤ 600) (h : INV n S) : CT 60 0 0 m_C_taken [C0, .inl x1, .inl x2] S (fun a S1 => shI a (CT 60 0 0 m_M_taken [M0, .inl x1, .inl x2] S1 (fun a' S2 => a' = a ∧ INV (n + 1) S2))) := by
  obtain ⟨np, nd, nv, nt, nb, r, t, hN, hA, hB, hC, hD, hE, hF, hG, hK, hS, hM⟩ := h
  refine (cs_taken (dp := 57) hN hD hK).mono (fun a S1 g => g.mono (fun g => g.mono (fun a' S2 g => ?_)))
  obtain ⟨e, e2⟩ := g
  subst e2
  exact ⟨e, np, nd, nv, nt, nb, r, t, hN, hA.succ, hB.succ, hC, hD, hE, hF, hG, hK, hS, hM⟩
