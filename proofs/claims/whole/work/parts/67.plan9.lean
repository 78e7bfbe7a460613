/-! the class plans: the call -/
theorem goods_N {x1 x2 x3 x4 p1 p2 p3 p4 A h : Nat} (hs : x1 + x2 + x3 + x4 ≤ h) (hh : h ≤ 99) (h1 : p1 ≤ 99) (h2 : p2 ≤ 99) (h3 : p3 ≤ 99) (h4 : p4 ≤ 99) : ∃ c, c ≤ A + 9801 ∧ nI A + nI x1 * nI p1 + nI x2 * nI p2 + nI x3 * nI p3 + nI x4 * nI p4 = nI c := by
  refine ⟨A + x1 * p1 + x2 * p2 + x3 * p3 + x4 * p4, ?_, ?_⟩
  · have a1 := Nat.mul_le_mul_left x1 h1
    have a2 := Nat.mul_le_mul_left x2 h2
    have a3 := Nat.mul_le_mul_left x3 h3
    have a4 := Nat.mul_le_mul_left x4 h4
    omega
  · rw [nI_mul, nI_mul, nI_mul, nI_mul, nI_add, nI_add, nI_add, nI_add]
theorem ct_C_plan {d n0 np nd nv nt r t D n la : Nat} {S : xS} {Q : xQ} (hn0 : n0 ≤ 600) (hN : IN np nd nv nt r t S) (hA : IA n0 S) (hB : IB n0 np nd t S) (hC : IC np t S) (hD : D < nd) (hn : n ≤ 3) (hla : la ≤ 9999)
    (h0 : ¬ cThere S D → Q (some (.inl 0)) S)
    (h1 : ∀ P, P < np → cThere S D → S.1 12 D 0 = nI P → ∀ (S1 S' : xS) (c L W t9 C : Nat), lnR (ntC S P (nI t)) S1 P D (nI t) (nI la) → Fr (fl [32, 33, 32009, 32010, 32011]) S1 S' → S1.1 31 0 6 = nI c → c + 80000 < 2 ^ 30 → (plD S1).Best P t c n L W t9 C → S'.1 31 0 10 = nI L → (1 ≤ L → S'.1 31 0 9 = nI W) → S'.1 31 0 11 = nI t9 → (∀ i, i < L → dgC S' L C i) → Q (some (.inl (if 1 ≤ L then 1 else 0))) S') : CT (d + 9) 0 0 m_C_plan [C0, .inl (nI D), .inl (nI n), .inl (nI la)] S Q := by
  obtain ⟨⟨b1, b2, b3, b4, b5, b6⟩, ⟨e1, e2⟩, ⟨e3, e4⟩, ⟨e7, e8⟩, ⟨e9, e10⟩, ⟨e11, e12⟩, e13, e14⟩ := id hN
  have eD : (nI D).toNatClampNeg = D := nI_clamp (by omega)
  have hb := (hB D (by omega)).1 hD
  refine ct_of (xmok_all (by decide)) rfl (V_go (pc := 0) pk_110 [8] 60 ?_)
  refine And.intro (vi (N := 4) (by omega)) ?_
  show V (d + 9) 0 0 m_C_plan 8 [some C0, some (.inl (nI D)), some (.inl (nI n)), some (.inl (nI la)), some (.inr (.inr (12, (nI D).toNatClampNeg)))] [] S Q
  rw [eD]
  refine V_go pk_110 [] 120 ?_
  refine ct_inPort (fun p1 p2 => ?_) (fun p => ?_)
  · (repeat' first | (refine And.intro (fun q => absurd q (by decide)) (fun _ => ?_)) | (refine And.intro (fun _ => ?_) (fun q => absurd q (by decide))) | fail)
    have th : cThere S D := ⟨p1, p2⟩
    obtain ⟨_, hpl, _, ⟨h, G, ⟨hh1, hh9⟩, hh, hG, hG9⟩, ⟨A, hA9, eA⟩, _⟩ := hb
    obtain ⟨P, hP, eP, _⟩ : ∃ p, p < np ∧ S.1 12 D 0 = nI p ∧ S.1 43 0 D = nI p := by
      rcases hpl with q | q
      · exact q.2
      · exact absurd q.2.1 p1
    have h1 := h1 P hP th eP
    show CT (d + 8) 0 0 m_Sea_tellItself [.inr (.inr (1, 0)), .inl (S.1 12 D 0), .inl (S.1 0 0 13)] S _
    rw [eP, e13]
    refine ct_tellItself (d := d + 5) (by omega) ?_
    have fU := ntC_fr S P (nI t)
    have hCU := IC.note hA hn0 hC hP b1
    have hPP : (ntC S P (nI t)).1 9 P P = nI t := by rw [ntC_9, if_pos rfl]; exact if_pos rfl
    generalize ntC S P (nI t) = U at h1 fU hCU hPP ⊢
    show CT (d + 8) 0 0 m_Planner_learn [P0, .inr (.inr (12, D)), .inl (U.1 0 0 13), .inl (nI la)] U _
    rw [fU.1 0 0 13 rfl, e13]
    refine ct_learn (d := d + 5) (P := P) (D := D) (by omega) (by omega) ((fU.1 12 D 0 rfl).trans eP) (fun q hq => ?_) (fun S1 hl => ?_)
    · rcases (hCU.2.2 (D + 6) q (by omega) hq).1 with e | ⟨_, c, hc, e⟩
      · exact Or.inl e
      · exact Or.inr ⟨c, by omega, e⟩
    obtain ⟨hPC, enp, epr, eP1, ekP⟩ := pc_ok hA hCU b1 e1 fU hP (by omega) b6 hh hh9 hla hPP hl
    obtain ⟨q0, x0, y0, z0⟩ := epr P (by omega) ekP 0 (by decide)
    obtain ⟨q1, x1, y1, z1⟩ := epr P (by omega) ekP 1 (by decide)
    obtain ⟨q2, x2, y2, z2⟩ := epr P (by omega) ekP 2 (by decide)
    obtain ⟨q3, x3, y3, z3⟩ := epr P (by omega) ekP 3 (by decide)
    obtain ⟨c, hc, ec⟩ := goods_N (A := A) hG9 hh9 x0 x1 x2 x3
    have e6 : S1.1 31 0 6 = nI c := by
      rw [hl.2.2.2.1, y0, y1, y2, y3, fU.1 12 D 4 rfl, fU.1 13 D 0 rfl, fU.1 13 D 1 rfl, fU.1 13 D 2 rfl, fU.1 13 D 3 rfl, (hG 0 (by decide)).1, (hG 1 (by decide)).1, (hG 2 (by decide)).1, (hG 3 (by decide)).1, eA]
      exact ec
    have h1 := fun S' L W t9 C => h1 S1 S' c L W t9 C hl
    have ok := hPC.ok
    have n6 := ok.1
    refine ct_find (d := d + 1) (a := P) (t := t) (c := c) hPC hl.2.2.1.1 hl.2.2.1.2.1 e6 hn (by omega) ekP b6 (by omega) ?_
    have bf := PlD.findP_bd ok (a := P) (t := t) (c := c) n hn
    have fd : Fr (fl [32, 33, 32009, 32010, 32011]) S1 (fdS S1 ((plD S1).findP P t c n).1 ((plD S1).findP P t c n).2) := (Fr.rf.up rfl).up rfl
    have at' := PlD.findP_at n6 (a := P) (t := t) (c := c) n
    have w9 : ((plD S1).findP P t c n).2 = 0 ∨ (wI ((plD S1).findP P t c n).1 = nI ((plD S1).findP P t c n).1.toNat ∧ (plD S1).mostP ((plD S1).findP P t c n).2 P t c = (((plD S1).findP P t c n).1.toNat : Nat)) := by
      rcases at' with ⟨_, i2, _⟩ | ⟨i1, i2, i3, i4, _⟩
      · exact Or.inl i2
      · refine Or.inr ⟨?_, by rw [i4]; omega⟩
        rw [← wI_n]
        congr 1
        omega
    refine ct_trace (d := d) (a := P) (t := t) (c := c) (w := ((plD S1).findP P t c n).1.toNat) (L := ((plD S1).findP P t c n).2) (hPC.fr fd (by decide)) hl.2.2.1.1 hl.2.2.1.2.1 e6 (w9.imp id (fun q => q.1)) rfl (by omega) (by omega) ekP b6 (by omega) (by omega) (w9.imp id (fun q => q.2)) (fun S' code t9 f1 hg hcd hdg h11 => ?_)
    have best := PlD.best_of n6 hg hcd
    have f2 : Fr (fl [32, 33, 32009, 32010, 32011]) S1 S' := fd.tr (f1.wk (by decide))
    have r10 : S'.1 31 0 10 = nI ((plD S1).findP P t c n).2 := f1.1 31 0 10 rfl
    have h1 := h1 S' _ _ t9 code f2 e6 (by omega) best r10 (fun hL => (f1.1 31 0 9 rfl).trans ((w9.resolve_left (by omega)).1)) h11 hdg
    refine And.intro (fun q => ?_) (fun q => ?_)
    · have q : S'.1 31 0 10 ≤ 0 := q
      rw [r10] at q
      have z : ¬ 1 ≤ ((plD S1).findP P t c n).2 := fun z => absurd q (nI_nle (by omega) (by omega))
      rw [if_neg z] at h1
      exact And.intro (Or.inl rfl) h1
    · have q : ¬ S'.1 31 0 10 ≤ 0 := q
      rw [r10] at q
      have z : 1 ≤ ((plD S1).findP P t c n).2 := by
        rcases Nat.eq_zero_or_pos ((plD S1).findP P t c n).2 with e | e
        · rw [e] at q; exact absurd (Int32.le_refl (nI 0)) q
        · exact e
      rw [if_pos z] at h1
      exact And.intro (Or.inr rfl) h1
  · (repeat' first | (refine And.intro (fun q => absurd q (by decide)) (fun _ => ?_)) | (refine And.intro (fun _ => ?_) (fun q => absurd q (by decide))) | fail)
    exact And.intro (Or.inl rfl) (h0 p)
