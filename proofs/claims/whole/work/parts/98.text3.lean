/-! text, tied -/
theorem gRg.fr {nt : Nat} {S S2 : xS} (h : gRg nt S S2) : Fr (fl [62, 63, 64, 68, 37041, 37042, 37043, 37044, 37046]) S S2 := by
  refine ⟨fun k i j hf => h.1 k i j ?_ (fun q => ?_) (fun q => ?_) (fun q => ?_), h.2⟩
  · cases hb : fl fMr k j with
    | false => rfl
    | true =>
      have hm : fk k j ∈ fMr := List.elem_iff.mp hb
      have : fl [62, 63, 64, 68, 37041, 37042, 37043, 37044, 37046] k j = true := List.elem_iff.mpr (by
        have hs : ∀ x ∈ fMr, x ∈ [62, 63, 64, 68, 37041, 37042, 37043, 37044, 37046] := by decide
        exact hs _ hm)
      rw [this] at hf; cases hf
  · obtain ⟨q, _⟩ := q; subst q; rw [show fl [62, 63, 64, 68, 37041, 37042, 37043, 37044, 37046] 62 j = true from rfl] at hf; cases hf
  · obtain ⟨q, _⟩ := q
    rcases q with q | q
    · subst q; rw [show fl [62, 63, 64, 68, 37041, 37042, 37043, 37044, 37046] 63 j = true from rfl] at hf; cases hf
    · subst q; rw [show fl [62, 63, 64, 68, 37041, 37042, 37043, 37044, 37046] 64 j = true from rfl] at hf; cases hf
  · subst q; rw [show fl [62, 63, 64, 68, 37041, 37042, 37043, 37044, 37046] 68 j = true from rfl] at hf; cases hf
theorem IG.kp {nt : Nat} {S S2 : xS} (h : IG nt S) (h18 : ∀ T j, T < nt → S2.1 18 T j = S.1 18 T j) (h19 : ∀ T j, T < nt → S2.1 19 T j = S.1 19 T j) (h62 : ∀ j, j < 3 * nt → S2.1 62 0 j = S.1 62 0 j) (h63 : ∀ j, j < 480 * nt → S2.1 63 0 j = S.1 63 0 j) (h64 : ∀ j, j < 480 * nt → S2.1 64 0 j = S.1 64 0 j) : IG nt S2 := by
  intro T P hT hP
  obtain ⟨a, e, c, q1, q2, q3, q4, q5, q6, q7⟩ := h T P hT hP
  refine ⟨a, e, c, ?_, (h19 T P hT).trans q2, q3, by rw [h18 T 65536 hT]; exact q4, (h62 _ (by omega)).trans q5, q6, fun i hi => ?_⟩
  · by_cases c0 : P = 0
    · rw [if_pos c0] at q1 ⊢; exact q1
    · rw [if_neg c0] at q1 ⊢; rw [h19 T _ hT]; exact q1
  · obtain ⟨z1, z2, z3, z4⟩ := q7 i hi
    exact ⟨z1, (h18 T _ hT).trans z2, (h63 _ (by omega)).trans z3, fun z => (h64 _ (by omega)).trans (z4 z)⟩
theorem IGp.new {nt P a tot : Nat} {e : List Int32} {S : xS} (hw : wLs e) (h1 : (if P = 0 then 0 else S.1 19 nt (P - 1)) = nI a) (h2 : S.1 19 nt P = nI (a + e.length)) (h3 : a + e.length ≤ tot) (ht : tot ≤ 160) (h4 : S.1 18 nt 65536 = nI tot) (h5 : gOu (3 * nt + P) e S) (h6 : ∀ j, j < e.length → S.1 18 nt (a + j) = e.getD j 0) : IGp nt P S := by
  obtain ⟨w1, w2⟩ := hw.wf (by omega)
  refine ⟨a, e.length, fun j => e.getD j 0, h1, h2, by omega, by rw [h4, nI_clamp (by omega)]; exact h3, h5.1, w1, fun i hi => ⟨w2 i hi, h6 i hi, (h5.2 i hi).1, (h5.2 i hi).2⟩⟩
abbrev fTx : List Nat := [1011, 24001, 27, 24002, 24003, 24004, 24005, 26003, 26004, 26005, 26, 18, 19, 62, 63, 64, 68, 37041, 37042, 37043, 37044, 37046, 37032, 37033]
theorem cm_text (hX : CIX) (hK : KPX) {dp np nd nv nt nb r t : Nat} {S : xS} (hN : IN np nd nv nt r t S) (hF : IF nb S) (hG : IG nt S) (hS : gStr S) (hW : gMw S) : CT (dp + 60) 1 160 m_C_text [C0] S (fun a S1 => CT (dp + 60) 0 0 m_M_text [M0] S1 (fun a' S2 => a' = a ∧ ∃ nt' nb', IN np nd nv nt' r t S2 ∧ IF nb' S2 ∧ IG nt' S2 ∧ Fr (fl fTx) S S2)) := by
  obtain ⟨⟨b1, b2, b3, ⟨b4, b4'⟩, b5, b6⟩, ⟨e1, e2⟩, ⟨e3, e4⟩, ⟨e7, e8⟩, ⟨e9, e10⟩, ⟨e11, e12⟩, e13, e14⟩ := id hN
  obtain ⟨n160, f1, f2, f3⟩ := id hF
  have hB : gBy (S.1 24 0) nb S := ⟨f1, n160, fun j _ => rfl⟩
  have hr : ∀ j, j < nb → -128 ≤ S.1 24 0 j ∧ S.1 24 0 j ≤ 127 := fun j hj => (f3 j hj).2
  have hM : gMb (S.1 24 0) nb S := ⟨f2, n160, fun j hj => (f3 j hj).1, hr⟩
  refine ct_C_text hX hK (D := dp) b4' e9 hS hB hr (fun h6 => ?_) (fun h6 e1' e2' e3' S' t1 w1 w2 w3 c3 c5 s1 s11 sF s2 => ?_) (fun h6 j S' t1 s1 sF => ?_)
  · exact ct_M_text (D := dp + 55) b4' e10 hM hW (fun _ => ⟨rfl, nt, nb, hN, hF, hG, Fr.rf⟩) (fun z => by omega) (fun z => by omega)
  · have fS : Fr (fl (18 :: 19 :: 1011 :: 24001 :: 27 :: fRd)) S S' := by
      refine ⟨fun k i j hf => sF k i j ?_ (fun q => ?_), s2⟩
      · cases hb : fl (1011 :: 24001 :: 27 :: fRd) k j with
        | false => rfl
        | true =>
          have hm : fk k j ∈ (1011 :: 24001 :: 27 :: fRd) := List.elem_iff.mp hb
          rw [show fl (18 :: 19 :: 1011 :: 24001 :: 27 :: fRd) k j = true from List.elem_iff.mpr (List.mem_cons_of_mem _ (List.mem_cons_of_mem _ hm))] at hf
          cases hf
      · rcases q.1 with e | e
        · subst e; rw [show fl (18 :: 19 :: 1011 :: 24001 :: 27 :: fRd) 18 j = true from rfl] at hf; cases hf
        · subst e; rw [show fl (18 :: 19 :: 1011 :: 24001 :: 27 :: fRd) 19 j = true from rfl] at hf; cases hf
    refine ct_M_text (D := dp + 55) b4' ((fS.1 36 0 33 rfl).trans e10) (hM.fr fS (by decide)) (hW.fr fS (by decide)) (fun z => by omega) (fun _ x1 x2 x3 T u1 u2 u3 u4 u5 => ?_) (fun _ j T u1 u2 => (t1.x u1).elim)
    obtain ⟨rfl, rfl, rfl⟩ := t1.u u1
    have fT := u5.fr
    have fE : Fr (fl fTx) S (xupd (xupd T 36 0 32 0) 36 0 33 (nI (nt + 1))) := (fS.wk (by decide)).tr ((fT.wk (by decide)).tr ((Fr.rf.up rfl).up rfl))
    have hE : Fr (fl [62, 63, 64, 68, 37041, 37042, 37043, 37044, 37046, 37032, 37033]) S' (xupd (xupd T 36 0 32 0) 36 0 33 (nI (nt + 1))) := (fT.wk (by decide)).tr ((Fr.rf.up rfl).up rfl)
    refine ⟨rfl, nt + 1, 0, ?_, ⟨Nat.zero_le _, (hE.1 23 0 1 rfl).trans s1, rfl, fun i h => absurd h (Nat.not_lt_zero _)⟩, ?_, fE⟩
    · exact ⟨⟨b1, b2, b3, ⟨by omega, by omega⟩, by omega, b6⟩, ⟨(fE.1 1 0 2 rfl).trans e1, (fE.1 36 0 1 rfl).trans e2⟩, ⟨(fE.1 0 0 9 rfl).trans e3, (fE.1 36 0 8 rfl).trans e4⟩, ⟨(fE.1 0 0 10 rfl).trans e7, (fE.1 36 0 19 rfl).trans e8⟩, ⟨(hE.1 0 0 11 rfl).trans s11, rfl⟩, ⟨(fE.1 0 0 12 rfl).trans e11, (fE.1 36 0 34 rfl).trans e12⟩, (fE.1 0 0 13 rfl).trans e13, (fE.1 36 0 0 rfl).trans e14⟩
    · have hold : IG nt (xupd (xupd T 36 0 32 0) 36 0 33 (nI (nt + 1))) := by
        refine hG.kp (fun T2 j hT2 => ?_) (fun T2 j hT2 => ?_) (fun j hj => ?_) (fun j hj => ?_) (fun j hj => ?_)
        · exact (hE.1 18 T2 j rfl).trans (sF 18 T2 j rfl (fun q => by omega))
        · exact (hE.1 19 T2 j rfl).trans (sF 19 T2 j rfl (fun q => by omega))
        · exact (u5.1 62 0 j rfl (by omega) (by omega) (by decide)).trans (fS.1 62 0 j rfl)
        · exact (u5.1 63 0 j rfl (by omega) (by omega) (by decide)).trans (fS.1 63 0 j rfl)
        · exact (u5.1 64 0 j rfl (by omega) (by omega) (by decide)).trans (fS.1 64 0 j rfl)
      obtain ⟨⟨a1, a2, a3⟩, a4, a5, a6, a7⟩ := c3
      have k18 : ∀ j, (xupd (xupd T 36 0 32 0) 36 0 33 (nI (nt + 1))).1 18 nt j = S'.1 18 nt j := fun j => hE.1 18 nt j rfl
      have k19 : ∀ j, (xupd (xupd T 36 0 32 0) 36 0 33 (nI (nt + 1))).1 19 nt j = S'.1 19 nt j := fun j => hE.1 19 nt j rfl
      intro T2 P hT2 hP
      by_cases c0 : T2 < nt
      · exact hold T2 P c0 hP
      · have : T2 = nt := by omega
        subst this
        have hP3 : P = 0 ∨ P = 1 ∨ P = 2 := by omega
        rcases hP3 with e | e | e <;> subst e
        · exact IGp.new (a := 0) (tot := e1'.length + e2'.length + e3'.length) (e := e1') w1 rfl (by rw [k19, a1, Nat.zero_add]) (by omega) (by omega) ((k18 _).trans c5) u2 (fun j hj => (k18 _).trans (a5 j hj))
        · exact IGp.new (a := e1'.length) (tot := e1'.length + e2'.length + e3'.length) (e := e2') w2 ((k19 0).trans a1) ((k19 1).trans a2) (by omega) (by omega) ((k18 _).trans c5) u3 (fun j hj => (k18 _).trans (a6 j hj))
        · exact IGp.new (a := e1'.length + e2'.length) (tot := e1'.length + e2'.length + e3'.length) (e := e3') w3 ((k19 1).trans a2) ((k19 2).trans a3) (by omega) (by omega) ((k18 _).trans c5) u4 (fun j hj => (k18 _).trans (a7 j hj))
  · refine ct_M_text (D := dp + 55) b4' ((sF.1 36 0 33 rfl).trans e10) (hM.fr sF (by decide)) (hW.fr sF (by decide)) (fun z => by omega) (fun _ x1 x2 x3 T u1 _ _ _ _ => (u1.x t1).elim) (fun _ j2 T u1 u2 => ?_)
    have ej := t1.u u1
    subst ej
    have fT := u2.fr
    have hE : Fr (fl [62, 63, 64, 68, 37041, 37042, 37043, 37044, 37046, 37032]) S' (xupd T 36 0 32 0) := (fT.wk (by decide)).tr (Fr.rf.up rfl)
    have fE : Fr (fl fTx) S (xupd T 36 0 32 0) := (sF.wk (by decide)).tr (hE.wk (by decide))
    have fN : Fr (fl [24001, 27, 24002, 24003, 24004, 24005, 26003, 26004, 26005, 26, 62, 63, 64, 68, 37041, 37042, 37043, 37044, 37046, 37032]) S (xupd T 36 0 32 0) := (sF.wk (by decide)).tr (hE.wk (by decide))
    refine ⟨rfl, nt, 0, hN.fr fN (by decide), ⟨Nat.zero_le _, (hE.1 23 0 1 rfl).trans s1, rfl, fun i h => absurd h (Nat.not_lt_zero _)⟩, ?_, fE⟩
    refine hG.kp (fun T2 j hT2 => ?_) (fun T2 j hT2 => ?_) (fun j hj => ?_) (fun j hj => ?_) (fun j hj => ?_)
    · exact fN.1 18 T2 j rfl
    · exact fN.1 19 T2 j rfl
    · exact (u2.1 62 0 j rfl (by omega) (by omega) (by decide)).trans (sF.1 62 0 j rfl)
    · exact (u2.1 63 0 j rfl (by omega) (by omega) (by decide)).trans (sF.1 63 0 j rfl)
    · exact (u2.1 64 0 j rfl (by omega) (by omega) (by decide)).trans (sF.1 64 0 j rfl)
