/-! Text.keep: the fresh array takes the place of the text's code -/
def xno18 (k : Nat) : Bool := match xsh k with
  | .inl o => o.2.all (fun x => match x with
    | none => true
    | some q => !(Nat.beq q.1 18))
  | .inr a => !(Nat.beq a.2.2 18)
theorem xno18_all : ∀ k, k < 77 → k ≠ 17 → xno18 k = true := by decide +kernel
theorem xfl_18 {L L' : xL} {S S' : xS} {k i : Nat} (hL : xLX L L') (h : ∀ j, S'.1 k i j = S.1 k i j) : ∀ (sl : List (Option (Nat × Nat × Nat))) (j : Nat), sl.all (fun x => match x with
    | none => true
    | some q => !(Nat.beq q.1 18)) = true → xfl L' S' k i j sl = xfl L S k i j sl
  | [], _, _ => rfl
  | none :: r, j, hs => by
    show Value.int (S'.1 k i j) :: xfl L' S' k i (j + 1) r = Value.int (S.1 k i j) :: xfl L S k i (j + 1) r
    rw [h, xfl_18 hL h r (j + 1) (by simpa using hs)]
  | some q :: r, j, hs => by
    have hs2 := (Bool.and_eq_true_iff.mp (show ((!(Nat.beq q.1 18)) && r.all _) = true from hs))
    have hq : q.1 ≠ 18 := fun e => by
      have := hs2.1
      rw [e] at this
      exact absurd this (by decide)
    show Value.ref (L' (xrf q i).1 (xrf q i).2) :: xfl L' S' k i (j + 1) r = Value.ref (L (xrf q i).1 (xrf q i).2) :: xfl L S k i (j + 1) r
    rw [xfl_18 hL h r (j + 1) hs2.2, hL _ _ (by rw [xrf_k]; exact hq)]
theorem xcell_18 {U : State} {D : va_G} {L L' : xL} {S S' : xS} {k i : Nat} {H H' : Heap} (h : xcell U D L S k i H) (hk : k < 77) (h17 : k ≠ 17) (hL : xLX L L') (hLk : L' k i = L k i) (hS : ∀ j, S'.1 k i j = S.1 k i j ∧ S'.2 k i j = S.2 k i j) (hq : H'[L k i]? = H[L k i]?) : xcell U D L' S' k i H' := by
  have hn := xno18_all k hk h17
  have h := (h.congr hS).kept hq
  unfold xcell at h ⊢
  unfold xno18 at hn
  cases hsh : xsh k with
  | inl o =>
    rw [hsh] at h hn
    rw [hLk]
    show _ ∨ _
    rw [xfl_18 (S := S') (S' := S') hL (fun _ => rfl) o.2 0 hn]
    exact h
  | inr a =>
    obtain ⟨ty, n, rk⟩ := a
    rw [hsh] at h hn
    have hn : (!(Nat.beq rk 18)) = true := hn
    have hr : rk ≠ 18 := fun e => by
      rw [e] at hn
      exact absurd hn (by decide)
    have e : xel L' S' k i rk ty = xel L S' k i rk ty := by
      funext j
      cases ty <;> first | rfl | (show Value.ref (L' rk j) = Value.ref (L rk j); rw [hL _ _ hr])
    rw [hLk]
    show _ ∨ _
    dsimp only at h ⊢
    rw [e]
    exact h
theorem xEX.LX {U : State} {B : Nat} {L L' : xL} {S : xS} {H : Heap} (hL : xLX L L') (h : xEX U B L S H) : xEX U B L' S H := by
  obtain ⟨h1, h2, h3, h4⟩ := h
  refine ⟨by rw [hL 34 0 (by decide)]; exact h1, h2, h3, fun i hi => ?_⟩
  rw [hL 75 i (by decide), hL 76 i (by decide)]
  exact h4 i hi

def kS (S : xS) (nt u : Nat) : xS := (fun k i j => if k = 18 ∧ i = nt then (if j = 65536 then nI u else S.1 26 0 j) else S.1 k i j, S.2)
def kL (L : xL) (nt a : Nat) : xL := fun k i => if k = 18 ∧ i = nt then a else L k i
theorem kL_LX {L : xL} {nt a : Nat} : xLX L (kL L nt a) := fun k i hk => if_neg (fun q => hk q.1)
theorem xW.keep {U : State} {D : va_G} {B : Nat} {L : xL} {S : xS} {H H' : Heap} {nt u a : Nat} {cA : ClassId} (h : xW U D B L S H) (hnt : nt < 6) (hu : u ≤ 154) (hBa : B ≤ a) (hne : ∀ k i, i < xcn L k → L k i ≠ a) (hA : ArrOfT U cA .int ∧ va_RA U cA .int) (hc : H'[a]? = some (arrV cA u (fun j => .int (S.1 26 0 j)))) (hoth : ∀ q, q ≠ L 17 nt → H'[q]? = H[q]?)
    (h17 : t_OB (L 17 nt) (D.1 8) 2 (D.2 8) H' (updV (vp_V (xfl L S 17 nt 0 [some (18, 1, 0), some (19, 1, 0)])) 0 (.ref a))) : xW U D B (kL L nt a) (kS S nt u) H' := by
  obtain ⟨h1, h2, h3, h4, h5, h6, h7⟩ := h
  have hx : ∀ k, xcn (kL L nt a) k = xcn L k := fun k => xcn_LX kL_LX k
  have hL0 : ∀ k i, ¬ (k = 18 ∧ i = nt) → kL L nt a k i = L k i := fun k i q => if_neg q
  have hL1 : kL L nt a 18 nt = a := if_pos ⟨rfl, rfl⟩
  have n17 : nt < xcn L 17 := (show nt < 6 from hnt)
  have hS0 : ∀ k i, ¬ (k = 18 ∧ i = nt) → ∀ j, (kS S nt u).1 k i j = S.1 k i j ∧ (kS S nt u).2 k i j = S.2 k i j := fun k i q j => ⟨if_neg q, rfl⟩
  refine ⟨h1, fun k i hi => ?_, fun k i k' i' hi hi' hr e => ?_, fun k i hi hr => ?_, h5, ?_, fun i hi => ?_⟩
  · rw [hx] at hi
    by_cases q8 : k = 18 ∧ i = nt
    · obtain ⟨rfl, rfl⟩ := q8
      have hsh : xsh 18 = .inr (.int, 65536, 0) := rfl
      unfold xcell
      rw [hsh]
      refine Or.inr ⟨rfl, cA, hA, ?_⟩
      have el : xlen (kS S i u) 18 i 65536 = u := by
        show ((kS S i u).1 18 i 65536).toNatClampNeg = u
        rw [show (kS S i u).1 18 i 65536 = nI u by simp [kS]]
        exact nI_clamp (by omega)
      show H'[kL L i a 18 i]? = some (arrV cA (xlen (kS S i u) 18 i 65536) (xel (kL L i a) (kS S i u) 18 i 0 .int))
      rw [hL1, el, hc]
      refine congrArg _ (arrV_eq (fun j hj => ?_))
      show Value.int _ = Value.int ((kS S i u).1 18 i j)
      rw [show (kS S i u).1 18 i j = S.1 26 0 j by simp [kS, show j ≠ 65536 by omega]]
    · by_cases q7 : k = 17
      · subst q7
        by_cases qi : i = nt
        · subst qi
          have hsh : xsh 17 = .inl (8, [some (18, 1, 0), some (19, 1, 0)]) := rfl
          unfold xcell
          rw [hsh]
          refine Or.inr ⟨_, rfl, ?_⟩
          rw [hL0 17 i (by omega)]
          refine h17.to (fun j hj => ?_)
          have hj : j < 2 := hj
          match j, hj with
          | 0, _ =>
            show Value.ref a = Value.ref (kL L i a 18 i)
            rw [hL1]
          | 1, _ =>
            show Value.ref (L 19 i) = Value.ref (kL L i a 19 i)
            rw [hL0 19 i (by omega)]
        · have hsh : xsh 17 = .inl (8, [some (18, 1, 0), some (19, 1, 0)]) := rfl
          have hq := ((h2 17 i hi).congr (hS0 17 i q8)).kept (hoth _ (fun e => qi ((h3 17 i 17 nt hi n17 rfl e).2)))
          unfold xcell at hq ⊢
          rw [hsh] at hq ⊢
          rw [hL0 17 i q8]
          have e : xfl (kL L nt a) (kS S nt u) 17 i 0 [some (18, 1, 0), some (19, 1, 0)] = xfl L (kS S nt u) 17 i 0 [some (18, 1, 0), some (19, 1, 0)] := by
            show [Value.ref (kL L nt a 18 i), Value.ref (kL L nt a 19 i)] = [Value.ref (L 18 i), Value.ref (L 19 i)]
            rw [hL0 18 i (by omega), hL0 19 i (by omega)]
          show _ ∨ _
          dsimp only at hq ⊢
          rw [e]
          exact hq
      · exact xcell_18 (h2 k i hi) (xcnt_lt (xcn_le hi)) q7 kL_LX (hL0 k i q8) (hS0 k i q8) (hoth _ (fun e => q7 (h3 17 nt k i n17 hi rfl e.symm).1.symm))
  · rw [hx] at hi hi'
    by_cases q : k = 18 ∧ i = nt
    · by_cases q' : k' = 18 ∧ i' = nt
      · exact ⟨q.1.trans q'.1.symm, q.2.trans q'.2.symm⟩
      · rw [hL0 k' i' q', q.1, q.2, hL1] at e
        exact absurd e.symm (hne k' i' hi')
    · by_cases q' : k' = 18 ∧ i' = nt
      · rw [hL0 k i q, q'.1, q'.2, hL1] at e
        exact absurd e (hne k i hi)
      · rw [hL0 k i q, hL0 k' i' q'] at e
        exact h3 k i k' i' hi hi' hr e
  · rw [hx] at hi
    by_cases q : k = 18 ∧ i = nt
    · rw [q.1, q.2, hL1]; exact hBa
    · rw [hL0 k i q]; exact h4 k i hi hr
  · refine ((h6.LX kL_LX).congr (S' := kS S nt u) (fun i => (hS0 75 i (by omega) 1).1)).kept (fun x _ hxa => hoth x (fun e => hxa ?_))
    rw [e]
    exact h4 17 nt n17 rfl
  · rw [hL0 75 i (by omega)]
    exact h7 i hi
theorem kp_15 {d nt u : Nat} {S : xS} {Q : xQ} (hnt : nt < 6) (h : Q none (xcpy (kS S nt u) 27 0 0 19 nt 0 3)) : V (d + 2) 0 0 m_Text_keep 15 [some (.inr (.inr (17, nt))), some R0v] [] (kS S nt u) Q := by
  refine vs_aload_n (k := 1) (x := (25, 0)) (by decide +kernel) rfl ?_
  refine vs_getf (idx := 31) (k := 25) (ci := 4) (b := 2) (by decide +kernel) rfl rfl rfl (by decide) (Or.inr (xwn_mem (i := 224) (by decide +kernel))) ?_
  refine vs_iconst (n := 0) (v := 0) (by decide +kernel) rfl ?_
  refine vs_aload_n (k := 0) (x := (17, nt)) (by decide +kernel) rfl ?_
  refine vs_getf (idx := 15) (k := 17) (ci := 8) (b := 1) (by decide +kernel) rfl rfl rfl (by decide) (Or.inl (xwd_mem (i := 398) (by decide +kernel))) ?_
  refine vs_iconst (n := 0) (v := 0) (by decide +kernel) rfl ?_
  refine vs_iconst (n := 3) (v := 3) (by decide +kernel) rfl ?_
  refine vs_copy (k0 := 27) (i0 := 0) (k := 19) (i := nt) (n0 := 3) (n1 := 3) (r0 := 0) (r1 := 0) (sp := 0) (dp := 0) (n := 3) (idx := 32) (st := []) (by decide +kernel) (xwd_mem (i := 655) (by decide +kernel)) (by decide) rfl rfl rfl rfl rfl (by decide) (by decide) (by decide) (show (0 + 3 : Nat) ≤ 3 by decide) (by decide) ?_
  exact vs_vreturn (by decide +kernel) rfl h

theorem kp_9 {d nt u : Nat} {S : xS} {Q : xQ} (hnt : nt < 6) (hu : u ≤ 154) (h : Q none (xcpy (kS S nt u) 27 0 0 19 nt 0 3)) : V (d + 2) 1 160 m_Text_keep 9 [some (.inr (.inr (17, nt))), some R0v] [.inl (nI u), .inr (.inr (26, 0)), .inr (.inr (17, nt))] S Q := by
  intro p l e R s m args below meth c0 H locs ls cells slots mc ms D B L0 L C hc hz hRc hRs hB hL hW hS hlv hst hl
  have hlm : Cond.methodLink (mt m_Text_keep).1.cls 25 (mt m_Arrays_copyOf).1 ∈ xT := xwd_mem (i := 641) (by decide +kernel)
  have hm2 : xmok m_Arrays_copyOf := xmok_all (by decide)
  obtain ⟨m1, m2, -, m4, -, m6, m7, m8⟩ := xmok_spec hm2
  have hts := C.2.2.2.2.2.1
  have st2 : xst m_Arrays_copyOf = true := by decide
  rw [st2] at m2
  have d9 : decode (xby m_Text_keep) 9 = .ok (.invokestatic 25, 3) := by decide +kernel
  have d12 : decode (xby m_Text_keep) 12 = .ok (.putfield 9, 3) := by decide +kernel
  have hM := cp_M (d := d) (S := S) hu l D B L
  have hf : (xRm (d + 1) 1 160).frames + 1 ≤ R.frames ∧ 8 + (xml m_Arrays_copyOf + 11) + (xRm (d + 1) 1 160).locals ≤ R.locals := ⟨C.2.2.2.2.2.2.2.1, by have := C.2.2.2.2.2.2.2.2; show 8 + (3 + 11) + 40 * (d + 1) ≤ R.locals; omega⟩
  have hP : PreS s H (va_Pc [.ref (L 26 0), .int (nI u)] (fun U => B ≤ U.heap.size ∧ xW U D B L S U.heap)) [.ref (L 26 0), .int (nI u)] := ⟨xblind, fun U hU hWm => ⟨rfl, by rw [hU]; exact Nat.le_trans hB hS.1, by rw [hU]; exact hW.warm hWm⟩⟩
  have hnp : (parseMethodDescriptor (mt m_Arrays_copyOf).1.desc).map (fun d => d.parameters.length) = some 2 := by decide +kernel
  have hrun : va_Run p l e R s m args below meth c0 H locs cells slots 1 160 (F0 m 9 ls [.int (nI u), .ref (L 26 0), .ref (L 17 nt)]) [.ref (L 17 nt)] (kQ D B L S u ([.ref (L 26 0), .int (nI u)] : List Value).toArray) (xA B) := va_runS ⟨C.1, C.2.1, C.2.2.2.1, C.2.2.2.2.1, hts⟩ hM ⟨callB_of (ws' := xT) 2 hts (xgood hm2) rfl rfl rfl (hts _ m4) (hts _ hlm) ⟨m6, m7, hnp⟩ hf, hts _ m2⟩ hP rfl (by simp) hl.1 rfl (lv_room (show 1 ≤ 8 by decide)) d9 ⟨by omega, by omega⟩
  intro T hT X
  obtain ⟨v, st₀, t, T', L2, h0, X', hLL, e1, e2, ⟨⟨a, cA, hv, hBa, hne, ⟨hA1, hA2⟩, hcell, hWt⟩, hz, hk⟩, stp⟩ := hrun T hT X
  have hv' : v = some (.ref a) := Outcome.returned.inj hv
  subst hv'
  rw [h0] at hz hk
  have hvm : s.vm.Alike t.vm := by rw [← e2]; exact X'.warmed.alike
  have hW1 : xW s D B L S T'.heap := xW.back (L := L) hvm (fun _ _ _ => rfl) hW (by rw [e1]; exact hWt)
  have hS1 : va_S (xA B) s.heap T'.heap (locs ++ L2) := ⟨Nat.le_trans hS.1 (by rw [e1]; exact hz), fun q h1 h2 => by rw [e1, hk q (Nat.lt_of_lt_of_le h1 hS.1) h2]; exact hS.2.1 q h1 h2, fun q hq => by
      rcases List.mem_append.mp hq with h | h
      · exact hS.2.2 q h
      · exact hLL q h⟩
  have hA : ArrOfT s cA .int ∧ va_RA s cA .int := ⟨arrOfT_moved hvm.symm hA1, va_RA.moved hvm.symm hA2⟩
  have hcell1 : T'.heap[a]? = some (arrV cA u (fun j => .int (S.1 26 0 j))) := by rw [e1]; exact hcell
  have n17 : nt < xcn L 17 := (show nt < 6 from hnt)
  have hob := xcell_o (k := 17) (hW1.2.1 17 nt n17) rfl (show classes[8]? = _ from rfl)
  have hcl : classes[8]? = some ("MonsoonTrade$Text", TX8, 2) := rfl
  obtain ⟨ty0, hty0, hnm⟩ := xtyp hcl
  have hap := va_apart (own := "MonsoonTrade$Text") hts (xlay hcl) ty0 hty0 hnm hW1.1 hcl
  obtain ⟨cell, q1, q2, q3, q4⟩ := hob
  obtain ⟨hSl, hfc, kC, hkC, hkind⟩ := hW1.1.1 8 _ hcl
  have hb : 0 < 2 := by decide
  obtain ⟨cf, kf, fi, f, hif, hsl⟩ := hSl 0 hb
  have hlay := hts _ (xlay hcl _ (u_in_lay hb))
  unfold u_lay at hlay
  rw [if_neg (by decide)] at hlay
  have hst1 := (u_facts hfc hkC (u_lays hts (xlay hcl) hb) hif).1
  have h6 := u_store (v := .ref a) (ty := .array .int) hfc hkC hkind hlay hif (by decide +kernel) rfl rfl
  have hw : Cond.fieldLink (mt m_Text_keep).1.cls 9 (TX8 0).1 (TX8 0).2.1 (TX8 0).2.2.1 ∈ xT := xwd_mem (i := 396) (by decide +kernel)
  have kk : W p l e R s m args below meth c0 T'.heap (locs ++ L2) (cells + 1) (slots + 160) (MQ below (xQc D B L0 Q) args s mc ms (xA B)) (F0 m 12 ls [.ref a, .ref (L 17 nt)]) := by
    refine W.putK C.1 C.2.1 (f := f) ⟨C.2.2.2.2.1, hts _ hw, ⟨_, _, _, hif⟩, hst1⟩ (by rw [q2]; exact h6) q1 q3 (by rw [hsl]; exact k2_hasslot (q4 0 hb)) rfl rfl d12 (fun H' e1 e2 e3 => ?_)
    rw [hsl] at e1
    have hW2 : xW s D B (kL L nt a) (kS S nt u) H' := hW1.keep hnt hu hBa hne hA ((e3 a (fun e => hne 17 nt n17 e.symm)).trans hcell1) e3 ⟨_, e1, q2, q3, t_set q4 hap hb (.ref a)⟩
    exact kp_15 hnt h p l e R s m args below meth c0 H' _ ls (cells + 1) (slots + 160) mc ms D B L0 (kL L nt a) C (by omega) (by omega) hRc hRs hB (fun k i hk => (kL_LX k i hk).trans (hL k i hk)) hW2 (hS1.put e2 e3 (hW1.2.2.2.1 17 nt n17 rfl)) (fun v hv => xok_LX kL_LX (hlv v hv)) (fun v hv => by cases hv) (by rw [xal_eq kL_LX (by rfl)]; exact hl)
  obtain ⟨t2, a1, b1⟩ := kk T' rfl X'
  exact ⟨t2, stp t2 a1, b1⟩
theorem kp_C {d nt u : Nat} {S : xS} {Q : xQ} (hnt : nt < 6) (hu : u ≤ 154) (e3 : S.1 25 0 3 = nI u) (h : Q none (xcpy (kS S nt u) 27 0 0 19 nt 0 3)) : CT (d + 2) 1 160 m_Text_keep [.inr (.inr (17, nt)), R0v] S Q := by
  refine ct_of (xmok_all (by decide)) rfl ?_
  refine vs_aload_n (k := 0) (x := (17, nt)) (by decide +kernel) rfl ?_
  refine vs_aload_n (k := 1) (x := (25, 0)) (by decide +kernel) rfl ?_
  refine vs_getf (idx := 18) (k := 25) (ci := 4) (b := 1) (by decide +kernel) rfl rfl rfl (by decide) (Or.inr (xwn_mem (i := 222) (by decide +kernel))) ?_
  refine vs_aload_n (k := 1) (x := (25, 0)) (by decide +kernel) rfl ?_
  refine vs_getf (idx := 21) (k := 25) (ci := 4) (b := 3) (by decide +kernel) rfl rfl rfl (by decide) (Or.inr (xwn_mem (i := 226) (by decide +kernel))) ?_
  have k := kp_9 (d := d) (S := S) hnt hu h
  rw [← e3] at k
  exact k
theorem kpx : KPX := by
  intro D nt u S Q hnt hu e3 h
  have hc : CT (D + 2) 1 160 m_Text_keep [.inr (.inr (17, nt)), R0v] S (fun r S' => V (D + 2 + 1) 0 0 m_C_text (50 + 3) [some C0, some (.inl (-1))] (r.toList ++ []) S' Q) := kp_C hnt hu e3 (h _ (fun j hj => by simp [xcpy, kS, show j ≠ 65536 by omega]) (by simp [xcpy, kS]) (fun j hj => by simp [xcpy, kS, hj]) (fun k i j h8 h9 => by
    have h9' : ¬ (k = 19 ∧ i = nt ∧ 0 ≤ j ∧ j < 0 + 3) := fun q => h9 ⟨q.1, q.2.1⟩
    show (if k = 19 ∧ i = nt ∧ 0 ≤ j ∧ j < 0 + 3 then _ else (kS S nt u).1 k i j) = _
    rw [if_neg h9']
    exact if_neg h8) rfl)
  exact vs_callV (idx := 89) (av := [R0v]) (rest := []) (c := 0) (z := 0) (by decide +kernel) (xmok_all (by decide)) (by decide) (Or.inl (xwd_mem (i := 637) (by decide +kernel))) (k := 17) (i := nt) (ci := 8) rfl (Or.inr ⟨TX8, 2, rfl⟩) (by decide +kernel) (by decide) rfl rfl hc
