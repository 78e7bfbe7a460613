/-! the class's constructor: its end, by the machine -/
theorem rawV {p : Program} {l : Launch} {e : Env} {R : Room} {s : State} {m : MethodId} {args : Array Value} {below : List Frame} {meth : Method} {c0 : Code} {H : Heap} {locs : List Loc} {cells slots : Nat} {Q : State → Prop} {cc : ByteArray} {nL pc idx mi2 k i ci c' z' d : Nat} {own : String} {ls : Array Slot} {rest : List Value} {sl : List (Option (Nat × Nat × Nat))} {D : va_G} {B : Nat} {L : xL} {S : xS} {av : List xV} {Q' : xQ}
    (hF : CallFix p m c0 cc nL s args xT own) (hls : ls.size = nL) (hfr : d + 1 ≤ R.frames ∧ 40 * (d + 1) ≤ R.locals) (hB : B ≤ s.heap.size) (hd : decode cc pc = .ok (.invokevirtual idx, 3)) (hm : xmok mi2) (hst2 : xst mi2 = false)
    (hlk : Cond.methodLink own idx (mt mi2).1 ∈ xT ∨ Cond.methodLinkNest own idx (mt mi2).1 "MonsoonTrade" ∈ xN) (hsh : xsh k = .inl (ci, sl)) (hcl : ∃ T N, classes[ci]? = some ((mt mi2).1.cls, T, N))
    (hnp : (parseMethodDescriptor (mt mi2).1.desc).map (fun d => d.parameters.length) = some av.length) (hct : (rest.map fun v => v.category).sum ≤ 8) (hkc : i < xcn L k) (hav : ∀ v ∈ av, xok L v)
    (hW : xW s D B L S H) (hS : va_S (xA B) s.heap H locs) (hroom : cells + c' ≤ R.cells ∧ slots + z' ≤ R.slots) (h : CT d c' z' mi2 (.inr (.inr (k, i)) :: av) S Q')
    (kk : ∀ (r : Option xV) (S' : xS) (L' : xL) (H1 : Heap) (locs1 : List Loc), (∀ v, r = some v → xok L' v) → Q' r S' → xLX L L' → xW s D B L' S' H1 → va_S (xA B) s.heap H1 locs1 → W p l e R s m args below meth c0 H1 locs1 (cells + c') (slots + z') Q (F0 m (pc + 3) ls ((r.map (xcv L')).toList ++ rest))) :
    W p l e R s m args below meth c0 H locs cells slots Q (F0 m pc ls ((av.map (xcv L)).reverse ++ .ref (L k i) :: rest)) := by
  have hM := h l D B L (fun v hv => by
    rcases List.mem_cons.mp hv with e | hv
    · rw [e]; exact hkc
    · exact hav v hv)
  have hts := hF.2.2.2.2
  obtain ⟨m1, m2, m3, m4, -, m6, m7, m8⟩ := xmok_spec hm
  rw [hst2] at m2 m3
  have m3 : Cond.selects (mt mi2).1.cls (mt mi2).1 (mt mi2).1 ∈ xT := m3.resolve_left (fun h => by cases h)
  have hf : (xRm d c' z').frames + 1 ≤ R.frames ∧ 8 + (xml mi2 + 11) + (xRm d c' z').locals ≤ R.locals := ⟨hfr.1, by have := hfr.2; show 8 + (xml mi2 + 11) + 40 * d ≤ R.locals; omega⟩
  have hrc : ∃ cellB : Cell, H[L k i]? = some cellB ∧ cellB.vm.isStatics = false ∧ s.vm.findClass (mt mi2).1.cls = some cellB.cls := by
    obtain ⟨T, N, hcl⟩ := hcl
    obtain ⟨cell, q1, q2, q3, -⟩ := xcell_o (hW.2.1 k i hkc) hsh hcl
    exact ⟨cell, q1, by rw [q3]; rfl, by rw [q2]; exact (hW.1.1 ci _ hcl).2.1⟩
  have hP : PreV s H (mt mi2).1.cls (L k i) (va_Pc ((.inr (.inr (k, i)) :: av).map (xcv L)) (fun U => B ≤ U.heap.size ∧ xW U D B L S U.heap)) (av.map (xcv L)) := ⟨xblind, hrc, fun U hU hWm => ⟨rfl, by rw [hU]; exact Nat.le_trans hB hS.1, by rw [hU]; exact hW.warm hWm⟩⟩
  have hrun : va_Run p l e R s m args below meth c0 H locs cells slots c' z' (F0 m pc ls ((av.map (xcv L)).reverse ++ .ref (L k i) :: rest)) rest (xQc D B L Q' (Value.ref (L k i) :: av.map (xcv L)).toArray) (xA B) := by
    rcases hlk with hw | hw
    · exact va_runV hF hM ⟨callB_of (ws' := xT) av.length hts (xgood hm) rfl rfl rfl (hts _ m4) (hts _ hw) ⟨m6, m7, hnp⟩ hf, hts _ m2, hts _ m3⟩ hP rfl (by simp) hls rfl (lv_room hct) hd ⟨by omega, by omega⟩
    · exact va_runVN hF hM ⟨va_cnB (ws' := xT) av.length hts (xgood hm) rfl rfl rfl (hW.2.2.2.2.1 _ hw) (hts _ m4) ⟨m6, m7, hnp⟩ hf, hts _ m2, hts _ m3⟩ hP rfl (by simp) hls rfl (lv_room hct) hd ⟨by omega, by omega⟩
  exact xcall hrun hW hS kk
theorem rawVa {p : Program} {l : Launch} {e : Env} {R : Room} {s : State} {m : MethodId} {args : Array Value} {below : List Frame} {meth : Method} {c0 : Code} {H : Heap} {locs : List Loc} {cells slots : Nat} {Q : State → Prop} {cc : ByteArray} {nL pc idx mi2 k i ci c' z' d a : Nat} {own : String} {ls : Array Slot} {rest : List Value} {sl : List (Option (Nat × Nat × Nat))} {D : va_G} {B : Nat} {L : xL} {S : xS} {av : List xV} {Q' : xQ} (ha : L k i = a)
    (hF : CallFix p m c0 cc nL s args xT own) (hls : ls.size = nL) (hfr : d + 1 ≤ R.frames ∧ 40 * (d + 1) ≤ R.locals) (hB : B ≤ s.heap.size) (hd : decode cc pc = .ok (.invokevirtual idx, 3)) (hm : xmok mi2) (hst2 : xst mi2 = false)
    (hlk : Cond.methodLink own idx (mt mi2).1 ∈ xT) (hsh : xsh k = .inl (ci, sl)) (hcl : ∃ T N, classes[ci]? = some ((mt mi2).1.cls, T, N))
    (hnp : (parseMethodDescriptor (mt mi2).1.desc).map (fun d => d.parameters.length) = some av.length) (hct : (rest.map fun v => v.category).sum ≤ 8) (hkc : i < xcn L k) (hav : ∀ v ∈ av, xok L v)
    (hW : xW s D B L S H) (hS : va_S (xA B) s.heap H locs) (hroom : cells + c' ≤ R.cells ∧ slots + z' ≤ R.slots) (h : CT d c' z' mi2 (.inr (.inr (k, i)) :: av) S Q')
    (kk : ∀ (r : Option xV) (S' : xS) (L' : xL) (H1 : Heap) (locs1 : List Loc), Q' r S' → xLX L L' → xW s D B L' S' H1 → va_S (xA B) s.heap H1 locs1 → W p l e R s m args below meth c0 H1 locs1 (cells + c') (slots + z') Q (F0 m (pc + 3) ls ((r.map (xcv L')).toList ++ rest))) :
    W p l e R s m args below meth c0 H locs cells slots Q (F0 m pc ls ((av.map (xcv L)).reverse ++ .ref a :: rest)) := by
  subst ha
  exact rawV hF hls hfr hB hd hm hst2 (Or.inl hlk) hsh hcl hnp hct hkc hav hW hS hroom h (fun r S' L' H1 locs1 _ => kk r S' L' H1 locs1)
def xRO (U : State) (D : va_G) (B : Nat) (L : xL) (S : xS) (H : Heap) : Prop := ∀ k i, xro k = true → i < xcnt k → xcell U D L S k i H ∧ L k i < B
theorem xro_c {k : Nat} (h : xro k = true) : k = 34 ∨ k = 35 ∨ k = 75 ∨ k = 76 := by
  unfold xro at h
  simp only [Bool.or_eq_true] at h
  rcases h with h | h | h | h <;> (have := Nat.eq_of_beq_eq_true h; omega)
set_option maxRecDepth 20000 in
theorem mx_W {Dg : va_G} {B : Nat} {L0 : xL} {S0 : xS} {h0 o6 o9 o4 o5 o2 qa0 qa10 qa8 qa7 : Nat} {ca0 ca10 ca8 ca7 : ClassId} {u6 : U6} {u9 u4 u5 u2 : List Nat × List ClassId} {d v t s : Nat → Nat × (List Nat × List ClassId)} {U : State} {H : Heap} (hP : va_P Dg classes (mW Dg h0 o6 o9 o4 o5 o2 qa0 qa10 qa8 qa7 ca0 ca10 ca8 ca7 u6 u9 u4 u5 u2 d v t s) H) (hD : va_D (xA B) (mW Dg h0 o6 o9 o4 o5 o2 qa0 qa10 qa8 qa7 ca0 ca10 ca8 ca7 u6 u9 u4 u5 u2 d v t s)) (hK : va_K Dg classes (mK Dg ca0 ca10 ca8 ca7 u6 u9 u4 u5 u2 d v t s) U) (hRO : xRO U Dg B L0 S0 H) (hEX : xEX U B L0 S0 H) (hST : xST U L0) (hN : ∀ w ∈ xN, va_Nw w U) : xW U Dg B (mL L0 h0 o6 o9 o4 o5 o2 qa0 qa10 qa8 qa7 ca0 ca10 ca8 ca7 u6 u9 u4 u5 u2 d v t s) (mS S0) H := by
  have cl : ∀ k i, i < xcn (mL L0 h0 o6 o9 o4 o5 o2 qa0 qa10 qa8 qa7 ca0 ca10 ca8 ca7 u6 u9 u4 u5 u2 d v t s) k → k < 34 ∨ xro k = true := by
    intro k i hi
    have h1 := xcn_le hi
    have h2 := xcnt_lt h1
    rcases Nat.lt_or_ge k 34 with q | q
    · exact Or.inl q
    · right
      cases hr : xro k with
      | true => rfl
      | false =>
        exfalso
        have h3 : ¬ k = 34 ∧ ¬ k = 35 ∧ ¬ k = 75 ∧ ¬ k = 76 := by
          refine ⟨fun e => ?_, fun e => ?_, fun e => ?_, fun e => ?_⟩ <;> (rw [e] at hr; exact absurd hr (by decide))
        have h4 : Nat.ble k 35 = false := by cases z : Nat.ble k 35 with | true => have := Nat.le_of_ble_eq_true z; omega | false => rfl
        have h5 : Nat.ble 75 k = false := by cases z : Nat.ble 75 k with | true => have := Nat.le_of_ble_eq_true z; omega | false => rfl
        have e0 : mL L0 h0 o6 o9 o4 o5 o2 qa0 qa10 qa8 qa7 ca0 ca10 ca8 ca7 u6 u9 u4 u5 u2 d v t s 99 0 = 0 := rfl
        have e : xcn (mL L0 h0 o6 o9 o4 o5 o2 qa0 qa10 qa8 qa7 ca0 ca10 ca8 ca7 u6 u9 u4 u5 u2 d v t s) k = 0 := by
          unfold xcn
          rw [h4, h5, e0]; rfl
        omega
  have eR : ∀ k i, xro k = true → mL L0 h0 o6 o9 o4 o5 o2 qa0 qa10 qa8 qa7 ca0 ca10 ca8 ca7 u6 u9 u4 u5 u2 d v t s k i = L0 k i := by
    intro k i hr
    rcases xro_c hr with rfl | rfl | rfl | rfl <;> rfl
  refine ⟨hK.sub (tys' := []) [] rfl, fun k i hi => ?_, fun k i k' i' hi hi' hr e => ?_, fun k i hi hr => ?_, hN, hEX, hST⟩
  · rcases cl k i hi with q | q
    · exact (mc_all hP hK q (xcn_le hi)).1
    · have h := (hRO k i q (xcn_le hi)).1
      rcases xro_c q with rfl | rfl | rfl | rfl <;> exact h
  · have hk : k < 34 := (cl k i hi).resolve_right (fun z => by rw [hr] at z; cases z)
    obtain ⟨e1, h1⟩ := (mc_all (L0 := L0) (S0 := S0) hP hK hk (xcn_le hi)).2
    rcases cl k' i' hi' with q | q
    · obtain ⟨e2, h2⟩ := (mc_all (L0 := L0) (S0 := S0) hP hK q (xcn_le hi')).2
      have hp := hD.1 _ _ _ _ h1 h2 e
      have b1 : i < 17 := by
        have : ∀ k : Fin 34, xcnt k.1 ≤ 17 := by decide +kernel
        have : xcnt k ≤ 17 := this ⟨k, hk⟩
        have := xcn_le hi
        omega
      have b2 : i' < 17 := by
        have : ∀ k : Fin 34, xcnt k.1 ≤ 17 := by decide +kernel
        have : xcnt k' ≤ 17 := this ⟨k', q⟩
        have := xcn_le hi'
        omega
      have z1 := mpin_all ⟨k, hk⟩ ⟨i, b1⟩ (xcn_le hi)
      have z2 := mpin_all ⟨k', q⟩ ⟨i', b2⟩ (xcn_le hi')
      rw [show mpos k i = mpos k' i' from hp] at z1
      have z := z1.symm.trans z2
      exact ⟨congrArg Prod.fst z, congrArg Prod.snd z⟩
    · exfalso
      have h2 := hD.2 _ _ h1
      have h3 := (hRO k' i' q (xcn_le hi')).2
      rw [eR k' i' q] at e
      have h2 : B ≤ mL L0 h0 o6 o9 o4 o5 o2 qa0 qa10 qa8 qa7 ca0 ca10 ca8 ca7 u6 u9 u4 u5 u2 d v t s k i := h2
      rw [e] at h2
      omega
  · have hk : k < 34 := (cl k i hi).resolve_right (fun z => by rw [hr] at z; cases z)
    obtain ⟨e1, h1⟩ := (mc_all (L0 := L0) (S0 := S0) hP hK hk (xcn_le hi)).2
    exact hD.2 _ _ h1
