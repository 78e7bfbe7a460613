theorem xmok_spec {mi : Nat} (h0 : xmok mi) : Cond.code (mt mi).1 (xby mi) (xml mi) (xrt mi) ∈ xT ∧ (bif xst mi then Cond.static (mt mi).1 else Cond.instanceMethod (mt mi).1) ∈ xT ∧ (xst mi = true ∨ Cond.selects (mt mi).1.cls (mt mi).1 (mt mi).1 ∈ xT) ∧ Cond.initialized (mt mi).1.cls ∈ xT ∧ plainName (mt mi).1.cls = true ∧ (mt mi).1.cls ≠ "java/lang/invoke/MethodHandle" ∧ (mt mi).1.cls ≠ "java/lang/invoke/VarHandle" ∧ xml mi ≤ 21 := by
  obtain ⟨h1, h⟩ := h0
  unfold xmB at h
  simp only [Bool.and_eq_true, Bool.or_eq_true, decide_eq_true_eq] at h
  obtain ⟨⟨⟨⟨⟨⟨h2, h3⟩, h4⟩, h5⟩, h6⟩, h7⟩, h8⟩ := h
  exact ⟨List.mem_filter.mpr ⟨List.mem_of_getElem? h1, rfl⟩, xwd_mem h2, h3.imp id xwd_mem, xwd_mem h4, h5, h6, h7, Nat.le_of_ble_eq_true h8⟩
theorem xgood {mi : Nat} (h : xmok mi) : GoodIn xT (xws mi) := fun w hw => by
  have hm : w ∈ xT := by
    rcases List.mem_cons.mp hw with e | hw
    · rw [e]; exact (xmok_spec h).1
    · exact hw
  exact ⟨hm, good_of_word (List.mem_filter.mp hm).2⟩
theorem xW.back {s t : State} {D : va_G} {B : Nat} {L L' : xL} {S S' : xS} {H H1 : Heap} (hvm : s.vm.Alike t.vm) (hLX : xLX L L') (h0 : xW s D B L S H) (h : xW t D B L' S' H1) : xW s D B L' S' H1 := by
  obtain ⟨h1, h2, h3, h4, h5, h6, -⟩ := h
  exact ⟨h0.1, fun k i hi => (h2 k i hi).moved hvm.symm, h3, h4, h0.2.2.2.2.1, h6.moved hvm.symm, fun i hi => by rw [hLX 75 i (by decide)]; exact h0.2.2.2.2.2.2 i hi⟩
def xn8 (v : xV) : Bool := match v with
  | .inr (.inr q) => !(Nat.beq q.1 18)
  | _ => true
def xn8o (v : Option xV) : Bool := match v with
  | some v => xn8 v
  | none => true
theorem xcv_eq {L L' : xL} (hL : xLX L L') {v : xV} (h : xn8 v = true) : xcv L' v = xcv L v := by
  rcases v with x | x | ⟨k, i⟩
  · rfl
  · rfl
  · have hk : k ≠ 18 := fun e => by subst e; cases h
    show Value.ref (L' k i) = Value.ref (L k i)
    rw [hL k i hk]
theorem xal_eq {L L' : xL} (hL : xLX L L') : ∀ {lv : List (Option xV)} {j : Nat}, lv.all xn8o = true → xal L' j lv = xal L j lv
  | [], _, _ => rfl
  | none :: r, j, h => xal_eq hL (lv := r) (j := j + 1) (by simpa [xn8o] using h)
  | some v :: r, j, h => by
    have h1 : xn8 v = true ∧ r.all xn8o = true := by simpa [xn8o] using h
    show (j, xcv L' v) :: xal L' (j + 1) r = (j, xcv L v) :: xal L (j + 1) r
    rw [xcv_eq hL h1.1, xal_eq hL h1.2]
theorem xmap_eq {L L' : xL} (hL : xLX L L') : ∀ {st : List xV}, st.all xn8 = true → st.map (xcv L') = st.map (xcv L)
  | [], _ => rfl
  | v :: r, h => by
    have h1 : xn8 v = true ∧ r.all xn8 = true := by simpa using h
    show xcv L' v :: r.map (xcv L') = xcv L v :: r.map (xcv L)
    rw [xcv_eq hL h1.1, xmap_eq hL h1.2]
def xcs : List xV → Nat
  | [] => 0
  | v :: r => cond (xlong (some v)) 2 1 + xcs r
theorem xcs_eq (L : xL) : ∀ st : List xV, ((st.map (xcv L)).map fun v => v.category).sum = xcs st
  | [] => rfl
  | v :: r => by
    have := xcs_eq L r
    rcases v with x | x | q <;> simpa [xcs, xcv, Value.category, xlong] using this
theorem xblind {av : List Value} {D : va_G} {B : Nat} {L : xL} {S : xS} : FrameBlind (va_Pc av (fun U => B ≤ U.heap.size ∧ xW U D B L S U.heap)) := fun a U g mk q => ⟨q.1, q.2.1, xW.same (s := U) (U := U.calling g mk a) rfl q.2.2⟩
theorem xcall {p : Program} {l : Launch} {e : Env} {R : Room} {s : State} {m : MethodId} {args : Array Value} {below : List Frame} {meth : Method} {c0 : Code} {H : Heap} {locs : List Loc} {cells slots mc ms : Nat} {Q : State → Prop} {pc : Nat} {ls : Array Slot} {st0 rest : List Value} {D : va_G} {B : Nat} {L : xL} {S : xS} {Q' : Option xV → xS → Prop} {a : Array Value}
    (hr : va_Run p l e R s m args below meth c0 H locs cells slots mc ms (F0 m pc ls st0) rest (xQc D B L Q' a) (xA B)) (hW : xW s D B L S H) (hS : va_S (xA B) s.heap H locs)
    (kk : ∀ (r : Option xV) (S' : xS) (L' : xL) (H1 : Heap) (locs1 : List Loc), (∀ v, r = some v → xok L' v) → Q' r S' → xLX L L' → xW s D B L' S' H1 → va_S (xA B) s.heap H1 locs1 → W p l e R s m args below meth c0 H1 locs1 (cells + mc) (slots + ms) Q (F0 m (pc + 3) ls ((r.map (xcv L')).toList ++ rest))) : W p l e R s m args below meth c0 H locs cells slots Q (F0 m pc ls st0) := by
  intro T hT X
  obtain ⟨v, st₀, t, T', L2, h0, X', hLL, e1, e2, ⟨⟨r, S', L', hv, hok, hq, hLX, hWt⟩, hz, hk⟩, stp⟩ := hr T hT X
  have hv' : v = r.map (xcv L') := Outcome.returned.inj hv
  subst hv'
  rw [h0] at hz hk
  obtain ⟨t2, a1, b1⟩ := kk r S' L' T'.heap (locs ++ L2) hok hq hLX (xW.back (L := L) (by rw [← e2]; exact X'.warmed.alike) hLX hW (by rw [e1]; exact hWt))
    ⟨Nat.le_trans hS.1 (by rw [e1]; exact hz), fun q h1 h2 => by rw [e1, hk q (Nat.lt_of_lt_of_le h1 hS.1) h2]; exact hS.2.1 q h1 h2, fun q hq => by
      rcases List.mem_append.mp hq with h | h
      · exact hS.2.2 q h
      · exact hLL q h⟩ T' rfl X'
  exact ⟨t2, stp t2 a1, b1⟩
section XK
variable {d c z mi pc : Nat} {lv : List (Option xV)} {st : List xV} {S : xS} {Q : Option xV → xS → Prop}
theorem vs_callS {c' z' idx mi2 : Nat} {av rest : List xV} (hd : decode (xby mi) pc = .ok (.invokestatic idx, 3)) (hm : xmok mi2) (hst2 : xst mi2 = true) (hlk : Cond.methodLink (mt mi).1.cls idx (mt mi2).1 ∈ xT ∨ Cond.methodLinkNest (mt mi).1.cls idx (mt mi2).1 "MonsoonTrade" ∈ xN)
    (hnp : (parseMethodDescriptor (mt mi2).1.desc).map (fun d => d.parameters.length) = some av.length) (hct : xcs rest ≤ 8) (h8 : lv.all xn8o = true) (h8r : rest.all xn8 = true)
    (h : CT d c' z' mi2 av S (fun r S' => V (d + 1) c z mi (pc + 3) lv (r.toList ++ rest) S' Q)) : V (d + 1) (c + c') (z + z') mi pc lv (av.reverse ++ rest) S Q := by
  intro p l e R s m args below meth c0 H locs ls cells slots mc ms D B L0 L C hc hz hRc hRs hB hL hW hS hlv hst hl
  have hM := h l D B L (fun v hv => hst v (List.mem_append_left _ (List.mem_reverse.mpr hv)))
  obtain ⟨m1, m2, -, m4, -, m6, m7, m8⟩ := xmok_spec hm
  have hts := C.2.2.2.2.2.1
  rw [hst2] at m2
  have hf : (xRm d c' z').frames + 1 ≤ R.frames ∧ 8 + (xml mi2 + 11) + (xRm d c' z').locals ≤ R.locals := ⟨C.2.2.2.2.2.2.2.1, by have := C.2.2.2.2.2.2.2.2; show 8 + (xml mi2 + 11) + 40 * d ≤ R.locals; omega⟩
  have hP : PreS s H (va_Pc (av.map (xcv L)) (fun U => B ≤ U.heap.size ∧ xW U D B L S U.heap)) (av.map (xcv L)) := ⟨xblind, fun U hU hWm => ⟨rfl, by rw [hU]; exact Nat.le_trans hB hS.1, by rw [hU]; exact hW.warm hWm⟩⟩
  have hsk : (F0 m pc ls ((av.reverse ++ rest).map (xcv L))).stack = (av.map (xcv L)).reverse ++ rest.map (xcv L) := by show (av.reverse ++ rest).map (xcv L) = _; rw [List.map_append, List.map_reverse]
  have hroom : 2 * (F0 m pc ls ((av.reverse ++ rest).map (xcv L))).monitorRoom + ((rest.map (xcv L)).map fun v => v.category).sum ≤ 8 := lv_room (by rw [xcs_eq]; exact hct)
  have hrun : va_Run p l e R s m args below meth c0 H locs cells slots c' z' (F0 m pc ls ((av.reverse ++ rest).map (xcv L))) (rest.map (xcv L)) (xQc D B L (fun r S' => V (d + 1) c z mi (pc + 3) lv (r.toList ++ rest) S' Q) (av.map (xcv L)).toArray) (xA B) := by
    rcases hlk with hw | hw
    · exact va_runS ⟨C.1, C.2.1, C.2.2.2.1, C.2.2.2.2.1, hts⟩ hM ⟨callB_of (ws' := xT) av.length hts (xgood hm) rfl rfl rfl (hts _ m4) (hts _ hw) ⟨m6, m7, hnp⟩ hf, hts _ m2⟩ hP rfl (by simp) hl.1 hsk hroom hd ⟨by omega, by omega⟩
    · exact va_runSN ⟨C.1, C.2.1, C.2.2.2.1, C.2.2.2.2.1, hts⟩ hM ⟨va_cnB (ws' := xT) av.length hts (xgood hm) rfl rfl rfl (hW.2.2.2.2.1 _ hw) (hts _ m4) ⟨m6, m7, hnp⟩ hf, hts _ m2, trivial⟩ hP rfl (by simp) hl.1 hsk hroom hd ⟨by omega, by omega⟩
  refine xcall hrun hW hS (fun r S' L' H1 locs1 hok hq hLX hW1 hS1 => ?_)
  have e1 : (r.map (xcv L')).toList ++ rest.map (xcv L) = (r.toList ++ rest).map (xcv L') := by
    rw [List.map_append, xmap_eq hLX h8r]
    cases r <;> rfl
  rw [e1]
  exact hq p l e R s m args below meth c0 H1 locs1 ls (cells + c') (slots + z') mc ms D B L0 L' C (by omega) (by omega) hRc hRs hB (fun k i hk => (hLX k i hk).trans (hL k i hk)) hW1 hS1 (fun v hv => xok_LX hLX (hlv v hv)) (fun v hv => by
    rcases List.mem_append.mp hv with hv | hv
    · exact hok v (by cases r with
        | none => cases hv
        | some w => rw [List.mem_singleton.mp hv])
    · exact xok_LX hLX (hst v (List.mem_append_right _ hv))) (by rw [xal_eq hLX h8]; exact hl)
theorem vs_callV {c' z' idx mi2 k i ci : Nat} {sl : List (Option (Nat × Nat × Nat))} {av rest : List xV} (hd : decode (xby mi) pc = .ok (.invokevirtual idx, 3)) (hm : xmok mi2) (hst2 : xst mi2 = false) (hlk : Cond.methodLink (mt mi).1.cls idx (mt mi2).1 ∈ xT ∨ Cond.methodLinkNest (mt mi).1.cls idx (mt mi2).1 "MonsoonTrade" ∈ xN)
    (hsh : xsh k = .inl (ci, sl)) (hcl : (ci = 99 ∧ (mt mi2).1.cls = "java/lang/String") ∨ ∃ T N, classes[ci]? = some ((mt mi2).1.cls, T, N))
    (hnp : (parseMethodDescriptor (mt mi2).1.desc).map (fun d => d.parameters.length) = some av.length) (hct : xcs rest ≤ 8) (h8 : lv.all xn8o = true) (h8r : rest.all xn8 = true)
    (h : CT d c' z' mi2 (.inr (.inr (k, i)) :: av) S (fun r S' => V (d + 1) c z mi (pc + 3) lv (r.toList ++ rest) S' Q)) : V (d + 1) (c + c') (z + z') mi pc lv (av.reverse ++ .inr (.inr (k, i)) :: rest) S Q := by
  intro p l e R s m args below meth c0 H locs ls cells slots mc ms D B L0 L C hc hz hRc hRs hB hL hW hS hlv hst hl
  have hkc : xok L (.inr (.inr (k, i))) := hst _ (List.mem_append_right _ List.mem_cons_self)
  have hM := h l D B L (fun v hv => by
    rcases List.mem_cons.mp hv with e | hv
    · rw [e]; exact hkc
    · exact hst v (List.mem_append_left _ (List.mem_reverse.mpr hv)))
  obtain ⟨m1, m2, m3, m4, -, m6, m7, m8⟩ := xmok_spec hm
  have hts := C.2.2.2.2.2.1
  rw [hst2] at m2 m3
  have m3 : Cond.selects (mt mi2).1.cls (mt mi2).1 (mt mi2).1 ∈ xT := m3.resolve_left (fun h => by cases h)
  have hf : (xRm d c' z').frames + 1 ≤ R.frames ∧ 8 + (xml mi2 + 11) + (xRm d c' z').locals ≤ R.locals := ⟨C.2.2.2.2.2.2.2.1, by have := C.2.2.2.2.2.2.2.2; show 8 + (xml mi2 + 11) + 40 * d ≤ R.locals; omega⟩
  have hrc : ∃ cellB : Cell, H[L k i]? = some cellB ∧ cellB.vm.isStatics = false ∧ s.vm.findClass (mt mi2).1.cls = some cellB.cls := by
    rcases hcl with ⟨rfl, e⟩ | ⟨T, N, hcl⟩
    · obtain ⟨rfl, -⟩ := xsh_99 (xcn_le hkc) hsh
      obtain ⟨cell, q1, q2, q3, -⟩ := (hW.2.2.2.2.2.1.2.2.2 i (xcn_le hkc)).1
      exact ⟨cell, q1, q2, by rw [e]; exact q3⟩
    · obtain ⟨cell, q1, q2, q3, -⟩ := xcell_o (hW.2.1 k i hkc) hsh hcl
      exact ⟨cell, q1, by rw [q3]; rfl, by rw [q2]; exact (hW.1.1 ci _ hcl).2.1⟩
  have hP : PreV s H (mt mi2).1.cls (L k i) (va_Pc ((.inr (.inr (k, i)) :: av).map (xcv L)) (fun U => B ≤ U.heap.size ∧ xW U D B L S U.heap)) (av.map (xcv L)) := ⟨xblind, hrc, fun U hU hWm => ⟨rfl, by rw [hU]; exact Nat.le_trans hB hS.1, by rw [hU]; exact hW.warm hWm⟩⟩
  have hsk : (F0 m pc ls ((av.reverse ++ .inr (.inr (k, i)) :: rest).map (xcv L))).stack = (av.map (xcv L)).reverse ++ .ref (L k i) :: rest.map (xcv L) := by show (av.reverse ++ .inr (.inr (k, i)) :: rest).map (xcv L) = _; rw [List.map_append, List.map_reverse]; rfl
  have hroom : 2 * (F0 m pc ls ((av.reverse ++ .inr (.inr (k, i)) :: rest).map (xcv L))).monitorRoom + ((rest.map (xcv L)).map fun v => v.category).sum ≤ 8 := lv_room (by rw [xcs_eq]; exact hct)
  have hrun : va_Run p l e R s m args below meth c0 H locs cells slots c' z' (F0 m pc ls ((av.reverse ++ .inr (.inr (k, i)) :: rest).map (xcv L))) (rest.map (xcv L)) (xQc D B L (fun r S' => V (d + 1) c z mi (pc + 3) lv (r.toList ++ rest) S' Q) (Value.ref (L k i) :: av.map (xcv L)).toArray) (xA B) := by
    rcases hlk with hw | hw
    · exact va_runV ⟨C.1, C.2.1, C.2.2.2.1, C.2.2.2.2.1, hts⟩ hM ⟨callB_of (ws' := xT) av.length hts (xgood hm) rfl rfl rfl (hts _ m4) (hts _ hw) ⟨m6, m7, hnp⟩ hf, hts _ m2, hts _ m3⟩ hP rfl (by simp) hl.1 hsk hroom hd ⟨by omega, by omega⟩
    · exact va_runVN ⟨C.1, C.2.1, C.2.2.2.1, C.2.2.2.2.1, hts⟩ hM ⟨va_cnB (ws' := xT) av.length hts (xgood hm) rfl rfl rfl (hW.2.2.2.2.1 _ hw) (hts _ m4) ⟨m6, m7, hnp⟩ hf, hts _ m2, hts _ m3⟩ hP rfl (by simp) hl.1 hsk hroom hd ⟨by omega, by omega⟩
  refine xcall hrun hW hS (fun r S' L' H1 locs1 hok hq hLX hW1 hS1 => ?_)
  have e1 : (r.map (xcv L')).toList ++ rest.map (xcv L) = (r.toList ++ rest).map (xcv L') := by
    rw [List.map_append, xmap_eq hLX h8r]
    cases r <;> rfl
  rw [e1]
  exact hq p l e R s m args below meth c0 H1 locs1 ls (cells + c') (slots + z') mc ms D B L0 L' C (by omega) (by omega) hRc hRs hB (fun k i hk => (hLX k i hk).trans (hL k i hk)) hW1 hS1 (fun v hv => xok_LX hLX (hlv v hv)) (fun v hv => by
    rcases List.mem_append.mp hv with hv | hv
    · exact hok v (by cases r with
        | none => cases hv
        | some w => rw [List.mem_singleton.mp hv])
    · exact xok_LX hLX (hst v (List.mem_append_right _ (List.mem_cons_of_mem _ hv)))) (by rw [xal_eq hLX h8]; exact hl)
/-! a method's entry -/
def xen : List xV → Nat → List (Option xV)
  | [], n => List.replicate n none
  | v :: r, n => some v :: cond (xlong (some v)) (none :: xen r (n - 2)) (xen r (n - 1))
theorem xal_none {L : xL} : ∀ (n j : Nat), xal L j (List.replicate n none) = []
  | 0, _ => rfl
  | n + 1, j => xal_none n (j + 1)
theorem xen_al {L : xL} : ∀ (av : List xV) (n j : Nat), xal L j (xen av n) = lv_args j (av.map (xcv L))
  | [], n, j => xal_none n j
  | v :: r, n, j => by
    rcases v with x | x | q
    · show (j, Value.int x) :: xal L (j + 1) (xen r (n - 1)) = (j, Value.int x) :: lv_args (if (Value.int x).category = 2 then j + 2 else j + 1) (r.map (xcv L))
      rw [xen_al r]; rfl
    · show (j, Value.long x) :: xal L (j + 1 + 1) (xen r (n - 2)) = (j, Value.long x) :: lv_args (if (Value.long x).category = 2 then j + 2 else j + 1) (r.map (xcv L))
      rw [xen_al r]; rfl
    · show (j, Value.ref (L q.1 q.2)) :: xal L (j + 1) (xen r (n - 1)) = (j, Value.ref (L q.1 q.2)) :: lv_args (if (Value.ref (L q.1 q.2)).category = 2 then j + 2 else j + 1) (r.map (xcv L))
      rw [xen_al r]; rfl
theorem xen_ok {u : xV} : ∀ {av : List xV} {n : Nat}, some u ∈ xen av n → u ∈ av
  | [], n, h => by simp [xen] at h
  | v :: r, n, h => by
    rcases List.mem_cons.mp h with h | h
    · cases h; exact List.mem_cons_self
    · cases hc : xlong (some v) with
      | true =>
        rw [hc] at h
        rcases List.mem_cons.mp h with h | h
        · cases h
        · exact List.mem_cons_of_mem _ (xen_ok h)
      | false => rw [hc] at h; exact List.mem_cons_of_mem _ (xen_ok h)
theorem xlg (L : xL) : ∀ av : List xV, (lg_sl (av.map (xcv L))).length = xcs av
  | [] => rfl
  | v :: r => by
    have := xlg L r
    rcases v with x | x | q
    · show ((if (Value.int x).category = 2 then [Slot.val (.int x), .second] else [Slot.val (.int x)]) ++ lg_sl (r.map (xcv L))).length = _
      rw [List.length_append, this]; rfl
    · show ((if (Value.long x).category = 2 then [Slot.val (.long x), .second] else [Slot.val (.long x)]) ++ lg_sl (r.map (xcv L))).length = _
      rw [List.length_append, this]; rfl
    · show ((if (Value.ref (L q.1 q.2)).category = 2 then [Slot.val (.ref (L q.1 q.2)), .second] else [Slot.val (.ref (L q.1 q.2))]) ++ lg_sl (r.map (xcv L))).length = _
      rw [List.length_append, this]; rfl
theorem ct_of {av : List xV} (hm : xmok mi) (hn : Nat.ble (xcs av) (xml mi) = true) (h : V d c z mi 0 (xen av (xml mi)) [] S Q) : CT d c z mi av S Q := by
  intro l D B L hav
  refine Met.ofW (cc := xby mi) (maxL := xml mi) (ret := xrt mi) (xmok_spec hm).2.2.2.2.1 rfl ?_
  intro p e s m args below meth c0 s₁ Bd hml hv
  obtain ⟨rfl, hB, hW⟩ := hv
  have hts := atoms_spec (ws := xws mi) Bd.pre
  have hl := lv_entry (av.map (xcv L)) (n := xml mi) (by rw [xlg]; exact Nat.le_of_ble_eq_true hn)
  rw [lg_entry_eq]
  rw [← xen_al av (xml mi)] at hl
  exact h p l e _ s m _ below meth c0 s.heap [] _ 0 0 c z D B L L ⟨Bd.exec, Bd.bytes, Bd.returns, hml, findClass_of_methodNamed Bd.named, fun w hw => hts w (List.mem_cons_of_mem _ hw), Bd.notSynchronized, Nat.le_refl d, Nat.le_refl (40 * d)⟩ (by omega) (by omega) rfl rfl hB (fun _ _ _ => rfl) hW va_S.rf (fun v hv => hav v (xen_ok hv)) (fun v hv => by cases hv) hl
/-! what a contract gives may be less -/
theorem CT.mono {mi2 : Nat} {av : List xV} {Q' : Option xV → xS → Prop} (h : CT d c z mi2 av S Q) (hq : ∀ r S', Q r S' → Q' r S') : CT d c z mi2 av S Q' := by
  intro l D B L hav p e ha hc hk s m args below hf h1 h2 h3
  obtain ⟨t, o, g1, g2, g3, ⟨⟨⟨r, S', L', k1, k2, k3, k4, k5⟩, g6⟩, g7⟩⟩ := h l D B L hav p e ha hc hk s m args below hf h1 h2 h3
  exact ⟨t, o, g1, g2, g3, ⟨⟨r, S', L', k1, k2, hq r S' k3, k4, k5⟩, g6⟩, g7⟩
/-! statics -/
theorem vs_under {idx : Nat} (hd : decode (xby mi) pc = .ok (.getstatic idx, 3)) (hlk : Cond.fieldLinkNest (mt mi).1.cls idx "MonsoonTrade" "UNDER" "[I" "MonsoonTrade" ∈ xN) (h : V d c z mi (pc + 3) lv (.inr (.inr (34, 0)) :: st) S Q) : V d c z mi pc lv st S Q := by
  intro p l e R s m args below meth c0 H locs ls cells slots mc ms D B L0 L C hc hz hRc hRs hB hL hW hS hlv hst hl
  obtain ⟨cf, kf, fi, f, a, cell, h1, h2, h3, h4, h5, h6, h7, h8⟩ := hW.2.2.2.2.2.1.1
  exact va_WgetsN C.1 C.2.1 C.2.2.2.2.1 (va_Nw.use rfl (hW.2.2.2.2.1 _ hlk)) h1 h2 h3 h4 h5 (fun e => by rw [e] at h6; cases h6) h7 rfl hd (h p l e R s m args below meth c0 H locs ls cells slots mc ms D B L0 L C hc hz hRc hRs hB hL hW hS hlv (fun u hu => by rcases List.mem_cons.mp hu with e | hu; rw [e]; exact (Nat.lt_of_sub_eq_succ rfl : 0 < xcn L 34); exact hst u hu) hl)
theorem vs_compact {idx : Nat} (hd : decode (xby mi) pc = .ok (.getstatic idx, 3)) (hlk : Cond.fieldLink (mt mi).1.cls idx "java/lang/String" "COMPACT_STRINGS" "Z" ∈ xT) (h : V d c z mi (pc + 3) lv (.inl 1 :: st) S Q) : V d c z mi pc lv st S Q := by
  intro p l e R s m args below meth c0 H locs ls cells slots mc ms D B L0 L C hc hz hRc hRs hB hL hW hS hlv hst hl
  obtain ⟨cf, kf, fi, f, a, cell, h1, h2, h3, h4, h5, h6, h7, h8⟩ := hW.2.2.2.2.2.1.2.1
  exact W.gets C.1 C.2.1 C.2.2.2.2.1 (C.2.2.2.2.2.1 _ hlk) h1 h2 h3 h4 h5 (fun e => by rw [e] at h6; cases h6) h7 rfl hd (h p l e R s m args below meth c0 H locs ls cells slots mc ms D B L0 L C hc hz hRc hRs hB hL hW hS hlv (by simpa [xok] using hst) hl)
theorem vs_ldcs {i b : Nat} (hd : decode (xby mi) pc = .ok (.ldc i, 2)) (hb : b < 3) (e1 : (mt mi).1.cls = (xsk b).1) (e2 : i = (xsk b).2.1) (h : V d c z mi (pc + 2) lv (.inr (.inr (75, b)) :: st) S Q) : V d c z mi pc lv st S Q := by
  intro p l e R s m args below meth c0 H locs ls cells slots mc ms D B L0 L C hc hz hRc hRs hB hL hW hS hlv hst hl
  subst e2
  exact va_ldcS C.1 C.2.1 C.2.2.2.2.1 (by rw [e1]; exact hW.2.2.2.2.2.2 b hb) hd (h p l e R s m args below meth c0 H locs ls cells slots mc ms D B L0 L C hc hz hRc hRs hB hL hW hS hlv (fun u hu => by rcases List.mem_cons.mp hu with e | hu; rw [e]; exact hb; exact hst u hu) hl)

theorem xm_max : Cond.static Lib.Math.max.name ∈ xT ∧ Cond.initialized "java/lang/Math" ∈ xT ∧ Cond.code Lib.Math.max.name Lib.Math.max.code 2 (some .int) ∈ xT := ⟨xwd_mem (i := 530) (by decide +kernel), xwd_mem (i := 87) (by decide +kernel), xwd_mem (i := 531) (by decide +kernel)⟩
theorem vs_max {idx : Nat} {x y : Int32} (hd : decode (xby mi) pc = .ok (.invokestatic idx, 3)) (hlk : Cond.methodLink (mt mi).1.cls idx Lib.Math.max.name ∈ xT) (hct : xcs st ≤ 8) (h : V (d + 1) c z mi (pc + 3) lv (.inl (if x < y then y else x) :: st) S Q) : V (d + 1) c z mi pc lv (.inl y :: .inl x :: st) S Q := by
  intro p l e R s m args below meth c0 H locs ls cells slots mc ms D B L0 L C hc hz hRc hRs hB hL hW hS hlv hst hl
  have hts := C.2.2.2.2.2.1
  have h9 := C.2.2.2.2.2.2.2.2
  exact va_mmax C.1 C.2.1 (C.2.2.2.1.trans hl.1.symm) C.2.2.2.2.1 (hts _ hlk) (hts _ xm_max.1) (hts _ xm_max.2.1) (hts _ xm_max.2.2) (by have := C.2.2.2.2.2.2.2.1; omega) (by rw [xcs_eq]; omega) (by omega) (by omega) hd (h p l e R s m args below meth c0 H locs ls cells slots mc ms D B L0 L C hc hz hRc hRs hB hL hW hS hlv (by simpa [xok] using hst) hl)
theorem xm_min : Cond.static Lib.Math.min.name ∈ xT ∧ Cond.initialized "java/lang/Math" ∈ xT ∧ Cond.code Lib.Math.min.name Lib.Math.min.code 2 (some .int) ∈ xT := ⟨xwd_mem (i := 533) (by decide +kernel), xwd_mem (i := 87) (by decide +kernel), xwd_mem (i := 534) (by decide +kernel)⟩
theorem vs_min {idx : Nat} {x y : Int32} (hd : decode (xby mi) pc = .ok (.invokestatic idx, 3)) (hlk : Cond.methodLink (mt mi).1.cls idx Lib.Math.min.name ∈ xT) (hct : xcs st ≤ 8) (h : V (d + 1) c z mi (pc + 3) lv (.inl (if y < x then y else x) :: st) S Q) : V (d + 1) c z mi pc lv (.inl y :: .inl x :: st) S Q := by
  intro p l e R s m args below meth c0 H locs ls cells slots mc ms D B L0 L C hc hz hRc hRs hB hL hW hS hlv hst hl
  have hts := C.2.2.2.2.2.1
  have h9 := C.2.2.2.2.2.2.2.2
  exact va_mmin C.1 C.2.1 (C.2.2.2.1.trans hl.1.symm) C.2.2.2.2.1 (hts _ hlk) (hts _ xm_min.1) (hts _ xm_min.2.1) (hts _ xm_min.2.2) (by have := C.2.2.2.2.2.2.2.1; omega) (by rw [xcs_eq]; omega) (by omega) (by omega) hd (h p l e R s m args below meth c0 H locs ls cells slots mc ms D B L0 L C hc hz hRc hRs hB hL hW hS hlv (by simpa [xok] using hst) hl)
theorem xm_abs : Cond.static Lib.Math.abs.name ∈ xT ∧ Cond.initialized "java/lang/Math" ∈ xT ∧ Cond.code Lib.Math.abs.name Lib.Math.abs.code 1 (some .int) ∈ xT := ⟨xwd_mem (i := 770) (by decide +kernel), xwd_mem (i := 87) (by decide +kernel), xwd_mem (i := 771) (by decide +kernel)⟩
theorem vs_abs {idx : Nat} {x : Int32} (hd : decode (xby mi) pc = .ok (.invokestatic idx, 3)) (hlk : Cond.methodLink (mt mi).1.cls idx Lib.Math.abs.name ∈ xT) (hct : xcs st ≤ 8) (h : V (d + 1) c z mi (pc + 3) lv (.inl (if 0 ≤ x then x else 0 - x) :: st) S Q) : V (d + 1) c z mi pc lv (.inl x :: st) S Q := by
  intro p l e R s m args below meth c0 H locs ls cells slots mc ms D B L0 L C hc hz hRc hRs hB hL hW hS hlv hst hl
  have hts := C.2.2.2.2.2.1
  have h9 := C.2.2.2.2.2.2.2.2
  exact va_mabs C.1 C.2.1 (C.2.2.2.1.trans hl.1.symm) C.2.2.2.2.1 (hts _ hlk) (hts _ xm_abs.1) (hts _ xm_abs.2.1) (hts _ xm_abs.2.2) (by have := C.2.2.2.2.2.2.2.1; omega) (by rw [xcs_eq]; omega) (by omega) (by omega) hd (h p l e R s m args below meth c0 H locs ls cells slots mc ms D B L0 L C hc hz hRc hRs hB hL hW hS hlv (by simpa [xok] using hst) hl)
theorem xm_copy : Cond.native arraycopyName ∈ xT ∧ Cond.static arraycopyName ∈ xT ∧ Cond.initialized "java/lang/System" ∈ xT := ⟨xwd_mem (i := 654) (by decide +kernel), xwd_mem (i := 653) (by decide +kernel), xwd_mem (i := 89) (by decide +kernel)⟩
/-! arraycopy of ints from one array to another -/
def xcpy (S : xS) (k0 i0 sp k i dp n : Nat) : xS := (fun k' i' j' => if k' = k ∧ i' = i ∧ dp ≤ j' ∧ j' < dp + n then S.1 k0 i0 (sp + (j' - dp)) else S.1 k' i' j', S.2)
theorem xcpy_off (S : xS) (k0 i0 sp k i dp n : Nat) : ∀ k' i', ¬ (k' = k ∧ i' = i) → ∀ j', (xcpy S k0 i0 sp k i dp n).1 k' i' j' = S.1 k' i' j' ∧ (xcpy S k0 i0 sp k i dp n).2 k' i' j' = S.2 k' i' j' := fun k' i' h j' => ⟨if_neg (fun q => h ⟨q.1, q.2.1⟩), rfl⟩
theorem vs_copy {idx k0 i0 n0 r0 k i n1 r1 : Nat} {sp dp n : Int32} (hd : decode (xby mi) pc = .ok (.invokestatic idx, 3)) (hlk : Cond.methodLink (mt mi).1.cls idx arraycopyName ∈ xT) (hct : xcs st ≤ 8) (hsh0 : xsh k0 = .inr (.int, n0, r0)) (hsh : xsh k = .inr (.int, n1, r1)) (hne : Nat.beq n1 65536 = false) (hro0 : xro k0 = false) (hro : xro k = false)
    (h1 : ¬ sp < 0) (h2 : ¬ dp < 0) (h3 : ¬ n < 0) (h4 : sp.toNatClampNeg + n.toNatClampNeg ≤ xlen S k0 i0 n0) (h5 : dp.toNatClampNeg + n.toNatClampNeg ≤ n1)
    (h : V (d + 1) c z mi (pc + 3) lv st (xcpy S k0 i0 sp.toNatClampNeg k i dp.toNatClampNeg n.toNatClampNeg) Q) : V (d + 1) c z mi pc lv (.inl n :: .inl dp :: .inr (.inr (k, i)) :: .inl sp :: .inr (.inr (k0, i0)) :: st) S Q := by
  intro p l e R s m args below meth c0 H locs ls cells slots mc ms D B L0 L C hc hz hRc hRs hB hL hW hS hlv hst hl
  have hi0 : i0 < xcn L k0 := hst (.inr (.inr (k0, i0))) (by simp)
  have hi : i < xcn L k := hst (.inr (.inr (k, i))) (by simp)
  have hts := C.2.2.2.2.2.1
  have hfr := C.2.2.2.2.2.2.2.1
  have hlo := C.2.2.2.2.2.2.2.2
  obtain ⟨cA0, ⟨ha0, -⟩, hh0⟩ := xcell_a (hW.2.1 k0 i0 hi0) hsh0 hro0
  obtain ⟨cA1, ⟨ha1, hr1⟩, hh1⟩ := xcell_a (hW.2.1 k i hi) hsh hro
  have hx : ∀ S0 : xS, xlen S0 k i n1 = n1 := fun S0 => by unfold xlen; rw [hne]; rfl
  rw [hx] at hh1
  have nn : ∀ z : Int32, ¬ z < 0 → z.toInt = (z.toNatClampNeg : Int) := by
    intro z hz
    have hz0 : (0 : Int) ≤ z.toInt := by
      have := Int32.not_lt.mp hz
      simpa using Int32.le_iff_toInt_le.mp this
    show z.toInt = ((z.toInt.toNat : Nat) : Int)
    omega
  have hc0 : H[L k0 i0]? = some (vp_cell cA0 (xlen S k0 i0 n0, .inl (fun j => S.1 k0 i0 j))) := hh0
  have hc1 : H[L k i]? = some (vp_cell cA1 (n1, .inl (fun j => S.1 k i j))) := hh1
  intro T hT X
  obtain ⟨-, kk0, hk0, cm0, hkk0⟩ := ha0 (xlen S k0 i0 n0) (fun j => .int (S.1 k0 i0 j))
  obtain ⟨-, kk1, hk1, cm1, hkk1⟩ := ha1 n1 (fun j => .int (S.1 k i j))
  obtain ⟨vm', X', step⟩ := X.arraycopy C.1 C.2.2.2.2.1 (hts _ hlk) (hts _ xm_copy.1) (hts _ xm_copy.2.1) (hts _ xm_copy.2.2) (src := L k0 i0) (dst := L k i) (cs := vp_cell cA0 (xlen S k0 i0 n0, .inl (fun j => S.1 k0 i0 j))) (cd := vp_cell cA1 (n1, .inl (fun j => S.1 k i j))) (srcPos := sp) (destPos := dp) (n := n) (by rw [hT]; exact hc0) (by rw [hT]; exact hc1)
    (fun _ h => by cases h) (fun _ h => by cases h) (fun h => by cases h) (fun h => by cases h) hk0 hk1 hkk0 hkk1 (by simp [refKind]) h1 h2 h3
    (by rw [nn sp h1, nn n h3]; show ¬ _ > ((arrV cA0 (xlen S k0 i0 n0) (fun j => .int (S.1 k0 i0 j))).slots.size : Int); rw [arrV_size]; omega)
    (by rw [nn dp h2, nn n h3]; show ¬ _ > ((arrV cA1 n1 (fun j => .int (S.1 k i j))).slots.size : Int); rw [arrV_size]; omega)
    (fun vm₁ _ q hq => by
      have e : (vp_cell cA0 (xlen S k0 i0 n0, .inl (fun j => S.1 k0 i0 j))).slots.getD (sp.toNatClampNeg + q) .null = .int (S.1 k0 i0 (sp.toNatClampNeg + q)) := by
        show (arrV cA0 (xlen S k0 i0 n0) (fun j => .int (S.1 k0 i0 j))).slots.getD _ _ = _
        rw [Array.getD_eq_getD_getElem?, arrV_read _ _ (by omega)]
        rfl
      refine ⟨?_, ?_⟩
      · rw [e]
        rfl
      · rw [e]
        exact trivial)
    (g := F0 m pc ls (.int n :: .int dp :: .ref (L k i) :: .int sp :: .ref (L k0 i0) :: st.map (xcv L))) rfl (by rw [C.2.2.2.1]; exact hl.1) (rest := st.map (xcv L)) rfl (by rw [C.2.1]; exact hd) (by omega) (by rw [xcs_eq]; show 2 * 0 + xcs st + (7 + 11) ≤ _; omega)
  have e1 : copied (vp_cell cA0 (xlen S k0 i0 n0, .inl (fun j => S.1 k0 i0 j))) (vp_cell cA1 (n1, .inl (fun j => S.1 k i j))) sp dp n = vp_cell cA1 (n1, .inl (va_cpy (fun j => S.1 k0 i0 j) (fun j => S.1 k i j) sp.toNatClampNeg dp.toNatClampNeg n.toNatClampNeg)) := va_copied (fun z => .int z) cA0 cA1 (fun j => S.1 k0 i0 j) (fun j => S.1 k i j) h4
  rw [e1] at X' step
  have hlt : L k i < H.size := (Array.getElem?_eq_some_iff.mp hc1).1
  generalize hcl : vp_cell cA1 (n1, .inl (va_cpy (fun j => S.1 k0 i0 j) (fun j => S.1 k i j) sp.toNatClampNeg dp.toNatClampNeg n.toNatClampNeg)) = cl1 at X' step
  have hheap : ((T.setVm vm').setCell (L k i) cl1).heap = H.setIfInBounds (L k i) cl1 := by rw [← hT]; rfl
  have oq : ∀ q : Nat, q ≠ L k i → (H.setIfInBounds (L k i) cl1)[q]? = H[q]? := fun q hq => by simp [Array.getElem?_setIfInBounds, Ne.symm hq]
  have hcell : xcell s D L (xcpy S k0 i0 sp.toNatClampNeg k i dp.toNatClampNeg n.toNatClampNeg) k i (H.setIfInBounds (L k i) cl1) := by
    unfold xcell
    rw [hsh]
    refine Or.inr ⟨hro, cA1, ⟨ha1, hr1⟩, ?_⟩
    rw [show (H.setIfInBounds (L k i) cl1)[L k i]? = some cl1 by simp [Array.getElem?_setIfInBounds, hlt], ← hcl, hx, vp_cell_i]
    congr 2
    funext j
    simp only [xel, va_cpy, xcpy, true_and]
  obtain ⟨t, a1, b1⟩ := h p l e R s m args below meth c0 _ _ ls cells slots mc ms D B L0 L C hc hz hRc hRs hB hL (hW.upd hi hro hcell oq (xcpy_off S _ _ _ _ _ _ _)) ⟨by simp; exact hS.1, fun q g1 g2 => by
      rw [oq q (fun e => g2 (by rw [e]; exact hW.2.2.2.1 k i hi hro))]
      exact hS.2.1 q g1 g2, fun q hq => by
      rcases List.mem_append.mp hq with h | h
      · exact hS.2.2 q h
      · obtain ⟨z, -, hz⟩ := List.mem_map.mp h
        rw [← hz]
        exact hW.2.2.2.1 k i hi hro⟩ hlv (xtl (xtl (xtl (xtl (xtl hst))))) hl _ hheap X'
  exact ⟨t, step t a1, b1⟩
end XK
