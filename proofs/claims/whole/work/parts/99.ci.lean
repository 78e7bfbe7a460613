/-! String.checkIndex, by the kit's rows -/
theorem ci_V {d i n : Nat} {S : xS} {Q : xQ} (hi : i < n) (hn : n < 2 ^ 31) (h : Q (some (.inl (nI i))) S) : V d 0 0 m_Preconditions_checkIndex 0 [some (.inl (nI i)), some (.inl (nI n)), none] [] S Q := by
  refine vs_iload_n (k := 0) (x := nI i) (by decide +kernel) rfl ?_
  refine vs_if_lt (off := 8) (tgt := 9) (by decide +kernel) rfl (fun q => absurd q (nI_pos (by omega))) (fun _ => ?_)
  refine vs_iload_n (k := 0) (x := nI i) (by decide +kernel) rfl ?_
  refine vs_iload_n (k := 1) (x := nI n) (by decide +kernel) rfl ?_
  refine vs_icmp_lt (off := 10) (tgt := 16) (by decide +kernel) rfl (fun _ => ?_) (fun q => absurd (nI_lt hi hn) q)
  refine vs_iload_n (k := 0) (x := nI i) (by decide +kernel) rfl ?_
  exact vs_ireturn (ty := .int) (by decide +kernel) rfl rfl h
theorem ci_M {d i n : Nat} {S : xS} {Q : xQ} (hi : i < n) (hn : n < 2 ^ 31) (h : Q (some (.inl (nI i))) S) (l : Launch) (Dg : va_G) (B : Nat) (L : xL) (v : Value) (hv1 : v.category = 1) : Met l (mt m_Preconditions_checkIndex).1 (xws m_Preconditions_checkIndex) (xRm d 0 0) (va_Pc [.int (nI i), .int (nI n), v] (fun U => B ≤ U.heap.size ∧ xW U Dg B L S U.heap)) (xQc Dg B L Q) 0 0 (xA B) := by
  have hm : xmok m_Preconditions_checkIndex := xmok_all (by decide)
  refine Met.ofW (cc := xby m_Preconditions_checkIndex) (maxL := xml m_Preconditions_checkIndex) (ret := xrt m_Preconditions_checkIndex) (xmok_spec hm).2.2.2.2.1 rfl ?_
  intro p e s m args below meth c0 s₁ Bd hml hv
  obtain ⟨rfl, hB, hW⟩ := hv
  have hts := atoms_spec (ws := xws m_Preconditions_checkIndex) Bd.pre
  have hlen : (lg_sl [Value.int (nI i), Value.int (nI n), v]).length = 3 := by
    cases v <;> first | rfl | (simp [Value.category] at hv1)
  have hl := lv_entry [.int (nI i), .int (nI n), v] (n := xml m_Preconditions_checkIndex) (by rw [hlen]; decide)
  rw [lg_entry_eq]
  have hl2 := lv_sub hl [0, 1] (l' := xal L 0 [some (.inl (nI i)), some (.inl (nI n)), none]) rfl
  exact ci_V hi hn h p l e _ s m _ below meth c0 s.heap [] _ 0 0 0 0 Dg B L L ⟨Bd.exec, Bd.bytes, Bd.returns, hml, findClass_of_methodNamed Bd.named, fun w hw => hts w (List.mem_cons_of_mem _ hw), Bd.notSynchronized, Nat.le_refl d, Nat.le_refl (40 * d)⟩ (by omega) (by omega) rfl rfl hB (fun _ _ _ => rfl) hW va_S.rf (fun v hv => by
    rcases List.mem_cons.mp hv with e | hv
    · cases e; trivial
    · rcases List.mem_cons.mp hv with e | hv
      · cases e; trivial
      · rcases List.mem_cons.mp hv with e | hv
        · cases e
        · cases hv) (fun v hv => by cases hv) hl2
theorem cix : CIX := by
  intro D i n S Q hD hi hn h
  obtain ⟨d, rfl⟩ : ∃ d, D = d + 1 := ⟨D - 1, by omega⟩
  refine ct_of (xmok_all (by decide)) rfl ?_
  refine vs_iload_n (k := 0) (x := nI i) (by decide +kernel) rfl ?_
  refine vs_iload_n (k := 1) (x := nI n) (by decide +kernel) rfl ?_
  have hend : V (d + 1) 0 0 m_String_checkIndex 8 [some (.inl (nI i)), some (.inl (nI n))] [.inl (nI i)] S Q := by
    refine vs_pop (by decide +kernel) rfl ?_
    exact vs_vreturn (by decide +kernel) rfl h
  intro p l e R s m args below meth c0 H locs ls cells slots mc ms Dg B L0 L C hc hz hRc hRs hB hL hW hS hlv hst hl
  obtain ⟨v, hz3, hv⟩ := hW.2.2.2.2.2.1.2.2.1
  have hv1 : v.category = 1 := by cases v <;> first | rfl | (simp [Value.isRef] at hv)
  obtain ⟨cf, kf, fi, f, a, cell, h1, h2, h3, h4, h5, h6, h7, h8⟩ := hz3
  have hlk : Cond.fieldLink (mt m_String_checkIndex).1.cls 1053 "jdk/internal/util/Preconditions" "SIOOBE_FORMATTER" "Ljava/util/function/BiFunction;" ∈ xT := by
    first
      | exact xwd_mem (i := 451) (by decide +kernel)
      | exact xwd_mem (i := 452) (by decide +kernel)
      | exact xwd_mem (i := 453) (by decide +kernel)
      | exact xwd_mem (i := 454) (by decide +kernel)
      | exact xwd_mem (i := 448) (by decide +kernel)
      | exact xwd_mem (i := 447) (by decide +kernel)
  have hd2 : decode (xby m_String_checkIndex) 2 = .ok (.getstatic 1053, 3) := by decide +kernel
  have hd5 : decode (xby m_String_checkIndex) 5 = .ok (.invokestatic 1059, 3) := by decide +kernel
  refine W.gets C.1 C.2.1 C.2.2.2.2.1 (C.2.2.2.2.2.1 _ hlk) h1 h2 h3 h4 h5 (fun e => by rw [e] at h6; cases h6) h7 rfl hd2 ?_
  have hlm : Cond.methodLink (mt m_String_checkIndex).1.cls 1059 (mt m_Preconditions_checkIndex).1 ∈ xT := by
    first
      | exact xwd_mem (i := 451) (by decide +kernel)
      | exact xwd_mem (i := 452) (by decide +kernel)
      | exact xwd_mem (i := 453) (by decide +kernel)
      | exact xwd_mem (i := 454) (by decide +kernel)
      | exact xwd_mem (i := 456) (by decide +kernel)
      | exact xwd_mem (i := 457) (by decide +kernel)
      | exact xwd_mem (i := 448) (by decide +kernel)
      | exact xwd_mem (i := 447) (by decide +kernel)
  have hm2 : xmok m_Preconditions_checkIndex := xmok_all (by decide)
  obtain ⟨m1, m2, -, m4, -, m6, m7, m8⟩ := xmok_spec hm2
  have hts := C.2.2.2.2.2.1
  have st2 : xst m_Preconditions_checkIndex = true := by decide
  rw [st2] at m2
  have hM := ci_M (d := d) (i := i) (n := n) (S := S) (Q := fun r S' => r = some (.inl (nI i)) ∧ S' = S) hi hn ⟨rfl, rfl⟩ l Dg B L v hv1
  have hf : (xRm d 0 0).frames + 1 ≤ R.frames ∧ 8 + (xml m_Preconditions_checkIndex + 11) + (xRm d 0 0).locals ≤ R.locals := ⟨C.2.2.2.2.2.2.2.1, by have := C.2.2.2.2.2.2.2.2; show 8 + (xml m_Preconditions_checkIndex + 11) + 40 * d ≤ R.locals; omega⟩
  have hP : PreS s H (va_Pc [.int (nI i), .int (nI n), v] (fun U => B ≤ U.heap.size ∧ xW U Dg B L S U.heap)) [.int (nI i), .int (nI n), v] := ⟨xblind, fun U hU hWm => ⟨rfl, by rw [hU]; exact Nat.le_trans hB hS.1, by rw [hU]; exact hW.warm hWm⟩⟩
  have hnp : (parseMethodDescriptor (mt m_Preconditions_checkIndex).1.desc).map (fun d => d.parameters.length) = some 3 := by decide +kernel
  have hrun : va_Run p l e R s m args below meth c0 H locs cells slots 0 0 (F0 m 5 ls [v, .int (nI n), .int (nI i)]) [] (xQc Dg B L (fun r S' => r = some (.inl (nI i)) ∧ S' = S) ([.int (nI i), .int (nI n), v] : List Value).toArray) (xA B) := va_runS ⟨C.1, C.2.1, C.2.2.2.1, C.2.2.2.2.1, hts⟩ hM ⟨callB_of (ws' := xT) 3 hts (xgood hm2) rfl rfl rfl (hts _ m4) (hts _ hlm) ⟨m6, m7, hnp⟩ hf, hts _ m2⟩ hP rfl (by simp) hl.1 rfl (lv_room (by decide)) hd5 ⟨by omega, by omega⟩
  refine xcall hrun hW hS (fun r S' L' H1 locs1 hok hq hLX hW1 hS1 => ?_)
  obtain ⟨rfl, rfl⟩ := hq
  exact hend p l e R s m args below meth c0 H1 locs1 ls (cells + 0) (slots + 0) mc ms Dg B L0 L' C (by omega) (by omega) hRc hRs hB (fun k i hk => (hLX k i hk).trans (hL k i hk)) hW1 hS1 (fun v hv => xok_LX hLX (hlv v hv)) (fun v hv => by
    rw [List.mem_singleton.mp hv]; trivial) (by rw [xal_eq hLX (by rfl)]; exact hl)
