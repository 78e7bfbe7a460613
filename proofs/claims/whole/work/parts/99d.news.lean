/-! the constructor of News, by the kit's rows -/
theorem xgoodI {w : Cond} (h : w ∈ xT) : GoodIn xT (w :: xT) := by
  intro x hx
  have hm : x ∈ xT := by
    rcases List.mem_cons.mp hx with e | hx
    · rw [e]; exact h
    · exact hx
  exact ⟨hm, good_of_word (List.mem_filter.mp hm).2⟩
def nW : List Cond := .code yX1_init cX1_init 1 none :: xT
def nwsA (h0 : Nat) : va_W := [(h0, .inr (1, [.null, .null]))]
def nwsB (h0 : Nat) (u : Nat × Nat × ClassId × ClassId) : va_W := [(h0, .inr (1, [.ref u.1, .ref u.2.1])), (u.1, .inl (u.2.2.1, 6, .inl fun _ => -1)), (u.2.1, .inl (u.2.2.2, 24, .inl fun _ => 0))]
def nAt (Dg : va_G) (A : Nat → Prop) (h0 : Nat) (u : Nat × Nat × ClassId × ClassId) (t : State) : Prop := va_P Dg classes (nwsB h0 u) t.heap ∧ va_K Dg classes [(u.2.2.1, .int), (u.2.2.2, .int)] t ∧ va_D A (nwsB h0 u)
theorem rf_news {d : Nat} {Dg : va_G} (l : Launch) (h0 sz : Nat) : Met l yX1_init nW (xRm (d + 2) 2 30) (va_Pc [.ref h0] (fun U => U.heap.size = sz ∧ va_P Dg classes (nwsA h0) U.heap ∧ va_K Dg classes [] U ∧ va_D (fun _ => True) (nwsA h0))) (va_Qv (fun _ => True) (nAt Dg (va_A (nwsA h0) sz) h0) (va_A (nwsA h0) sz)) 2 30 (va_A (nwsA h0) sz) := by
  refine Met.ofW (cc := cX1_init) (maxL := 1) (ret := none) (by decide) rfl ?_
  intro p e s m args below meth c s₁ B hml hv
  obtain ⟨rfl, hsz, hP, hK, hD0⟩ := hv
  have hx := B.exec
  have hb := B.bytes
  have hr := B.returns
  have hts0 := atoms_spec (ws := nW) B.pre
  have hts : ∀ w ∈ xT, w.before _ s = true := fun w hw => hts0 w (List.mem_cons_of_mem _ hw)
  have hown : s.vm.findClass "MonsoonTrade$News" = some m.cls := findClass_of_methodNamed B.named
  have hin : meth.name = "<init>" := (name_of_methodNamed B.named B.method).1
  subst hsz
  have hD := hD0.self (sz := s.heap.size)
  generalize hAe : va_A (nwsA h0) s.heap.size = A at hD ⊢
  have hA : ∀ q : Nat, s.heap.size ≤ q → A q := fun q h => by rw [← hAe]; exact Or.inr h
  have hS : va_S A s.heap s.heap [] := va_S.rf
  have hP : va_P Dg classes [(h0, .inr (1, [.null, .null]))] s.heap := hP
  have hD : va_D A [(h0, .inr (1, [.null, .null]))] := hD
  have hl := lv_entry ([.ref h0]) (n := 1) (Nat.le_of_ble_eq_true rfl)
  rw [lg_entry_eq]
  generalize (lg_sl ([.ref h0]) ++ List.replicate (1 - (lg_sl ([.ref h0])).length) Slot.unset).toArray = ls at hl ⊢
  have hl : lv_has ls 1 [(0, .ref h0)] := hl
  have d0 : decode cX1_init 0 = .ok (.aload_n 0, 1) := by decide +kernel
  have d1 : decode cX1_init 1 = .ok (.invokespecial 3, 3) := by decide +kernel
  have d4 : decode cX1_init 4 = .ok (.aload_n 0, 1) := by decide +kernel
  have d5 : decode cX1_init 5 = .ok (.bipush 6, 2) := by decide +kernel
  have d7 : decode cX1_init 7 = .ok (.newarray .int, 2) := by decide +kernel
  have d9 : decode cX1_init 9 = .ok (.putfield 9, 3) := by decide +kernel
  have d12 : decode cX1_init 12 = .ok (.aload_n 0, 1) := by decide +kernel
  have d13 : decode cX1_init 13 = .ok (.bipush 24, 2) := by decide +kernel
  have d15 : decode cX1_init 15 = .ok (.newarray .int, 2) := by decide +kernel
  have d17 : decode cX1_init 17 = .ok (.putfield 15, 3) := by decide +kernel
  have d20 : decode cX1_init 20 = .ok (.aload_n 0, 1) := by decide +kernel
  have d21 : decode cX1_init 21 = .ok (.invokevirtual 18, 3) := by decide +kernel
  have d24 : decode cX1_init 24 = .ok (.return_, 1) := by decide +kernel
  have k118 : Cond.methodLink "MonsoonTrade$News" 3 Lib.objectInit ∈ xT := xwd_mem (i := 118) (by decide +kernel)
  have k98 : Cond.instanceMethod Lib.objectInit ∈ xT := xwd_mem (i := 98) (by decide +kernel)
  have k99 : Cond.code Lib.objectInit ⟨#[0xb1]⟩ 1 none ∈ xT := xwd_mem (i := 99) (by decide +kernel)
  have k134 : Cond.arrayClass (newarray.typeOf .int) ∈ xT := xwd_mem (i := 134) (by decide +kernel)
  have k126 : Cond.fieldLink "MonsoonTrade$News" 9 "MonsoonTrade$News" "ofDay" "[I" ∈ xT := xwd_mem (i := 126) (by decide +kernel)
  have k128 : Cond.fieldLink "MonsoonTrade$News" 15 "MonsoonTrade$News" "prices" "[I" ∈ xT := xwd_mem (i := 128) (by decide +kernel)
  have k119 : Cond.methodLink "MonsoonTrade$News" 18 (mt m_News_forget).1 ∈ xT := xwd_mem (i := 119) (by decide +kernel)
  have hcl : classes[1]? = some ("MonsoonTrade$News", TX1, 2) := rfl
  refine lv_aload_n (k := 0) (i := 0) hx hb d0 rfl (lv_at hl 0 rfl) ?_
  refine W.objInit hx hb hown (hts _ k118) (hts _ k98) (hts _ k99) rfl (by rw [hml]; exact hl.1) rfl d1 (by show 1 ≤ d + 2; omega) (by show 2 * 0 + 0 + 12 ≤ 40 * (d + 2); omega) ?_
  refine W.eq (g2 := F0 m 4 ls []) rfl ?_
  refine lv_aload_n (k := 0) (i := 0) hx hb d4 rfl (lv_at hl 0 rfl) ?_
  refine lv_bipush (n := 6) (v := 6) hx hb d5 rfl ?_
  refine va_newa (N' := 6) (a0 := (6, .inl fun _ => 0)) (ty := .int) hx hb (hts _ k134) rfl hK hP hD hS hA (fun _ => rfl) (by decide) rfl (by decide) (by show 0 + 1 ≤ 2; omega) (by show 0 + 6 ≤ 30; omega) d7 (fun q1 c1 H hK hP hD hS => ?_)
  have hP : va_P Dg classes [(h0, .inr (1, [.null, .null])), (q1, .inl (c1, 6, .inl fun _ => 0))] H := hP
  have hD : va_D A [(h0, .inr (1, [.null, .null])), (q1, .inl (c1, 6, .inl fun _ => 0))] := hD
  have hK : va_K Dg classes [(c1, .int)] s := hK
  refine va_putF (ci := 1) (v := .ref q1) (ty := .array .int) (C := "MonsoonTrade$News") (T := TX1) (N := 2) hx hb hts (xlay hcl) tyX1 tyX1_ok nmX1 hown hK hP hD hS 0 rfl rfl 0 (by decide) (hts _ k126) (fun _ h9 => h9) rfl hin rfl (by decide +kernel) rfl rfl (Nat.le_of_ble_eq_true rfl) d9 (fun H locs hP hD hS => ?_)
  have hP : va_P Dg classes [(h0, .inr (1, [.ref q1, .null])), (q1, .inl (c1, 6, .inl fun _ => 0))] H := hP
  have hD : va_D A [(h0, .inr (1, [.ref q1, .null])), (q1, .inl (c1, 6, .inl fun _ => 0))] := hD
  refine lv_aload_n (k := 0) (i := 0) hx hb d12 rfl (lv_at hl 0 rfl) ?_
  refine lv_bipush (n := 24) (v := 24) hx hb d13 rfl ?_
  refine va_newa (N' := 24) (a0 := (24, .inl fun _ => 0)) (ty := .int) hx hb (hts _ k134) rfl hK hP hD hS hA (fun _ => rfl) (by decide) rfl (by decide) (by show 0 + 1 + 1 ≤ 2; omega) (by show 0 + 6 + 24 ≤ 30; omega) d15 (fun q2 c2 H hK hP hD hS => ?_)
  have hP : va_P Dg classes [(h0, .inr (1, [.ref q1, .null])), (q1, .inl (c1, 6, .inl fun _ => 0)), (q2, .inl (c2, 24, .inl fun _ => 0))] H := hP
  have hD : va_D A [(h0, .inr (1, [.ref q1, .null])), (q1, .inl (c1, 6, .inl fun _ => 0)), (q2, .inl (c2, 24, .inl fun _ => 0))] := hD
  have hK : va_K Dg classes [(c1, .int), (c2, .int)] s := hK
  refine va_putF (ci := 1) (v := .ref q2) (ty := .array .int) (C := "MonsoonTrade$News") (T := TX1) (N := 2) hx hb hts (xlay hcl) tyX1 tyX1_ok nmX1 hown hK hP hD hS 0 rfl rfl 1 (by decide) (hts _ k128) (fun _ h9 => h9) rfl hin rfl (by decide +kernel) rfl rfl (Nat.le_of_ble_eq_true rfl) d17 (fun H locs hP hD hS => ?_)
  have hP : va_P Dg classes [(h0, .inr (1, [.ref q1, .ref q2])), (q1, .inl (c1, 6, .inl fun _ => 0)), (q2, .inl (c2, 24, .inl fun _ => 0))] H := hP
  have hD : va_D A [(h0, .inr (1, [.ref q1, .ref q2])), (q1, .inl (c1, 6, .inl fun _ => 0)), (q2, .inl (c2, 24, .inl fun _ => 0))] := hD
  refine lv_aload_n (k := 0) (i := 0) hx hb d20 rfl (lv_at hl 0 rfl) ?_
  have hm2 : xmok m_News_forget := xmok_all (by decide)
  obtain ⟨m1, m2, m3, m4, -, m6, m7, m8⟩ := xmok_spec hm2
  have st2 : xst m_News_forget = false := by decide
  rw [st2] at m2 m3
  have m3 : Cond.selects (mt m_News_forget).1.cls (mt m_News_forget).1 (mt m_News_forget).1 ∈ xT := m3.resolve_left (fun h => by cases h)
  have hnp : (parseMethodDescriptor (mt m_News_forget).1.desc).map (fun d => d.parameters.length) = some 0 := by decide +kernel
  obtain ⟨r0, hr0, hO⟩ := hP 0 _ rfl
  cases hr0
  have hO : t_OB h0 (Dg.1 1) 2 (Dg.2 1) H (vp_V [.ref q1, .ref q2]) := hO
  have hO2 := hO
  obtain ⟨cell, g1, g2, g3, g4⟩ := hO2
  have hq1 : H[q1]? = some (arrV c1 6 (fun _ => .int 0)) := hP 1 _ rfl
  have hA1 : ArrOfT s c1 .int := (hK.2 0 _ rfl).1
  have hM := rf_forget (d := d) (a := h0) (q := q1) (n := 6) (v := .ref q2) (cA := c1) (Dg := Dg) (by decide) l
  have hPV : PreV s H (mt m_News_forget).1.cls h0 (va_Pc [.ref h0] (fun U => va_K Dg classes [] U ∧ t_OB h0 (Dg.1 1) 2 (Dg.2 1) U.heap (vp_V [.ref q1, .ref q2]) ∧ ArrOfT U c1 .int ∧ ∃ f, U.heap[q1]? = some (arrV c1 6 f))) [] := ⟨fun b U g mk k => ⟨k.1, va_K.moved (u := U) (U := U.calling g mk b) (Vm.Alike.refl U.vm) k.2.1, k.2.2.1, (show ArrOfT (U.calling g mk b) c1 .int from arrOfT_moved (u := U) (Vm.Alike.refl U.vm) k.2.2.2.1), k.2.2.2.2⟩, ⟨cell, g1, by rw [g3]; rfl, by rw [g2]; exact (hK.1 1 _ hcl).2.1⟩, fun U hU hWm => ⟨rfl, va_K.moved hWm.alike (hK.sub (tys' := []) [] rfl), by rw [hU]; exact hO, arrOfT_moved hWm.alike hA1, _, by rw [hU]; exact hq1⟩⟩
  have fin : ∀ (R : Room) (ar : Array Value) (H1 : Heap) (locs1 : List Loc), va_P Dg classes (nwsB h0 (q1, q2, c1, c2)) H1 → va_D A (nwsB h0 (q1, q2, c1, c2)) → va_S A s.heap H1 locs1 → W p l e R s m ar below meth c H1 locs1 (0 + 1 + 1 + 0) (0 + 6 + 24 + 0) (MQ below (va_Qv (fun _ => True) (nAt Dg A h0) A) ar s 2 30 A) (F0 m 24 ls []) := fun R ar H1 locs1 hP hD hS => by
    refine W.widen (k := 2) (n := 30) (by omega) (by omega) ?_
    exact W.vret hx hb hr (fun t ht hW => ⟨⟨(q1, q2, c1, c2), rfl, trivial, by rw [ht]; exact hP, va_K.moved hW.alike hK, hD⟩, hS.F ht⟩) hS.2.2 d24 B.notSynchronized
  intro T hT X
  obtain ⟨v', st₀, t, T', L2, h0', X', hLL, e1, e2, ⟨hv, hz, hk, ho⟩, stp⟩ := va_runV (mc := 0) (ms := 0) (b := h0) (As := []) (g := F0 m 21 ls [.ref h0]) (rest := []) ⟨hx, hb, hml, hown, hts⟩ hM ⟨callB_of (ws' := xT) 0 hts (xgood hm2) rfl rfl rfl (hts _ m4) (hts _ k119) ⟨m6, m7, hnp⟩ (by show d + 1 + 1 ≤ d + 2 ∧ 8 + (1 + 11) + 40 * (d + 1) ≤ 40 * (d + 2); omega), hts _ m2, hts _ m3⟩ hPV rfl (by simp) hl.1 rfl (lv_room (show 0 ≤ 8 by decide)) d21 (by show 0 + 1 + 1 + 0 ≤ 2 ∧ 0 + 6 + 24 + 0 ≤ 30; omega) T hT X
  have hv' : v' = none := Outcome.returned.inj hv
  subst hv'
  rw [h0'] at hz ho
  have A1 : A q1 := hD.2 1 _ rfl
  have hP' := hP.set hD (p := 1) (a := q1) (e := .inl (c1, 6, .inl fun _ => -1)) (H1 := T'.heap) rfl (by show T'.heap[q1]? = _; rw [e1]; exact hk) (fun q hq => by rw [e1]; exact ho q hq)
  have hD' := hD.set (p := 1) (a := q1) (e := .inl (c1, 6, .inl fun _ => -1)) rfl
  have hS' : va_S A s.heap T'.heap (locs ++ L2) := ⟨by rw [e1, hz]; exact hS.1, fun q h1 h2 => by
    rw [e1, ho q (fun e => h2 (by rw [e]; exact A1))]
    exact hS.2.1 q h1 h2, fun q hq => by
    rcases List.mem_append.mp hq with h | h
    · exact hS.2.2 q h
    · rw [hLL q h]; exact A1⟩
  obtain ⟨t2, a1, b1⟩ := fin _ _ T'.heap _ hP' hD' hS' T' rfl X'
  exact ⟨t2, stp t2 a1, b1⟩
