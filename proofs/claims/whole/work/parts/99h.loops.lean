/-! the four loops of the class's constructor (written by ctor4.py) -/
theorem vP_perm {D : va_G} {cl : List vw_C} {ws ws' : va_W} {H : Heap} (h : va_P D cl ws H) (hp : ws.Perm ws') : va_P D cl ws' H := fun _ q hk => by
  obtain ⟨i, hi⟩ := List.getElem?_of_mem (hp.mem_iff.mpr (List.mem_of_getElem? hk))
  exact h i q hi
theorem vD_nd {A : Nat → Prop} {ws : va_W} (h : va_D A ws) : (ws.map Prod.fst).Nodup := by
  refine List.pairwise_iff_getElem.mpr (fun i j hi hj hij e => ?_)
  rw [List.length_map] at hi hj
  rw [List.getElem_map, List.getElem_map] at e
  have := h.1 i j ws[i] ws[j] (List.getElem?_eq_getElem hi) (List.getElem?_eq_getElem hj) e
  omega
theorem vD_of {A : Nat → Prop} {ws : va_W} (h1 : (ws.map Prod.fst).Nodup) (h2 : ∀ q ∈ ws, A q.1) : va_D A ws := by
  refine ⟨fun i j p q hi hj e => ?_, fun k q hk => h2 q (List.mem_of_getElem? hk)⟩
  obtain ⟨gi, rfl⟩ := List.getElem?_eq_some_iff.mp hi
  obtain ⟨gj, rfl⟩ := List.getElem?_eq_some_iff.mp hj
  have key := List.pairwise_iff_getElem.mp h1
  have hi' : i < (ws.map Prod.fst).length := by rw [List.length_map]; exact gi
  have hj' : j < (ws.map Prod.fst).length := by rw [List.length_map]; exact gj
  rcases Nat.lt_trichotomy i j with q | q | q
  · exact absurd (by rw [List.getElem_map, List.getElem_map]; exact e) (key i j hi' hj' q)
  · exact q
  · exact absurd (by rw [List.getElem_map, List.getElem_map]; exact e.symm) (key j i hj' hi' q)
theorem vD_perm {A : Nat → Prop} {ws ws' : va_W} (h : va_D A ws) (hp : ws.Perm ws') : va_D A ws' :=
  vD_of ((hp.map Prod.fst).nodup_iff.mp (vD_nd h)) (fun q hq => by
    obtain ⟨i, hi⟩ := List.getElem?_of_mem (hp.mem_iff.mpr hq)
    exact h.2 i q hi)
theorem vK_perm {D : va_G} {cl : List vw_C} {t1 t2 : List (ClassId × FieldType)} {U : State} (h : va_K D cl t1 U) (hp : t1.Perm t2) : va_K D cl t2 U := ⟨h.1, fun _ q hk => by
  obtain ⟨i, hi⟩ := List.getElem?_of_mem (hp.mem_iff.mpr (List.mem_of_getElem? hk))
  exact h.2 i q hi⟩
theorem vW_last (X pl : va_W) (x : Nat × va_E) : ((X ++ pl) ++ [x]).Perm ((X ++ [x]) ++ pl) := by
  rw [List.append_assoc, List.append_assoc]
  exact List.Perm.append_left X List.perm_append_comm
set_option maxRecDepth 10000 in
theorem lp0_it {d : Nat} {Dg : va_G} {p : Program} {l : Launch} {e : Env} {R : Room} {s : State} {m : MethodId} {args : Array Value} {below : List Frame} {meth : Method} {c : Code} {H : Heap} {ls : Array Slot} {locs : List Loc} {h0 : Nat} {A : Nat → Prop} {Q : State → Prop} {cells slots : Nat} {fs : List Value} {g0 g10 g8 g7 : Nat → Option Nat} {qa0 qa10 qa8 qa7 : Nat} {ca0 ca10 ca8 ca7 : ClassId} {pl : va_W} {tl : List (ClassId × FieldType)} (hx : p.tables.exec = Jvm.exec) (hb : c.code = cX11_init) (hml : c.maxLocals = 2) (hown : s.vm.findClass "MonsoonTrade" = some m.cls) (hts : ∀ w ∈ xT, w.before args s = true) (hN : ∀ w ∈ xN, va_Nw w s) (hR : d + 6 ≤ R.frames ∧ 40 * (d + 6) ≤ R.locals) (hA : ∀ q : Nat, s.heap.size ≤ q → A q) (hfs : fs[1]? = some (.ref qa0)) {j : Nat} (hj : j < 4) (hc : cells + 5 ≤ R.cells) (hz : slots + 45 ≤ R.slots)
    (hP : va_P Dg classes ([(h0, .inr (11, fs)), (qa0, .inl (ca0, 4, .inr (.inr (.inr (.inr g0))))), (qa10, .inl (ca10, 16, .inr (.inr (.inr (.inr g10))))), (qa8, .inl (ca8, 6, .inr (.inr (.inr (.inr g8))))), (qa7, .inl (ca7, 4, .inr (.inr (.inr (.inr g7)))))] ++ pl) H) (hD : va_D A ([(h0, .inr (11, fs)), (qa0, .inl (ca0, 4, .inr (.inr (.inr (.inr g0))))), (qa10, .inl (ca10, 16, .inr (.inr (.inr (.inr g10))))), (qa8, .inl (ca8, 6, .inr (.inr (.inr (.inr g8))))), (qa7, .inl (ca7, 4, .inr (.inr (.inr (.inr g7)))))] ++ pl)) (hK : va_K Dg classes ([(ca0, .object "MonsoonTrade$Dhow"), (ca10, .object "MonsoonTrade$Venture"), (ca8, .object "MonsoonTrade$Text"), (ca7, .object "MonsoonTrade$Sheet")] ++ tl) s) (hS : va_S A s.heap H locs) (hl : lv_has ls 2 [(1, .int (nI j)), (0, .ref h0)])
    (kk : ∀ (o : Nat) (u : List Nat × List ClassId) (H : Heap) (locs : List Loc) (ls : Array Slot), va_P Dg classes ([(h0, .inr (11, fs)), (qa0, .inl (ca0, 4, .inr (.inr (.inr (.inr (va_up g0 j (some o))))))), (qa10, .inl (ca10, 16, .inr (.inr (.inr (.inr g10))))), (qa8, .inl (ca8, 6, .inr (.inr (.inr (.inr g8))))), (qa7, .inl (ca7, 4, .inr (.inr (.inr (.inr g7)))))] ++ (w0B Dg o u ++ pl)) H → va_D A ([(h0, .inr (11, fs)), (qa0, .inl (ca0, 4, .inr (.inr (.inr (.inr (va_up g0 j (some o))))))), (qa10, .inl (ca10, 16, .inr (.inr (.inr (.inr g10))))), (qa8, .inl (ca8, 6, .inr (.inr (.inr (.inr g8))))), (qa7, .inl (ca7, 4, .inr (.inr (.inr (.inr g7)))))] ++ (w0B Dg o u ++ pl)) → va_K Dg classes ([(ca0, .object "MonsoonTrade$Dhow"), (ca10, .object "MonsoonTrade$Venture"), (ca8, .object "MonsoonTrade$Text"), (ca7, .object "MonsoonTrade$Sheet")] ++ (w0K Dg u ++ tl)) s → va_S A s.heap H locs → lv_has ls 2 [(1, .int (nI (j + 1))), (0, .ref h0)] → W p l e R s m args below meth c H locs (cells + 5) (slots + 45) Q (F0 m 103 ls [])) :
    W p l e R s m args below meth c H locs cells slots Q (F0 m 103 ls []) := by
  have hcl : classes[11]? = some ("MonsoonTrade", TX11, 14) := rfl
  have d103 : decode cX11_init 103 = .ok (.iload_n 1, 1) := by decide +kernel
  have d104 : decode cX11_init 104 = .ok (.iconst 4, 1) := by decide +kernel
  have d105 : decode cX11_init 105 = .ok (.if_icmp .ge 22, 3) := by decide +kernel
  have d108 : decode cX11_init 108 = .ok (.aload_n 0, 1) := by decide +kernel
  have d109 : decode cX11_init 109 = .ok (.getfield 18, 3) := by decide +kernel
  have d112 : decode cX11_init 112 = .ok (.iload_n 1, 1) := by decide +kernel
  have d113 : decode cX11_init 113 = .ok (.new 16, 3) := by decide +kernel
  have d116 : decode cX11_init 116 = .ok (.dup, 1) := by decide +kernel
  have d117 : decode cX11_init 117 = .ok (.invokespecial 72, 3) := by decide +kernel
  have d120 : decode cX11_init 120 = .ok (.aastore, 1) := by decide +kernel
  have d121 : decode cX11_init 121 = .ok (.iinc 1 1, 3) := by decide +kernel
  have d124 : decode cX11_init 124 = .ok (.goto (-21), 3) := by decide +kernel
  have kg : Cond.fieldLink "MonsoonTrade" 18 "MonsoonTrade" "dhows" "[LMonsoonTrade$Dhow;" ∈ xT := xwd_mem (i := 657) (by decide +kernel)
  have kc : Cond.classLink "MonsoonTrade" 16 "MonsoonTrade$Dhow" ∈ xT := xwd_mem (i := 176) (by decide +kernel)
  have kN : Cond.instantiable "MonsoonTrade$Dhow" 9 ∈ xT := xwd_mem (i := 308) (by decide +kernel)
  have kI : Cond.initialized "MonsoonTrade$Dhow" ∈ xT := xwd_mem (i := 79) (by decide +kernel)
  have kM : Cond.methodLinkNest "MonsoonTrade" 72 yX0_init "MonsoonTrade" ∈ xN := xwn_mem (i := 309) (by decide +kernel)
  have kJ : Cond.instanceMethod yX0_init ∈ xT := xwd_mem (i := 310) (by decide +kernel)
  have kC : Cond.code yX0_init cX0_init 1 none ∈ xT := xwd_mem (i := 311) (by decide +kernel)
  have hji : ¬ ((nI j) < 0 ∨ 4 ≤ (nI j).toNatClampNeg) := nI_in hj (by decide)
  have hlt : nI j < 4 := nI_lt (b := 4) hj (by decide)
  refine lv_iload_n (k := 1) (i := 1) hx hb d103 rfl (lv_at hl 0 rfl) ?_
  refine lv_iconst (n := 4) (v := 4) hx hb d104 rfl ?_
  refine lv_icmp_ge (off := 22) (tgt := 127) hx hb d105 rfl (fun k => absurd hlt (Int32.not_lt.mpr k)) (fun _ => ?_)
  refine lv_aload_n (k := 0) (i := 0) hx hb d108 rfl (lv_at hl 1 rfl) ?_
  refine va_get (ci := 11) (N := 14) (T := TX11) (v := .ref qa0) hx hb hts (xlay hcl) hown hK hP 0 rfl rfl 1 (by decide) (hts _ kg) (fun _ h9 => h9) hfs d109 ?_
  refine lv_iload_n (k := 1) (i := 1) hx hb d112 rfl (lv_at hl 0 rfl) ?_
  refine va_new (ci := 0) (fs := [.int 0, .int 0, .int 0, .int 0, .int 0, .null, .int 0, .int 0, .null]) (C := "MonsoonTrade$Dhow") (T := TX0) (N := 9) hx hb hts (xlay (ci := 0) rfl) tyX0 tyX0_ok hown (hts _ kc) (hts _ kN) (hts _ kI) hK hP hD hS hA rfl (fun j hj => by rcases (show j = 0 ∨ j = 1 ∨ j = 2 ∨ j = 3 ∨ j = 4 ∨ j = 5 ∨ j = 6 ∨ j = 7 ∨ j = 8 by omega) with rfl | rfl | rfl | rfl | rfl | rfl | rfl | rfl | rfl <;> rfl) (by omega) (by omega) d113 (fun o H hP hD hS => ?_)
  have hP : va_P Dg classes ([(h0, .inr (11, fs)), (qa0, .inl (ca0, 4, .inr (.inr (.inr (.inr g0))))), (qa10, .inl (ca10, 16, .inr (.inr (.inr (.inr g10))))), (qa8, .inl (ca8, 6, .inr (.inr (.inr (.inr g8))))), (qa7, .inl (ca7, 4, .inr (.inr (.inr (.inr g7))))), (o, .inr (0, [.int 0, .int 0, .int 0, .int 0, .int 0, .null, .int 0, .int 0, .null]))] ++ pl) H := vP_perm hP (vW_last _ _ _)
  have hD : va_D A ([(h0, .inr (11, fs)), (qa0, .inl (ca0, 4, .inr (.inr (.inr (.inr g0))))), (qa10, .inl (ca10, 16, .inr (.inr (.inr (.inr g10))))), (qa8, .inl (ca8, 6, .inr (.inr (.inr (.inr g8))))), (qa7, .inl (ca7, 4, .inr (.inr (.inr (.inr g7))))), (o, .inr (0, [.int 0, .int 0, .int 0, .int 0, .int 0, .null, .int 0, .int 0, .null]))] ++ pl) := vD_perm hD (vW_last _ _ _)
  refine lv_dup hx hb d116 rfl ?_
  have hPc := hP.sub (ws' := w0A o) [5] rfl
  have hDc := hD.sub (ws' := w0A o) [5] (by decide) rfl
  have hKc := hK.sub (tys' := []) [] rfl
  have hFc := va_free (wc := w0A o) hD hS hA [5] rfl
  refine va_callv (va_runIN (As := []) (rest := [.ref o, .int (nI j), .ref qa0]) ⟨hx, hb, hml, hown, hts⟩ (rf_Dhow (d := d) (Dg := Dg) l o H.size) ⟨va_cnB (ws' := xT) 0 hts (xgoodI kC) rfl rfl rfl (hN _ kM) (hts _ kI) ⟨by decide +kernel, by decide +kernel, by decide +kernel⟩ (by have h1 := hR.1; have h2 := hR.2; show d + 3 + 1 ≤ R.frames ∧ 8 + (1 + 11) + 40 * (d + 3) ≤ R.locals; omega), rfl, hts _ kJ⟩ ⟨fun a U g mk q => by obtain ⟨q0, q1, qP, qK, qD⟩ := q; exact ⟨q0, q1, qP, va_K.moved (u := U) (U := U.calling g mk a) (Vm.Alike.refl U.vm) qK, qD⟩, fun U hU hW => ⟨rfl, by rw [hU], by rw [hU]; exact hPc, va_K.moved hW.alike hKc, hDc.weaken (fun _ _ _ _ => trivial)⟩⟩ rfl rfl hl.1 rfl (lv_room (Nat.le_of_ble_eq_true rfl)) d117 ⟨by omega, by omega⟩) hS (fun q _ h => hFc q h) hFc (fun u t H1 locs ht hvm hw hB hz1 hk1 hS => ?_)
  obtain ⟨hP1, hK1, hD1⟩ := hB
  rw [ht] at hP1
  have hK1 := va_K.moved hvm.symm hK1
  obtain ⟨hP, hD⟩ := va_joinQ (wr := [(h0, .inr (11, fs)), (qa0, .inl (ca0, 4, .inr (.inr (.inr (.inr g0))))), (qa10, .inl (ca10, 16, .inr (.inr (.inr (.inr g10))))), (qa8, .inl (ca8, 6, .inr (.inr (.inr (.inr g8))))), (qa7, .inl (ca7, 4, .inr (.inr (.inr (.inr g7)))))]) (w1 := w0B Dg o u) hP hD [5] [0, 1, 2, 3, 4] rfl rfl (by decide) (by decide) hk1 hFc hP1 hD1
  have hK := hK.app hK1
  rw [List.append_assoc] at hP hD hK
  have hK := vK_perm hK (List.Perm.append_left _ List.perm_append_comm)
  refine va_astq (r := ("MonsoonTrade$Dhow", TX0, 9)) hx hb hK hP hD hS 1 0 5 0 rfl rfl rfl rfl (i := nI j) hji d120 (fun H locs hP hD hS => ?_)
  rw [nI_clamp (show j < 2 ^ 31 by omega)] at hP hD
  refine lv_iinc (k := 0) (v := nI (j + 1)) (nL := 2) hx hb d121 hl rfl (nI_1 (a := j)) (by decide) rfl (fun ls hl => ?_)
  refine lv_goto (off := -21) (tgt := 103) hx hb d124 rfl ?_
  exact kk o u H _ ls hP hD hK hS hl
set_option maxRecDepth 10000 in
theorem lp0_all {d : Nat} {Dg : va_G} {p : Program} {l : Launch} {e : Env} {R : Room} {s : State} {m : MethodId} {args : Array Value} {below : List Frame} {meth : Method} {c : Code} {H : Heap} {ls : Array Slot} {locs : List Loc} {h0 : Nat} {A : Nat → Prop} {Q : State → Prop} {cells slots : Nat} {fs : List Value} {g0 g10 g8 g7 : Nat → Option Nat} {qa0 qa10 qa8 qa7 : Nat} {ca0 ca10 ca8 ca7 : ClassId} {pl : va_W} {tl : List (ClassId × FieldType)} (hx : p.tables.exec = Jvm.exec) (hb : c.code = cX11_init) (hml : c.maxLocals = 2) (hown : s.vm.findClass "MonsoonTrade" = some m.cls) (hts : ∀ w ∈ xT, w.before args s = true) (hN : ∀ w ∈ xN, va_Nw w s) (hR : d + 6 ≤ R.frames ∧ 40 * (d + 6) ≤ R.locals) (hA : ∀ q : Nat, s.heap.size ≤ q → A q) (hfs : fs[1]? = some (.ref qa0)) (hc : cells + 20 ≤ R.cells) (hz : slots + 180 ≤ R.slots) {lv : List (Nat × Value)} (hlv : lv_pick lv [0] = [(0, .ref h0)])
    (hP : va_P Dg classes ([(h0, .inr (11, fs)), (qa0, .inl (ca0, 4, .inr (.inr (.inr (.inr g0))))), (qa10, .inl (ca10, 16, .inr (.inr (.inr (.inr g10))))), (qa8, .inl (ca8, 6, .inr (.inr (.inr (.inr g8))))), (qa7, .inl (ca7, 4, .inr (.inr (.inr (.inr g7)))))] ++ pl) H) (hD : va_D A ([(h0, .inr (11, fs)), (qa0, .inl (ca0, 4, .inr (.inr (.inr (.inr g0))))), (qa10, .inl (ca10, 16, .inr (.inr (.inr (.inr g10))))), (qa8, .inl (ca8, 6, .inr (.inr (.inr (.inr g8))))), (qa7, .inl (ca7, 4, .inr (.inr (.inr (.inr g7)))))] ++ pl)) (hK : va_K Dg classes ([(ca0, .object "MonsoonTrade$Dhow"), (ca10, .object "MonsoonTrade$Venture"), (ca8, .object "MonsoonTrade$Text"), (ca7, .object "MonsoonTrade$Sheet")] ++ tl) s) (hS : va_S A s.heap H locs) (hl : lv_has ls 2 lv)
    (kk : ∀ (o0 : Nat) (u0 : List Nat × List ClassId) (o1 : Nat) (u1 : List Nat × List ClassId) (o2 : Nat) (u2 : List Nat × List ClassId) (o3 : Nat) (u3 : List Nat × List ClassId) (H : Heap) (locs : List Loc) (ls : Array Slot), va_P Dg classes ([(h0, .inr (11, fs)), (qa0, .inl (ca0, 4, .inr (.inr (.inr (.inr (va_up (va_up (va_up (va_up g0 0 (some o0)) 1 (some o1)) 2 (some o2)) 3 (some o3))))))), (qa10, .inl (ca10, 16, .inr (.inr (.inr (.inr g10))))), (qa8, .inl (ca8, 6, .inr (.inr (.inr (.inr g8))))), (qa7, .inl (ca7, 4, .inr (.inr (.inr (.inr g7)))))] ++ (w0B Dg o3 u3 ++ (w0B Dg o2 u2 ++ (w0B Dg o1 u1 ++ (w0B Dg o0 u0 ++ pl))))) H → va_D A ([(h0, .inr (11, fs)), (qa0, .inl (ca0, 4, .inr (.inr (.inr (.inr (va_up (va_up (va_up (va_up g0 0 (some o0)) 1 (some o1)) 2 (some o2)) 3 (some o3))))))), (qa10, .inl (ca10, 16, .inr (.inr (.inr (.inr g10))))), (qa8, .inl (ca8, 6, .inr (.inr (.inr (.inr g8))))), (qa7, .inl (ca7, 4, .inr (.inr (.inr (.inr g7)))))] ++ (w0B Dg o3 u3 ++ (w0B Dg o2 u2 ++ (w0B Dg o1 u1 ++ (w0B Dg o0 u0 ++ pl))))) → va_K Dg classes ([(ca0, .object "MonsoonTrade$Dhow"), (ca10, .object "MonsoonTrade$Venture"), (ca8, .object "MonsoonTrade$Text"), (ca7, .object "MonsoonTrade$Sheet")] ++ (w0K Dg u3 ++ (w0K Dg u2 ++ (w0K Dg u1 ++ (w0K Dg u0 ++ tl))))) s → va_S A s.heap H locs → lv_has ls 2 [(1, .int (nI 4)), (0, .ref h0)] → W p l e R s m args below meth c H locs (cells + 20) (slots + 180) Q (F0 m 127 ls [])) :
    W p l e R s m args below meth c H locs cells slots Q (F0 m 101 ls []) := by
  have d101 : decode cX11_init 101 = .ok (.iconst 0, 1) := by decide +kernel
  have d102 : decode cX11_init 102 = .ok (.istore_n 1, 1) := by decide +kernel
  have d103 : decode cX11_init 103 = .ok (.iload_n 1, 1) := by decide +kernel
  have d104 : decode cX11_init 104 = .ok (.iconst 4, 1) := by decide +kernel
  have d105 : decode cX11_init 105 = .ok (.if_icmp .ge 22, 3) := by decide +kernel
  have hl := lv_sub hl _ hlv
  refine lv_iconst (n := 0) (v := 0) hx hb d101 rfl ?_
  refine lv_istore_n (k := 1) (i := 1) (nL := 2) hx hb d102 rfl hl (by decide) rfl (fun ls hl => ?_)
  refine lp0_it (j := 0) hx hb hml hown hts hN hR hA hfs (by decide) (by omega) (by omega) hP hD hK hS hl (fun o0 u0 H locs ls hP hD hK hS hl => ?_)
  refine lp0_it (j := 1) hx hb hml hown hts hN hR hA hfs (by decide) (by omega) (by omega) hP hD hK hS hl (fun o1 u1 H locs ls hP hD hK hS hl => ?_)
  refine lp0_it (j := 2) hx hb hml hown hts hN hR hA hfs (by decide) (by omega) (by omega) hP hD hK hS hl (fun o2 u2 H locs ls hP hD hK hS hl => ?_)
  refine lp0_it (j := 3) hx hb hml hown hts hN hR hA hfs (by decide) (by omega) (by omega) hP hD hK hS hl (fun o3 u3 H locs ls hP hD hK hS hl => ?_)
  refine lv_iload_n (k := 1) (i := 1) hx hb d103 rfl (lv_at hl 0 rfl) ?_
  refine lv_iconst (n := 4) (v := 4) hx hb d104 rfl ?_
  refine lv_icmp_ge (off := 22) (tgt := 127) hx hb d105 rfl (fun _ => ?_) (fun k => absurd (show (4 : Int32) ≤ nI 4 by decide +kernel) k)
  exact kk o0 u0 o1 u1 o2 u2 o3 u3 H locs ls hP hD hK hS hl
set_option maxRecDepth 10000 in
theorem lp10_it {d : Nat} {Dg : va_G} {p : Program} {l : Launch} {e : Env} {R : Room} {s : State} {m : MethodId} {args : Array Value} {below : List Frame} {meth : Method} {c : Code} {H : Heap} {ls : Array Slot} {locs : List Loc} {h0 : Nat} {A : Nat → Prop} {Q : State → Prop} {cells slots : Nat} {fs : List Value} {g0 g10 g8 g7 : Nat → Option Nat} {qa0 qa10 qa8 qa7 : Nat} {ca0 ca10 ca8 ca7 : ClassId} {pl : va_W} {tl : List (ClassId × FieldType)} (hx : p.tables.exec = Jvm.exec) (hb : c.code = cX11_init) (hml : c.maxLocals = 2) (hown : s.vm.findClass "MonsoonTrade" = some m.cls) (hts : ∀ w ∈ xT, w.before args s = true) (hN : ∀ w ∈ xN, va_Nw w s) (hR : d + 6 ≤ R.frames ∧ 40 * (d + 6) ≤ R.locals) (hA : ∀ q : Nat, s.heap.size ≤ q → A q) (hfs : fs[2]? = some (.ref qa10)) {j : Nat} (hj : j < 16) (hc : cells + 1 ≤ R.cells) (hz : slots + 8 ≤ R.slots)
    (hP : va_P Dg classes ([(h0, .inr (11, fs)), (qa0, .inl (ca0, 4, .inr (.inr (.inr (.inr g0))))), (qa10, .inl (ca10, 16, .inr (.inr (.inr (.inr g10))))), (qa8, .inl (ca8, 6, .inr (.inr (.inr (.inr g8))))), (qa7, .inl (ca7, 4, .inr (.inr (.inr (.inr g7)))))] ++ pl) H) (hD : va_D A ([(h0, .inr (11, fs)), (qa0, .inl (ca0, 4, .inr (.inr (.inr (.inr g0))))), (qa10, .inl (ca10, 16, .inr (.inr (.inr (.inr g10))))), (qa8, .inl (ca8, 6, .inr (.inr (.inr (.inr g8))))), (qa7, .inl (ca7, 4, .inr (.inr (.inr (.inr g7)))))] ++ pl)) (hK : va_K Dg classes ([(ca0, .object "MonsoonTrade$Dhow"), (ca10, .object "MonsoonTrade$Venture"), (ca8, .object "MonsoonTrade$Text"), (ca7, .object "MonsoonTrade$Sheet")] ++ tl) s) (hS : va_S A s.heap H locs) (hl : lv_has ls 2 [(1, .int (nI j)), (0, .ref h0)])
    (kk : ∀ (o : Nat) (u : List Nat × List ClassId) (H : Heap) (locs : List Loc) (ls : Array Slot), va_P Dg classes ([(h0, .inr (11, fs)), (qa0, .inl (ca0, 4, .inr (.inr (.inr (.inr g0))))), (qa10, .inl (ca10, 16, .inr (.inr (.inr (.inr (va_up g10 j (some o))))))), (qa8, .inl (ca8, 6, .inr (.inr (.inr (.inr g8))))), (qa7, .inl (ca7, 4, .inr (.inr (.inr (.inr g7)))))] ++ (w10B Dg o u ++ pl)) H → va_D A ([(h0, .inr (11, fs)), (qa0, .inl (ca0, 4, .inr (.inr (.inr (.inr g0))))), (qa10, .inl (ca10, 16, .inr (.inr (.inr (.inr (va_up g10 j (some o))))))), (qa8, .inl (ca8, 6, .inr (.inr (.inr (.inr g8))))), (qa7, .inl (ca7, 4, .inr (.inr (.inr (.inr g7)))))] ++ (w10B Dg o u ++ pl)) → va_K Dg classes ([(ca0, .object "MonsoonTrade$Dhow"), (ca10, .object "MonsoonTrade$Venture"), (ca8, .object "MonsoonTrade$Text"), (ca7, .object "MonsoonTrade$Sheet")] ++ (w10K Dg u ++ tl)) s → va_S A s.heap H locs → lv_has ls 2 [(1, .int (nI (j + 1))), (0, .ref h0)] → W p l e R s m args below meth c H locs (cells + 1) (slots + 8) Q (F0 m 129 ls [])) :
    W p l e R s m args below meth c H locs cells slots Q (F0 m 129 ls []) := by
  have hcl : classes[11]? = some ("MonsoonTrade", TX11, 14) := rfl
  have d129 : decode cX11_init 129 = .ok (.iload_n 1, 1) := by decide +kernel
  have d130 : decode cX11_init 130 = .ok (.bipush 16, 2) := by decide +kernel
  have d132 : decode cX11_init 132 = .ok (.if_icmp .ge 22, 3) := by decide +kernel
  have d135 : decode cX11_init 135 = .ok (.aload_n 0, 1) := by decide +kernel
  have d136 : decode cX11_init 136 = .ok (.getfield 24, 3) := by decide +kernel
  have d139 : decode cX11_init 139 = .ok (.iload_n 1, 1) := by decide +kernel
  have d140 : decode cX11_init 140 = .ok (.new 22, 3) := by decide +kernel
  have d143 : decode cX11_init 143 = .ok (.dup, 1) := by decide +kernel
  have d144 : decode cX11_init 144 = .ok (.invokespecial 73, 3) := by decide +kernel
  have d147 : decode cX11_init 147 = .ok (.aastore, 1) := by decide +kernel
  have d148 : decode cX11_init 148 = .ok (.iinc 1 1, 3) := by decide +kernel
  have d151 : decode cX11_init 151 = .ok (.goto (-22), 3) := by decide +kernel
  have kg : Cond.fieldLink "MonsoonTrade" 24 "MonsoonTrade" "ventures" "[LMonsoonTrade$Venture;" ∈ xT := xwd_mem (i := 658) (by decide +kernel)
  have kc : Cond.classLink "MonsoonTrade" 22 "MonsoonTrade$Venture" ∈ xT := xwd_mem (i := 178) (by decide +kernel)
  have kN : Cond.instantiable "MonsoonTrade$Venture" 8 ∈ xT := xwd_mem (i := 355) (by decide +kernel)
  have kI : Cond.initialized "MonsoonTrade$Venture" ∈ xT := xwd_mem (i := 80) (by decide +kernel)
  have kM : Cond.methodLinkNest "MonsoonTrade" 73 yX10_init "MonsoonTrade" ∈ xN := xwn_mem (i := 356) (by decide +kernel)
  have kJ : Cond.instanceMethod yX10_init ∈ xT := xwd_mem (i := 357) (by decide +kernel)
  have kC : Cond.code yX10_init cX10_init 1 none ∈ xT := xwd_mem (i := 358) (by decide +kernel)
  have hji : ¬ ((nI j) < 0 ∨ 16 ≤ (nI j).toNatClampNeg) := nI_in hj (by decide)
  have hlt : nI j < 16 := nI_lt (b := 16) hj (by decide)
  refine lv_iload_n (k := 1) (i := 1) hx hb d129 rfl (lv_at hl 0 rfl) ?_
  refine lv_bipush (n := 16) (v := 16) hx hb d130 rfl ?_
  refine lv_icmp_ge (off := 22) (tgt := 154) hx hb d132 rfl (fun k => absurd hlt (Int32.not_lt.mpr k)) (fun _ => ?_)
  refine lv_aload_n (k := 0) (i := 0) hx hb d135 rfl (lv_at hl 1 rfl) ?_
  refine va_get (ci := 11) (N := 14) (T := TX11) (v := .ref qa10) hx hb hts (xlay hcl) hown hK hP 0 rfl rfl 2 (by decide) (hts _ kg) (fun _ h9 => h9) hfs d136 ?_
  refine lv_iload_n (k := 1) (i := 1) hx hb d139 rfl (lv_at hl 0 rfl) ?_
  refine va_new (ci := 10) (fs := [.int 0, .int 0, .int 0, .int 0, .int 0, .int 0, .int 0, .int 0]) (C := "MonsoonTrade$Venture") (T := TX10) (N := 8) hx hb hts (xlay (ci := 10) rfl) tyX10 tyX10_ok hown (hts _ kc) (hts _ kN) (hts _ kI) hK hP hD hS hA rfl (fun j hj => by rcases (show j = 0 ∨ j = 1 ∨ j = 2 ∨ j = 3 ∨ j = 4 ∨ j = 5 ∨ j = 6 ∨ j = 7 by omega) with rfl | rfl | rfl | rfl | rfl | rfl | rfl | rfl <;> rfl) (by omega) (by omega) d140 (fun o H hP hD hS => ?_)
  have hP : va_P Dg classes ([(h0, .inr (11, fs)), (qa0, .inl (ca0, 4, .inr (.inr (.inr (.inr g0))))), (qa10, .inl (ca10, 16, .inr (.inr (.inr (.inr g10))))), (qa8, .inl (ca8, 6, .inr (.inr (.inr (.inr g8))))), (qa7, .inl (ca7, 4, .inr (.inr (.inr (.inr g7))))), (o, .inr (10, [.int 0, .int 0, .int 0, .int 0, .int 0, .int 0, .int 0, .int 0]))] ++ pl) H := vP_perm hP (vW_last _ _ _)
  have hD : va_D A ([(h0, .inr (11, fs)), (qa0, .inl (ca0, 4, .inr (.inr (.inr (.inr g0))))), (qa10, .inl (ca10, 16, .inr (.inr (.inr (.inr g10))))), (qa8, .inl (ca8, 6, .inr (.inr (.inr (.inr g8))))), (qa7, .inl (ca7, 4, .inr (.inr (.inr (.inr g7))))), (o, .inr (10, [.int 0, .int 0, .int 0, .int 0, .int 0, .int 0, .int 0, .int 0]))] ++ pl) := vD_perm hD (vW_last _ _ _)
  refine lv_dup hx hb d143 rfl ?_
  have hPc := hP.sub (ws' := w10A o) [5] rfl
  have hDc := hD.sub (ws' := w10A o) [5] (by decide) rfl
  have hKc := hK.sub (tys' := []) [] rfl
  have hFc := va_free (wc := w10A o) hD hS hA [5] rfl
  refine va_callv (va_runIN (As := []) (rest := [.ref o, .int (nI j), .ref qa10]) ⟨hx, hb, hml, hown, hts⟩ (rf_Venture (d := d) (Dg := Dg) l o H.size) ⟨va_cnB (ws' := xT) 0 hts (xgoodI kC) rfl rfl rfl (hN _ kM) (hts _ kI) ⟨by decide +kernel, by decide +kernel, by decide +kernel⟩ (by have h1 := hR.1; have h2 := hR.2; show d + 1 + 1 ≤ R.frames ∧ 8 + (1 + 11) + 40 * (d + 1) ≤ R.locals; omega), rfl, hts _ kJ⟩ ⟨fun a U g mk q => by obtain ⟨q0, q1, qP, qK, qD⟩ := q; exact ⟨q0, q1, qP, va_K.moved (u := U) (U := U.calling g mk a) (Vm.Alike.refl U.vm) qK, qD⟩, fun U hU hW => ⟨rfl, by rw [hU], by rw [hU]; exact hPc, va_K.moved hW.alike hKc, hDc.weaken (fun _ _ _ _ => trivial)⟩⟩ rfl rfl hl.1 rfl (lv_room (Nat.le_of_ble_eq_true rfl)) d144 ⟨by omega, by omega⟩) hS (fun q _ h => hFc q h) hFc (fun u t H1 locs ht hvm hw hB hz1 hk1 hS => ?_)
  obtain ⟨hP1, hK1, hD1⟩ := hB
  rw [ht] at hP1
  have hK1 := va_K.moved hvm.symm hK1
  obtain ⟨hP, hD⟩ := va_joinQ (wr := [(h0, .inr (11, fs)), (qa0, .inl (ca0, 4, .inr (.inr (.inr (.inr g0))))), (qa10, .inl (ca10, 16, .inr (.inr (.inr (.inr g10))))), (qa8, .inl (ca8, 6, .inr (.inr (.inr (.inr g8))))), (qa7, .inl (ca7, 4, .inr (.inr (.inr (.inr g7)))))]) (w1 := w10B Dg o u) hP hD [5] [0, 1, 2, 3, 4] rfl rfl (by decide) (by decide) hk1 hFc hP1 hD1
  have hK := hK.app hK1
  rw [List.append_assoc] at hP hD hK
  have hK := vK_perm hK (List.Perm.append_left _ List.perm_append_comm)
  refine va_astq (r := ("MonsoonTrade$Venture", TX10, 8)) hx hb hK hP hD hS 2 1 5 10 rfl rfl rfl rfl (i := nI j) hji d147 (fun H locs hP hD hS => ?_)
  rw [nI_clamp (show j < 2 ^ 31 by omega)] at hP hD
  refine lv_iinc (k := 0) (v := nI (j + 1)) (nL := 2) hx hb d148 hl rfl (nI_1 (a := j)) (by decide) rfl (fun ls hl => ?_)
  refine lv_goto (off := -22) (tgt := 129) hx hb d151 rfl ?_
  exact kk o u H _ ls hP hD hK hS hl
set_option maxRecDepth 10000 in
theorem lp10_all {d : Nat} {Dg : va_G} {p : Program} {l : Launch} {e : Env} {R : Room} {s : State} {m : MethodId} {args : Array Value} {below : List Frame} {meth : Method} {c : Code} {H : Heap} {ls : Array Slot} {locs : List Loc} {h0 : Nat} {A : Nat → Prop} {Q : State → Prop} {cells slots : Nat} {fs : List Value} {g0 g10 g8 g7 : Nat → Option Nat} {qa0 qa10 qa8 qa7 : Nat} {ca0 ca10 ca8 ca7 : ClassId} {pl : va_W} {tl : List (ClassId × FieldType)} (hx : p.tables.exec = Jvm.exec) (hb : c.code = cX11_init) (hml : c.maxLocals = 2) (hown : s.vm.findClass "MonsoonTrade" = some m.cls) (hts : ∀ w ∈ xT, w.before args s = true) (hN : ∀ w ∈ xN, va_Nw w s) (hR : d + 6 ≤ R.frames ∧ 40 * (d + 6) ≤ R.locals) (hA : ∀ q : Nat, s.heap.size ≤ q → A q) (hfs : fs[2]? = some (.ref qa10)) (hc : cells + 16 ≤ R.cells) (hz : slots + 128 ≤ R.slots) {lv : List (Nat × Value)} (hlv : lv_pick lv [1] = [(0, .ref h0)])
    (hP : va_P Dg classes ([(h0, .inr (11, fs)), (qa0, .inl (ca0, 4, .inr (.inr (.inr (.inr g0))))), (qa10, .inl (ca10, 16, .inr (.inr (.inr (.inr g10))))), (qa8, .inl (ca8, 6, .inr (.inr (.inr (.inr g8))))), (qa7, .inl (ca7, 4, .inr (.inr (.inr (.inr g7)))))] ++ pl) H) (hD : va_D A ([(h0, .inr (11, fs)), (qa0, .inl (ca0, 4, .inr (.inr (.inr (.inr g0))))), (qa10, .inl (ca10, 16, .inr (.inr (.inr (.inr g10))))), (qa8, .inl (ca8, 6, .inr (.inr (.inr (.inr g8))))), (qa7, .inl (ca7, 4, .inr (.inr (.inr (.inr g7)))))] ++ pl)) (hK : va_K Dg classes ([(ca0, .object "MonsoonTrade$Dhow"), (ca10, .object "MonsoonTrade$Venture"), (ca8, .object "MonsoonTrade$Text"), (ca7, .object "MonsoonTrade$Sheet")] ++ tl) s) (hS : va_S A s.heap H locs) (hl : lv_has ls 2 lv)
    (kk : ∀ (o0 : Nat) (u0 : List Nat × List ClassId) (o1 : Nat) (u1 : List Nat × List ClassId) (o2 : Nat) (u2 : List Nat × List ClassId) (o3 : Nat) (u3 : List Nat × List ClassId) (o4 : Nat) (u4 : List Nat × List ClassId) (o5 : Nat) (u5 : List Nat × List ClassId) (o6 : Nat) (u6 : List Nat × List ClassId) (o7 : Nat) (u7 : List Nat × List ClassId) (o8 : Nat) (u8 : List Nat × List ClassId) (o9 : Nat) (u9 : List Nat × List ClassId) (o10 : Nat) (u10 : List Nat × List ClassId) (o11 : Nat) (u11 : List Nat × List ClassId) (o12 : Nat) (u12 : List Nat × List ClassId) (o13 : Nat) (u13 : List Nat × List ClassId) (o14 : Nat) (u14 : List Nat × List ClassId) (o15 : Nat) (u15 : List Nat × List ClassId) (H : Heap) (locs : List Loc) (ls : Array Slot), va_P Dg classes ([(h0, .inr (11, fs)), (qa0, .inl (ca0, 4, .inr (.inr (.inr (.inr g0))))), (qa10, .inl (ca10, 16, .inr (.inr (.inr (.inr (va_up (va_up (va_up (va_up (va_up (va_up (va_up (va_up (va_up (va_up (va_up (va_up (va_up (va_up (va_up (va_up g10 0 (some o0)) 1 (some o1)) 2 (some o2)) 3 (some o3)) 4 (some o4)) 5 (some o5)) 6 (some o6)) 7 (some o7)) 8 (some o8)) 9 (some o9)) 10 (some o10)) 11 (some o11)) 12 (some o12)) 13 (some o13)) 14 (some o14)) 15 (some o15))))))), (qa8, .inl (ca8, 6, .inr (.inr (.inr (.inr g8))))), (qa7, .inl (ca7, 4, .inr (.inr (.inr (.inr g7)))))] ++ (w10B Dg o15 u15 ++ (w10B Dg o14 u14 ++ (w10B Dg o13 u13 ++ (w10B Dg o12 u12 ++ (w10B Dg o11 u11 ++ (w10B Dg o10 u10 ++ (w10B Dg o9 u9 ++ (w10B Dg o8 u8 ++ (w10B Dg o7 u7 ++ (w10B Dg o6 u6 ++ (w10B Dg o5 u5 ++ (w10B Dg o4 u4 ++ (w10B Dg o3 u3 ++ (w10B Dg o2 u2 ++ (w10B Dg o1 u1 ++ (w10B Dg o0 u0 ++ pl))))))))))))))))) H → va_D A ([(h0, .inr (11, fs)), (qa0, .inl (ca0, 4, .inr (.inr (.inr (.inr g0))))), (qa10, .inl (ca10, 16, .inr (.inr (.inr (.inr (va_up (va_up (va_up (va_up (va_up (va_up (va_up (va_up (va_up (va_up (va_up (va_up (va_up (va_up (va_up (va_up g10 0 (some o0)) 1 (some o1)) 2 (some o2)) 3 (some o3)) 4 (some o4)) 5 (some o5)) 6 (some o6)) 7 (some o7)) 8 (some o8)) 9 (some o9)) 10 (some o10)) 11 (some o11)) 12 (some o12)) 13 (some o13)) 14 (some o14)) 15 (some o15))))))), (qa8, .inl (ca8, 6, .inr (.inr (.inr (.inr g8))))), (qa7, .inl (ca7, 4, .inr (.inr (.inr (.inr g7)))))] ++ (w10B Dg o15 u15 ++ (w10B Dg o14 u14 ++ (w10B Dg o13 u13 ++ (w10B Dg o12 u12 ++ (w10B Dg o11 u11 ++ (w10B Dg o10 u10 ++ (w10B Dg o9 u9 ++ (w10B Dg o8 u8 ++ (w10B Dg o7 u7 ++ (w10B Dg o6 u6 ++ (w10B Dg o5 u5 ++ (w10B Dg o4 u4 ++ (w10B Dg o3 u3 ++ (w10B Dg o2 u2 ++ (w10B Dg o1 u1 ++ (w10B Dg o0 u0 ++ pl))))))))))))))))) → va_K Dg classes ([(ca0, .object "MonsoonTrade$Dhow"), (ca10, .object "MonsoonTrade$Venture"), (ca8, .object "MonsoonTrade$Text"), (ca7, .object "MonsoonTrade$Sheet")] ++ (w10K Dg u15 ++ (w10K Dg u14 ++ (w10K Dg u13 ++ (w10K Dg u12 ++ (w10K Dg u11 ++ (w10K Dg u10 ++ (w10K Dg u9 ++ (w10K Dg u8 ++ (w10K Dg u7 ++ (w10K Dg u6 ++ (w10K Dg u5 ++ (w10K Dg u4 ++ (w10K Dg u3 ++ (w10K Dg u2 ++ (w10K Dg u1 ++ (w10K Dg u0 ++ tl))))))))))))))))) s → va_S A s.heap H locs → lv_has ls 2 [(1, .int (nI 16)), (0, .ref h0)] → W p l e R s m args below meth c H locs (cells + 16) (slots + 128) Q (F0 m 154 ls [])) :
    W p l e R s m args below meth c H locs cells slots Q (F0 m 127 ls []) := by
  have d127 : decode cX11_init 127 = .ok (.iconst 0, 1) := by decide +kernel
  have d128 : decode cX11_init 128 = .ok (.istore_n 1, 1) := by decide +kernel
  have d129 : decode cX11_init 129 = .ok (.iload_n 1, 1) := by decide +kernel
  have d130 : decode cX11_init 130 = .ok (.bipush 16, 2) := by decide +kernel
  have d132 : decode cX11_init 132 = .ok (.if_icmp .ge 22, 3) := by decide +kernel
  have hl := lv_sub hl _ hlv
  refine lv_iconst (n := 0) (v := 0) hx hb d127 rfl ?_
  refine lv_istore_n (k := 1) (i := 1) (nL := 2) hx hb d128 rfl hl (by decide) rfl (fun ls hl => ?_)
  refine lp10_it (j := 0) hx hb hml hown hts hN hR hA hfs (by decide) (by omega) (by omega) hP hD hK hS hl (fun o0 u0 H locs ls hP hD hK hS hl => ?_)
  refine lp10_it (j := 1) hx hb hml hown hts hN hR hA hfs (by decide) (by omega) (by omega) hP hD hK hS hl (fun o1 u1 H locs ls hP hD hK hS hl => ?_)
  refine lp10_it (j := 2) hx hb hml hown hts hN hR hA hfs (by decide) (by omega) (by omega) hP hD hK hS hl (fun o2 u2 H locs ls hP hD hK hS hl => ?_)
  refine lp10_it (j := 3) hx hb hml hown hts hN hR hA hfs (by decide) (by omega) (by omega) hP hD hK hS hl (fun o3 u3 H locs ls hP hD hK hS hl => ?_)
  refine lp10_it (j := 4) hx hb hml hown hts hN hR hA hfs (by decide) (by omega) (by omega) hP hD hK hS hl (fun o4 u4 H locs ls hP hD hK hS hl => ?_)
  refine lp10_it (j := 5) hx hb hml hown hts hN hR hA hfs (by decide) (by omega) (by omega) hP hD hK hS hl (fun o5 u5 H locs ls hP hD hK hS hl => ?_)
  refine lp10_it (j := 6) hx hb hml hown hts hN hR hA hfs (by decide) (by omega) (by omega) hP hD hK hS hl (fun o6 u6 H locs ls hP hD hK hS hl => ?_)
  refine lp10_it (j := 7) hx hb hml hown hts hN hR hA hfs (by decide) (by omega) (by omega) hP hD hK hS hl (fun o7 u7 H locs ls hP hD hK hS hl => ?_)
  refine lp10_it (j := 8) hx hb hml hown hts hN hR hA hfs (by decide) (by omega) (by omega) hP hD hK hS hl (fun o8 u8 H locs ls hP hD hK hS hl => ?_)
  refine lp10_it (j := 9) hx hb hml hown hts hN hR hA hfs (by decide) (by omega) (by omega) hP hD hK hS hl (fun o9 u9 H locs ls hP hD hK hS hl => ?_)
  refine lp10_it (j := 10) hx hb hml hown hts hN hR hA hfs (by decide) (by omega) (by omega) hP hD hK hS hl (fun o10 u10 H locs ls hP hD hK hS hl => ?_)
  refine lp10_it (j := 11) hx hb hml hown hts hN hR hA hfs (by decide) (by omega) (by omega) hP hD hK hS hl (fun o11 u11 H locs ls hP hD hK hS hl => ?_)
  refine lp10_it (j := 12) hx hb hml hown hts hN hR hA hfs (by decide) (by omega) (by omega) hP hD hK hS hl (fun o12 u12 H locs ls hP hD hK hS hl => ?_)
  refine lp10_it (j := 13) hx hb hml hown hts hN hR hA hfs (by decide) (by omega) (by omega) hP hD hK hS hl (fun o13 u13 H locs ls hP hD hK hS hl => ?_)
  refine lp10_it (j := 14) hx hb hml hown hts hN hR hA hfs (by decide) (by omega) (by omega) hP hD hK hS hl (fun o14 u14 H locs ls hP hD hK hS hl => ?_)
  refine lp10_it (j := 15) hx hb hml hown hts hN hR hA hfs (by decide) (by omega) (by omega) hP hD hK hS hl (fun o15 u15 H locs ls hP hD hK hS hl => ?_)
  refine lv_iload_n (k := 1) (i := 1) hx hb d129 rfl (lv_at hl 0 rfl) ?_
  refine lv_bipush (n := 16) (v := 16) hx hb d130 rfl ?_
  refine lv_icmp_ge (off := 22) (tgt := 154) hx hb d132 rfl (fun _ => ?_) (fun k => absurd (show (16 : Int32) ≤ nI 16 by decide +kernel) k)
  exact kk o0 u0 o1 u1 o2 u2 o3 u3 o4 u4 o5 u5 o6 u6 o7 u7 o8 u8 o9 u9 o10 u10 o11 u11 o12 u12 o13 u13 o14 u14 o15 u15 H locs ls hP hD hK hS hl
set_option maxRecDepth 10000 in
theorem lp8_it {d : Nat} {Dg : va_G} {p : Program} {l : Launch} {e : Env} {R : Room} {s : State} {m : MethodId} {args : Array Value} {below : List Frame} {meth : Method} {c : Code} {H : Heap} {ls : Array Slot} {locs : List Loc} {h0 : Nat} {A : Nat → Prop} {Q : State → Prop} {cells slots : Nat} {fs : List Value} {g0 g10 g8 g7 : Nat → Option Nat} {qa0 qa10 qa8 qa7 : Nat} {ca0 ca10 ca8 ca7 : ClassId} {pl : va_W} {tl : List (ClassId × FieldType)} (hx : p.tables.exec = Jvm.exec) (hb : c.code = cX11_init) (hml : c.maxLocals = 2) (hown : s.vm.findClass "MonsoonTrade" = some m.cls) (hts : ∀ w ∈ xT, w.before args s = true) (hN : ∀ w ∈ xN, va_Nw w s) (hR : d + 6 ≤ R.frames ∧ 40 * (d + 6) ≤ R.locals) (hA : ∀ q : Nat, s.heap.size ≤ q → A q) (hfs : fs[3]? = some (.ref qa8)) {j : Nat} (hj : j < 6) (hc : cells + 3 ≤ R.cells) (hz : slots + 5 ≤ R.slots)
    (hP : va_P Dg classes ([(h0, .inr (11, fs)), (qa0, .inl (ca0, 4, .inr (.inr (.inr (.inr g0))))), (qa10, .inl (ca10, 16, .inr (.inr (.inr (.inr g10))))), (qa8, .inl (ca8, 6, .inr (.inr (.inr (.inr g8))))), (qa7, .inl (ca7, 4, .inr (.inr (.inr (.inr g7)))))] ++ pl) H) (hD : va_D A ([(h0, .inr (11, fs)), (qa0, .inl (ca0, 4, .inr (.inr (.inr (.inr g0))))), (qa10, .inl (ca10, 16, .inr (.inr (.inr (.inr g10))))), (qa8, .inl (ca8, 6, .inr (.inr (.inr (.inr g8))))), (qa7, .inl (ca7, 4, .inr (.inr (.inr (.inr g7)))))] ++ pl)) (hK : va_K Dg classes ([(ca0, .object "MonsoonTrade$Dhow"), (ca10, .object "MonsoonTrade$Venture"), (ca8, .object "MonsoonTrade$Text"), (ca7, .object "MonsoonTrade$Sheet")] ++ tl) s) (hS : va_S A s.heap H locs) (hl : lv_has ls 2 [(1, .int (nI j)), (0, .ref h0)])
    (kk : ∀ (o : Nat) (u : List Nat × List ClassId) (H : Heap) (locs : List Loc) (ls : Array Slot), va_P Dg classes ([(h0, .inr (11, fs)), (qa0, .inl (ca0, 4, .inr (.inr (.inr (.inr g0))))), (qa10, .inl (ca10, 16, .inr (.inr (.inr (.inr g10))))), (qa8, .inl (ca8, 6, .inr (.inr (.inr (.inr (va_up g8 j (some o))))))), (qa7, .inl (ca7, 4, .inr (.inr (.inr (.inr g7)))))] ++ (w8B Dg o u ++ pl)) H → va_D A ([(h0, .inr (11, fs)), (qa0, .inl (ca0, 4, .inr (.inr (.inr (.inr g0))))), (qa10, .inl (ca10, 16, .inr (.inr (.inr (.inr g10))))), (qa8, .inl (ca8, 6, .inr (.inr (.inr (.inr (va_up g8 j (some o))))))), (qa7, .inl (ca7, 4, .inr (.inr (.inr (.inr g7)))))] ++ (w8B Dg o u ++ pl)) → va_K Dg classes ([(ca0, .object "MonsoonTrade$Dhow"), (ca10, .object "MonsoonTrade$Venture"), (ca8, .object "MonsoonTrade$Text"), (ca7, .object "MonsoonTrade$Sheet")] ++ (w8K Dg u ++ tl)) s → va_S A s.heap H locs → lv_has ls 2 [(1, .int (nI (j + 1))), (0, .ref h0)] → W p l e R s m args below meth c H locs (cells + 3) (slots + 5) Q (F0 m 156 ls [])) :
    W p l e R s m args below meth c H locs cells slots Q (F0 m 156 ls []) := by
  have hcl : classes[11]? = some ("MonsoonTrade", TX11, 14) := rfl
  have d156 : decode cX11_init 156 = .ok (.iload_n 1, 1) := by decide +kernel
  have d157 : decode cX11_init 157 = .ok (.bipush 6, 2) := by decide +kernel
  have d159 : decode cX11_init 159 = .ok (.if_icmp .ge 22, 3) := by decide +kernel
  have d162 : decode cX11_init 162 = .ok (.aload_n 0, 1) := by decide +kernel
  have d163 : decode cX11_init 163 = .ok (.getfield 30, 3) := by decide +kernel
  have d166 : decode cX11_init 166 = .ok (.iload_n 1, 1) := by decide +kernel
  have d167 : decode cX11_init 167 = .ok (.new 28, 3) := by decide +kernel
  have d170 : decode cX11_init 170 = .ok (.dup, 1) := by decide +kernel
  have d171 : decode cX11_init 171 = .ok (.invokespecial 74, 3) := by decide +kernel
  have d174 : decode cX11_init 174 = .ok (.aastore, 1) := by decide +kernel
  have d175 : decode cX11_init 175 = .ok (.iinc 1 1, 3) := by decide +kernel
  have d178 : decode cX11_init 178 = .ok (.goto (-22), 3) := by decide +kernel
  have kg : Cond.fieldLink "MonsoonTrade" 30 "MonsoonTrade" "texts" "[LMonsoonTrade$Text;" ∈ xT := xwd_mem (i := 659) (by decide +kernel)
  have kc : Cond.classLink "MonsoonTrade" 28 "MonsoonTrade$Text" ∈ xT := xwd_mem (i := 180) (by decide +kernel)
  have kN : Cond.instantiable "MonsoonTrade$Text" 2 ∈ xT := xwd_mem (i := 391) (by decide +kernel)
  have kI : Cond.initialized "MonsoonTrade$Text" ∈ xT := xwd_mem (i := 81) (by decide +kernel)
  have kM : Cond.methodLinkNest "MonsoonTrade" 74 yX8_init "MonsoonTrade" ∈ xN := xwn_mem (i := 392) (by decide +kernel)
  have kJ : Cond.instanceMethod yX8_init ∈ xT := xwd_mem (i := 393) (by decide +kernel)
  have kC : Cond.code yX8_init cX8_init 1 none ∈ xT := xwd_mem (i := 394) (by decide +kernel)
  have hji : ¬ ((nI j) < 0 ∨ 6 ≤ (nI j).toNatClampNeg) := nI_in hj (by decide)
  have hlt : nI j < 6 := nI_lt (b := 6) hj (by decide)
  refine lv_iload_n (k := 1) (i := 1) hx hb d156 rfl (lv_at hl 0 rfl) ?_
  refine lv_bipush (n := 6) (v := 6) hx hb d157 rfl ?_
  refine lv_icmp_ge (off := 22) (tgt := 181) hx hb d159 rfl (fun k => absurd hlt (Int32.not_lt.mpr k)) (fun _ => ?_)
  refine lv_aload_n (k := 0) (i := 0) hx hb d162 rfl (lv_at hl 1 rfl) ?_
  refine va_get (ci := 11) (N := 14) (T := TX11) (v := .ref qa8) hx hb hts (xlay hcl) hown hK hP 0 rfl rfl 3 (by decide) (hts _ kg) (fun _ h9 => h9) hfs d163 ?_
  refine lv_iload_n (k := 1) (i := 1) hx hb d166 rfl (lv_at hl 0 rfl) ?_
  refine va_new (ci := 8) (fs := [.null, .null]) (C := "MonsoonTrade$Text") (T := TX8) (N := 2) hx hb hts (xlay (ci := 8) rfl) tyX8 tyX8_ok hown (hts _ kc) (hts _ kN) (hts _ kI) hK hP hD hS hA rfl (fun j hj => by rcases (show j = 0 ∨ j = 1 by omega) with rfl | rfl <;> rfl) (by omega) (by omega) d167 (fun o H hP hD hS => ?_)
  have hP : va_P Dg classes ([(h0, .inr (11, fs)), (qa0, .inl (ca0, 4, .inr (.inr (.inr (.inr g0))))), (qa10, .inl (ca10, 16, .inr (.inr (.inr (.inr g10))))), (qa8, .inl (ca8, 6, .inr (.inr (.inr (.inr g8))))), (qa7, .inl (ca7, 4, .inr (.inr (.inr (.inr g7))))), (o, .inr (8, [.null, .null]))] ++ pl) H := vP_perm hP (vW_last _ _ _)
  have hD : va_D A ([(h0, .inr (11, fs)), (qa0, .inl (ca0, 4, .inr (.inr (.inr (.inr g0))))), (qa10, .inl (ca10, 16, .inr (.inr (.inr (.inr g10))))), (qa8, .inl (ca8, 6, .inr (.inr (.inr (.inr g8))))), (qa7, .inl (ca7, 4, .inr (.inr (.inr (.inr g7))))), (o, .inr (8, [.null, .null]))] ++ pl) := vD_perm hD (vW_last _ _ _)
  refine lv_dup hx hb d170 rfl ?_
  have hPc := hP.sub (ws' := w8A o) [5] rfl
  have hDc := hD.sub (ws' := w8A o) [5] (by decide) rfl
  have hKc := hK.sub (tys' := []) [] rfl
  have hFc := va_free (wc := w8A o) hD hS hA [5] rfl
  refine va_callv (va_runIN (As := []) (rest := [.ref o, .int (nI j), .ref qa8]) ⟨hx, hb, hml, hown, hts⟩ (rf_Text (d := d) (Dg := Dg) l o H.size) ⟨va_cnB (ws' := xT) 0 hts (xgoodI kC) rfl rfl rfl (hN _ kM) (hts _ kI) ⟨by decide +kernel, by decide +kernel, by decide +kernel⟩ (by have h1 := hR.1; have h2 := hR.2; show d + 1 + 1 ≤ R.frames ∧ 8 + (1 + 11) + 40 * (d + 1) ≤ R.locals; omega), rfl, hts _ kJ⟩ ⟨fun a U g mk q => by obtain ⟨q0, q1, qP, qK, qD⟩ := q; exact ⟨q0, q1, qP, va_K.moved (u := U) (U := U.calling g mk a) (Vm.Alike.refl U.vm) qK, qD⟩, fun U hU hW => ⟨rfl, by rw [hU], by rw [hU]; exact hPc, va_K.moved hW.alike hKc, hDc.weaken (fun _ _ _ _ => trivial)⟩⟩ rfl rfl hl.1 rfl (lv_room (Nat.le_of_ble_eq_true rfl)) d171 ⟨by omega, by omega⟩) hS (fun q _ h => hFc q h) hFc (fun u t H1 locs ht hvm hw hB hz1 hk1 hS => ?_)
  obtain ⟨hP1, hK1, hD1⟩ := hB
  rw [ht] at hP1
  have hK1 := va_K.moved hvm.symm hK1
  obtain ⟨hP, hD⟩ := va_joinQ (wr := [(h0, .inr (11, fs)), (qa0, .inl (ca0, 4, .inr (.inr (.inr (.inr g0))))), (qa10, .inl (ca10, 16, .inr (.inr (.inr (.inr g10))))), (qa8, .inl (ca8, 6, .inr (.inr (.inr (.inr g8))))), (qa7, .inl (ca7, 4, .inr (.inr (.inr (.inr g7)))))]) (w1 := w8B Dg o u) hP hD [5] [0, 1, 2, 3, 4] rfl rfl (by decide) (by decide) hk1 hFc hP1 hD1
  have hK := hK.app hK1
  rw [List.append_assoc] at hP hD hK
  have hK := vK_perm hK (List.Perm.append_left _ List.perm_append_comm)
  refine va_astq (r := ("MonsoonTrade$Text", TX8, 2)) hx hb hK hP hD hS 3 2 5 8 rfl rfl rfl rfl (i := nI j) hji d174 (fun H locs hP hD hS => ?_)
  rw [nI_clamp (show j < 2 ^ 31 by omega)] at hP hD
  refine lv_iinc (k := 0) (v := nI (j + 1)) (nL := 2) hx hb d175 hl rfl (nI_1 (a := j)) (by decide) rfl (fun ls hl => ?_)
  refine lv_goto (off := -22) (tgt := 156) hx hb d178 rfl ?_
  exact kk o u H _ ls hP hD hK hS hl
set_option maxRecDepth 10000 in
theorem lp8_all {d : Nat} {Dg : va_G} {p : Program} {l : Launch} {e : Env} {R : Room} {s : State} {m : MethodId} {args : Array Value} {below : List Frame} {meth : Method} {c : Code} {H : Heap} {ls : Array Slot} {locs : List Loc} {h0 : Nat} {A : Nat → Prop} {Q : State → Prop} {cells slots : Nat} {fs : List Value} {g0 g10 g8 g7 : Nat → Option Nat} {qa0 qa10 qa8 qa7 : Nat} {ca0 ca10 ca8 ca7 : ClassId} {pl : va_W} {tl : List (ClassId × FieldType)} (hx : p.tables.exec = Jvm.exec) (hb : c.code = cX11_init) (hml : c.maxLocals = 2) (hown : s.vm.findClass "MonsoonTrade" = some m.cls) (hts : ∀ w ∈ xT, w.before args s = true) (hN : ∀ w ∈ xN, va_Nw w s) (hR : d + 6 ≤ R.frames ∧ 40 * (d + 6) ≤ R.locals) (hA : ∀ q : Nat, s.heap.size ≤ q → A q) (hfs : fs[3]? = some (.ref qa8)) (hc : cells + 18 ≤ R.cells) (hz : slots + 30 ≤ R.slots) {lv : List (Nat × Value)} (hlv : lv_pick lv [1] = [(0, .ref h0)])
    (hP : va_P Dg classes ([(h0, .inr (11, fs)), (qa0, .inl (ca0, 4, .inr (.inr (.inr (.inr g0))))), (qa10, .inl (ca10, 16, .inr (.inr (.inr (.inr g10))))), (qa8, .inl (ca8, 6, .inr (.inr (.inr (.inr g8))))), (qa7, .inl (ca7, 4, .inr (.inr (.inr (.inr g7)))))] ++ pl) H) (hD : va_D A ([(h0, .inr (11, fs)), (qa0, .inl (ca0, 4, .inr (.inr (.inr (.inr g0))))), (qa10, .inl (ca10, 16, .inr (.inr (.inr (.inr g10))))), (qa8, .inl (ca8, 6, .inr (.inr (.inr (.inr g8))))), (qa7, .inl (ca7, 4, .inr (.inr (.inr (.inr g7)))))] ++ pl)) (hK : va_K Dg classes ([(ca0, .object "MonsoonTrade$Dhow"), (ca10, .object "MonsoonTrade$Venture"), (ca8, .object "MonsoonTrade$Text"), (ca7, .object "MonsoonTrade$Sheet")] ++ tl) s) (hS : va_S A s.heap H locs) (hl : lv_has ls 2 lv)
    (kk : ∀ (o0 : Nat) (u0 : List Nat × List ClassId) (o1 : Nat) (u1 : List Nat × List ClassId) (o2 : Nat) (u2 : List Nat × List ClassId) (o3 : Nat) (u3 : List Nat × List ClassId) (o4 : Nat) (u4 : List Nat × List ClassId) (o5 : Nat) (u5 : List Nat × List ClassId) (H : Heap) (locs : List Loc) (ls : Array Slot), va_P Dg classes ([(h0, .inr (11, fs)), (qa0, .inl (ca0, 4, .inr (.inr (.inr (.inr g0))))), (qa10, .inl (ca10, 16, .inr (.inr (.inr (.inr g10))))), (qa8, .inl (ca8, 6, .inr (.inr (.inr (.inr (va_up (va_up (va_up (va_up (va_up (va_up g8 0 (some o0)) 1 (some o1)) 2 (some o2)) 3 (some o3)) 4 (some o4)) 5 (some o5))))))), (qa7, .inl (ca7, 4, .inr (.inr (.inr (.inr g7)))))] ++ (w8B Dg o5 u5 ++ (w8B Dg o4 u4 ++ (w8B Dg o3 u3 ++ (w8B Dg o2 u2 ++ (w8B Dg o1 u1 ++ (w8B Dg o0 u0 ++ pl))))))) H → va_D A ([(h0, .inr (11, fs)), (qa0, .inl (ca0, 4, .inr (.inr (.inr (.inr g0))))), (qa10, .inl (ca10, 16, .inr (.inr (.inr (.inr g10))))), (qa8, .inl (ca8, 6, .inr (.inr (.inr (.inr (va_up (va_up (va_up (va_up (va_up (va_up g8 0 (some o0)) 1 (some o1)) 2 (some o2)) 3 (some o3)) 4 (some o4)) 5 (some o5))))))), (qa7, .inl (ca7, 4, .inr (.inr (.inr (.inr g7)))))] ++ (w8B Dg o5 u5 ++ (w8B Dg o4 u4 ++ (w8B Dg o3 u3 ++ (w8B Dg o2 u2 ++ (w8B Dg o1 u1 ++ (w8B Dg o0 u0 ++ pl))))))) → va_K Dg classes ([(ca0, .object "MonsoonTrade$Dhow"), (ca10, .object "MonsoonTrade$Venture"), (ca8, .object "MonsoonTrade$Text"), (ca7, .object "MonsoonTrade$Sheet")] ++ (w8K Dg u5 ++ (w8K Dg u4 ++ (w8K Dg u3 ++ (w8K Dg u2 ++ (w8K Dg u1 ++ (w8K Dg u0 ++ tl))))))) s → va_S A s.heap H locs → lv_has ls 2 [(1, .int (nI 6)), (0, .ref h0)] → W p l e R s m args below meth c H locs (cells + 18) (slots + 30) Q (F0 m 181 ls [])) :
    W p l e R s m args below meth c H locs cells slots Q (F0 m 154 ls []) := by
  have d154 : decode cX11_init 154 = .ok (.iconst 0, 1) := by decide +kernel
  have d155 : decode cX11_init 155 = .ok (.istore_n 1, 1) := by decide +kernel
  have d156 : decode cX11_init 156 = .ok (.iload_n 1, 1) := by decide +kernel
  have d157 : decode cX11_init 157 = .ok (.bipush 6, 2) := by decide +kernel
  have d159 : decode cX11_init 159 = .ok (.if_icmp .ge 22, 3) := by decide +kernel
  have hl := lv_sub hl _ hlv
  refine lv_iconst (n := 0) (v := 0) hx hb d154 rfl ?_
  refine lv_istore_n (k := 1) (i := 1) (nL := 2) hx hb d155 rfl hl (by decide) rfl (fun ls hl => ?_)
  refine lp8_it (j := 0) hx hb hml hown hts hN hR hA hfs (by decide) (by omega) (by omega) hP hD hK hS hl (fun o0 u0 H locs ls hP hD hK hS hl => ?_)
  refine lp8_it (j := 1) hx hb hml hown hts hN hR hA hfs (by decide) (by omega) (by omega) hP hD hK hS hl (fun o1 u1 H locs ls hP hD hK hS hl => ?_)
  refine lp8_it (j := 2) hx hb hml hown hts hN hR hA hfs (by decide) (by omega) (by omega) hP hD hK hS hl (fun o2 u2 H locs ls hP hD hK hS hl => ?_)
  refine lp8_it (j := 3) hx hb hml hown hts hN hR hA hfs (by decide) (by omega) (by omega) hP hD hK hS hl (fun o3 u3 H locs ls hP hD hK hS hl => ?_)
  refine lp8_it (j := 4) hx hb hml hown hts hN hR hA hfs (by decide) (by omega) (by omega) hP hD hK hS hl (fun o4 u4 H locs ls hP hD hK hS hl => ?_)
  refine lp8_it (j := 5) hx hb hml hown hts hN hR hA hfs (by decide) (by omega) (by omega) hP hD hK hS hl (fun o5 u5 H locs ls hP hD hK hS hl => ?_)
  refine lv_iload_n (k := 1) (i := 1) hx hb d156 rfl (lv_at hl 0 rfl) ?_
  refine lv_bipush (n := 6) (v := 6) hx hb d157 rfl ?_
  refine lv_icmp_ge (off := 22) (tgt := 181) hx hb d159 rfl (fun _ => ?_) (fun k => absurd (show (6 : Int32) ≤ nI 6 by decide +kernel) k)
  exact kk o0 u0 o1 u1 o2 u2 o3 u3 o4 u4 o5 u5 H locs ls hP hD hK hS hl
set_option maxRecDepth 10000 in
theorem lp7_it {d : Nat} {Dg : va_G} {p : Program} {l : Launch} {e : Env} {R : Room} {s : State} {m : MethodId} {args : Array Value} {below : List Frame} {meth : Method} {c : Code} {H : Heap} {ls : Array Slot} {locs : List Loc} {h0 : Nat} {A : Nat → Prop} {Q : State → Prop} {cells slots : Nat} {fs : List Value} {g0 g10 g8 g7 : Nat → Option Nat} {qa0 qa10 qa8 qa7 : Nat} {ca0 ca10 ca8 ca7 : ClassId} {pl : va_W} {tl : List (ClassId × FieldType)} (hx : p.tables.exec = Jvm.exec) (hb : c.code = cX11_init) (hml : c.maxLocals = 2) (hown : s.vm.findClass "MonsoonTrade" = some m.cls) (hts : ∀ w ∈ xT, w.before args s = true) (hN : ∀ w ∈ xN, va_Nw w s) (hR : d + 6 ≤ R.frames ∧ 40 * (d + 6) ≤ R.locals) (hA : ∀ q : Nat, s.heap.size ≤ q → A q) (hfs : fs[4]? = some (.ref qa7)) {j : Nat} (hj : j < 4) (hc : cells + 2 ≤ R.cells) (hz : slots + 43 ≤ R.slots)
    (hP : va_P Dg classes ([(h0, .inr (11, fs)), (qa0, .inl (ca0, 4, .inr (.inr (.inr (.inr g0))))), (qa10, .inl (ca10, 16, .inr (.inr (.inr (.inr g10))))), (qa8, .inl (ca8, 6, .inr (.inr (.inr (.inr g8))))), (qa7, .inl (ca7, 4, .inr (.inr (.inr (.inr g7)))))] ++ pl) H) (hD : va_D A ([(h0, .inr (11, fs)), (qa0, .inl (ca0, 4, .inr (.inr (.inr (.inr g0))))), (qa10, .inl (ca10, 16, .inr (.inr (.inr (.inr g10))))), (qa8, .inl (ca8, 6, .inr (.inr (.inr (.inr g8))))), (qa7, .inl (ca7, 4, .inr (.inr (.inr (.inr g7)))))] ++ pl)) (hK : va_K Dg classes ([(ca0, .object "MonsoonTrade$Dhow"), (ca10, .object "MonsoonTrade$Venture"), (ca8, .object "MonsoonTrade$Text"), (ca7, .object "MonsoonTrade$Sheet")] ++ tl) s) (hS : va_S A s.heap H locs) (hl : lv_has ls 2 [(1, .int (nI j)), (0, .ref h0)])
    (kk : ∀ (o : Nat) (u : List Nat × List ClassId) (H : Heap) (locs : List Loc) (ls : Array Slot), va_P Dg classes ([(h0, .inr (11, fs)), (qa0, .inl (ca0, 4, .inr (.inr (.inr (.inr g0))))), (qa10, .inl (ca10, 16, .inr (.inr (.inr (.inr g10))))), (qa8, .inl (ca8, 6, .inr (.inr (.inr (.inr g8))))), (qa7, .inl (ca7, 4, .inr (.inr (.inr (.inr (va_up g7 j (some o)))))))] ++ (w7B Dg o u ++ pl)) H → va_D A ([(h0, .inr (11, fs)), (qa0, .inl (ca0, 4, .inr (.inr (.inr (.inr g0))))), (qa10, .inl (ca10, 16, .inr (.inr (.inr (.inr g10))))), (qa8, .inl (ca8, 6, .inr (.inr (.inr (.inr g8))))), (qa7, .inl (ca7, 4, .inr (.inr (.inr (.inr (va_up g7 j (some o)))))))] ++ (w7B Dg o u ++ pl)) → va_K Dg classes ([(ca0, .object "MonsoonTrade$Dhow"), (ca10, .object "MonsoonTrade$Venture"), (ca8, .object "MonsoonTrade$Text"), (ca7, .object "MonsoonTrade$Sheet")] ++ (w7K Dg u ++ tl)) s → va_S A s.heap H locs → lv_has ls 2 [(1, .int (nI (j + 1))), (0, .ref h0)] → W p l e R s m args below meth c H locs (cells + 2) (slots + 43) Q (F0 m 183 ls [])) :
    W p l e R s m args below meth c H locs cells slots Q (F0 m 183 ls []) := by
  have hcl : classes[11]? = some ("MonsoonTrade", TX11, 14) := rfl
  have d183 : decode cX11_init 183 = .ok (.iload_n 1, 1) := by decide +kernel
  have d184 : decode cX11_init 184 = .ok (.iconst 4, 1) := by decide +kernel
  have d185 : decode cX11_init 185 = .ok (.if_icmp .ge 22, 3) := by decide +kernel
  have d188 : decode cX11_init 188 = .ok (.aload_n 0, 1) := by decide +kernel
  have d189 : decode cX11_init 189 = .ok (.getfield 36, 3) := by decide +kernel
  have d192 : decode cX11_init 192 = .ok (.iload_n 1, 1) := by decide +kernel
  have d193 : decode cX11_init 193 = .ok (.new 34, 3) := by decide +kernel
  have d196 : decode cX11_init 196 = .ok (.dup, 1) := by decide +kernel
  have d197 : decode cX11_init 197 = .ok (.invokespecial 75, 3) := by decide +kernel
  have d200 : decode cX11_init 200 = .ok (.aastore, 1) := by decide +kernel
  have d201 : decode cX11_init 201 = .ok (.iinc 1 1, 3) := by decide +kernel
  have d204 : decode cX11_init 204 = .ok (.goto (-21), 3) := by decide +kernel
  have kg : Cond.fieldLink "MonsoonTrade" 36 "MonsoonTrade" "sheets" "[LMonsoonTrade$Sheet;" ∈ xT := xwd_mem (i := 660) (by decide +kernel)
  have kc : Cond.classLink "MonsoonTrade" 34 "MonsoonTrade$Sheet" ∈ xT := xwd_mem (i := 182) (by decide +kernel)
  have kN : Cond.instantiable "MonsoonTrade$Sheet" 3 ∈ xT := xwd_mem (i := 405) (by decide +kernel)
  have kI : Cond.initialized "MonsoonTrade$Sheet" ∈ xT := xwd_mem (i := 82) (by decide +kernel)
  have kM : Cond.methodLinkNest "MonsoonTrade" 75 yX7_init "MonsoonTrade" ∈ xN := xwn_mem (i := 406) (by decide +kernel)
  have kJ : Cond.instanceMethod yX7_init ∈ xT := xwd_mem (i := 407) (by decide +kernel)
  have kC : Cond.code yX7_init cX7_init 1 none ∈ xT := xwd_mem (i := 408) (by decide +kernel)
  have hji : ¬ ((nI j) < 0 ∨ 4 ≤ (nI j).toNatClampNeg) := nI_in hj (by decide)
  have hlt : nI j < 4 := nI_lt (b := 4) hj (by decide)
  refine lv_iload_n (k := 1) (i := 1) hx hb d183 rfl (lv_at hl 0 rfl) ?_
  refine lv_iconst (n := 4) (v := 4) hx hb d184 rfl ?_
  refine lv_icmp_ge (off := 22) (tgt := 207) hx hb d185 rfl (fun k => absurd hlt (Int32.not_lt.mpr k)) (fun _ => ?_)
  refine lv_aload_n (k := 0) (i := 0) hx hb d188 rfl (lv_at hl 1 rfl) ?_
  refine va_get (ci := 11) (N := 14) (T := TX11) (v := .ref qa7) hx hb hts (xlay hcl) hown hK hP 0 rfl rfl 4 (by decide) (hts _ kg) (fun _ h9 => h9) hfs d189 ?_
  refine lv_iload_n (k := 1) (i := 1) hx hb d192 rfl (lv_at hl 0 rfl) ?_
  refine va_new (ci := 7) (fs := [.null, .int 0, .int 0]) (C := "MonsoonTrade$Sheet") (T := TX7) (N := 3) hx hb hts (xlay (ci := 7) rfl) tyX7 tyX7_ok hown (hts _ kc) (hts _ kN) (hts _ kI) hK hP hD hS hA rfl (fun j hj => by rcases (show j = 0 ∨ j = 1 ∨ j = 2 by omega) with rfl | rfl | rfl <;> rfl) (by omega) (by omega) d193 (fun o H hP hD hS => ?_)
  have hP : va_P Dg classes ([(h0, .inr (11, fs)), (qa0, .inl (ca0, 4, .inr (.inr (.inr (.inr g0))))), (qa10, .inl (ca10, 16, .inr (.inr (.inr (.inr g10))))), (qa8, .inl (ca8, 6, .inr (.inr (.inr (.inr g8))))), (qa7, .inl (ca7, 4, .inr (.inr (.inr (.inr g7))))), (o, .inr (7, [.null, .int 0, .int 0]))] ++ pl) H := vP_perm hP (vW_last _ _ _)
  have hD : va_D A ([(h0, .inr (11, fs)), (qa0, .inl (ca0, 4, .inr (.inr (.inr (.inr g0))))), (qa10, .inl (ca10, 16, .inr (.inr (.inr (.inr g10))))), (qa8, .inl (ca8, 6, .inr (.inr (.inr (.inr g8))))), (qa7, .inl (ca7, 4, .inr (.inr (.inr (.inr g7))))), (o, .inr (7, [.null, .int 0, .int 0]))] ++ pl) := vD_perm hD (vW_last _ _ _)
  refine lv_dup hx hb d196 rfl ?_
  have hPc := hP.sub (ws' := w7A o) [5] rfl
  have hDc := hD.sub (ws' := w7A o) [5] (by decide) rfl
  have hKc := hK.sub (tys' := []) [] rfl
  have hFc := va_free (wc := w7A o) hD hS hA [5] rfl
  refine va_callv (va_runIN (As := []) (rest := [.ref o, .int (nI j), .ref qa7]) ⟨hx, hb, hml, hown, hts⟩ (rf_Sheet (d := d) (Dg := Dg) l o H.size) ⟨va_cnB (ws' := xT) 0 hts (xgoodI kC) rfl rfl rfl (hN _ kM) (hts _ kI) ⟨by decide +kernel, by decide +kernel, by decide +kernel⟩ (by have h1 := hR.1; have h2 := hR.2; show d + 1 + 1 ≤ R.frames ∧ 8 + (1 + 11) + 40 * (d + 1) ≤ R.locals; omega), rfl, hts _ kJ⟩ ⟨fun a U g mk q => by obtain ⟨q0, q1, qP, qK, qD⟩ := q; exact ⟨q0, q1, qP, va_K.moved (u := U) (U := U.calling g mk a) (Vm.Alike.refl U.vm) qK, qD⟩, fun U hU hW => ⟨rfl, by rw [hU], by rw [hU]; exact hPc, va_K.moved hW.alike hKc, hDc.weaken (fun _ _ _ _ => trivial)⟩⟩ rfl rfl hl.1 rfl (lv_room (Nat.le_of_ble_eq_true rfl)) d197 ⟨by omega, by omega⟩) hS (fun q _ h => hFc q h) hFc (fun u t H1 locs ht hvm hw hB hz1 hk1 hS => ?_)
  obtain ⟨hP1, hK1, hD1⟩ := hB
  rw [ht] at hP1
  have hK1 := va_K.moved hvm.symm hK1
  obtain ⟨hP, hD⟩ := va_joinQ (wr := [(h0, .inr (11, fs)), (qa0, .inl (ca0, 4, .inr (.inr (.inr (.inr g0))))), (qa10, .inl (ca10, 16, .inr (.inr (.inr (.inr g10))))), (qa8, .inl (ca8, 6, .inr (.inr (.inr (.inr g8))))), (qa7, .inl (ca7, 4, .inr (.inr (.inr (.inr g7)))))]) (w1 := w7B Dg o u) hP hD [5] [0, 1, 2, 3, 4] rfl rfl (by decide) (by decide) hk1 hFc hP1 hD1
  have hK := hK.app hK1
  rw [List.append_assoc] at hP hD hK
  have hK := vK_perm hK (List.Perm.append_left _ List.perm_append_comm)
  refine va_astq (r := ("MonsoonTrade$Sheet", TX7, 3)) hx hb hK hP hD hS 4 3 5 7 rfl rfl rfl rfl (i := nI j) hji d200 (fun H locs hP hD hS => ?_)
  rw [nI_clamp (show j < 2 ^ 31 by omega)] at hP hD
  refine lv_iinc (k := 0) (v := nI (j + 1)) (nL := 2) hx hb d201 hl rfl (nI_1 (a := j)) (by decide) rfl (fun ls hl => ?_)
  refine lv_goto (off := -21) (tgt := 183) hx hb d204 rfl ?_
  exact kk o u H _ ls hP hD hK hS hl
set_option maxRecDepth 10000 in
theorem lp7_all {d : Nat} {Dg : va_G} {p : Program} {l : Launch} {e : Env} {R : Room} {s : State} {m : MethodId} {args : Array Value} {below : List Frame} {meth : Method} {c : Code} {H : Heap} {ls : Array Slot} {locs : List Loc} {h0 : Nat} {A : Nat → Prop} {Q : State → Prop} {cells slots : Nat} {fs : List Value} {g0 g10 g8 g7 : Nat → Option Nat} {qa0 qa10 qa8 qa7 : Nat} {ca0 ca10 ca8 ca7 : ClassId} {pl : va_W} {tl : List (ClassId × FieldType)} (hx : p.tables.exec = Jvm.exec) (hb : c.code = cX11_init) (hml : c.maxLocals = 2) (hown : s.vm.findClass "MonsoonTrade" = some m.cls) (hts : ∀ w ∈ xT, w.before args s = true) (hN : ∀ w ∈ xN, va_Nw w s) (hR : d + 6 ≤ R.frames ∧ 40 * (d + 6) ≤ R.locals) (hA : ∀ q : Nat, s.heap.size ≤ q → A q) (hfs : fs[4]? = some (.ref qa7)) (hc : cells + 8 ≤ R.cells) (hz : slots + 172 ≤ R.slots) {lv : List (Nat × Value)} (hlv : lv_pick lv [1] = [(0, .ref h0)])
    (hP : va_P Dg classes ([(h0, .inr (11, fs)), (qa0, .inl (ca0, 4, .inr (.inr (.inr (.inr g0))))), (qa10, .inl (ca10, 16, .inr (.inr (.inr (.inr g10))))), (qa8, .inl (ca8, 6, .inr (.inr (.inr (.inr g8))))), (qa7, .inl (ca7, 4, .inr (.inr (.inr (.inr g7)))))] ++ pl) H) (hD : va_D A ([(h0, .inr (11, fs)), (qa0, .inl (ca0, 4, .inr (.inr (.inr (.inr g0))))), (qa10, .inl (ca10, 16, .inr (.inr (.inr (.inr g10))))), (qa8, .inl (ca8, 6, .inr (.inr (.inr (.inr g8))))), (qa7, .inl (ca7, 4, .inr (.inr (.inr (.inr g7)))))] ++ pl)) (hK : va_K Dg classes ([(ca0, .object "MonsoonTrade$Dhow"), (ca10, .object "MonsoonTrade$Venture"), (ca8, .object "MonsoonTrade$Text"), (ca7, .object "MonsoonTrade$Sheet")] ++ tl) s) (hS : va_S A s.heap H locs) (hl : lv_has ls 2 lv)
    (kk : ∀ (o0 : Nat) (u0 : List Nat × List ClassId) (o1 : Nat) (u1 : List Nat × List ClassId) (o2 : Nat) (u2 : List Nat × List ClassId) (o3 : Nat) (u3 : List Nat × List ClassId) (H : Heap) (locs : List Loc) (ls : Array Slot), va_P Dg classes ([(h0, .inr (11, fs)), (qa0, .inl (ca0, 4, .inr (.inr (.inr (.inr g0))))), (qa10, .inl (ca10, 16, .inr (.inr (.inr (.inr g10))))), (qa8, .inl (ca8, 6, .inr (.inr (.inr (.inr g8))))), (qa7, .inl (ca7, 4, .inr (.inr (.inr (.inr (va_up (va_up (va_up (va_up g7 0 (some o0)) 1 (some o1)) 2 (some o2)) 3 (some o3)))))))] ++ (w7B Dg o3 u3 ++ (w7B Dg o2 u2 ++ (w7B Dg o1 u1 ++ (w7B Dg o0 u0 ++ pl))))) H → va_D A ([(h0, .inr (11, fs)), (qa0, .inl (ca0, 4, .inr (.inr (.inr (.inr g0))))), (qa10, .inl (ca10, 16, .inr (.inr (.inr (.inr g10))))), (qa8, .inl (ca8, 6, .inr (.inr (.inr (.inr g8))))), (qa7, .inl (ca7, 4, .inr (.inr (.inr (.inr (va_up (va_up (va_up (va_up g7 0 (some o0)) 1 (some o1)) 2 (some o2)) 3 (some o3)))))))] ++ (w7B Dg o3 u3 ++ (w7B Dg o2 u2 ++ (w7B Dg o1 u1 ++ (w7B Dg o0 u0 ++ pl))))) → va_K Dg classes ([(ca0, .object "MonsoonTrade$Dhow"), (ca10, .object "MonsoonTrade$Venture"), (ca8, .object "MonsoonTrade$Text"), (ca7, .object "MonsoonTrade$Sheet")] ++ (w7K Dg u3 ++ (w7K Dg u2 ++ (w7K Dg u1 ++ (w7K Dg u0 ++ tl))))) s → va_S A s.heap H locs → lv_has ls 2 [(1, .int (nI 4)), (0, .ref h0)] → W p l e R s m args below meth c H locs (cells + 8) (slots + 172) Q (F0 m 207 ls [])) :
    W p l e R s m args below meth c H locs cells slots Q (F0 m 181 ls []) := by
  have d181 : decode cX11_init 181 = .ok (.iconst 0, 1) := by decide +kernel
  have d182 : decode cX11_init 182 = .ok (.istore_n 1, 1) := by decide +kernel
  have d183 : decode cX11_init 183 = .ok (.iload_n 1, 1) := by decide +kernel
  have d184 : decode cX11_init 184 = .ok (.iconst 4, 1) := by decide +kernel
  have d185 : decode cX11_init 185 = .ok (.if_icmp .ge 22, 3) := by decide +kernel
  have hl := lv_sub hl _ hlv
  refine lv_iconst (n := 0) (v := 0) hx hb d181 rfl ?_
  refine lv_istore_n (k := 1) (i := 1) (nL := 2) hx hb d182 rfl hl (by decide) rfl (fun ls hl => ?_)
  refine lp7_it (j := 0) hx hb hml hown hts hN hR hA hfs (by decide) (by omega) (by omega) hP hD hK hS hl (fun o0 u0 H locs ls hP hD hK hS hl => ?_)
  refine lp7_it (j := 1) hx hb hml hown hts hN hR hA hfs (by decide) (by omega) (by omega) hP hD hK hS hl (fun o1 u1 H locs ls hP hD hK hS hl => ?_)
  refine lp7_it (j := 2) hx hb hml hown hts hN hR hA hfs (by decide) (by omega) (by omega) hP hD hK hS hl (fun o2 u2 H locs ls hP hD hK hS hl => ?_)
  refine lp7_it (j := 3) hx hb hml hown hts hN hR hA hfs (by decide) (by omega) (by omega) hP hD hK hS hl (fun o3 u3 H locs ls hP hD hK hS hl => ?_)
  refine lv_iload_n (k := 1) (i := 1) hx hb d183 rfl (lv_at hl 0 rfl) ?_
  refine lv_iconst (n := 4) (v := 4) hx hb d184 rfl ?_
  refine lv_icmp_ge (off := 22) (tgt := 207) hx hb d185 rfl (fun _ => ?_) (fun k => absurd (show (4 : Int32) ≤ nI 4 by decide +kernel) k)
  exact kk o0 u0 o1 u1 o2 u2 o3 u3 H locs ls hP hD hK hS hl
