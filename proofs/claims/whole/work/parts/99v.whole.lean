/-! the law, from its entry (written by law4.py) -/
theorem rawI {p : Program} {l : Launch} {e : Env} {R : Room} {s : State} {m : MethodId} {args : Array Value} {below : List Frame} {meth : Method} {c0 : Code} {H : Heap} {locs : List Loc} {cells slots mc ms pc B : Nat} {Q : State → Prop} {ls : Array Slot} {st0 rest : List Value} {Qa : State → Outcome → State → Prop} {G : State → Prop}
    (hrun : va_Run p l e R s m args below meth c0 H locs cells slots mc ms (F0 m pc ls st0) rest Qa (xA B)) (hS : va_S (xA B) s.heap H locs) (hQ : ∀ st oc t, Qa st oc t → oc = .returned none ∧ G t ∧ va_F (xA B) st t)
    (kk : ∀ (t : State) (H1 : Heap) (locs1 : List Loc), t.heap = H1 → s.vm.Alike t.vm → G t → va_S (xA B) s.heap H1 locs1 → W p l e R s m args below meth c0 H1 locs1 (cells + mc) (slots + ms) Q (F0 m (pc + 3) ls rest)) : W p l e R s m args below meth c0 H locs cells slots Q (F0 m pc ls st0) := by
  intro T hT X
  obtain ⟨v, st₀, t, T', L2, h0, X', hLL, e1, e2, hq, stp⟩ := hrun T hT X
  obtain ⟨hv, hG, hz, hk⟩ := hQ _ _ _ hq
  have hv' : v = none := Outcome.returned.inj hv
  subst hv'
  rw [h0] at hz hk
  obtain ⟨t2, a1, b1⟩ := kk t T'.heap (locs ++ L2) e1.symm (by rw [← e2]; exact X'.warmed.alike) hG
    ⟨Nat.le_trans hS.1 (by rw [e1]; exact hz), fun q h1 h2 => by rw [e1, hk q (Nat.lt_of_lt_of_le h1 hS.1) h2]; exact hS.2.1 q h1 h2, fun q hq => by
      rcases List.mem_append.mp hq with h | h
      · exact hS.2.2 q h
      · exact hLL q h⟩ T' rfl X'
  exact ⟨t2, stp t2 a1, b1⟩
theorem xW.back2 {s t : State} {D : va_G} {B : Nat} {L : xL} {S : xS} {H : Heap} (hvm : s.vm.Alike t.vm) (hN : ∀ w ∈ xN, va_Nw w s) (hST : xST s L) (h : xW t D B L S H) : xW s D B L S H := by
  obtain ⟨h1, h2, h3, h4, h5, h6, -⟩ := h
  exact ⟨va_K.moved hvm.symm h1, fun k i hi => (h2 k i hi).moved hvm.symm, h3, h4, hN, h6.moved hvm.symm, hST⟩
set_option maxRecDepth 40000 in
theorem kC12 : Cond.code yX12_init cX12_init 2 none ∈ xT := List.mem_filter.mpr ⟨List.mem_of_getElem? (i := 1257) rfl, rfl⟩
theorem xcell.lt {U : State} {D : va_G} {L : xL} {S : xS} {k i : Nat} {H : Heap} (h : xcell U D L S k i H) : L k i < H.size := by
  have key : ∀ cell : Cell, H[L k i]? = some cell → L k i < H.size := fun cell hc => (Array.getElem?_eq_some_iff.mp hc).1
  unfold xcell at h
  split at h
  · rcases h with ⟨_, h⟩ | ⟨r, _, cell, hc, _⟩
    · obtain ⟨cell, hc⟩ := Option.isSome_iff_exists.mp h
      exact key cell hc
    · exact key cell hc
  · rcases h with ⟨_, cell, hc, _⟩ | ⟨_, cA, _, hc⟩
    · exact key cell hc
    · exact key _ hc
theorem xW.growE {U : State} {D : va_G} {B : Nat} {L : xL} {S : xS} {H H1 : Heap} (h : xW U D B L S H) (hq : ∀ a : Nat, a < H.size → H1[a]? = H[a]?) : xW U D B L S H1 := by
  obtain ⟨h1, h2, h3, h4, h5, h6, h7⟩ := h
  exact ⟨h1, fun k i hi => (h2 k i hi).kept (hq _ (h2 k i hi).lt), h3, h4, h5, h6.kept (fun a ha _ => hq a ha), h7⟩
theorem va_newE {p : Program} {l : Launch} {e : Env} {R : Room} {s : State} {m : MethodId} {args : Array Value} {below : List Frame} {meth : Method} {c0 : Code} {H : Heap} {locs : List Loc} {cells slots pc : Nat} {Q : State → Prop} {cc : ByteArray} {ls : Array Slot} {rest : List Value} {D : va_G} {cl : List vw_C} {tys : List (ClassId × FieldType)} {A : Nat → Prop} {H0 : Heap} (hexec : p.tables.exec = Jvm.exec) (hb : c0.code = cc) {own C : String} {T : u_T} {N ci index : Nat} {Ts : List Cond} (hts : ∀ w ∈ Ts, w.before args s = true) (hin : ∀ w ∈ u_ws C T N, w ∈ Ts) (ty : Nat → FieldType) (hty : ∀ k, k < N → parseFieldDescriptor (T k).2.2.1 = some (ty k)) (hown : s.vm.findClass own = some m.cls) (hcl : (Cond.classLink own index C).before args s = true) (hinst : (Cond.instantiable C N).before args s = true) (hini : (Cond.initialized C).before args s = true)
    (hK : va_K D cl tys s) (hS : va_S A H0 H locs) (hc : cl[ci]? = some (C, T, N)) {fs : List Value} (hfs : ∀ j, j < N → defaultValue (ty j) = vp_V fs j) (hcells : cells + 1 ≤ R.cells) (hslots : slots + N ≤ R.slots) (hdg : decode cc pc = .ok (.new index, 3))
    (kk : ∀ H1 : Heap, va_P D cl [(H.size, .inr (ci, fs))] H1 → H1.size = H.size + 1 → (∀ x : Nat, x < H.size → H1[x]? = H[x]?) → va_S A H0 H1 locs →
      W p l e R s m args below meth c0 H1 locs (cells + 1) (slots + N) Q (F0 m (pc + 3) ls (.ref H.size :: rest))) : W p l e R s m args below meth c0 H locs cells slots Q (F0 m pc ls rest) := by
  have hKn := hK.1 ci _ hc
  refine W.newcK hexec hb hown hcl hinst hini rfl hdg hcells hslots hKn.2.1 rfl fun H1 kC hkC e1 z1 o1 => ?_
  refine kk H1 (fun k x hx => ?_) z1 o1 ⟨Nat.le_trans hS.1 (by omega), fun x h1 h2 => (o1 x (Nat.lt_of_lt_of_le h1 hS.1)).trans (hS.2.1 x h1 h2), hS.2.2⟩
  have hz : k < 1 := (List.getElem?_eq_some_iff.mp hx).1
  obtain rfl : k = 0 := by omega
  cases hx
  exact ⟨_, hc, (u_born ty hts hin hKn hkC e1 hty).to hfs⟩
/-! THE CLAIM OUT OF ONE WALK OF THE LAW'S BODY. Your part is whole_start (and what it stands on); all else here is the same for every law, but numbers. -/
def R_law : String := "MonsoonTradeLaw"
def lw_P (b : Addr) (xs : List Int32) (args : Array Value) (s : State) : Prop := args = #[.ref b] ∧ s.IntsAt b xs ∧ xs.length ≤ 4096 ∧ (Jvm.Cond.and given_1 narrow_1).before args s = true
def lw_Q (_ : Array Value) (s : State) (o : Outcome) (t : State) : Prop := o = .returned (some (.int 1)) ∧ Framed s o t [] 600000 7302250
def lw_Z (below : List Frame) (a : Array Value) (s : State) : State → Prop := fun t => ∃ o, t.status = .running ∧ Ended t below o ∧ lw_Q a s o t
/-- the law's own end, with 1 on the stack, nothing written that was there before, its room as the claim has it -/
theorem lw_ret {p : Program} {l : Launch} {e : Env} {s : State} {m : MethodId} {below : List Frame} {meth : Method} {c : Code} {b : Nat} (hx : p.tables.exec = Jvm.exec) (hb : c.code = code) (hr : meth.sig.returnType = ret) (hlocks : meth.locks = false) {pc : Nat} {H : Heap} {ls : Array Slot} (hdg : decode code pc = .ok (.ireturn, 1)) : W p l e room_1 s m #[Value.ref b] below meth c H [] 600000 7302250 (lw_Z below #[Value.ref b] s) (F0 m pc ls [.int 1]) := by
  intro T hT X
  obtain ⟨fs, hret, hrun, hended, hW, hframe⟩ := X.leave (v := some (.int 1)) (hlocks := hlocks) (fun h => by rw [hr] at h; cases h)
  have hmeth' : T.vm.method? m = some meth := X.method'
  refine ⟨T.setFrames fs, ?_, .returned (some (.int 1)), hrun, hended, rfl, ⟨_, rfl⟩, hW, hframe⟩
  jvm_step X.here [X.here.top, hx, hb, hdg, hmeth', hr, ret, narrow_b1]
  (try refine ⟨rfl, ?_⟩); (try refine ⟨rfl, ?_⟩)
  first | (intro acts; rw [hret _ acts rfl rfl rfl]) | rw [hret _ _ rfl rfl rfl]
  exact Steps.refl _
/-- what holds at the law's entry: the machine, the code, the tables' words (any of lw_tbl by 'hts w (by decide +kernel)'), the script of L ints xs at the cell b, what the Statement gives of the start (any of its parts by flat_of_before) -/
def lw_At (p : Program) (s : State) (m : MethodId) (meth : Method) (c : Code) (b L : Nat) (xs : Nat → Int32) : Prop :=
  p.tables.exec = Jvm.exec ∧ c.code = code ∧ meth.sig.returnType = ret ∧ c.maxLocals = 4 ∧ s.vm.findClass R_law = some m.cls ∧ (∀ w ∈ lw_tbl, w.before #[Value.ref b] s = true) ∧ va_X b L xs s s.heap ∧ b < s.heap.size ∧ meth.locks = false ∧ (Jvm.Cond.and given_1 narrow_1).before #[Value.ref b] s = true
set_option maxHeartbeats 4000000 in
set_option maxRecDepth 40000 in
theorem whole_start {p : Program} {e : Env} {s : State} {m : MethodId} {below : List Frame} {meth : Method} {c : Code} (l : Launch) (hflags : l.flags = flags0) {b L : Nat} {xs : Nat → Int32} (hL : L ≤ 4096) (C0 : lw_At p s m meth c b L xs) : W p l e room_1 s m #[Value.ref b] below meth c s.heap [] 0 0 (lw_Z below #[Value.ref b] s) (entryFrame m ([Value.ref b] : List Value).toArray 4) := by
  obtain ⟨hx, hb, hr, hml, hown, hts, hX, hbl, hlocks, hgv⟩ := id C0
  have htsT : ∀ w ∈ xT, w.before #[Value.ref b] s = true := fun w hw => hts w (List.mem_filter.mp hw).1
  have hN : ∀ w ∈ xN, va_Nw w s := fun w hw => by
    have hn : xnest w = true := (List.mem_filter.mp hw).2
    have h := hts w (List.mem_filter.mp hw).1
    cases w <;> first | exact va_Nw.of rfl h | (simp [xnest] at hn)
  obtain ⟨Dg, hK⟩ := st_K htsT
  obtain ⟨L0, hRO, hEX, hST⟩ := st_RO (D := Dg) hgv hts hX hL
  obtain ⟨gG, gF, gK⟩ := st_gStr L xs
  have hI : ∀ (w : Cond) (i : Nat), lw_tbl[i]? = some w → w.before #[Value.ref b] s = true := fun w i h => hts w (List.mem_of_getElem? h)
  have a3 : va_AO "MonsoonTrade$Port" s := va_AO.of (hI (.arrayOver (.object "MonsoonTrade$Port")) 107 (by decide +kernel))
  have a0 : va_AO "MonsoonTrade$Dhow" s := va_AO.of (hI (.arrayOver (.object "MonsoonTrade$Dhow")) 177 (by decide +kernel))
  have a10 : va_AO "MonsoonTrade$Venture" s := va_AO.of (hI (.arrayOver (.object "MonsoonTrade$Venture")) 179 (by decide +kernel))
  have a8 : va_AO "MonsoonTrade$Text" s := va_AO.of (hI (.arrayOver (.object "MonsoonTrade$Text")) 181 (by decide +kernel))
  have a7 : va_AO "MonsoonTrade$Sheet" s := va_AO.of (hI (.arrayOver (.object "MonsoonTrade$Sheet")) 183 (by decide +kernel))
  have hown : s.vm.findClass "MonsoonTradeLaw" = some m.cls := hown
  have hS : va_S (xA s.heap.size) s.heap s.heap [] := va_S.rf
  have hl := lv_entry ([.ref b]) (n := 4) (Nat.le_of_ble_eq_true rfl)
  rw [lg_entry_eq]
  generalize (lg_sl ([.ref b]) ++ List.replicate (4 - (lg_sl ([.ref b])).length) Slot.unset).toArray = ls at hl ⊢
  have hl : lv_has ls 4 [(0, .ref b)] := hl
  have d0 : decode code 0 = .ok (.new 7, 3) := by decide +kernel
  have d3 : decode code 3 = .ok (.dup, 1) := by decide +kernel
  have d4 : decode code 4 = .ok (.invokespecial 9, 3) := by decide +kernel
  have d7 : decode code 7 = .ok (.astore_n 1, 1) := by decide +kernel
  have d8 : decode code 8 = .ok (.new 10, 3) := by decide +kernel
  have d11 : decode code 11 = .ok (.dup, 1) := by decide +kernel
  have d12 : decode code 12 = .ok (.invokespecial 12, 3) := by decide +kernel
  have d15 : decode code 15 = .ok (.astore_n 2, 1) := by decide +kernel
  have d16 : decode code 16 = .ok (.iconst 0, 1) := by decide +kernel
  have d17 : decode code 17 = .ok (.istore_n 3, 1) := by decide +kernel
  have d1350 : decode code 1350 = .ok (.iconst 1, 1) := by decide +kernel
  have d1351 : decode code 1351 = .ok (.ireturn, 1) := by decide +kernel
  have kc1 : Cond.classLink "MonsoonTradeLaw" 7 "MonsoonTrade" ∈ xT := xwd_mem (i := 92) (by decide +kernel)
  have kn1 : Cond.instantiable "MonsoonTrade" 14 ∈ xT := xwd_mem (i := 93) (by decide +kernel)
  have ki1 : Cond.initialized "MonsoonTrade" ∈ xT := xwd_mem (i := 70) (by decide +kernel)
  have km1 : Cond.methodLink "MonsoonTradeLaw" 9 yX11_init ∈ xT := xwd_mem (i := 94) (by decide +kernel)
  have kj1 : Cond.instanceMethod yX11_init ∈ xT := xwd_mem (i := 95) (by decide +kernel)
  have kC1 : Cond.code yX11_init cX11_init 2 none ∈ xT := xwd_mem (i := 96) (by decide +kernel)
  have kc2 : Cond.classLink "MonsoonTradeLaw" 10 "MonsoonTradeModel" ∈ xT := xwd_mem (i := 1254) (by decide +kernel)
  have kn2 : Cond.instantiable "MonsoonTradeModel" 59 ∈ xT := xwd_mem (i := 1100) (by decide +kernel)
  have ki2 : Cond.initialized "MonsoonTradeModel" ∈ xT := xwd_mem (i := 90) (by decide +kernel)
  have km2 : Cond.methodLink "MonsoonTradeLaw" 12 yX12_init ∈ xT := xwd_mem (i := 1255) (by decide +kernel)
  have kj2 : Cond.instanceMethod yX12_init ∈ xT := xwd_mem (i := 1256) (by decide +kernel)
  have kC2 : Cond.code yX12_init cX12_init 2 none ∈ xT := kC12
  -- the class
  refine va_newE (ci := 11) (fs := [.null, .null, .null, .null, .null, .null, .null, .null, .null, .int 0, .int 0, .int 0, .int 0, .int 0]) (C := "MonsoonTrade") (T := TX11) (N := 14) hx hb htsT (xlay (ci := 11) rfl) tyX11 tyX11_ok hown (htsT _ kc1) (htsT _ kn1) (htsT _ ki1) hK hS rfl (fun j hj => by rcases (show j = 0 ∨ j = 1 ∨ j = 2 ∨ j = 3 ∨ j = 4 ∨ j = 5 ∨ j = 6 ∨ j = 7 ∨ j = 8 ∨ j = 9 ∨ j = 10 ∨ j = 11 ∨ j = 12 ∨ j = 13 by omega) with rfl | rfl | rfl | rfl | rfl | rfl | rfl | rfl | rfl | rfl | rfl | rfl | rfl | rfl <;> rfl) (Nat.le_of_ble_eq_true rfl) (Nat.le_of_ble_eq_true rfl) d0 (fun H hP hz1 ho1 hS => ?_)
  refine lv_dup hx hb d3 rfl ?_
  refine rawI (B := s.heap.size) (G := fun t => ∃ (L1 : xL) (S1 : xS), xW t Dg s.heap.size L1 S1 t.heap ∧ L1 0 0 = s.heap.size ∧ L1 99 0 = 0 ∧ (∀ k i, xro k = true → L1 k i = L0 k i) ∧ mnS (S00 L xs) S1) (va_runI (As := []) (rest := [.ref s.heap.size]) ⟨hx, hb, hml, hown, htsT⟩ (mn_M (d := 0) (Dg := Dg) (B := s.heap.size) (L0 := L0) (S0 := S00 L xs) l s.heap.size gF gG) (cwI 0 htsT (xgoodI kC1) rfl rfl rfl (htsT _ ki1) (htsT _ km1) (htsT _ kj1) rfl (by decide +kernel) ⟨Nat.le_of_ble_eq_true rfl, Nat.le_of_ble_eq_true rfl⟩) ⟨?_, fun U hU hWm => ?_⟩ rfl rfl hl.1 rfl (lv_room (Nat.le_of_ble_eq_true rfl)) d4 ⟨Nat.le_of_ble_eq_true rfl, Nat.le_of_ble_eq_true rfl⟩) hS ?_ ?_
  · intro a U g mk q
    obtain ⟨q0, q1, q2, qP, qK, qN, ⟨w1, w2, w3, w4, w5⟩, qR, qE, qT⟩ := q
    have hA := Vm.Alike.refl U.vm
    exact ⟨q0, q1, q2, qP, va_K.moved (u := U) (U := U.calling g mk a) hA qK, fun w hw => xNw_same (s := U) rfl hw (qN w hw), ⟨va_AO.moved (u := U) (U := U.calling g mk a) hA w1, va_AO.moved (u := U) (U := U.calling g mk a) hA w2, va_AO.moved (u := U) (U := U.calling g mk a) hA w3, va_AO.moved (u := U) (U := U.calling g mk a) hA w4, va_AO.moved (u := U) (U := U.calling g mk a) hA w5⟩, fun k i hr hi => ⟨(qR k i hr hi).1.moved (u := U) (U := U.calling g mk a) hA, (qR k i hr hi).2⟩, qE.moved (u := U) (U := U.calling g mk a) hA, qT.same (s := U) rfl⟩
  · have hA := hWm.alike
    refine ⟨rfl, by rw [hU]; omega, Nat.le_refl _, by rw [hU]; exact hP, va_K.moved hA hK, fun w hw => xNw_warm hWm hw (hN w hw), ⟨va_AO.moved hA a3, va_AO.moved hA a0, va_AO.moved hA a10, va_AO.moved hA a8, va_AO.moved hA a7⟩, fun k i hr hi => ?_, ?_, hST.warm hWm⟩
    · rw [hU]
      obtain ⟨g1, g2⟩ := hRO k i hr hi
      exact ⟨(g1.moved hA).kept (ho1 _ g2), g2⟩
    · rw [hU]
      exact (hEX.moved hA).kept (fun a ha _ => ho1 a ha)
  · rintro st oc t ⟨⟨L1, S1, e, g⟩, f⟩
    exact ⟨e, ⟨L1, S1, g⟩, f⟩
  · intro t H1 locs1 ht hvm hG hS
    obtain ⟨L1, S1, hW1, e00, e99, eRO, hmn⟩ := hG
    rw [ht] at hW1
    have hST1 : xST s L1 := fun i hi => by rw [eRO 75 i rfl]; exact hST i hi
    have hW1 := xW.back2 hvm hN hST1 hW1
    have hB1 : s.heap.size ≤ H1.size := hS.1
    refine lv_astore_n (k := 1) (i := 1) (nL := 4) hx hb d7 rfl hl (by decide) rfl (fun ls hl => ?_)
    have hl : lv_has ls 4 [(1, .ref s.heap.size), (0, .ref b)] := hl
    refine va_newE (ci := 12) (fs := [.int 0, .int 0, .null, .null, .null, .null, .null, .null, .int 0, .null, .null, .null, .null, .null, .null, .null, .null, .null, .null, .int 0, .null, .null, .null, .null, .null, .null, .null, .int 0, .int 0, .int 0, .null, .null, .int 0, .int 0, .int 0, .null, .null, .null, .null, .null, .null, .int 0, .int 0, .int 0, .int 0, .null, .int 0, .null, .null, .null, .int 0, .int 0, .int 0, .int 0, .int 0, .int 0, .null, .null, .null]) (C := "MonsoonTradeModel") (T := TX12) (N := 59) hx hb htsT (xlay (ci := 12) rfl) tyX12 tyX12_ok hown (htsT _ kc2) (htsT _ kn2) (htsT _ ki2) hK hS rfl (fun j hj => by rcases (show j = 0 ∨ j = 1 ∨ j = 2 ∨ j = 3 ∨ j = 4 ∨ j = 5 ∨ j = 6 ∨ j = 7 ∨ j = 8 ∨ j = 9 ∨ j = 10 ∨ j = 11 ∨ j = 12 ∨ j = 13 ∨ j = 14 ∨ j = 15 ∨ j = 16 ∨ j = 17 ∨ j = 18 ∨ j = 19 ∨ j = 20 ∨ j = 21 ∨ j = 22 ∨ j = 23 ∨ j = 24 ∨ j = 25 ∨ j = 26 ∨ j = 27 ∨ j = 28 ∨ j = 29 ∨ j = 30 ∨ j = 31 ∨ j = 32 ∨ j = 33 ∨ j = 34 ∨ j = 35 ∨ j = 36 ∨ j = 37 ∨ j = 38 ∨ j = 39 ∨ j = 40 ∨ j = 41 ∨ j = 42 ∨ j = 43 ∨ j = 44 ∨ j = 45 ∨ j = 46 ∨ j = 47 ∨ j = 48 ∨ j = 49 ∨ j = 50 ∨ j = 51 ∨ j = 52 ∨ j = 53 ∨ j = 54 ∨ j = 55 ∨ j = 56 ∨ j = 57 ∨ j = 58 by omega) with rfl | rfl | rfl | rfl | rfl | rfl | rfl | rfl | rfl | rfl | rfl | rfl | rfl | rfl | rfl | rfl | rfl | rfl | rfl | rfl | rfl | rfl | rfl | rfl | rfl | rfl | rfl | rfl | rfl | rfl | rfl | rfl | rfl | rfl | rfl | rfl | rfl | rfl | rfl | rfl | rfl | rfl | rfl | rfl | rfl | rfl | rfl | rfl | rfl | rfl | rfl | rfl | rfl | rfl | rfl | rfl | rfl | rfl | rfl <;> rfl) (Nat.le_of_ble_eq_true rfl) (Nat.le_of_ble_eq_true rfl) d8 (fun H2 hP2 hz2 ho2 hS => ?_)
    refine lv_dup hx hb d11 rfl ?_
    have hlt : ∀ k i, i < xcn L1 k → L1 k i < H1.size := fun k i hi => (hW1.2.1 k i hi).lt
    have hW2 := hW1.growE ho2
    refine rawI (B := s.heap.size) (G := fun t => ∃ (L2 : xL) (S2 : xS), xW t Dg s.heap.size L2 S2 t.heap ∧ L2 36 0 = H1.size ∧ L2 99 0 = 1 ∧ (∀ k i, lo k = true → k ≠ 18 → L2 k i = L1 k i) ∧ moE S1 S2) (va_runI (As := []) (rest := [.ref H1.size]) ⟨hx, hb, hml, hown, htsT⟩ (mo_M (d := 0) (Dg := Dg) (B := s.heap.size) (L := L1) (S := S1) l H1.size) (cwI 0 htsT (xgoodI kC2) rfl rfl rfl (htsT _ ki2) (htsT _ km2) (htsT _ kj2) rfl (by decide +kernel) ⟨Nat.le_of_ble_eq_true rfl, Nat.le_of_ble_eq_true rfl⟩) ⟨?_, fun U hU hWm => ?_⟩ rfl rfl hl.1 rfl (lv_room (Nat.le_of_ble_eq_true rfl)) d12 ⟨Nat.le_of_ble_eq_true rfl, Nat.le_of_ble_eq_true rfl⟩) hS ?_ ?_
    · intro a U g mk q
      obtain ⟨q0, q1, q2, q3, qP, qW, q4⟩ := q
      exact ⟨q0, q1, q2, q3, qP, qW.same (s := U) (U := U.calling g mk a) rfl, q4⟩
    · exact ⟨rfl, by rw [hU]; omega, hB1, by rw [hU]; omega, by rw [hU]; exact hP2, by rw [hU]; exact hW2.warm hWm, e99, hlt⟩
    · rintro st oc t ⟨⟨L2, S2, e, g⟩, f⟩
      exact ⟨e, ⟨L2, S2, g⟩, f⟩
    · intro t3 H3 locs3 ht3 hvm3 hG hS
      obtain ⟨L2, S2, hW3, e36, e99', eLo, hmo⟩ := hG
      rw [ht3] at hW3
      have hST2 : xST s L2 := fun i hi => by rw [eLo 75 i rfl (by decide)]; exact hST1 i hi
      have hW3 := xW.back2 hvm3 hN hST2 hW3
      have f00 : L2 0 0 = s.heap.size := (eLo 0 0 rfl (by decide)).trans e00
      refine lv_astore_n (k := 2) (i := 2) (nL := 4) hx hb d15 rfl hl (by decide) rfl (fun ls hl => ?_)
      refine lv_iconst (n := 0) (v := 0) hx hb d16 rfl ?_
      refine lv_istore_n (k := 3) (i := 3) (nL := 4) hx hb d17 rfl hl (by decide) rfl (fun ls hl => ?_)
      have hl : lv_has ls 4 [(3, .int 0), (2, .ref H1.size), (1, .ref s.heap.size), (0, .ref b)] := hl
      refine lw_loop (x0 := s.heap.size) (y0 := H1.size) (C := 10000) (Z := 1000000) hx hb hml hown htsT hX hbl (Nat.le_refl _) ⟨Nat.le_of_ble_eq_true rfl, Nat.le_of_ble_eq_true rfl⟩ hL (Nat.le_of_ble_eq_true rfl) (Nat.le_of_ble_eq_true rfl) ?_ 513 0 rfl (Nat.zero_le _) S2 L2 H3 locs3 ls _ _ (Nat.le_of_ble_eq_true rfl) (Nat.le_of_ble_eq_true rfl) f00 e36 e99' (st_INV gK gG hmn hmo) hW3 hS (lv_sub hl [0, 3, 2, 1] rfl)
      intro H locs ls cells slots hc hz hS hl
      refine va_forget hS.2.2 ?_
      refine lv_iconst (n := 1) (v := 1) hx hb d1350 rfl ?_
      refine W.widen (k := 600000) (n := 7302250) (Nat.le_trans hc (Nat.le_of_ble_eq_true rfl)) (Nat.le_trans hz (Nat.le_of_ble_eq_true rfl)) ?_
      exact lw_ret hx hb hr hlocks d1351
set_option maxHeartbeats 4000000 in
theorem lw_walk (l : Launch) (hflags : l.flags = flags0) (b : Addr) (xs : List Int32) : MetFree l x (headSpec (Jvm.Cond.code x code maxLocals ret :: tables_1) room_1) (lw_P b xs) (fun _ _ _ _ _ => True) lw_Q := by
  refine MetFree.of_bodyS (code := code) (maxLocals := maxLocals) (ret := ret) (by decide) ?_ ?_
  · intro args s m h hn
    obtain ⟨meth, c, h1, h2, h3, h4, h5, h6, -, -⟩ := Cond.code_spec hn (atoms_spec (ws := Jvm.Cond.code x code maxLocals ret :: tables_1) h _ List.mem_cons_self)
    exact ⟨meth, c, h1, h2, h3, h4, h5, h6⟩
  · intro p e s m args below meth c s₁ B hml0 hP _
    obtain ⟨rfl, hx, hbd, hgv⟩ := hP
    obtain ⟨scr, harrAt, hlist, hof, hsmall⟩ := hx
    obtain ⟨hcb, hkn, -, -⟩ := State.arrayAt?_spec harrAt
    have hown : s.vm.findClass R_law = some m.cls := findClass_of_methodNamed B.named
    have hts0 : ∀ c ∈ (Jvm.Cond.code x code maxLocals ret :: tables_1), c.before #[Value.ref b] s = true := atoms_spec (ws := Jvm.Cond.code x code maxLocals ret :: tables_1) B.pre
    have hts : ∀ w ∈ lw_tbl, w.before #[Value.ref b] s = true := k2_hts_sels lw_privs (fun w hw => hts0 w (List.mem_cons_of_mem _ hw)) lw_privs_ok
    have hml : c.maxLocals = 4 := B.maxLocals_eq (hts0 _ List.mem_cons_self)
    have X₀ : Stand p l e room_1 s m #[Value.ref b] below meth c s₁ [] 0 0 := Stand.of_body B
    have hh0 : s₁.heap = s.heap := by rw [B.state]; rfl
    have hsz : scr.slots.size = xs.length := by rw [← Array.length_toList, hlist, List.length_map]
    have hval : ∀ j : Nat, j < xs.length → scr.slots[j]? = some (.int (xs.getD j 0)) := fun j hj => by
      rw [← Array.getElem?_toList, hlist]
      simp [hj]
    have hbl : b < s.heap.size := (Array.getElem?_eq_some_iff.mp hcb).1
    have hX : va_X b xs.length (fun j => xs.getD j 0) s s.heap := ⟨scr, hcb, hof, hkn, hsz, hval⟩
    have K : W p l e room_1 s m #[Value.ref b] below meth c s₁.heap [] 0 0 (lw_Z below #[Value.ref b] s) (entryFrame m ([Value.ref b] : List Value).toArray 4) := by
      rw [hh0]
      exact whole_start l hflags hbd ⟨B.exec, B.bytes, B.returns, hml, hown, hts, hX, hbl, B.notSynchronized, hgv⟩
    obtain ⟨t, a1, o, b1, b2, b3⟩ := K s₁ rfl X₀
    exact ⟨t, o, a1, b1, b2, b3⟩
theorem lw_pre_spec {args : Array Value} {s : State} (h : (Jvm.Cond.and given_1 narrow_1).before args s = true) (hr : rest_1_c.before args s = true) : ∃ (b : Addr) (xs : List Int32), lw_P b xs args s := by
  have hs := flat_of_before _ h
  have hq := flat_of_before _ hr
  have hc : (Cond.count 1).before args s = true := hs _ (by decide +kernel)
  have harr : (Cond.arrayOf (.arg 0) .int).before args s = true := hs _ (by decide +kernel)
  have hle : (Cond.le (.length (.arg 0)) (.int 4096)).before args s = true := hs _ (by decide +kernel)
  have hlen : (Cond.isInt (.length (.arg 0))).before args s = true := hq _ (by decide +kernel)
  have hall : (Cond.all (.arg 0) (.isInt (.elem (.arg 0) (.index 0)))).before args s = true := hq _ (by decide +kernel)
  obtain ⟨b, xs, hb, hx⟩ := State.ints_of_pre rfl harr hlen hall
  have hsm : xs.length < 2 ^ 31 := hx.choose_spec.2.2.2
  have hev : (Term.length (.arg 0)).eval args s none [] s = some (.int xs.length.toInt32) := hx.length_eval hb
  have hv := Cond.le_ints hev (show (Term.int 4096).eval args s none [] s = some (.int 4096) from rfl)
  have hd : xs.length.toInt32 ≤ 4096 := by
    simpa [Cond.before, Cond.holds, hv] using hle
  have hN : xs.length ≤ 4096 := (Int32.ofNat_le_ofNat hsm (by decide)).mp (show Int32.ofNat xs.length ≤ Int32.ofNat 4096 from hd)
  exact ⟨b, xs, Cond.one_arg hc (show args[0]? = some (.ref b) from hb), hx, hN, h⟩
theorem lw_comes (l : Launch) (hflags : l.flags = flags0) : Comes l x (Jvm.Cond.code x code maxLocals ret :: tables_1) room_1 (fun tb e args s => Calls_1 tb e args s ∧ rest_1 tb e args s ∧ Pre_1 tb e args s)
    (fun _ _ args s o t => lw_Q args s o t) := by
  intro p e ha hc hk s m args below hf hfit hheap happ hpre
  obtain ⟨b, xs, hP⟩ := lw_pre_spec hpre.2.2 hpre.2.1
  obtain ⟨k, o, h1, h2, h3, hQ⟩ := lw_walk l hflags b xs p e ha hc hk s m args below hf ((Spec.applies_iff_loose hf).mp happ).1 hP trivial
  exact ⟨k, o, h1, h2, h3, hQ⟩
theorem lw_frame {s t : State} {o : Outcome} {args : Array Value} (h : Framed s o t [] 600000 7302250) :
    Framed s o t (fieldLocs frame_1_writes args s ++ arrayLocs frame_1_arrays args s ++ staticLocs frame_1_statics s) 600000 7302250 := h
theorem lw_limb (L : Cond) (hL : ∀ (args : Array Value) (s t : State), L.after args s (.returned (some (.int 1))) t = true) :
    ArmFor flags0 classFile x code maxLocals ret World_1 tables_1 room_1 Calls_1 rest_1 Pre_1
      (fun tb e a s o t => postC L tb e a s o t ∧ Framed s o t (fieldLocs frame_1_writes a s ++ arrayLocs frame_1_arrays a s ++ staticLocs frame_1_statics s) 600000 7302250) := by
  intro l hflags _ _ p e ha hc hk s m args below hf hfit hheap happ hpre
  obtain ⟨k, o, h1, h2, h3, rfl, hF⟩ := lw_comes l hflags p e ha hc hk s m args below hf hfit hheap happ hpre
  exact ⟨k, _, h1, h2, h3, hL args s _, lw_frame hF⟩
theorem i_vc : Claimed_1_1 ∧ Claimed_1_2 := ⟨lw_limb limb_1_1 (fun args s t => by simp [limb_1_1, Cond.after, Cond.holds, Cond.value]), lw_limb limb_1_2 (fun args s t => Cond.after_iff.mpr (by
  first | (rw [show limb_1_2 = Cond.eq .result (.int 1) from rfl, Cond.eq_ints (x := 1) (y := 1) rfl rfl]; simp; done) | (simp [limb_1_2, Cond.value, Term.eval]; done)))⟩
