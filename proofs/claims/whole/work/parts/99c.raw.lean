/-! constructors: what they call, by the kit's rows, where not all cells live yet -/
def fQ (q n : Nat) (cA : ClassId) (x : Int32) : Array Value → State → Outcome → State → Prop := fun _ st oc t => oc = .returned none ∧ t.heap.size = st.heap.size ∧ t.heap[q]? = some (arrV cA n (fun _ => .int x)) ∧ ∀ b : Nat, b ≠ q → t.heap[b]? = st.heap[b]?
theorem rf_fill {d q n : Nat} {x : Int32} {cA : ClassId} (hn : n < 2 ^ 31) (l : Launch) : Met l (mt m_Arrays_fill).1 (xws m_Arrays_fill) (xRm d 0 0) (va_Pc [.ref q, .int x] (fun U => ArrOfT U cA .int ∧ ∃ f, U.heap[q]? = some (arrV cA n f))) (fQ q n cA x) 0 0 (fun b => b = q) := by
  have hm : xmok m_Arrays_fill := xmok_all (by decide)
  refine Met.ofW (cc := xby m_Arrays_fill) (maxL := xml m_Arrays_fill) (ret := xrt m_Arrays_fill) (xmok_spec hm).2.2.2.2.1 rfl ?_
  intro p e s m args below meth c0 s₁ Bd hml hv
  obtain ⟨rfl, hA, f0, hf0⟩ := hv
  have hl := lv_entry [.ref q, .int x] (n := xml m_Arrays_fill) (show 2 ≤ 4 by decide)
  rw [lg_entry_eq]
  have hE := Bd.exec
  have hY := Bd.bytes
  have d0 : decode (xby m_Arrays_fill) 0 = .ok (.iconst 0, 1) := by decide +kernel
  have d1 : decode (xby m_Arrays_fill) 1 = .ok (.istore_n 2, 1) := by decide +kernel
  have d2 : decode (xby m_Arrays_fill) 2 = .ok (.aload_n 0, 1) := by decide +kernel
  have d3 : decode (xby m_Arrays_fill) 3 = .ok (.arraylength, 1) := by decide +kernel
  have d4 : decode (xby m_Arrays_fill) 4 = .ok (.istore_n 3, 1) := by decide +kernel
  have d5 : decode (xby m_Arrays_fill) 5 = .ok (.iload_n 2, 1) := by decide +kernel
  have d6 : decode (xby m_Arrays_fill) 6 = .ok (.iload_n 3, 1) := by decide +kernel
  have d7 : decode (xby m_Arrays_fill) 7 = .ok (.if_icmp .ge 13, 3) := by decide +kernel
  have d10 : decode (xby m_Arrays_fill) 10 = .ok (.aload_n 0, 1) := by decide +kernel
  have d11 : decode (xby m_Arrays_fill) 11 = .ok (.iload_n 2, 1) := by decide +kernel
  have d12 : decode (xby m_Arrays_fill) 12 = .ok (.iload_n 1, 1) := by decide +kernel
  have d13 : decode (xby m_Arrays_fill) 13 = .ok (.iastore, 1) := by decide +kernel
  have d14 : decode (xby m_Arrays_fill) 14 = .ok (.iinc 2 1, 3) := by decide +kernel
  have d17 : decode (xby m_Arrays_fill) 17 = .ok (.goto (-12), 3) := by decide +kernel
  have d20 : decode (xby m_Arrays_fill) 20 = .ok (.return_, 1) := by decide +kernel
  have loop : ∀ (R : Room) (ar : Array Value) (mm j : Nat), j + mm = n → ∀ (H : Heap) (locs : List Loc) (ls : Array Slot) (f : Nat → Value), H.size = s.heap.size → H[q]? = some (arrV cA n f) → (∀ i, i < j → f i = .int x) → (∀ b : Nat, b ≠ q → H[b]? = s.heap[b]?) → (∀ c ∈ locs, c.base = q) → lv_has ls 4 [(0, .ref q), (1, .int x), (2, .int (nI j)), (3, .int (nI n))] → W p l e R s m ar below meth c0 H locs 0 0 (MQ below (fQ q n cA x) ar s 0 0 (fun b => b = q)) (F0 m 5 ls []) := by
    intro R ar mm
    induction mm with
    | zero =>
      intro j hj H locs ls f hz hc hf ho hb hl
      have hj : j = n := by omega
      subst hj
      refine lv_iload_n (k := 2) (i := 2) hE hY d5 rfl (lv_at hl 2 rfl) ?_
      refine lv_iload_n (k := 3) (i := 3) hE hY d6 rfl (lv_at hl 3 rfl) ?_
      refine lv_icmp_ge (off := 13) (tgt := 20) hE hY d7 rfl (fun _ => ?_) (fun k => absurd (Int32.le_refl _) k)
      exact W.vret hE hY Bd.returns (fun t ht _ => ⟨rfl, by rw [ht]; exact hz, by rw [ht, hc]; exact congrArg _ (arrV_eq hf), fun b hb => by rw [ht]; exact ho b hb⟩) hb d20 Bd.notSynchronized
    | succ mm ih =>
      intro j hj H locs ls f hz hc hf ho hb hl
      have hlt : nI j < nI n := nI_lt (by omega) hn
      refine lv_iload_n (k := 2) (i := 2) hE hY d5 rfl (lv_at hl 2 rfl) ?_
      refine lv_iload_n (k := 3) (i := 3) hE hY d6 rfl (lv_at hl 3 rfl) ?_
      refine lv_icmp_ge (off := 13) (tgt := 20) hE hY d7 rfl (fun k => absurd hlt (Int32.not_lt.mpr k)) (fun _ => ?_)
      refine lv_aload_n (k := 0) (i := 0) hE hY d10 rfl (lv_at hl 0 rfl) ?_
      refine lv_iload_n (k := 2) (i := 2) hE hY d11 rfl (lv_at hl 2 rfl) ?_
      refine lv_iload_n (k := 1) (i := 1) hE hY d12 rfl (lv_at hl 1 rfl) ?_
      refine W.iast hE hY hc (hA n f) (fun h => by cases h) (by rw [arrV_size, nI_clamp (show j < 2 ^ 31 by omega)]; intro h; rcases h with h | h; exact nI_pos (by omega) h; omega) rfl rfl d13 (fun H' e1 e2 e3 => ?_)
      rw [arrV_store, nI_clamp (show j < 2 ^ 31 by omega)] at e1
      refine lv_iinc (k := 2) (v := nI (j + 1)) (nL := 4) hE hY d14 hl rfl (nI_1 (a := j)) (by decide) rfl (fun ls' hl' => ?_)
      refine lv_goto (off := -12) (tgt := 5) hE hY d17 rfl ?_
      refine ih (j + 1) (by omega) H' _ ls' (updV f j (.int x)) (e2.trans hz) e1 (fun i hi => ?_) (fun b hb => (e3 b hb).trans (ho b hb)) (fun c hc => ?_) (lv_sub hl' [1, 2, 0, 3] rfl)
      · unfold updV
        by_cases hij : i = j
        · rw [if_pos hij]
        · rw [if_neg hij]; exact hf i (by omega)
      · rcases List.mem_append.mp hc with h | h
        · exact hb c h
        · rw [List.mem_singleton.mp h]
  refine lv_iconst (n := 0) (v := 0) hE hY d0 rfl ?_
  refine lv_istore_n (k := 2) (i := 2) (nL := 4) hE hY d1 rfl hl (by decide) rfl (fun ls hl => ?_)
  refine lv_aload_n (k := 0) (i := 0) hE hY d2 rfl (lv_at hl 1 rfl) ?_
  refine W.alen (n := nI n) hE hY hf0 (hA _ _) (by rw [arrV_size]; rfl) rfl rfl d3 ?_
  refine lv_istore_n (k := 3) (i := 3) (nL := 4) hE hY d4 rfl hl (by decide) rfl (fun ls hl => ?_)
  exact loop _ _ n 0 (by omega) s.heap [] ls f0 rfl hf0 (fun i hi => absurd hi (Nat.not_lt_zero _)) (fun _ _ => rfl) (fun c hc => by cases hc) (lv_sub hl [2, 3, 1, 0] rfl)
theorem rf_forget {d a q n : Nat} {v : Value} {cA : ClassId} {Dg : va_G} (hn : n < 2 ^ 31) (l : Launch) : Met l (mt m_News_forget).1 (xws m_News_forget) (xRm (d + 1) 0 0) (va_Pc [.ref a] (fun U => va_K Dg classes [] U ∧ t_OB a (Dg.1 1) 2 (Dg.2 1) U.heap (vp_V [.ref q, v]) ∧ ArrOfT U cA .int ∧ ∃ f, U.heap[q]? = some (arrV cA n f))) (fQ q n cA (-1)) 0 0 (fun b => b = q) := by
  have hm : xmok m_News_forget := xmok_all (by decide)
  refine Met.ofW (cc := xby m_News_forget) (maxL := xml m_News_forget) (ret := xrt m_News_forget) (xmok_spec hm).2.2.2.2.1 rfl ?_
  intro p e s m args below meth c0 s₁ Bd hml hv
  obtain ⟨rfl, hK, hO, hA, f0, hf0⟩ := hv
  have hts0 := atoms_spec (ws := xws m_News_forget) Bd.pre
  have hts : ∀ w ∈ xT, w.before _ s = true := fun w hw => hts0 w (List.mem_cons_of_mem _ hw)
  have hl := lv_entry [.ref a] (n := xml m_News_forget) (show 1 ≤ 1 by decide)
  rw [lg_entry_eq]
  have hE := Bd.exec
  have hY := Bd.bytes
  have hown : s.vm.findClass "MonsoonTrade$News" = some m.cls := findClass_of_methodNamed Bd.named
  have d0 : decode (xby m_News_forget) 0 = .ok (.aload_n 0, 1) := by decide +kernel
  have d1 : decode (xby m_News_forget) 1 = .ok (.getfield 9, 3) := by decide +kernel
  have d4 : decode (xby m_News_forget) 4 = .ok (.iconst (-1), 1) := by decide +kernel
  have d5 : decode (xby m_News_forget) 5 = .ok (.invokestatic 21, 3) := by decide +kernel
  have d8 : decode (xby m_News_forget) 8 = .ok (.return_, 1) := by decide +kernel
  have hcl : classes[1]? = some ("MonsoonTrade$News", TX1, 2) := rfl
  have hP : va_P Dg classes [(a, .inr (1, [.ref q, v]))] s.heap := fun n x hx => by
    have hn : n = 0 := by have := (List.getElem?_eq_some_iff.mp hx).1; simp at this; exact this
    subst hn; cases hx; exact ⟨_, hcl, hO⟩
  have hw : Cond.fieldLink (mt m_News_forget).1.cls 9 (TX1 0).1 (TX1 0).2.1 (TX1 0).2.2.1 ∈ xT := xwd_mem (i := 126) (by decide +kernel)
  have hlm : Cond.methodLink (mt m_News_forget).1.cls 21 (mt m_Arrays_fill).1 ∈ xT := xwd_mem (i := 123) (by decide +kernel)
  refine lv_aload_n (k := 0) (i := 0) hE hY d0 rfl (lv_at hl 0 rfl) ?_
  refine va_get (v := .ref q) hE hY (Ts := xT) hts (xlay hcl) hown hK hP 0 rfl hcl 0 (by decide) (hts _ hw) (fun _ h => h) rfl d1 ?_
  refine lv_iconst (n := -1) (v := -1) hE hY d4 rfl ?_
  have hm2 : xmok m_Arrays_fill := xmok_all (by decide)
  obtain ⟨m1, m2, -, m4, -, m6, m7, m8⟩ := xmok_spec hm2
  have st2 : xst m_Arrays_fill = true := by decide
  rw [st2] at m2
  have hM := rf_fill (d := d) (q := q) (x := -1) (cA := cA) hn l
  have hnp : (parseMethodDescriptor (mt m_Arrays_fill).1.desc).map (fun d => d.parameters.length) = some 2 := by decide +kernel
  have hPS : PreS s s.heap (va_Pc [.ref q, .int (-1)] (fun U => ArrOfT U cA .int ∧ ∃ f, U.heap[q]? = some (arrV cA n f))) [.ref q, .int (-1)] := ⟨fun b U g mk k => ⟨k.1, (show ArrOfT (U.calling g mk b) cA .int from arrOfT_moved (u := U) (Vm.Alike.refl U.vm) k.2.1), k.2.2⟩, fun U hU hWm => ⟨rfl, arrOfT_moved hWm.alike hA, f0, by rw [hU]; exact hf0⟩⟩
  have fin : ∀ (R : Room) (ar : Array Value) (H : Heap) (locs : List Loc) (ls : Array Slot), H.size = s.heap.size → H[q]? = some (arrV cA n (fun _ => .int (-1))) → (∀ b : Nat, b ≠ q → H[b]? = s.heap[b]?) → (∀ c ∈ locs, c.base = q) → W p l e R s m ar below meth c0 H locs (0 + 0) (0 + 0) (MQ below (fQ q n cA (-1)) ar s 0 0 (fun b => b = q)) (F0 m 8 ls []) := fun R ar H locs ls h1 h2 h3 h4 => W.vret hE hY Bd.returns (fun t ht _ => ⟨rfl, by rw [ht]; exact h1, by rw [ht]; exact h2, fun b hb => by rw [ht]; exact h3 b hb⟩) h4 d8 Bd.notSynchronized
  intro T hT X
  obtain ⟨v', st₀, t, T', L2, h0, X', hLL, e1, e2, ⟨hv, hz, hk, ho⟩, stp⟩ := va_runS (mc := 0) (ms := 0) (g := F0 m 5 _ [.int (-1), .ref q]) (rest := []) ⟨hE, hY, hml, hown, hts⟩ hM ⟨callB_of (ws' := xT) 2 hts (xgood hm2) rfl rfl rfl (hts _ m4) (hts _ hlm) ⟨m6, m7, hnp⟩ (by show d + 1 ≤ d + 1 ∧ 8 + (4 + 11) + 40 * d ≤ 40 * (d + 1); omega), hts _ m2⟩ hPS rfl (by simp) hl.1 rfl (lv_room (show 0 ≤ 8 by decide)) d5 (by show 0 + 0 ≤ 0 ∧ 0 + 0 ≤ 0; omega) T hT X
  have hv' : v' = none := Outcome.returned.inj hv
  subst hv'
  rw [h0] at hz ho
  obtain ⟨t2, a1, b1⟩ := fin _ _ T'.heap L2 _ (by rw [e1]; exact hz) (by rw [e1]; exact hk) (fun b hb => by rw [e1]; exact ho b hb) (fun c hc => hLL c hc) T' rfl X'
  exact ⟨t2, stp t2 a1, b1⟩
