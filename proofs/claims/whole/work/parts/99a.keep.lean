/-! Arrays.copyOf by the kit's rows: the answer is a fresh array -/
theorem xcell_lt {U : State} {D : va_G} {L : xL} {S : xS} {k i : Nat} {H : Heap} (h : xcell U D L S k i H) : L k i < H.size := by
  have key : ∀ c, H[L k i]? = some c → L k i < H.size := fun c hc => (Array.getElem?_eq_some_iff.mp hc).1
  unfold xcell at h
  split at h
  · rcases h with ⟨-, h⟩ | ⟨r, -, cell, h, -⟩
    · obtain ⟨c, hc⟩ := Option.isSome_iff_exists.mp h
      exact key c hc
    · exact key _ h
  · rcases h with ⟨-, cell, h, -⟩ | ⟨-, cA, -, h⟩
    · exact key _ h
    · exact key _ h
def kQ (Dg : va_G) (B : Nat) (L : xL) (S : xS) (u : Nat) : Array Value → State → Outcome → State → Prop := fun _ st oc t =>
  (∃ (a : Nat) (cA : ClassId), oc = .returned (some (.ref a)) ∧ B ≤ a ∧ (∀ k i, i < xcn L k → L k i ≠ a) ∧ (ArrOfT t cA .int ∧ va_RA t cA .int) ∧ t.heap[a]? = some (arrV cA u (fun j => .int (S.1 26 0 j))) ∧ xW t Dg B L S t.heap) ∧ va_F (xA B) st t
theorem arrV_eq {cA : ClassId} {n : Nat} {f g : Nat → Value} (h : ∀ j, j < n → f j = g j) : arrV cA n f = arrV cA n g := by
  unfold arrV
  have : (Array.ofFn (n := n) fun j => f j.val) = Array.ofFn (n := n) fun j => g j.val := by
    congr 1
    funext j
    exact h j.val j.isLt
  rw [this]
theorem xW.grow {U : State} {D : va_G} {B : Nat} {L : xL} {S : xS} {H H' : Heap} (h : xW U D B L S H) (hq : ∀ q : Nat, q < H.size → H'[q]? = H[q]?) : xW U D B L S H' := by
  obtain ⟨h1, h2, h3, h4, h5, h6, h7⟩ := h
  exact ⟨h1, fun k i hi => (h2 k i hi).kept (hq _ (xcell_lt (h2 k i hi))), h3, h4, h5, h6.kept (fun a ha _ => hq a ha), h7⟩
theorem cp_M {d u : Nat} {S : xS} (hu : u ≤ 154) (l : Launch) (Dg : va_G) (B : Nat) (L : xL) : Met l (mt m_Arrays_copyOf).1 (xws m_Arrays_copyOf) (xRm (d + 1) 1 160) (va_Pc [.ref (L 26 0), .int (nI u)] (fun U => B ≤ U.heap.size ∧ xW U Dg B L S U.heap)) (kQ Dg B L S u) 1 160 (xA B) := by
  have hm : xmok m_Arrays_copyOf := xmok_all (by decide)
  refine Met.ofW (cc := xby m_Arrays_copyOf) (maxL := xml m_Arrays_copyOf) (ret := xrt m_Arrays_copyOf) (xmok_spec hm).2.2.2.2.1 rfl ?_
  intro p e s m args below meth c0 s₁ Bd hml hv
  obtain ⟨rfl, hB, hW⟩ := hv
  have hts0 := atoms_spec (ws := xws m_Arrays_copyOf) Bd.pre
  have hts : ∀ w ∈ xT, w.before _ s = true := fun w hw => hts0 w (List.mem_cons_of_mem _ hw)
  have hl := lv_entry [.ref (L 26 0), .int (nI u)] (n := xml m_Arrays_copyOf) (show 2 ≤ 3 by decide)
  rw [lg_entry_eq]
  have hE := Bd.exec
  have hY := Bd.bytes
  have hown : s.vm.findClass "java/util/Arrays" = some m.cls := findClass_of_methodNamed Bd.named
  have h26 : 0 < xcn L 26 := (Nat.lt_of_sub_eq_succ rfl : 0 < xcn L 26)
  obtain ⟨c26, ⟨ha, -⟩, hh⟩ := xcell_a (hW.2.1 26 0 h26) (n := 160) (rk := 0) (ty := .int) rfl rfl
  have hx : xlen S 26 0 160 = 160 := rfl
  have d0 : decode (xby m_Arrays_copyOf) 0 = .ok (.iload_n 1, 1) := by decide +kernel
  have d1 : decode (xby m_Arrays_copyOf) 1 = .ok (.aload_n 0, 1) := by decide +kernel
  have d2 : decode (xby m_Arrays_copyOf) 2 = .ok (.arraylength, 1) := by decide +kernel
  have d3 : decode (xby m_Arrays_copyOf) 3 = .ok (.if_icmp .ne 11, 3) := by decide +kernel
  have d14 : decode (xby m_Arrays_copyOf) 14 = .ok (.iload_n 1, 1) := by decide +kernel
  have d15 : decode (xby m_Arrays_copyOf) 15 = .ok (.newarray .int, 2) := by decide +kernel
  have d17 : decode (xby m_Arrays_copyOf) 17 = .ok (.astore_n 2, 1) := by decide +kernel
  have d18 : decode (xby m_Arrays_copyOf) 18 = .ok (.aload_n 0, 1) := by decide +kernel
  have d19 : decode (xby m_Arrays_copyOf) 19 = .ok (.iconst 0, 1) := by decide +kernel
  have d20 : decode (xby m_Arrays_copyOf) 20 = .ok (.aload_n 2, 1) := by decide +kernel
  have d21 : decode (xby m_Arrays_copyOf) 21 = .ok (.iconst 0, 1) := by decide +kernel
  have d22 : decode (xby m_Arrays_copyOf) 22 = .ok (.aload_n 0, 1) := by decide +kernel
  have d23 : decode (xby m_Arrays_copyOf) 23 = .ok (.arraylength, 1) := by decide +kernel
  have d24 : decode (xby m_Arrays_copyOf) 24 = .ok (.iload_n 1, 1) := by decide +kernel
  have d25 : decode (xby m_Arrays_copyOf) 25 = .ok (.invokestatic 304, 3) := by decide +kernel
  have d28 : decode (xby m_Arrays_copyOf) 28 = .ok (.invokestatic 150, 3) := by decide +kernel
  have d31 : decode (xby m_Arrays_copyOf) 31 = .ok (.aload_n 2, 1) := by decide +kernel
  have d32 : decode (xby m_Arrays_copyOf) 32 = .ok (.areturn, 1) := by decide +kernel
  rw [hx] at hh
  refine lv_iload_n (k := 1) (i := 1) hE hY d0 rfl (lv_at hl 1 rfl) ?_
  refine lv_aload_n (k := 0) (i := 0) hE hY d1 rfl (lv_at hl 0 rfl) ?_
  refine W.alen (n := 160) hE hY hh (ha _ _) (by rw [arrV_size]; rfl) rfl rfl d2 ?_
  refine lv_icmp_ne (off := 11) (tgt := 14) hE hY d3 rfl (fun _ => ?_) (fun q => ?_)
  rotate_left
  · exfalso
    have : (nI u).toNatClampNeg = 160 := by rw [q]; rfl
    rw [nI_clamp (show u < 2 ^ 31 by omega)] at this
    omega
  refine lv_iload_n (k := 1) (i := 1) hE hY d14 rfl (lv_at hl 1 rfl) ?_
  refine va_newaK (atype := .int) (N := u) (h := s.heap.size) hE hY (hts _ (xwd_mem (i := 134) (by decide +kernel))) rfl d15 rfl (nI_pos (by omega)) (nI_clamp (by omega)) (by show u * 4 ≤ _; omega) (by show 0 + 1 ≤ 1; omega) (by show 0 + u ≤ 160; omega) rfl ?_
  intro H1 cA e1 z1 o1 hAr hNm
  have hlt : L 26 0 < s.heap.size := xcell_lt (hW.2.1 26 0 h26)
  have hh1 : H1[L 26 0]? = some (arrV c26 160 (xel L S 26 0 0 .int)) := (o1 _ hlt).trans hh
  refine lv_astore_n (k := 2) (i := 2) (nL := 3) hE hY d17 rfl hl (by decide) rfl (fun ls hl => ?_)
  refine lv_aload_n (k := 0) (i := 0) hE hY d18 rfl (lv_at hl 1 rfl) ?_
  refine lv_iconst (n := 0) (v := 0) hE hY d19 rfl ?_
  refine lv_aload_n (k := 2) (i := 2) hE hY d20 rfl (lv_at hl 0 rfl) ?_
  refine lv_iconst (n := 0) (v := 0) hE hY d21 rfl ?_
  refine lv_aload_n (k := 0) (i := 0) hE hY d22 rfl (lv_at hl 1 rfl) ?_
  refine W.alen (n := 160) hE hY hh1 (ha _ _) (by rw [arrV_size]; rfl) rfl rfl d23 ?_
  refine lv_iload_n (k := 1) (i := 1) hE hY d24 rfl (lv_at hl 2 rfl) ?_
  refine va_mmin hE hY (hml.trans hl.1.symm) hown (hts _ (xwd_mem (i := 651) (by decide +kernel))) (hts _ xm_min.1) (hts _ xm_min.2.1) (hts _ xm_min.2.2) (by show 1 ≤ d + 1; omega) (by show 4 + 13 ≤ 40 * (d + 1); omega) (by show 0 + 1 ≤ 1; omega) (by show 0 + u ≤ 160; omega) d25 ?_
  have emin : (if nI u < (160 : Int32) then nI u else 160) = nI u := if_pos (by
    have := nI_lt (a := u) (b := 160) (by omega) (by decide)
    exact this)
  rw [emin]
  have cu : (nI u).toNatClampNeg = u := nI_clamp (by omega)
  have nu : (nI u).toInt = (u : Int) := by
    have hz0 : (0 : Int) ≤ (nI u).toInt := by
      have := Int32.not_lt.mp (nI_pos (n := u) (by omega))
      simpa using Int32.le_iff_toInt_le.mp this
    have : (((nI u).toInt.toNat : Nat) : Int) = (u : Int) := congrArg _ cu
    omega
  have hc0 : H1[L 26 0]? = some (vp_cell c26 (160, .inl (fun j => S.1 26 0 j))) := hh1
  have hc1 : H1[s.heap.size]? = some (vp_cell cA (u, .inl (fun _ => 0))) := e1
  have k656 : Cond.methodLink "java/util/Arrays" 150 arraycopyName ∈ xT := xwd_mem (i := 652) (by decide +kernel)
  have hAr : ArrOfT s cA .int := hAr
  intro T hT X
  obtain ⟨-, kk0, hk0, cm0, hkk0⟩ := ha 160 (fun j => .int (S.1 26 0 j))
  obtain ⟨-, kk1, hk1, cm1, hkk1⟩ := hAr u (fun j => .int 0)
  obtain ⟨vm', X', step⟩ := X.arraycopy hE hown (hts _ k656) (hts _ xm_copy.1) (hts _ xm_copy.2.1) (hts _ xm_copy.2.2) (src := L 26 0) (dst := s.heap.size) (cs := vp_cell c26 (160, .inl (fun j => S.1 26 0 j))) (cd := vp_cell cA (u, .inl (fun _ => 0))) (srcPos := 0) (destPos := 0) (n := nI u) (by rw [hT]; exact hc0) (by rw [hT]; exact hc1)
    (fun _ h => by cases h) (fun _ h => by cases h) (fun h => by cases h) (fun h => by cases h) hk0 hk1 hkk0 hkk1 (by simp [refKind]) (by decide) (by decide) (nI_pos (by omega))
    (by rw [nu]; show ¬ _ > ((arrV c26 160 (fun j => .int (S.1 26 0 j))).slots.size : Int); rw [arrV_size]; show ¬ ((0 : Int) + u > 160); omega)
    (by rw [nu]; show ¬ _ > ((arrV cA u (fun j => .int 0)).slots.size : Int); rw [arrV_size]; show ¬ ((0 : Int) + u > u); omega)
    (fun vm₁ _ q hq => by
      rw [cu] at hq
      have e : (vp_cell c26 (160, .inl (fun j => S.1 26 0 j))).slots.getD ((0 : Int32).toNatClampNeg + q) .null = .int (S.1 26 0 ((0 : Int32).toNatClampNeg + q)) := by
        show (arrV c26 160 (fun j => .int (S.1 26 0 j))).slots.getD _ _ = _
        rw [Array.getD_eq_getD_getElem?, arrV_read _ _ (by show 0 + q < 160; omega)]
        rfl
      refine ⟨?_, ?_⟩
      · rw [e]
        rfl
      · rw [e]
        exact trivial)
    (g := F0 m 28 ls [.int (nI u), .int 0, .ref s.heap.size, .int 0, .ref (L 26 0)]) rfl (by rw [hml]; exact hl.1) (rest := []) rfl (by rw [hY]; exact d28) (by show 1 ≤ d + 1; omega) (by show 2 * 0 + 0 + (7 + 11) ≤ 40 * (d + 1); omega)
  have e5 : copied (vp_cell c26 (160, .inl (fun j => S.1 26 0 j))) (vp_cell cA (u, .inl (fun _ => 0))) 0 0 (nI u) = vp_cell cA (u, .inl (va_cpy (fun j => S.1 26 0 j) (fun _ => 0) 0 0 (nI u).toNatClampNeg)) := va_copied (fun z => .int z) c26 cA (fun j => S.1 26 0 j) (fun _ => 0) (by rw [cu]; show 0 + u ≤ 160; omega)
  rw [e5, cu] at X' step
  generalize hcl : vp_cell cA (u, .inl (va_cpy (fun j => S.1 26 0 j) (fun _ => 0) 0 0 u)) = cl1 at X' step
  have hlt1 : s.heap.size < H1.size := by omega
  have hheap : ((T.setVm vm').setCell s.heap.size cl1).heap = H1.setIfInBounds s.heap.size cl1 := by rw [← hT]; rfl
  have oq : ∀ q : Nat, q < s.heap.size → (H1.setIfInBounds s.heap.size cl1)[q]? = s.heap[q]? := fun q hq => by
    rw [← o1 q hq]
    simp [Array.getElem?_setIfInBounds, show ¬ (s.heap.size = q) by omega]
  have hnew : (H1.setIfInBounds s.heap.size cl1)[s.heap.size]? = some (arrV cA u (fun j => .int (S.1 26 0 j))) := by
    rw [show (H1.setIfInBounds s.heap.size cl1)[s.heap.size]? = some cl1 by simp [Array.getElem?_setIfInBounds, hlt1], ← hcl, vp_cell_i]
    congr 1
    refine arrV_eq (fun j hj => ?_)
    simp [va_cpy, hj]
  have fin : ∀ (R : Room) (ar : Array Value) (locs : List Loc), (∀ q ∈ locs, xA B q.base) → W p l e R s m ar below meth c0 (H1.setIfInBounds s.heap.size cl1) locs (0 + 1) (0 + u) (MQ below (kQ Dg B L S u) ar s 1 160 (xA B)) (F0 m 31 ls []) := fun R ar locs hlo => by
    refine lv_aload_n (k := 2) (i := 2) hE hY d31 rfl (lv_at hl 0 rfl) ?_
    refine W.widen (k := 1) (n := 160) (by omega) (by omega) ?_
    exact W.aret hE hY Bd.returns (Or.inr ⟨_, rfl⟩) (Or.inr ⟨_, rfl⟩) (fun t ht hWt => ⟨⟨s.heap.size, cA, rfl, hB, fun k i hi => Nat.ne_of_lt (xcell_lt (hW.2.1 k i hi)), ⟨arrOfT_moved hWt.alike hAr, va_RA.moved hWt.alike hNm⟩, by rw [ht]; exact hnew, by rw [ht]; exact (hW.grow oq).warm hWt⟩, by rw [ht]; simp; omega, fun q h1 _ => by rw [ht]; exact oq q h1⟩) hlo d32 Bd.notSynchronized
  obtain ⟨t, a1, b1⟩ := fin _ _ _ (fun q hq => by
      rcases List.mem_append.mp hq with h | h
      · cases h
      · obtain ⟨z, -, hz⟩ := List.mem_map.mp h
        rw [← hz]
        exact hB) _ hheap X'
  exact ⟨t, step t a1, b1⟩
