theorem xoff {x : Int32} {d : Int} : ∀ {ps : List (Int × Int)} {ts : List (Int32 × Nat)}, ts.length = ps.length → (∀ (i : Nat) (q : Int32 × Nat) (o : Int × Int), ts[i]? = some q → ps[i]? = some o → q.1.toInt = o.1) → (∀ (j : Nat) (q : Int32 × Nat), ts[j]? = some q → x = q.1 → (∀ (i : Nat) (p : Int32 × Nat), i < j → ts[i]? = some p → ¬ x = p.1) → ∀ o : Int × Int, ps[j]? = some o → Op.lookupswitch.offset ps d x.toInt = o.2) ∧ ((∀ q ∈ ts, ¬ x = q.1) → Op.lookupswitch.offset ps d x.toInt = d)
  | [], [], _, _ => ⟨fun j q h => by simp at h, fun _ => rfl⟩
  | [], t :: ts, h, _ => by simp at h
  | o :: ps, [], h, _ => by simp at h
  | o :: ps, t :: ts, h, hm => by
    have ih := xoff (x := x) (d := d) (ps := ps) (ts := ts) (by simpa using h) (fun i q o h1 h2 => hm (i + 1) q o (by simpa using h1) (by simpa using h2))
    have h0 : t.1.toInt = o.1 := hm 0 t o rfl rfl
    refine ⟨fun j q hj hx hlt p hp => ?_, fun hn => ?_⟩
    · cases j with
      | zero =>
        simp at hj hp
        subst hj; subst hp
        rw [Op.lookupswitch.offset_cons, if_pos (by rw [hx, h0])]
      | succ j =>
        have hne : ¬ x = t.1 := hlt 0 t (by omega) rfl
        rw [show o = (o.1, o.2) from rfl, lv_osw hne h0]
        exact ih.1 j q (by simpa using hj) hx (fun i p hi hp => hlt (i + 1) p (by omega) (by simpa using hp)) p (by simpa using hp)
    · rw [show o = (o.1, o.2) from rfl, lv_osw (hn t List.mem_cons_self) h0]
      exact ih.2 (fun q hq => hn q (List.mem_cons_of_mem _ hq))
theorem xall_at {n : Nat} {f : Nat → Bool} (h : (List.range n).all f = true) {j : Nat} (hj : j < n) : f j = true := List.all_eq_true.mp h j (List.mem_range.mpr hj)
section XS1
variable {d c z mi pc : Nat} {lv : List (Option xV)} {st : List xV} {S : xS} {Q : Option xV → xS → Prop}
theorem vs_table {dflt lo hi : Int} {offs : Array Int} {len a : Nat} {ts : List (Int32 × Nat)} {x : Int32} (hd : decode (xby mi) pc = .ok (.tableswitch dflt lo hi offs, len)) (ho : xtbl pc a dflt lo hi offs.toList ts = true) (h : xsw (fun p => V d c z mi p lv st S Q) x a ts) : V d c z mi pc lv (.inl x :: st) S Q := by
  unfold xtbl at ho
  simp only [Bool.and_eq_true, decide_eq_true_eq] at ho
  obtain ⟨⟨⟨h1, h2⟩, h3⟩, h4⟩ := ho
  have h1 := Nat.eq_of_beq_eq_true h1
  intro p l e R s m args below meth c0 H locs ls cells slots mc ms D B L0 L C hc hz hRc hRs hB hL hW hS hlv hst hl
  rcases xsw_s h with ⟨j, q, hj, hx, -, hk⟩ | ⟨hn, hk⟩
  · have hjl : j < offs.toList.length := by rw [← h1]; exact (List.getElem?_eq_some_iff.mp hj).1
    have h5 := xall_at h4 hjl
    rw [hj] at h5
    cases ho : offs.toList[j]? with
    | none => rw [ho] at h5; cases h5
    | some o =>
      rw [ho] at h5
      simp only [Bool.and_eq_true, decide_eq_true_eq] at h5
      have hxi : x.toInt = lo + j := by rw [hx]; exact h5.1
      refine lv_tableIn C.1 C.2.1 hd (off := o) (by omega) (by omega) ?_ h5.2 (hk p l e R s m args below meth c0 H locs ls cells slots mc ms D B L0 L C hc hz hRc hRs hB hL hW hS hlv (xtl hst) hl)
      rw [show (x.toInt - lo).toNat = j by omega, ← Array.getElem?_toList]
      exact ho
  · refine lv_tableOut C.1 C.2.1 hd ?_ h3 (hk p l e R s m args below meth c0 H locs ls cells slots mc ms D B L0 L C hc hz hRc hRs hB hL hW hS hlv (xtl hst) hl)
    rcases Int.lt_or_le x.toInt lo with q | q
    · exact Or.inl q
    · rcases Int.lt_or_le hi x.toInt with q2 | q2
      · exact Or.inr q2
      · exfalso
        have hjl : (x.toInt - lo).toNat < offs.toList.length := by omega
        have h5 := xall_at h4 hjl
        cases hq : ts[(x.toInt - lo).toNat]? with
        | none => rw [hq] at h5; cases h5
        | some p =>
          cases hq2 : offs.toList[(x.toInt - lo).toNat]? with
          | none => rw [hq, hq2] at h5; cases h5
          | some o =>
            rw [hq, hq2] at h5
            simp only [Bool.and_eq_true, decide_eq_true_eq] at h5
            exact hn p (List.mem_of_getElem? hq) (Int32.toInt_inj.mp (by rw [h5.1]; omega))
theorem vs_look {dflt : Int} {ps : Array (Int × Int)} {len a : Nat} {ts : List (Int32 × Nat)} {x : Int32} (hd : decode (xby mi) pc = .ok (.lookupswitch dflt ps, len)) (ho : xlkp pc a dflt ps.toList ts = true) (h : xsw (fun p => V d c z mi p lv st S Q) x a ts) : V d c z mi pc lv (.inl x :: st) S Q := by
  unfold xlkp at ho
  simp only [Bool.and_eq_true, decide_eq_true_eq] at ho
  obtain ⟨⟨⟨h1, h2⟩, h3⟩, h4⟩ := ho
  have h1 := Nat.eq_of_beq_eq_true h1
  have hb : ∀ (i : Nat) (q : Int32 × Nat) (o : Int × Int), ts[i]? = some q → ps.toList[i]? = some o → q.1.toInt = o.1 ∧ (pc : Int) + o.2 = (q.2 : Int) := fun i q o e1 e2 => by
    have h5 := xall_at h4 (List.getElem?_eq_some_iff.mp e2).1
    rw [e1, e2] at h5
    simpa only [Bool.and_eq_true, decide_eq_true_eq] using h5
  have hx := xoff (x := x) (d := dflt) h1 (fun i q o e1 e2 => (hb i q o e1 e2).1)
  intro p l e R s m args below meth c0 H locs ls cells slots mc ms D B L0 L C hc hz hRc hRs hB hL hW hS hlv hst hl
  rcases xsw_s h with ⟨j, q, hj, hxq, hlt, hk⟩ | ⟨hn, hk⟩
  · have hjl : j < ps.toList.length := by rw [← h1]; exact (List.getElem?_eq_some_iff.mp hj).1
    cases ho : ps.toList[j]? with
    | none => exact absurd hjl (by have := List.getElem?_eq_none_iff.mp ho; omega)
    | some o => exact lv_lookup C.1 C.2.1 hd h3 (hx.1 j q hj hxq hlt o ho) (hb j q o hj ho).2 (hk p l e R s m args below meth c0 H locs ls cells slots mc ms D B L0 L C hc hz hRc hRs hB hL hW hS hlv (xtl hst) hl)
  · exact lv_lookup C.1 C.2.1 hd h3 (hx.2 hn) h2 (hk p l e R s m args below meth c0 H locs ls cells slots mc ms D B L0 L C hc hz hRc hRs hB hL hW hS hlv (xtl hst) hl)
theorem xflk {idx a b wi : Nat} {v : Int32} (h : xfl1 mi idx a b wi v = true) : ∃ (Cn : String) (T : u_T) (N : Nat), classes[a]? = some (Cn, T, N) ∧ b < N ∧ (Cond.fieldLink (mt mi).1.cls idx (T b).1 (T b).2.1 (T b).2.2.1 ∈ xT ∨ Cond.fieldLinkNest (mt mi).1.cls idx (T b).1 (T b).2.1 (T b).2.2.1 "MonsoonTrade" ∈ xN) := by
  unfold xfl1 at h
  split at h
  · rename_i q hq
    simp only [Bool.and_eq_true] at h
    refine ⟨q.1, q.2.1, q.2.2, hq, Nat.le_of_ble_eq_true h.1, ?_⟩
    have h2 := h.2
    cases hv : decide (v = 0) with
    | true => rw [hv] at h2; exact Or.inl (xwd_mem h2)
    | false => rw [hv] at h2; exact Or.inr (xwn_mem h2)
  · cases h
theorem xmlk {idx a wi : Nat} {v : Int32} (h : xml1 mi idx a wi v = true) : a < 201 ∧ (Cond.methodLink (mt mi).1.cls idx (mt a).1 ∈ xT ∨ Cond.methodLinkNest (mt mi).1.cls idx (mt a).1 "MonsoonTrade" ∈ xN) := by
  unfold xml1 at h
  simp only [Bool.and_eq_true] at h
  refine ⟨Nat.le_of_ble_eq_true h.1, ?_⟩
  have h2 := h.2
  cases hv : decide (v = 0) with
  | true => rw [hv] at h2; exact Or.inl (xwd_mem h2)
  | false => rw [hv] at h2; exact Or.inr (xwn_mem h2)
theorem xnz {x : Int32} (h : x = 0 ∨ x = 1) : narrow .boolean (.int x) = .int x ∧ fits .boolean (.int x) = true := by
  rcases h with rfl | rfl <;> exact ⟨by decide, by decide⟩
theorem vs_ifc {o : Jvm.ClassFile.Cond} {x : Int32} {off : Int} {tgt : Nat} (hd : decode (xby mi) pc = .ok (.ifCond o off, 3)) (ht : (pc : Int) + off = (tgt : Int)) (h : xcmp o x 0 (V d c z mi tgt lv st S Q) (V d c z mi (pc + 3) lv st S Q)) : V d c z mi pc lv (.inl x :: st) S Q := by
  cases o
  · exact vs_if_eq hd ht h.1 h.2
  · exact vs_if_ne hd ht h.1 h.2
  · exact vs_if_lt hd ht h.1 h.2
  · exact vs_if_ge hd ht h.1 h.2
  · exact vs_if_gt hd ht h.1 h.2
  · exact vs_if_le hd ht h.1 h.2
theorem vs_icmp {o : Jvm.ClassFile.Cond} {x y : Int32} {off : Int} {tgt : Nat} (hd : decode (xby mi) pc = .ok (.if_icmp o off, 3)) (ht : (pc : Int) + off = (tgt : Int)) (h : xcmp o x y (V d c z mi tgt lv st S Q) (V d c z mi (pc + 3) lv st S Q)) : V d c z mi pc lv (.inl y :: .inl x :: st) S Q := by
  cases o
  · exact vs_icmp_eq hd ht h.1 h.2
  · exact vs_icmp_ne hd ht h.1 h.2
  · exact vs_icmp_lt hd ht h.1 h.2
  · exact vs_icmp_ge hd ht h.1 h.2
  · exact vs_icmp_gt hd ht h.1 h.2
  · exact vs_icmp_le hd ht h.1 h.2
set_option maxHeartbeats 4000000 in
theorem V_stepI (ins : Instr) (len a b : Nat) (v : Int32) (w : Int64) (ts : List (Int32 × Nat)) (wi : Nat) (hd : decode (xby mi) pc = .ok (ins, len)) (ho : okO mi pc ins len a b v w ts wi = true) (h : stpI d mi lv st S Q (fun pc lv st S => V d c z mi pc lv st S Q) ins a b v w ts (pc + len)) : V d c z mi pc lv st S Q := by
  cases ins with
  | iconst n =>
    dsimp only [stpI] at h
    simp only [okO, Bool.and_eq_true, decide_eq_true_eq] at ho
    obtain ⟨h1, h2⟩ := ho
    obtain rfl := Nat.eq_of_beq_eq_true h1
    exact vs_iconst hd h2 h
  | bipush n =>
    dsimp only [stpI] at h
    simp only [okO, Bool.and_eq_true, decide_eq_true_eq] at ho
    obtain ⟨h1, h2⟩ := ho
    obtain rfl := Nat.eq_of_beq_eq_true h1
    exact vs_bipush hd h2 h
  | sipush n =>
    dsimp only [stpI] at h
    simp only [okO, Bool.and_eq_true, decide_eq_true_eq] at ho
    obtain ⟨h1, h2⟩ := ho
    obtain rfl := Nat.eq_of_beq_eq_true h1
    exact vs_sipush hd h2 h
  | lconst n =>
    dsimp only [stpI] at h
    simp only [okO, Bool.and_eq_true, decide_eq_true_eq] at ho
    obtain ⟨h1, h2⟩ := ho
    obtain rfl := Nat.eq_of_beq_eq_true h1
    exact vs_lconst hd h2 h
  | ldc i =>
    dsimp only [stpI] at h
    simp only [okO, Bool.and_eq_true] at ho
    obtain ⟨h1, h2⟩ := ho
    obtain rfl := Nat.eq_of_beq_eq_true h1
    split at h
    · exact vs_ldc hd (xwd_mem h2) h
    · simp only [Bool.and_eq_true, decide_eq_true_eq] at h2
      exact vs_ldcs hd (Nat.le_of_ble_eq_true h2.1) h2.2.1 h2.2.2 h
    · exact h.elim
  | ldc_w i =>
    dsimp only [stpI] at h
    simp only [okO, Bool.and_eq_true, decide_eq_true_eq] at ho
    obtain ⟨h1, h2⟩ := ho
    obtain rfl := Nat.eq_of_beq_eq_true h1
    obtain ⟨ha, g1⟩ := xb_s h
    rw [ha] at h2
    exact vs_ldc_w hd (xwd_mem (by simpa using h2)) g1
  | ldc2_w i =>
    dsimp only [stpI] at h
    simp only [okO, Bool.and_eq_true, decide_eq_true_eq] at ho
    obtain ⟨h1, h2⟩ := ho
    obtain rfl := Nat.eq_of_beq_eq_true h1
    exact vs_ldc2 hd (xwd_mem h2) h
  | iload i =>
    dsimp only [stpI] at h
    simp only [okO, Bool.and_eq_true, decide_eq_true_eq] at ho
    obtain ⟨h1, h2⟩ := ho
    obtain rfl := Nat.eq_of_beq_eq_true h1
    obtain rfl := Nat.eq_of_beq_eq_true h2
    obtain ⟨x, hg, g1⟩ := xgi_s h
    exact vs_iload hd hg g1
  | iload_n k =>
    dsimp only [stpI] at h
    simp only [okO, Bool.and_eq_true, decide_eq_true_eq] at ho
    obtain ⟨h1, h2⟩ := ho
    obtain rfl := Nat.eq_of_beq_eq_true h1
    obtain rfl := Nat.eq_of_beq_eq_true h2
    obtain ⟨x, hg, g1⟩ := xgi_s h
    exact vs_iload_n hd hg g1
  | lload i =>
    dsimp only [stpI] at h
    simp only [okO, Bool.and_eq_true, decide_eq_true_eq] at ho
    obtain ⟨h1, h2⟩ := ho
    obtain rfl := Nat.eq_of_beq_eq_true h1
    obtain rfl := Nat.eq_of_beq_eq_true h2
    obtain ⟨x, hg, g1⟩ := xgj_s h
    exact vs_lload hd hg g1
  | lload_n k =>
    dsimp only [stpI] at h
    simp only [okO, Bool.and_eq_true, decide_eq_true_eq] at ho
    obtain ⟨h1, h2⟩ := ho
    obtain rfl := Nat.eq_of_beq_eq_true h1
    obtain rfl := Nat.eq_of_beq_eq_true h2
    obtain ⟨x, hg, g1⟩ := xgj_s h
    exact vs_lload_n hd hg g1
  | aload i =>
    dsimp only [stpI] at h
    simp only [okO, Bool.and_eq_true, decide_eq_true_eq] at ho
    obtain ⟨h1, h2⟩ := ho
    obtain rfl := Nat.eq_of_beq_eq_true h1
    obtain rfl := Nat.eq_of_beq_eq_true h2
    obtain ⟨x, hg, g1⟩ := xgp_s h
    exact vs_aload hd hg g1
  | aload_n k =>
    dsimp only [stpI] at h
    simp only [okO, Bool.and_eq_true, decide_eq_true_eq] at ho
    obtain ⟨h1, h2⟩ := ho
    obtain rfl := Nat.eq_of_beq_eq_true h1
    obtain rfl := Nat.eq_of_beq_eq_true h2
    obtain ⟨x, hg, g1⟩ := xgp_s h
    exact vs_aload_n hd hg g1
  | istore i =>
    dsimp only [stpI] at h
    simp only [okO, Bool.and_eq_true, decide_eq_true_eq] at ho
    obtain ⟨⟨h1, h2⟩, h3⟩ := ho
    obtain rfl := Nat.eq_of_beq_eq_true h1
    obtain rfl := Nat.eq_of_beq_eq_true h2
    obtain ⟨x, t, rfl, g1⟩ := xi1_s h
    exact vs_istore hd (Nat.le_of_ble_eq_true h3) g1
  | istore_n k =>
    dsimp only [stpI] at h
    simp only [okO, Bool.and_eq_true, decide_eq_true_eq] at ho
    obtain ⟨⟨h1, h2⟩, h3⟩ := ho
    obtain rfl := Nat.eq_of_beq_eq_true h1
    obtain rfl := Nat.eq_of_beq_eq_true h2
    obtain ⟨x, t, rfl, g1⟩ := xi1_s h
    exact vs_istore_n hd rfl (Nat.le_of_ble_eq_true h3) g1
  | lstore i =>
    dsimp only [stpI] at h
    simp only [okO, Bool.and_eq_true, decide_eq_true_eq] at ho
    obtain ⟨⟨h1, h2⟩, h3⟩ := ho
    obtain rfl := Nat.eq_of_beq_eq_true h1
    obtain rfl := Nat.eq_of_beq_eq_true h2
    obtain ⟨x, t, rfl, g1⟩ := xj1_s h
    exact vs_lstore hd (Nat.le_of_ble_eq_true h3) g1
  | lstore_n k =>
    dsimp only [stpI] at h
    simp only [okO, Bool.and_eq_true, decide_eq_true_eq] at ho
    obtain ⟨⟨h1, h2⟩, h3⟩ := ho
    obtain rfl := Nat.eq_of_beq_eq_true h1
    obtain rfl := Nat.eq_of_beq_eq_true h2
    obtain ⟨x, t, rfl, g1⟩ := xj1_s h
    exact vs_lstore_n hd rfl (Nat.le_of_ble_eq_true h3) g1
  | astore i =>
    dsimp only [stpI] at h
    simp only [okO, Bool.and_eq_true, decide_eq_true_eq] at ho
    obtain ⟨⟨h1, h2⟩, h3⟩ := ho
    obtain rfl := Nat.eq_of_beq_eq_true h1
    obtain rfl := Nat.eq_of_beq_eq_true h2
    obtain ⟨k0, i0, t, rfl, g1⟩ := xp1_s h
    exact vs_astore hd (Nat.le_of_ble_eq_true h3) g1
  | astore_n k =>
    dsimp only [stpI] at h
    simp only [okO, Bool.and_eq_true, decide_eq_true_eq] at ho
    obtain ⟨⟨h1, h2⟩, h3⟩ := ho
    obtain rfl := Nat.eq_of_beq_eq_true h1
    obtain rfl := Nat.eq_of_beq_eq_true h2
    obtain ⟨k0, i0, t, rfl, g1⟩ := xp1_s h
    exact vs_astore_n hd rfl (Nat.le_of_ble_eq_true h3) g1
  | iinc i n =>
    dsimp only [stpI] at h
    simp only [okO, Bool.and_eq_true, decide_eq_true_eq] at ho
    obtain ⟨⟨⟨h1, h2⟩, h3⟩, h4⟩ := ho
    obtain rfl := Nat.eq_of_beq_eq_true h1
    obtain rfl := Nat.eq_of_beq_eq_true h2
    obtain ⟨x, hg, g1⟩ := xgi_s h
    exact vs_iinc hd hg h4 (Nat.le_of_ble_eq_true h3) g1
  | iadd =>
    dsimp only [stpI] at h
    obtain rfl := Nat.eq_of_beq_eq_true ho
    obtain ⟨x, y, t, rfl, g1⟩ := xi2_s h
    exact vs_iadd hd g1
  | isub =>
    dsimp only [stpI] at h
    obtain rfl := Nat.eq_of_beq_eq_true ho
    obtain ⟨x, y, t, rfl, g1⟩ := xi2_s h
    exact vs_isub hd g1
  | imul =>
    dsimp only [stpI] at h
    obtain rfl := Nat.eq_of_beq_eq_true ho
    obtain ⟨x, y, t, rfl, g1⟩ := xi2_s h
    exact vs_imul hd g1
  | iand =>
    dsimp only [stpI] at h
    obtain rfl := Nat.eq_of_beq_eq_true ho
    obtain ⟨x, y, t, rfl, g1⟩ := xi2_s h
    exact vs_iand hd g1
  | ishr =>
    dsimp only [stpI] at h
    obtain rfl := Nat.eq_of_beq_eq_true ho
    obtain ⟨x, y, t, rfl, g1⟩ := xi2_s h
    exact vs_ishr hd g1
  | idiv =>
    dsimp only [stpI] at h
    obtain rfl := Nat.eq_of_beq_eq_true ho
    obtain ⟨x, y, t, rfl, h0, g1⟩ := xi2_s h
    exact vs_idiv hd h0 g1
  | irem =>
    dsimp only [stpI] at h
    obtain rfl := Nat.eq_of_beq_eq_true ho
    obtain ⟨x, y, t, rfl, h0, g1⟩ := xi2_s h
    exact vs_irem hd h0 g1
  | ladd =>
    dsimp only [stpI] at h
    obtain rfl := Nat.eq_of_beq_eq_true ho
    obtain ⟨x, y, t, rfl, g1⟩ := xj2_s h
    exact vs_ladd hd g1
  | lsub =>
    dsimp only [stpI] at h
    obtain rfl := Nat.eq_of_beq_eq_true ho
    obtain ⟨x, y, t, rfl, g1⟩ := xj2_s h
    exact vs_lsub hd g1
  | lmul =>
    dsimp only [stpI] at h
    obtain rfl := Nat.eq_of_beq_eq_true ho
    obtain ⟨x, y, t, rfl, g1⟩ := xj2_s h
    exact vs_lmul hd g1
  | land =>
    dsimp only [stpI] at h
    obtain rfl := Nat.eq_of_beq_eq_true ho
    obtain ⟨x, y, t, rfl, g1⟩ := xj2_s h
    exact vs_land hd g1
  | lor =>
    dsimp only [stpI] at h
    obtain rfl := Nat.eq_of_beq_eq_true ho
    obtain ⟨x, y, t, rfl, g1⟩ := xj2_s h
    exact vs_lor hd g1
  | lcmp =>
    dsimp only [stpI] at h
    obtain rfl := Nat.eq_of_beq_eq_true ho
    obtain ⟨x, y, t, rfl, g1⟩ := xj2_s h
    exact vs_lcmp hd g1
  | ldiv =>
    dsimp only [stpI] at h
    obtain rfl := Nat.eq_of_beq_eq_true ho
    obtain ⟨x, y, t, rfl, h0, g1⟩ := xj2_s h
    exact vs_ldiv hd h0 g1
  | lshl =>
    dsimp only [stpI] at h
    obtain rfl := Nat.eq_of_beq_eq_true ho
    obtain ⟨x, y, t, rfl, g1⟩ := xij_s h
    exact vs_lshl hd g1
  | lshr =>
    dsimp only [stpI] at h
    obtain rfl := Nat.eq_of_beq_eq_true ho
    obtain ⟨x, y, t, rfl, g1⟩ := xij_s h
    exact vs_lshr hd g1
  | ineg =>
    dsimp only [stpI] at h
    obtain rfl := Nat.eq_of_beq_eq_true ho
    obtain ⟨x, t, rfl, g1⟩ := xi1_s h
    exact vs_ineg hd g1
  | i2l =>
    dsimp only [stpI] at h
    obtain rfl := Nat.eq_of_beq_eq_true ho
    obtain ⟨x, t, rfl, g1⟩ := xi1_s h
    exact vs_i2l hd g1
  | i2b =>
    dsimp only [stpI] at h
    obtain rfl := Nat.eq_of_beq_eq_true ho
    obtain ⟨x, t, rfl, g1⟩ := xi1_s h
    exact vs_i2b hd g1
  | i2s =>
    dsimp only [stpI] at h
    obtain rfl := Nat.eq_of_beq_eq_true ho
    obtain ⟨x, t, rfl, g1⟩ := xi1_s h
    exact vs_i2s hd g1
  | i2c =>
    dsimp only [stpI] at h
    obtain rfl := Nat.eq_of_beq_eq_true ho
    obtain ⟨x, t, rfl, g1⟩ := xi1_s h
    exact vs_i2c hd g1
  | l2i =>
    dsimp only [stpI] at h
    obtain rfl := Nat.eq_of_beq_eq_true ho
    obtain ⟨x, t, rfl, g1⟩ := xj1_s h
    exact vs_l2i hd g1
  | dup =>
    dsimp only [stpI] at h
    obtain rfl := Nat.eq_of_beq_eq_true ho
    cases st with
    | nil => exact (show False from h).elim
    | cons u t =>
      obtain ⟨hv, g1⟩ := xb_s h
      exact vs_dup hd (by simpa using hv) g1
  | dup2 =>
    dsimp only [stpI] at h
    obtain rfl := Nat.eq_of_beq_eq_true ho
    cases st with
    | nil => exact (show False from h).elim
    | cons u t =>
      cases t with
      | nil => exact (show False from h).elim
      | cons u2 t =>
        obtain ⟨hv, g1⟩ := xb_s h
        simp only [Bool.and_eq_true, Bool.not_eq_true'] at hv
        exact vs_dup2 hd hv.1 hv.2 g1
  | pop =>
    dsimp only [stpI] at h
    obtain rfl := Nat.eq_of_beq_eq_true ho
    cases st with
    | nil => exact (show False from h).elim
    | cons u t =>
      obtain ⟨hv, g1⟩ := xb_s h
      exact vs_pop hd (by simpa using hv) g1
  | ifCond o off =>
    dsimp only [stpI] at h
    simp only [okO, Bool.and_eq_true, decide_eq_true_eq] at ho
    obtain ⟨h1, h2⟩ := ho
    obtain rfl := Nat.eq_of_beq_eq_true h1
    obtain ⟨x, t, rfl, g1⟩ := xi1_s h
    exact vs_ifc hd h2 g1
  | if_icmp o off =>
    dsimp only [stpI] at h
    simp only [okO, Bool.and_eq_true, decide_eq_true_eq] at ho
    obtain ⟨h1, h2⟩ := ho
    obtain rfl := Nat.eq_of_beq_eq_true h1
    obtain ⟨x, y, t, rfl, g1⟩ := xi2_s h
    exact vs_icmp hd h2 g1
  | goto off =>
    dsimp only [stpI] at h
    simp only [okO, Bool.and_eq_true, decide_eq_true_eq] at ho
    obtain ⟨h2, h1⟩ := ho
    obtain rfl := Nat.eq_of_beq_eq_true h1
    exact vs_goto hd h2 h
  | tableswitch dflt lo hi offs =>
    dsimp only [stpI] at h
    obtain ⟨x, t, rfl, g1⟩ := xi1_s h
    exact vs_table hd ho g1
  | lookupswitch dflt ps =>
    dsimp only [stpI] at h
    obtain ⟨x, t, rfl, g1⟩ := xi1_s h
    exact vs_look hd ho g1
  | getfield i =>
    dsimp only [stpI] at h
    simp only [okO, Bool.and_eq_true, decide_eq_true_eq] at ho
    obtain ⟨h1, h2⟩ := ho
    obtain rfl := Nat.eq_of_beq_eq_true h1
    obtain ⟨k, j, t, rfl, g1⟩ := xp1_s h
    obtain ⟨ci, sl, hsh, g2⟩ := xsob_s g1
    obtain ⟨hci, g3⟩ := xb_s g2
    obtain rfl := Nat.eq_of_beq_eq_true hci
    obtain ⟨o, ho, g4⟩ := xlk_s g3
    cases h99 : Nat.beq ci 99 with
    | true =>
      rw [h99] at h2
      obtain rfl := Nat.eq_of_beq_eq_true h99
      exact vs_getsf hd hsh ho (xwd_mem h2) g4
    | false =>
      rw [h99] at h2
      obtain ⟨Cn, T, N, hcl, hb, hlk⟩ := xflk h2
      exact vs_getf hd hsh ho hcl hb hlk g4
  | putfield i =>
    dsimp only [stpI] at h
    simp only [okO, Bool.and_eq_true, decide_eq_true_eq] at ho
    obtain ⟨⟨h1, h2⟩, h3⟩ := ho
    obtain rfl := Nat.eq_of_beq_eq_true h1
    obtain ⟨x, k, j, t, rfl, g1⟩ := xip_s h
    obtain ⟨ci, sl, hsh, g2⟩ := xsob_s g1
    obtain ⟨hci, g3⟩ := xb_s g2
    simp only [Bool.and_eq_true, Bool.not_eq_true'] at hci
    obtain rfl := Nat.eq_of_beq_eq_true hci.1
    obtain ⟨o, ho, g4⟩ := xlk_s g3
    obtain ⟨Cn, T, N, hcl, hb, hlk⟩ := xflk h2
    unfold xfl2 at h3
    rw [hcl] at h3
    simp only [Bool.and_eq_true, decide_eq_true_eq] at h3
    cases o with
    | some q => exact (show False from g4).elim
    | none =>
      cases ts with
      | nil => exact vs_putf hd hsh ho hcl hb hlk h3.1 (ty := .int) h3.2 rfl rfl hci.2 g4
      | cons t0 ts => exact vs_putf hd hsh ho hcl hb hlk h3.1 (ty := .boolean) h3.2 (xnz g4.1).1 (xnz g4.1).2 hci.2 g4.2
  | getstatic i =>
    dsimp only [stpI] at h
    simp only [okO, Bool.and_eq_true] at ho
    obtain ⟨h1, h2⟩ := ho
    obtain rfl := Nat.eq_of_beq_eq_true h1
    split at h
    · exact vs_under hd (xwn_mem h2) h
    · exact vs_compact hd (xwd_mem h2) h
    · exact h.elim
  | iaload =>
    dsimp only [stpI] at h
    obtain rfl := Nat.eq_of_beq_eq_true ho
    obtain ⟨j, k, i, t, rfl, g1⟩ := xip_s h
    obtain ⟨ty, n, rk, hsh, g2⟩ := xsar_s g1
    try dsimp only at g2
    split at g2
    · exact vs_iaload hd hsh g2.1 g2.2
    · exact g2.elim
  | baload =>
    dsimp only [stpI] at h
    obtain rfl := Nat.eq_of_beq_eq_true ho
    obtain ⟨j, k, i, t, rfl, g1⟩ := xip_s h
    obtain ⟨ty, n, rk, hsh, g2⟩ := xsar_s g1
    try dsimp only at g2
    split at g2
    · exact vs_baload hd hsh g2.1 g2.2
    · exact vs_zaload hd hsh g2.1 g2.2
    · exact g2.elim
  | caload =>
    dsimp only [stpI] at h
    obtain rfl := Nat.eq_of_beq_eq_true ho
    obtain ⟨j, k, i, t, rfl, g1⟩ := xip_s h
    obtain ⟨ty, n, rk, hsh, g2⟩ := xsar_s g1
    try dsimp only at g2
    split at g2
    · exact vs_caload hd hsh g2.1 g2.2
    · exact g2.elim
  | laload =>
    dsimp only [stpI] at h
    obtain rfl := Nat.eq_of_beq_eq_true ho
    obtain ⟨j, k, i, t, rfl, g1⟩ := xip_s h
    obtain ⟨ty, n, rk, hsh, g2⟩ := xsar_s g1
    try dsimp only at g2
    split at g2
    · exact vs_laload hd hsh g2.1 g2.2
    · exact g2.elim
  | aaload =>
    dsimp only [stpI] at h
    obtain rfl := Nat.eq_of_beq_eq_true ho
    obtain ⟨j, k, i, t, rfl, g1⟩ := xip_s h
    obtain ⟨ty, n, rk, hsh, g2⟩ := xsar_s g1
    try dsimp only at g2
    split at g2
    · obtain ⟨hn, g3⟩ := xb_s g2
      exact vs_aaload hd hsh (by simpa using hn) g3.1 g3.2
    · exact g2.elim
  | arraylength =>
    dsimp only [stpI] at h
    obtain rfl := Nat.eq_of_beq_eq_true ho
    obtain ⟨k, i, t, rfl, g1⟩ := xp1_s h
    obtain ⟨ty, n, rk, hsh, g2⟩ := xsar_s g1
    exact vs_alen hd hsh g2
  | iastore =>
    dsimp only [stpI] at h
    obtain rfl := Nat.eq_of_beq_eq_true ho
    obtain ⟨x, j, k, i, t, rfl, g1⟩ := xiip_s h
    obtain ⟨ty, n, rk, hsh, g2⟩ := xsar_s g1
    obtain ⟨hn, g3⟩ := xb_s g2
    simp only [Bool.and_eq_true, Bool.not_eq_true'] at hn
    try dsimp only at g3
    split at g3
    · exact vs_iastore hd hsh hn.1 hn.2 g3.1 g3.2
    · exact g3.elim
  | bastore =>
    dsimp only [stpI] at h
    obtain rfl := Nat.eq_of_beq_eq_true ho
    obtain ⟨x, j, k, i, t, rfl, g1⟩ := xiip_s h
    obtain ⟨ty, n, rk, hsh, g2⟩ := xsar_s g1
    obtain ⟨hn, g3⟩ := xb_s g2
    simp only [Bool.and_eq_true, Bool.not_eq_true'] at hn
    try dsimp only at g3
    split at g3
    · exact vs_bastore hd hsh hn.1 hn.2 g3.1 g3.2
    · exact vs_zastore hd hsh hn.1 hn.2 g3.1 g3.2
    · exact g3.elim
  | lastore =>
    dsimp only [stpI] at h
    obtain rfl := Nat.eq_of_beq_eq_true ho
    obtain ⟨x, j, k, i, t, rfl, g1⟩ := xjip_s h
    obtain ⟨ty, n, rk, hsh, g2⟩ := xsar_s g1
    obtain ⟨hn, g3⟩ := xb_s g2
    simp only [Bool.and_eq_true, Bool.not_eq_true'] at hn
    try dsimp only at g3
    split at g3
    · exact vs_lastore hd hsh hn.1 hn.2 g3.1 g3.2
    · exact g3.elim
  | ireturn =>
    dsimp only [stpI] at h
    simp only [okO, Bool.and_eq_true, decide_eq_true_eq] at ho
    obtain ⟨h1, h2⟩ := ho
    obtain rfl := Nat.eq_of_beq_eq_true h1
    split at h
    · split at h
      · exact vs_ireturn hd (by simpa using h2) rfl h
      · exact vs_ireturn hd (by simpa using h2) (xnz h.1).1 h.2
      · exact vs_ireturn hd (by simpa using h2) h.1 h.2
      · exact vs_ireturn hd (by simpa using h2) h.1 h.2
      · exact h.elim
    · exact h.elim
  | lreturn =>
    dsimp only [stpI] at h
    simp only [okO, Bool.and_eq_true, decide_eq_true_eq] at ho
    obtain ⟨h1, h2⟩ := ho
    obtain rfl := Nat.eq_of_beq_eq_true h1
    split at h
    · exact vs_lreturn hd h2 h
    · exact h.elim
  | return_ =>
    dsimp only [stpI] at h
    simp only [okO, Bool.and_eq_true, decide_eq_true_eq] at ho
    obtain ⟨h1, h2⟩ := ho
    obtain rfl := Nat.eq_of_beq_eq_true h1
    split at h
    · exact vs_vreturn hd h2 h
    · exact h.elim
  | invokestatic i =>
    dsimp only [stpI] at h
    simp only [okO, Bool.and_eq_true, decide_eq_true_eq] at ho
    obtain ⟨h1, h2⟩ := ho
    obtain rfl := Nat.eq_of_beq_eq_true h1
    obtain ⟨d, rfl, g1⟩ := xdn_s h
    try dsimp only at g1
    split at g1
    · rename_i hle
      obtain ⟨av, rest, rfl, hlen, g2⟩ := xtk_s g1
      obtain ⟨hc8, g3⟩ := xb_s g2
      simp only [Bool.and_eq_true] at hc8
      rw [List.append_nil] at g3
      split at h2
      · cases hle
      · cases hle
      · cases hle
      · cases hle
      · simp only [Bool.or_eq_true, Bool.and_eq_true, decide_eq_true_eq] at h2
        rcases h2 with h2 | h2
        · rw [h2] at hle; cases hle
        · subst hlen
          obtain ⟨hlt, hlk⟩ := xmlk h2.1.1
          exact vs_callS (c' := 0) (z' := 0) hd (xmok_all hlt) h2.1.2 hlk h2.2 (Nat.le_of_ble_eq_true hc8.1.1) hc8.1.2 hc8.2 g3
    · split at g1
      · obtain ⟨n, dp, q, sp, q0, t, rfl, g4⟩ := xcpa_s g1
        obtain ⟨hc8, g5⟩ := xb_s g4
        simp only [Bool.and_eq_true, Bool.not_eq_true'] at hc8
        obtain ⟨ty0, n0, r0, hsh0, g6⟩ := xsar_s g5
        obtain ⟨ty, n1, r1, hsh, g7⟩ := xsar_s g6
        obtain ⟨hn, g8⟩ := xb_s g7
        try dsimp only at g8
        split at g8
        · split at g8
          · exact vs_copy hd (xwd_mem h2) (Nat.le_of_ble_eq_true hc8.1) hsh0 hsh (by simpa using hn) hc8.2.1 hc8.2.2 g8.1 g8.2.1 g8.2.2.1 g8.2.2.2.1 g8.2.2.2.2.1 g8.2.2.2.2.2
          · exact g8.elim
        · exact g8.elim
      · obtain ⟨x, y, t, rfl, g9⟩ := xi2_s g1
        obtain ⟨hc8, g10⟩ := xb_s g9
        exact vs_max hd (xwd_mem h2) (Nat.le_of_ble_eq_true hc8) g10
      · obtain ⟨x, y, t, rfl, g11⟩ := xi2_s g1
        obtain ⟨hc8, g12⟩ := xb_s g11
        exact vs_min hd (xwd_mem h2) (Nat.le_of_ble_eq_true hc8) g12
      · obtain ⟨x, t, rfl, g13⟩ := xi1_s g1
        obtain ⟨hc8, g14⟩ := xb_s g13
        exact vs_abs hd (xwd_mem h2) (Nat.le_of_ble_eq_true hc8) g14
      · exact g1.elim
  | invokevirtual i =>
    dsimp only [stpI] at h
    simp only [okO, Bool.and_eq_true, decide_eq_true_eq] at ho
    obtain ⟨h1, h2⟩ := ho
    obtain rfl := Nat.eq_of_beq_eq_true h1
    obtain ⟨d, rfl, g1⟩ := xdn_s h
    obtain ⟨av, rest, rfl, hlen, g2⟩ := xtk_s g1
    rw [List.append_nil] at g2
    obtain ⟨k, j, av, rfl, g3⟩ := xrcv_s g2
    obtain ⟨ci, sl, hsh, g4⟩ := xsob_s g3
    obtain ⟨hci, g5⟩ := xb_s g4
    simp only [Bool.and_eq_true, Bool.not_eq_true'] at hci
    obtain ⟨hc1, hci⟩ := hci
    obtain rfl := Nat.eq_of_beq_eq_true hci
    obtain ⟨hc8, g6⟩ := xb_s g5
    simp only [Bool.and_eq_true] at hc8
    simp only [Bool.or_eq_true, Bool.and_eq_true, decide_eq_true_eq] at h2
    rcases h2 with h2 | h2
    · rw [hc1] at h2; cases h2
    · obtain ⟨⟨⟨⟨h3, h4⟩, h5⟩, h6⟩, h7⟩ := h2
      obtain ⟨hlt, hlk⟩ := xmlk h3
      have hcl : ((mt a).2.2.2.2.2.2.2.2.2.2 = 99 ∧ (mt a).1.cls = "java/lang/String") ∨ ∃ T N, classes[(mt a).2.2.2.2.2.2.2.2.2.2]? = some ((mt a).1.cls, T, N) := by
        cases h99 : Nat.beq (mt a).2.2.2.2.2.2.2.2.2.2 99 with
        | true =>
          rw [h99] at h7
          exact Or.inl ⟨Nat.eq_of_beq_eq_true h99, by simpa using h7⟩
        | false =>
          rw [h99] at h7
          cases hq : classes[(mt a).2.2.2.2.2.2.2.2.2.2]? with
          | none => rw [hq] at h7; cases h7
          | some r =>
            rw [hq] at h7
            have hr : r.1 = (mt a).1.cls := by simpa using h7
            obtain ⟨rc, rT, rN⟩ := r
            dsimp only at hr
            subst hr
            exact Or.inr ⟨rT, rN, rfl⟩
      rw [show b - 1 = av.length by rw [← hlen]; simp] at h6
      have := vs_callV (c' := 0) (z' := 0) hd (xmok_all hlt) (by simpa using h4) hlk hsh hcl h6 (Nat.le_of_ble_eq_true hc8.1.1) hc8.1.2 hc8.2 g6
      simpa using this
  | _ => exact (show False from h).elim
end XS1
