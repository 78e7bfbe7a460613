/-! the law's thirty cases (written by law2.py) -/
section LAW
variable {p : Program} {l : Launch} {e : Env} {R : Room} {s : State} {m : MethodId} {args : Array Value} {below : List Frame} {meth : Method} {c : Code} {H : Heap} {locs : List Loc} {cells slots b Lw n B x0 y0 : Nat} {D : va_G} {L : xL} {S : xS} {Q : State → Prop} {ls : Array Slot} {xs : Nat → Int32}
theorem lw_arg (hx : p.tables.exec = Jvm.exec) (hb : c.code = code) (hX : va_X b Lw xs s s.heap) (hbl : b < B) (hB : B ≤ s.heap.size) (hS : va_S (xA B) s.heap H locs) (hl : lv_has ls 4 [(3, .int (nI (8 * n))), (0, .ref b), (1, .ref x0), (2, .ref y0)]) {pc pc2 k : Nat} {kv : Int32} {st : List Value} (hk : kv = nI k) (hn : 8 * n + k < Lw) (hL : Lw ≤ 4096)
    (d0 : decode code pc = .ok (.aload_n 0, 1)) (d1 : decode code (pc + 1) = .ok (.iload_n 3, 1)) (hp : ∀ {g : W p l e R s m args below meth c H locs cells slots Q (F0 m pc2 ls (.int kv :: .int (nI (8 * n)) :: .ref b :: st))}, W p l e R s m args below meth c H locs cells slots Q (F0 m (pc + 1 + 1) ls (.int (nI (8 * n)) :: .ref b :: st))) (d3 : decode code pc2 = .ok (.iadd, 1)) (d4 : decode code (pc2 + 1) = .ok (.iaload, 1))
    (kk : W p l e R s m args below meth c H locs cells slots Q (F0 m (pc2 + 1 + 1) ls (.int (xs (8 * n + k)) :: st))) : W p l e R s m args below meth c H locs cells slots Q (F0 m pc ls st) := by
  obtain ⟨scr, h1, h2, h3, h4, h5⟩ := hX
  refine lv_aload_n (k := 0) (i := 0) hx hb d0 rfl (lv_at hl 1 rfl) ?_
  refine lv_iload_n (k := 3) (i := 3) hx hb d1 rfl (lv_at hl 0 rfl) ?_
  refine hp (g := ?_)
  refine lv_iadd hx hb d3 ?_
  have ea : nI (8 * n) + kv = nI (8 * n + k) := by rw [hk, nI_add]
  rw [ea]
  have hc : H[b]? = some scr := (hS.2.1 b (by omega) (by show ¬ B ≤ b; omega)).trans h1
  have ec : (nI (8 * n + k)).toNatClampNeg = 8 * n + k := nI_clamp (by omega)
  exact W.iald hx hb hc h2 h3 (by rw [h4, ec]; intro q; rcases q with q | q; exact nI_pos (by omega) q; omega) (by rw [ec]; exact h5 _ hn) rfl rfl d4 kk
theorem lw_argC (hx : p.tables.exec = Jvm.exec) (hb : c.code = code) (hX : va_X b Lw xs s s.heap) (hbl : b < B) (hB : B ≤ s.heap.size) (hS : va_S (xA B) s.heap H locs) (hl : lv_has ls 4 [(3, .int (nI (8 * n))), (0, .ref b), (1, .ref x0), (2, .ref y0)]) {pc k : Nat} {kz : Int} {kv : Int32} {st : List Value} (hk : kv = nI k) (hn : 8 * n + k < Lw) (hL : Lw ≤ 4096)
    (d0 : decode code pc = .ok (.aload_n 0, 1)) (d1 : decode code (pc + 1) = .ok (.iload_n 3, 1)) (d2 : decode code (pc + 2) = .ok (.iconst kz, 1)) (hv : Int32.ofInt kz = kv) (d3 : decode code (pc + 3) = .ok (.iadd, 1)) (d4 : decode code (pc + 4) = .ok (.iaload, 1))
    (kk : W p l e R s m args below meth c H locs cells slots Q (F0 m (pc + 5) ls (.int (xs (8 * n + k)) :: st))) : W p l e R s m args below meth c H locs cells slots Q (F0 m pc ls st) :=
  lw_arg (pc2 := pc + 3) hx hb hX hbl hB hS hl hk hn hL d0 d1 (fun {g} => lv_iconst hx hb d2 hv g) d3 d4 kk
theorem lw_argB (hx : p.tables.exec = Jvm.exec) (hb : c.code = code) (hX : va_X b Lw xs s s.heap) (hbl : b < B) (hB : B ≤ s.heap.size) (hS : va_S (xA B) s.heap H locs) (hl : lv_has ls 4 [(3, .int (nI (8 * n))), (0, .ref b), (1, .ref x0), (2, .ref y0)]) {pc k : Nat} {kz : Int} {kv : Int32} {st : List Value} (hk : kv = nI k) (hn : 8 * n + k < Lw) (hL : Lw ≤ 4096)
    (d0 : decode code pc = .ok (.aload_n 0, 1)) (d1 : decode code (pc + 1) = .ok (.iload_n 3, 1)) (d2 : decode code (pc + 2) = .ok (.bipush kz, 2)) (hv : (Int8.ofInt kz).toInt32 = kv) (d3 : decode code (pc + 4) = .ok (.iadd, 1)) (d4 : decode code (pc + 5) = .ok (.iaload, 1))
    (kk : W p l e R s m args below meth c H locs cells slots Q (F0 m (pc + 6) ls (.int (xs (8 * n + k)) :: st))) : W p l e R s m args below meth c H locs cells slots Q (F0 m pc ls st) :=
  lw_arg (pc2 := pc + 4) hx hb hX hbl hB hS hl hk hn hL d0 d1 (fun {g} => lv_bipush hx hb d2 hv g) d3 d4 kk
theorem lg_cmp0 (x : Int64) : lg_cmp x x = 0 := by
  unfold lg_cmp
  simp
set_option maxRecDepth 10000 in
theorem lc_20 (hx : p.tables.exec = Jvm.exec) (hb : c.code = code) (hml : c.maxLocals = 4) (hown : s.vm.findClass "MonsoonTradeLaw" = some m.cls) (hts : ∀ w ∈ xT, w.before args s = true) (hX : va_X b Lw xs s s.heap) (hbl : b < B) (hB : B ≤ s.heap.size) (hfr : 60 + 1 ≤ R.frames ∧ 40 * (60 + 1) ≤ R.locals) (hn : n ≤ 600) (h8 : 8 * n + 8 ≤ Lw) (hL : Lw ≤ 4096) (hc : cells + 1 ≤ R.cells) (hz : slots + 160 ≤ R.slots) (e00 : L 0 0 = x0) (e36 : L 36 0 = y0) (e99 : L 99 0 = 1) (hI : INV n S) (hW : xW s D B L S H) (hS : va_S (xA B) s.heap H locs) (hl : lv_has ls 4 [(3, .int (nI (8 * n))), (0, .ref b), (1, .ref x0), (2, .ref y0)])
    (kk : ∀ (S : xS) (L : xL) (H : Heap) (locs : List Loc), INV (n + 1) S → L 0 0 = x0 → L 36 0 = y0 → L 99 0 = 1 → xW s D B L S H → va_S (xA B) s.heap H locs → W p l e R s m args below meth c H locs (cells + 1) (slots + 160) Q (F0 m 1344 ls [])) : W p l e R s m args below meth c H locs cells slots Q (F0 m 908 ls []) := by
  refine lv_aload_n (k := 1) (i := 1) hx hb (by decide +kernel) rfl (lv_at hl 2 rfl) ?_
  refine lw_argC (k := 1) (kz := 1) (kv := 1) hx hb hX hbl hB hS hl (by decide) (by omega) hL (by decide +kernel) (by decide +kernel) (by decide +kernel) rfl (by decide +kernel) (by decide +kernel) ?_
  refine lw_argC (k := 2) (kz := 2) (kv := 2) hx hb hX hbl hB hS hl (by decide) (by omega) hL (by decide +kernel) (by decide +kernel) (by decide +kernel) rfl (by decide +kernel) (by decide +kernel) ?_
  refine t_i2l hx hb (by decide +kernel) rfl ?_
  refine lv_bipush (n := 32) (v := 32) hx hb (by decide +kernel) rfl ?_
  refine t_lshl hx hb (by decide +kernel) rfl ?_
  refine lw_argC (k := 3) (kz := 3) (kv := 3) hx hb hX hbl hB hS hl (by decide) (by omega) hL (by decide +kernel) (by decide +kernel) (by decide +kernel) rfl (by decide +kernel) (by decide +kernel) ?_
  refine t_i2l hx hb (by decide +kernel) rfl ?_
  refine lv_ldc2 (v := 4294967295) hx hb hown (hts _ (xwd_mem (i := 1553) (by decide +kernel) : Cond.constantLong "MonsoonTradeLaw" 97 4294967295 ∈ xT)) (by decide +kernel) ?_
  refine t_land hx hb (by decide +kernel) rfl ?_
  refine t_lor hx hb (by decide +kernel) rfl ?_
  refine rawVa (d := 60) (idx := 99) (mi2 := m_C_feed) (k := 0) (i := 0) (ci := 11) (av := [.inl (xs (8 * n + 1)), .inr (.inl (((xs (8 * n + 2)).toInt64 <<< ((32 : Int32).toInt64 &&& 63)) ||| ((xs (8 * n + 3)).toInt64 &&& 4294967295)))]) (c' := 0) (z' := 0) (rest := []) e00 ⟨hx, hb, hml, hown, hts⟩ hl.1 hfr hB (by decide +kernel) (xmok_all (by decide)) (by decide) (xwd_mem (i := 967) (by decide +kernel)) rfl ⟨_, _, rfl⟩ (by decide +kernel : (parseMethodDescriptor (mt m_C_feed).1.desc).map (fun d => d.parameters.length) = some 2) (Nat.zero_le _) (show 0 < xcn L 0 from (show 0 < 1 from Nat.one_pos)) (fun v hv => by simp at hv; rcases hv with rfl | rfl <;> trivial) hW hS ⟨by omega, by omega⟩ (iv_feed hn hI) (fun r S1 L1 H locs hq hL1 hW hS => ?_)
  obtain ⟨v, rfl, hq⟩ := hq.out
  have e00 := (hL1 0 0 (by decide)).trans e00
  have e36 := (hL1 36 0 (by decide)).trans e36
  have e99 := (hL1 99 0 (by decide)).trans e99
  refine lv_aload_n (k := 2) (i := 2) hx hb (by decide +kernel) rfl (lv_at hl 3 rfl) ?_
  refine lw_argC (k := 1) (kz := 1) (kv := 1) hx hb hX hbl hB hS hl (by decide) (by omega) hL (by decide +kernel) (by decide +kernel) (by decide +kernel) rfl (by decide +kernel) (by decide +kernel) ?_
  refine lw_argC (k := 2) (kz := 2) (kv := 2) hx hb hX hbl hB hS hl (by decide) (by omega) hL (by decide +kernel) (by decide +kernel) (by decide +kernel) rfl (by decide +kernel) (by decide +kernel) ?_
  refine t_i2l hx hb (by decide +kernel) rfl ?_
  refine lv_bipush (n := 32) (v := 32) hx hb (by decide +kernel) rfl ?_
  refine t_lshl hx hb (by decide +kernel) rfl ?_
  refine lw_argC (k := 3) (kz := 3) (kv := 3) hx hb hX hbl hB hS hl (by decide) (by omega) hL (by decide +kernel) (by decide +kernel) (by decide +kernel) rfl (by decide +kernel) (by decide +kernel) ?_
  refine t_i2l hx hb (by decide +kernel) rfl ?_
  refine lv_ldc2 (v := 4294967295) hx hb hown (hts _ (xwd_mem (i := 1553) (by decide +kernel) : Cond.constantLong "MonsoonTradeLaw" 97 4294967295 ∈ xT)) (by decide +kernel) ?_
  refine t_land hx hb (by decide +kernel) rfl ?_
  refine t_lor hx hb (by decide +kernel) rfl ?_
  refine rawVa (d := 60) (idx := 103) (mi2 := m_M_feed) (k := 36) (i := 0) (ci := 12) (av := [.inl (xs (8 * n + 1)), .inr (.inl (((xs (8 * n + 2)).toInt64 <<< ((32 : Int32).toInt64 &&& 63)) ||| ((xs (8 * n + 3)).toInt64 &&& 4294967295)))]) (c' := 0) (z' := 0) (rest := [.int v]) e36 ⟨hx, hb, hml, hown, hts⟩ hl.1 hfr hB (by decide +kernel) (xmok_all (by decide)) (by decide) (xwd_mem (i := 1444) (by decide +kernel)) rfl ⟨_, _, rfl⟩ (by decide +kernel : (parseMethodDescriptor (mt m_M_feed).1.desc).map (fun d => d.parameters.length) = some 2) (Nat.le_of_ble_eq_true rfl) (show 0 < xcn L1 36 by unfold xcn; rw [e99]; decide) (fun v hv => by simp at hv; rcases hv with rfl | rfl <;> trivial) hW hS ⟨by omega, by omega⟩ hq (fun r S2 L2 H locs hq hL2 hW hS => ?_)
  obtain ⟨rfl, hI⟩ := hq
  have e00 := (hL2 0 0 (by decide)).trans e00
  have e36 := (hL2 36 0 (by decide)).trans e36
  have e99 := (hL2 99 0 (by decide)).trans e99
  refine lv_icmp_eq (off := 378) (tgt := 1344) hx hb (by decide +kernel) rfl (fun _ => ?_) (fun q => absurd rfl q)
  refine W.widen (k := cells + 1) (n := slots + 160) (by omega) (by omega) ?_
  exact kk S2 L2 H locs hI e00 e36 e99 hW hS
end LAW
