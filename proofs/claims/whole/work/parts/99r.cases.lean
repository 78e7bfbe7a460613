/-! the law's thirty cases (written by law2.py) -/
section LAW
variable {p : Program} {l : Launch} {e : Env} {R : Room} {s : State} {m : MethodId} {args : Array Value} {below : List Frame} {meth : Method} {c : Code} {H : Heap} {locs : List Loc} {cells slots b Lw n B x0 y0 : Nat} {D : va_G} {L : xL} {S : xS} {Q : State → Prop} {ls : Array Slot} {xs : Nat → Int32}
theorem lw_arg (hx : p.tables.exec = Jvm.exec) (hb : c.code = code) (hX : va_X b Lw xs s s.heap) (hbl : b < B) (hB : B ≤ s.heap.size) (hS : va_S (xA B) s.heap H locs) (hl : lv_has ls 4 [(3, .int (nI (8 * n))), (0, .ref b), (1, .ref x0), (2, .ref y0)]) {pc pc2 k : Nat} {kv : Int32} {st : List Value} (hk : kv = nI k) (hn : 8 * n + k < Lw) (hL : Lw ≤ 4096)
    (d0 : decode code pc = .ok (.aload_n 0, 1)) (d1 : decode code (pc + 1) = .ok (.iload_n 3, 1)) (hp : ∀ {g : W p l e R s m args below meth c H locs cells slots Q (F0 m pc2 ls (.int kv :: .int (nI (8 * n)) :: .ref b :: st))}, W p l e R s m args below meth c H locs cells slots Q (F0 m (pc + 1 + 1) ls (.int (nI (8 * n)) :: .ref b :: st))) (d3 : decode code pc2 = .ok (.iadd, 1)) (d4 : decode code (pc2 + 1) = .ok (.iaload, 1))
    (kk : W p l e R s m args below meth c H locs cells slots Q (F0 m (pc2 + 1 + 1) ls (.int (xs (8 * n + k)) :: st))) : W p l e R s m args below meth c H locs cells slots Q (F0 m pc ls st) := by
  obtain ⟨scr, h1, h2, h3, h4, h5⟩ := hX
  refine lv_aload_n (k := 0) (i := 0) hx hb d0 rfl (lv_at hl 1 rfl) ?_
  refine lv_iload_n (k := 3) (i := 3) hx hb d1 rfl (lv_at hl 0 rfl) ?_
  refine hp (g := ?_)
  refine lv_iadd hx hb d3 ?_
  have ea : nI (8 * n) + kv = nI (8 * n + k) := by rw [hk, nI_add]
  rw [ea]
  have hc : H[b]? = some scr := (hS.2.1 b (by omega) (by show ¬ B ≤ b; omega)).trans h1
  have ec : (nI (8 * n + k)).toNatClampNeg = 8 * n + k := nI_clamp (by omega)
  exact W.iald hx hb hc h2 h3 (by rw [h4, ec]; intro q; rcases q with q | q; exact nI_pos (by omega) q; omega) (by rw [ec]; exact h5 _ hn) rfl rfl d4 kk
theorem lw_argC (hx : p.tables.exec = Jvm.exec) (hb : c.code = code) (hX : va_X b Lw xs s s.heap) (hbl : b < B) (hB : B ≤ s.heap.size) (hS : va_S (xA B) s.heap H locs) (hl : lv_has ls 4 [(3, .int (nI (8 * n))), (0, .ref b), (1, .ref x0), (2, .ref y0)]) {pc k : Nat} {kz : Int} {kv : Int32} {st : List Value} (hk : kv = nI k) (hn : 8 * n + k < Lw) (hL : Lw ≤ 4096)
    (d0 : decode code pc = .ok (.aload_n 0, 1)) (d1 : decode code (pc + 1) = .ok (.iload_n 3, 1)) (d2 : decode code (pc + 2) = .ok (.iconst kz, 1)) (hv : Int32.ofInt kz = kv) (d3 : decode code (pc + 3) = .ok (.iadd, 1)) (d4 : decode code (pc + 4) = .ok (.iaload, 1))
    (kk : W p l e R s m args below meth c H locs cells slots Q (F0 m (pc + 5) ls (.int (xs (8 * n + k)) :: st))) : W p l e R s m args below meth c H locs cells slots Q (F0 m pc ls st) :=
  lw_arg (pc2 := pc + 3) hx hb hX hbl hB hS hl hk hn hL d0 d1 (fun {g} => lv_iconst hx hb d2 hv g) d3 d4 kk
theorem lw_argB (hx : p.tables.exec = Jvm.exec) (hb : c.code = code) (hX : va_X b Lw xs s s.heap) (hbl : b < B) (hB : B ≤ s.heap.size) (hS : va_S (xA B) s.heap H locs) (hl : lv_has ls 4 [(3, .int (nI (8 * n))), (0, .ref b), (1, .ref x0), (2, .ref y0)]) {pc k : Nat} {kz : Int} {kv : Int32} {st : List Value} (hk : kv = nI k) (hn : 8 * n + k < Lw) (hL : Lw ≤ 4096)
    (d0 : decode code pc = .ok (.aload_n 0, 1)) (d1 : decode code (pc + 1) = .ok (.iload_n 3, 1)) (d2 : decode code (pc + 2) = .ok (.bipush kz, 2)) (hv : (Int8.ofInt kz).toInt32 = kv) (d3 : decode code (pc + 4) = .ok (.iadd, 1)) (d4 : decode code (pc + 5) = .ok (.iaload, 1))
    (kk : W p l e R s m args below meth c H locs cells slots Q (F0 m (pc + 6) ls (.int (xs (8 * n + k)) :: st))) : W p l e R s m args below meth c H locs cells slots Q (F0 m pc ls st) :=
  lw_arg (pc2 := pc + 4) hx hb hX hbl hB hS hl hk hn hL d0 d1 (fun {g} => lv_bipush hx hb d2 hv g) d3 d4 kk
theorem lg_cmp0 (x : Int64) : lg_cmp x x = 0 := by
  unfold lg_cmp
  simp
set_option maxRecDepth 10000 in
theorem lc_0 (hx : p.tables.exec = Jvm.exec) (hb : c.code = code) (hml : c.maxLocals = 4) (hown : s.vm.findClass "MonsoonTradeLaw" = some m.cls) (hts : ∀ w ∈ xT, w.before args s = true) (hX : va_X b Lw xs s s.heap) (hbl : b < B) (hB : B ≤ s.heap.size) (hfr : 60 + 1 ≤ R.frames ∧ 40 * (60 + 1) ≤ R.locals) (hn : n ≤ 600) (h8 : 8 * n + 8 ≤ Lw) (hL : Lw ≤ 4096) (hc : cells + 1 ≤ R.cells) (hz : slots + 160 ≤ R.slots) (e00 : L 0 0 = x0) (e36 : L 36 0 = y0) (e99 : L 99 0 = 1) (hI : INV n S) (hW : xW s D B L S H) (hS : va_S (xA B) s.heap H locs) (hl : lv_has ls 4 [(3, .int (nI (8 * n))), (0, .ref b), (1, .ref x0), (2, .ref y0)])
    (kk : ∀ (S : xS) (L : xL) (H : Heap) (locs : List Loc), INV (n + 1) S → L 0 0 = x0 → L 36 0 = y0 → L 99 0 = 1 → xW s D B L S H → va_S (xA B) s.heap H locs → W p l e R s m args below meth c H locs (cells + 1) (slots + 160) Q (F0 m 1344 ls [])) : W p l e R s m args below meth c H locs cells slots Q (F0 m 168 ls []) := by
  refine lv_aload_n (k := 1) (i := 1) hx hb (by decide +kernel) rfl (lv_at hl 2 rfl) ?_
  refine lw_argC (k := 1) (kz := 1) (kv := 1) hx hb hX hbl hB hS hl (by decide) (by omega) hL (by decide +kernel) (by decide +kernel) (by decide +kernel) rfl (by decide +kernel) (by decide +kernel) ?_
  refine lw_argC (k := 2) (kz := 2) (kv := 2) hx hb hX hbl hB hS hl (by decide) (by omega) hL (by decide +kernel) (by decide +kernel) (by decide +kernel) rfl (by decide +kernel) (by decide +kernel) ?_
  refine rawVa (d := 60) (idx := 13) (mi2 := m_C_port) (k := 0) (i := 0) (ci := 11) (av := [.inl (xs (8 * n + 1)), .inl (xs (8 * n + 2))]) (c' := 0) (z' := 0) (rest := []) e00 ⟨hx, hb, hml, hown, hts⟩ hl.1 hfr hB (by decide +kernel) (xmok_all (by decide)) (by decide) (xwd_mem (i := 703) (by decide +kernel)) rfl ⟨_, _, rfl⟩ (by decide +kernel) (Nat.zero_le _) (show 0 < xcn L 0 from (show 0 < 1 from Nat.one_pos)) (fun v hv => by simp at hv; rcases hv with rfl | rfl <;> trivial) hW hS ⟨by omega, by omega⟩ (iv_port hn hI) (fun r S1 L1 H locs hq hL1 hW hS => ?_)
  obtain ⟨v, rfl, hq⟩ := hq.out
  have e00 := (hL1 0 0 (by decide)).trans e00
  have e36 := (hL1 36 0 (by decide)).trans e36
  have e99 := (hL1 99 0 (by decide)).trans e99
  refine lv_aload_n (k := 2) (i := 2) hx hb (by decide +kernel) rfl (lv_at hl 3 rfl) ?_
  refine lw_argC (k := 1) (kz := 1) (kv := 1) hx hb hX hbl hB hS hl (by decide) (by omega) hL (by decide +kernel) (by decide +kernel) (by decide +kernel) rfl (by decide +kernel) (by decide +kernel) ?_
  refine lw_argC (k := 2) (kz := 2) (kv := 2) hx hb hX hbl hB hS hl (by decide) (by omega) hL (by decide +kernel) (by decide +kernel) (by decide +kernel) rfl (by decide +kernel) (by decide +kernel) ?_
  refine rawVa (d := 60) (idx := 17) (mi2 := m_M_port) (k := 36) (i := 0) (ci := 12) (av := [.inl (xs (8 * n + 1)), .inl (xs (8 * n + 2))]) (c' := 0) (z' := 0) (rest := [.int v]) e36 ⟨hx, hb, hml, hown, hts⟩ hl.1 hfr hB (by decide +kernel) (xmok_all (by decide)) (by decide) (xwd_mem (i := 1086) (by decide +kernel)) rfl ⟨_, _, rfl⟩ (by decide +kernel) (by decide) (show 0 < xcn L1 36 by unfold xcn; rw [e99]; decide) (fun v hv => by simp at hv; rcases hv with rfl | rfl <;> trivial) hW hS ⟨by omega, by omega⟩ hq (fun r S2 L2 H locs hq hL2 hW hS => ?_)
  obtain ⟨rfl, hI⟩ := hq
  have e00 := (hL2 0 0 (by decide)).trans e00
  have e36 := (hL2 36 0 (by decide)).trans e36
  have e99 := (hL2 99 0 (by decide)).trans e99
  refine lv_icmp_eq (off := 1148) (tgt := 1344) hx hb (by decide +kernel) rfl (fun _ => ?_) (fun q => absurd rfl q)
  refine W.widen (k := cells + 1) (n := slots + 160) (by omega) (by omega) ?_
  exact kk S2 L2 H locs hI e00 e36 e99 hW hS
set_option maxRecDepth 10000 in
theorem lc_1 (hx : p.tables.exec = Jvm.exec) (hb : c.code = code) (hml : c.maxLocals = 4) (hown : s.vm.findClass "MonsoonTradeLaw" = some m.cls) (hts : ∀ w ∈ xT, w.before args s = true) (hX : va_X b Lw xs s s.heap) (hbl : b < B) (hB : B ≤ s.heap.size) (hfr : 60 + 1 ≤ R.frames ∧ 40 * (60 + 1) ≤ R.locals) (hn : n ≤ 600) (h8 : 8 * n + 8 ≤ Lw) (hL : Lw ≤ 4096) (hc : cells + 1 ≤ R.cells) (hz : slots + 160 ≤ R.slots) (e00 : L 0 0 = x0) (e36 : L 36 0 = y0) (e99 : L 99 0 = 1) (hI : INV n S) (hW : xW s D B L S H) (hS : va_S (xA B) s.heap H locs) (hl : lv_has ls 4 [(3, .int (nI (8 * n))), (0, .ref b), (1, .ref x0), (2, .ref y0)])
    (kk : ∀ (S : xS) (L : xL) (H : Heap) (locs : List Loc), INV (n + 1) S → L 0 0 = x0 → L 36 0 = y0 → L 99 0 = 1 → xW s D B L S H → va_S (xA B) s.heap H locs → W p l e R s m args below meth c H locs (cells + 1) (slots + 160) Q (F0 m 1344 ls [])) : W p l e R s m args below meth c H locs cells slots Q (F0 m 201 ls []) := by
  refine lv_aload_n (k := 1) (i := 1) hx hb (by decide +kernel) rfl (lv_at hl 2 rfl) ?_
  refine lw_argC (k := 1) (kz := 1) (kv := 1) hx hb hX hbl hB hS hl (by decide) (by omega) hL (by decide +kernel) (by decide +kernel) (by decide +kernel) rfl (by decide +kernel) (by decide +kernel) ?_
  refine lw_argC (k := 2) (kz := 2) (kv := 2) hx hb hX hbl hB hS hl (by decide) (by omega) hL (by decide +kernel) (by decide +kernel) (by decide +kernel) rfl (by decide +kernel) (by decide +kernel) ?_
  refine lw_argC (k := 3) (kz := 3) (kv := 3) hx hb hX hbl hB hS hl (by decide) (by omega) hL (by decide +kernel) (by decide +kernel) (by decide +kernel) rfl (by decide +kernel) (by decide +kernel) ?_
  refine lw_argC (k := 4) (kz := 4) (kv := 4) hx hb hX hbl hB hS hl (by decide) (by omega) hL (by decide +kernel) (by decide +kernel) (by decide +kernel) rfl (by decide +kernel) (by decide +kernel) ?_
  refine rawVa (d := 60) (idx := 18) (mi2 := m_C_wants) (k := 0) (i := 0) (ci := 11) (av := [.inl (xs (8 * n + 1)), .inl (xs (8 * n + 2)), .inl (xs (8 * n + 3)), .inl (xs (8 * n + 4))]) (c' := 0) (z' := 0) (rest := []) e00 ⟨hx, hb, hml, hown, hts⟩ hl.1 hfr hB (by decide +kernel) (xmok_all (by decide)) (by decide) (xwd_mem (i := 713) (by decide +kernel)) rfl ⟨_, _, rfl⟩ (by decide +kernel) (Nat.zero_le _) (show 0 < xcn L 0 from (show 0 < 1 from Nat.one_pos)) (fun v hv => by simp at hv; rcases hv with rfl | rfl | rfl | rfl <;> trivial) hW hS ⟨by omega, by omega⟩ (iv_wants hn hI) (fun r S1 L1 H locs hq hL1 hW hS => ?_)
  obtain ⟨v, rfl, hq⟩ := hq.out
  have e00 := (hL1 0 0 (by decide)).trans e00
  have e36 := (hL1 36 0 (by decide)).trans e36
  have e99 := (hL1 99 0 (by decide)).trans e99
  refine lv_aload_n (k := 2) (i := 2) hx hb (by decide +kernel) rfl (lv_at hl 3 rfl) ?_
  refine lw_argC (k := 1) (kz := 1) (kv := 1) hx hb hX hbl hB hS hl (by decide) (by omega) hL (by decide +kernel) (by decide +kernel) (by decide +kernel) rfl (by decide +kernel) (by decide +kernel) ?_
  refine lw_argC (k := 2) (kz := 2) (kv := 2) hx hb hX hbl hB hS hl (by decide) (by omega) hL (by decide +kernel) (by decide +kernel) (by decide +kernel) rfl (by decide +kernel) (by decide +kernel) ?_
  refine lw_argC (k := 3) (kz := 3) (kv := 3) hx hb hX hbl hB hS hl (by decide) (by omega) hL (by decide +kernel) (by decide +kernel) (by decide +kernel) rfl (by decide +kernel) (by decide +kernel) ?_
  refine lw_argC (k := 4) (kz := 4) (kv := 4) hx hb hX hbl hB hS hl (by decide) (by omega) hL (by decide +kernel) (by decide +kernel) (by decide +kernel) rfl (by decide +kernel) (by decide +kernel) ?_
  refine rawVa (d := 60) (idx := 22) (mi2 := m_M_wants) (k := 36) (i := 0) (ci := 12) (av := [.inl (xs (8 * n + 1)), .inl (xs (8 * n + 2)), .inl (xs (8 * n + 3)), .inl (xs (8 * n + 4))]) (c' := 0) (z' := 0) (rest := [.int v]) e36 ⟨hx, hb, hml, hown, hts⟩ hl.1 hfr hB (by decide +kernel) (xmok_all (by decide)) (by decide) (xwd_mem (i := 1094) (by decide +kernel)) rfl ⟨_, _, rfl⟩ (by decide +kernel) (by decide) (show 0 < xcn L1 36 by unfold xcn; rw [e99]; decide) (fun v hv => by simp at hv; rcases hv with rfl | rfl | rfl | rfl <;> trivial) hW hS ⟨by omega, by omega⟩ hq (fun r S2 L2 H locs hq hL2 hW hS => ?_)
  obtain ⟨rfl, hI⟩ := hq
  have e00 := (hL2 0 0 (by decide)).trans e00
  have e36 := (hL2 36 0 (by decide)).trans e36
  have e99 := (hL2 99 0 (by decide)).trans e99
  refine lv_icmp_eq (off := 1095) (tgt := 1344) hx hb (by decide +kernel) rfl (fun _ => ?_) (fun q => absurd rfl q)
  refine W.widen (k := cells + 1) (n := slots + 160) (by omega) (by omega) ?_
  exact kk S2 L2 H locs hI e00 e36 e99 hW hS
set_option maxRecDepth 10000 in
theorem lc_2 (hx : p.tables.exec = Jvm.exec) (hb : c.code = code) (hml : c.maxLocals = 4) (hown : s.vm.findClass "MonsoonTradeLaw" = some m.cls) (hts : ∀ w ∈ xT, w.before args s = true) (hX : va_X b Lw xs s s.heap) (hbl : b < B) (hB : B ≤ s.heap.size) (hfr : 60 + 1 ≤ R.frames ∧ 40 * (60 + 1) ≤ R.locals) (hn : n ≤ 600) (h8 : 8 * n + 8 ≤ Lw) (hL : Lw ≤ 4096) (hc : cells + 1 ≤ R.cells) (hz : slots + 160 ≤ R.slots) (e00 : L 0 0 = x0) (e36 : L 36 0 = y0) (e99 : L 99 0 = 1) (hI : INV n S) (hW : xW s D B L S H) (hS : va_S (xA B) s.heap H locs) (hl : lv_has ls 4 [(3, .int (nI (8 * n))), (0, .ref b), (1, .ref x0), (2, .ref y0)])
    (kk : ∀ (S : xS) (L : xL) (H : Heap) (locs : List Loc), INV (n + 1) S → L 0 0 = x0 → L 36 0 = y0 → L 99 0 = 1 → xW s D B L S H → va_S (xA B) s.heap H locs → W p l e R s m args below meth c H locs (cells + 1) (slots + 160) Q (F0 m 1344 ls [])) : W p l e R s m args below meth c H locs cells slots Q (F0 m 254 ls []) := by
  refine lv_aload_n (k := 1) (i := 1) hx hb (by decide +kernel) rfl (lv_at hl 2 rfl) ?_
  refine lw_argC (k := 1) (kz := 1) (kv := 1) hx hb hX hbl hB hS hl (by decide) (by omega) hL (by decide +kernel) (by decide +kernel) (by decide +kernel) rfl (by decide +kernel) (by decide +kernel) ?_
  refine lw_argC (k := 2) (kz := 2) (kv := 2) hx hb hX hbl hB hS hl (by decide) (by omega) hL (by decide +kernel) (by decide +kernel) (by decide +kernel) rfl (by decide +kernel) (by decide +kernel) ?_
  refine rawVa (d := 60) (idx := 23) (mi2 := m_C_price) (k := 0) (i := 0) (ci := 11) (av := [.inl (xs (8 * n + 1)), .inl (xs (8 * n + 2))]) (c' := 0) (z' := 0) (rest := []) e00 ⟨hx, hb, hml, hown, hts⟩ hl.1 hfr hB (by decide +kernel) (xmok_all (by decide)) (by decide) (xwd_mem (i := 730) (by decide +kernel)) rfl ⟨_, _, rfl⟩ (by decide +kernel) (Nat.zero_le _) (show 0 < xcn L 0 from (show 0 < 1 from Nat.one_pos)) (fun v hv => by simp at hv; rcases hv with rfl | rfl <;> trivial) hW hS ⟨by omega, by omega⟩ (iv_price hn hI) (fun r S1 L1 H locs hq hL1 hW hS => ?_)
  obtain ⟨v, rfl, hq⟩ := hq.out
  have e00 := (hL1 0 0 (by decide)).trans e00
  have e36 := (hL1 36 0 (by decide)).trans e36
  have e99 := (hL1 99 0 (by decide)).trans e99
  refine lv_aload_n (k := 2) (i := 2) hx hb (by decide +kernel) rfl (lv_at hl 3 rfl) ?_
  refine lw_argC (k := 1) (kz := 1) (kv := 1) hx hb hX hbl hB hS hl (by decide) (by omega) hL (by decide +kernel) (by decide +kernel) (by decide +kernel) rfl (by decide +kernel) (by decide +kernel) ?_
  refine lw_argC (k := 2) (kz := 2) (kv := 2) hx hb hX hbl hB hS hl (by decide) (by omega) hL (by decide +kernel) (by decide +kernel) (by decide +kernel) rfl (by decide +kernel) (by decide +kernel) ?_
  refine rawVa (d := 60) (idx := 26) (mi2 := m_M_price) (k := 36) (i := 0) (ci := 12) (av := [.inl (xs (8 * n + 1)), .inl (xs (8 * n + 2))]) (c' := 0) (z' := 0) (rest := [.int v]) e36 ⟨hx, hb, hml, hown, hts⟩ hl.1 hfr hB (by decide +kernel) (xmok_all (by decide)) (by decide) (xwd_mem (i := 1112) (by decide +kernel)) rfl ⟨_, _, rfl⟩ (by decide +kernel) (by decide) (show 0 < xcn L1 36 by unfold xcn; rw [e99]; decide) (fun v hv => by simp at hv; rcases hv with rfl | rfl <;> trivial) hW hS ⟨by omega, by omega⟩ hq (fun r S2 L2 H locs hq hL2 hW hS => ?_)
  obtain ⟨rfl, hI⟩ := hq
  have e00 := (hL2 0 0 (by decide)).trans e00
  have e36 := (hL2 36 0 (by decide)).trans e36
  have e99 := (hL2 99 0 (by decide)).trans e99
  refine lv_icmp_eq (off := 1062) (tgt := 1344) hx hb (by decide +kernel) rfl (fun _ => ?_) (fun q => absurd rfl q)
  refine W.widen (k := cells + 1) (n := slots + 160) (by omega) (by omega) ?_
  exact kk S2 L2 H locs hI e00 e36 e99 hW hS
set_option maxRecDepth 10000 in
theorem lc_3 (hx : p.tables.exec = Jvm.exec) (hb : c.code = code) (hml : c.maxLocals = 4) (hown : s.vm.findClass "MonsoonTradeLaw" = some m.cls) (hts : ∀ w ∈ xT, w.before args s = true) (hX : va_X b Lw xs s s.heap) (hbl : b < B) (hB : B ≤ s.heap.size) (hfr : 60 + 1 ≤ R.frames ∧ 40 * (60 + 1) ≤ R.locals) (hn : n ≤ 600) (h8 : 8 * n + 8 ≤ Lw) (hL : Lw ≤ 4096) (hc : cells + 1 ≤ R.cells) (hz : slots + 160 ≤ R.slots) (e00 : L 0 0 = x0) (e36 : L 36 0 = y0) (e99 : L 99 0 = 1) (hI : INV n S) (hW : xW s D B L S H) (hS : va_S (xA B) s.heap H locs) (hl : lv_has ls 4 [(3, .int (nI (8 * n))), (0, .ref b), (1, .ref x0), (2, .ref y0)])
    (kk : ∀ (S : xS) (L : xL) (H : Heap) (locs : List Loc), INV (n + 1) S → L 0 0 = x0 → L 36 0 = y0 → L 99 0 = 1 → xW s D B L S H → va_S (xA B) s.heap H locs → W p l e R s m args below meth c H locs (cells + 1) (slots + 160) Q (F0 m 1344 ls [])) : W p l e R s m args below meth c H locs cells slots Q (F0 m 287 ls []) := by
  refine lv_aload_n (k := 1) (i := 1) hx hb (by decide +kernel) rfl (lv_at hl 2 rfl) ?_
  refine lw_argC (k := 1) (kz := 1) (kv := 1) hx hb hX hbl hB hS hl (by decide) (by omega) hL (by decide +kernel) (by decide +kernel) (by decide +kernel) rfl (by decide +kernel) (by decide +kernel) ?_
  refine lw_argC (k := 2) (kz := 2) (kv := 2) hx hb hX hbl hB hS hl (by decide) (by omega) hL (by decide +kernel) (by decide +kernel) (by decide +kernel) rfl (by decide +kernel) (by decide +kernel) ?_
  refine rawVa (d := 60) (idx := 27) (mi2 := m_C_wind) (k := 0) (i := 0) (ci := 11) (av := [.inl (xs (8 * n + 1)), .inl (xs (8 * n + 2))]) (c' := 0) (z' := 0) (rest := []) e00 ⟨hx, hb, hml, hown, hts⟩ hl.1 hfr hB (by decide +kernel) (xmok_all (by decide)) (by decide) (xwd_mem (i := 734) (by decide +kernel)) rfl ⟨_, _, rfl⟩ (by decide +kernel) (Nat.zero_le _) (show 0 < xcn L 0 from (show 0 < 1 from Nat.one_pos)) (fun v hv => by simp at hv; rcases hv with rfl | rfl <;> trivial) hW hS ⟨by omega, by omega⟩ (iv_wind hn hI) (fun r S1 L1 H locs hq hL1 hW hS => ?_)
  obtain ⟨v, rfl, hq⟩ := hq.out
  have e00 := (hL1 0 0 (by decide)).trans e00
  have e36 := (hL1 36 0 (by decide)).trans e36
  have e99 := (hL1 99 0 (by decide)).trans e99
  refine lv_aload_n (k := 2) (i := 2) hx hb (by decide +kernel) rfl (lv_at hl 3 rfl) ?_
  refine lw_argC (k := 1) (kz := 1) (kv := 1) hx hb hX hbl hB hS hl (by decide) (by omega) hL (by decide +kernel) (by decide +kernel) (by decide +kernel) rfl (by decide +kernel) (by decide +kernel) ?_
  refine lw_argC (k := 2) (kz := 2) (kv := 2) hx hb hX hbl hB hS hl (by decide) (by omega) hL (by decide +kernel) (by decide +kernel) (by decide +kernel) rfl (by decide +kernel) (by decide +kernel) ?_
  refine rawVa (d := 60) (idx := 30) (mi2 := m_M_wind) (k := 36) (i := 0) (ci := 12) (av := [.inl (xs (8 * n + 1)), .inl (xs (8 * n + 2))]) (c' := 0) (z' := 0) (rest := [.int v]) e36 ⟨hx, hb, hml, hown, hts⟩ hl.1 hfr hB (by decide +kernel) (xmok_all (by decide)) (by decide) (xwd_mem (i := 1116) (by decide +kernel)) rfl ⟨_, _, rfl⟩ (by decide +kernel) (by decide) (show 0 < xcn L1 36 by unfold xcn; rw [e99]; decide) (fun v hv => by simp at hv; rcases hv with rfl | rfl <;> trivial) hW hS ⟨by omega, by omega⟩ hq (fun r S2 L2 H locs hq hL2 hW hS => ?_)
  obtain ⟨rfl, hI⟩ := hq
  have e00 := (hL2 0 0 (by decide)).trans e00
  have e36 := (hL2 36 0 (by decide)).trans e36
  have e99 := (hL2 99 0 (by decide)).trans e99
  refine lv_icmp_eq (off := 1029) (tgt := 1344) hx hb (by decide +kernel) rfl (fun _ => ?_) (fun q => absurd rfl q)
  refine W.widen (k := cells + 1) (n := slots + 160) (by omega) (by omega) ?_
  exact kk S2 L2 H locs hI e00 e36 e99 hW hS
set_option maxRecDepth 10000 in
theorem lc_4 (hx : p.tables.exec = Jvm.exec) (hb : c.code = code) (hml : c.maxLocals = 4) (hown : s.vm.findClass "MonsoonTradeLaw" = some m.cls) (hts : ∀ w ∈ xT, w.before args s = true) (hX : va_X b Lw xs s s.heap) (hbl : b < B) (hB : B ≤ s.heap.size) (hfr : 60 + 1 ≤ R.frames ∧ 40 * (60 + 1) ≤ R.locals) (hn : n ≤ 600) (h8 : 8 * n + 8 ≤ Lw) (hL : Lw ≤ 4096) (hc : cells + 1 ≤ R.cells) (hz : slots + 160 ≤ R.slots) (e00 : L 0 0 = x0) (e36 : L 36 0 = y0) (e99 : L 99 0 = 1) (hI : INV n S) (hW : xW s D B L S H) (hS : va_S (xA B) s.heap H locs) (hl : lv_has ls 4 [(3, .int (nI (8 * n))), (0, .ref b), (1, .ref x0), (2, .ref y0)])
    (kk : ∀ (S : xS) (L : xL) (H : Heap) (locs : List Loc), INV (n + 1) S → L 0 0 = x0 → L 36 0 = y0 → L 99 0 = 1 → xW s D B L S H → va_S (xA B) s.heap H locs → W p l e R s m args below meth c H locs (cells + 1) (slots + 160) Q (F0 m 1344 ls [])) : W p l e R s m args below meth c H locs cells slots Q (F0 m 320 ls []) := by
  refine lv_aload_n (k := 1) (i := 1) hx hb (by decide +kernel) rfl (lv_at hl 2 rfl) ?_
  refine lw_argC (k := 1) (kz := 1) (kv := 1) hx hb hX hbl hB hS hl (by decide) (by omega) hL (by decide +kernel) (by decide +kernel) (by decide +kernel) rfl (by decide +kernel) (by decide +kernel) ?_
  refine lw_argC (k := 2) (kz := 2) (kv := 2) hx hb hX hbl hB hS hl (by decide) (by omega) hL (by decide +kernel) (by decide +kernel) (by decide +kernel) rfl (by decide +kernel) (by decide +kernel) ?_
  refine lw_argC (k := 3) (kz := 3) (kv := 3) hx hb hX hbl hB hS hl (by decide) (by omega) hL (by decide +kernel) (by decide +kernel) (by decide +kernel) rfl (by decide +kernel) (by decide +kernel) ?_
  refine lw_argC (k := 4) (kz := 4) (kv := 4) hx hb hX hbl hB hS hl (by decide) (by omega) hL (by decide +kernel) (by decide +kernel) (by decide +kernel) rfl (by decide +kernel) (by decide +kernel) ?_
  refine rawVa (d := 60) (idx := 31) (mi2 := m_C_winds) (k := 0) (i := 0) (ci := 11) (av := [.inl (xs (8 * n + 1)), .inl (xs (8 * n + 2)), .inl (xs (8 * n + 3)), .inl (xs (8 * n + 4))]) (c' := 0) (z' := 0) (rest := []) e00 ⟨hx, hb, hml, hown, hts⟩ hl.1 hfr hB (by decide +kernel) (xmok_all (by decide)) (by decide) (xwd_mem (i := 738) (by decide +kernel)) rfl ⟨_, _, rfl⟩ (by decide +kernel) (Nat.zero_le _) (show 0 < xcn L 0 from (show 0 < 1 from Nat.one_pos)) (fun v hv => by simp at hv; rcases hv with rfl | rfl | rfl | rfl <;> trivial) hW hS ⟨by omega, by omega⟩ (iv_winds hn hI) (fun r S1 L1 H locs hq hL1 hW hS => ?_)
  obtain ⟨v, rfl, hq⟩ := hq.out
  have e00 := (hL1 0 0 (by decide)).trans e00
  have e36 := (hL1 36 0 (by decide)).trans e36
  have e99 := (hL1 99 0 (by decide)).trans e99
  refine lv_aload_n (k := 2) (i := 2) hx hb (by decide +kernel) rfl (lv_at hl 3 rfl) ?_
  refine lw_argC (k := 1) (kz := 1) (kv := 1) hx hb hX hbl hB hS hl (by decide) (by omega) hL (by decide +kernel) (by decide +kernel) (by decide +kernel) rfl (by decide +kernel) (by decide +kernel) ?_
  refine lw_argC (k := 2) (kz := 2) (kv := 2) hx hb hX hbl hB hS hl (by decide) (by omega) hL (by decide +kernel) (by decide +kernel) (by decide +kernel) rfl (by decide +kernel) (by decide +kernel) ?_
  refine lw_argC (k := 3) (kz := 3) (kv := 3) hx hb hX hbl hB hS hl (by decide) (by omega) hL (by decide +kernel) (by decide +kernel) (by decide +kernel) rfl (by decide +kernel) (by decide +kernel) ?_
  refine lw_argC (k := 4) (kz := 4) (kv := 4) hx hb hX hbl hB hS hl (by decide) (by omega) hL (by decide +kernel) (by decide +kernel) (by decide +kernel) rfl (by decide +kernel) (by decide +kernel) ?_
  refine rawVa (d := 60) (idx := 34) (mi2 := m_M_winds) (k := 36) (i := 0) (ci := 12) (av := [.inl (xs (8 * n + 1)), .inl (xs (8 * n + 2)), .inl (xs (8 * n + 3)), .inl (xs (8 * n + 4))]) (c' := 0) (z' := 0) (rest := [.int v]) e36 ⟨hx, hb, hml, hown, hts⟩ hl.1 hfr hB (by decide +kernel) (xmok_all (by decide)) (by decide) (xwd_mem (i := 1123) (by decide +kernel)) rfl ⟨_, _, rfl⟩ (by decide +kernel) (by decide) (show 0 < xcn L1 36 by unfold xcn; rw [e99]; decide) (fun v hv => by simp at hv; rcases hv with rfl | rfl | rfl | rfl <;> trivial) hW hS ⟨by omega, by omega⟩ hq (fun r S2 L2 H locs hq hL2 hW hS => ?_)
  obtain ⟨rfl, hI⟩ := hq
  have e00 := (hL2 0 0 (by decide)).trans e00
  have e36 := (hL2 36 0 (by decide)).trans e36
  have e99 := (hL2 99 0 (by decide)).trans e99
  refine lv_icmp_eq (off := 976) (tgt := 1344) hx hb (by decide +kernel) rfl (fun _ => ?_) (fun q => absurd rfl q)
  refine W.widen (k := cells + 1) (n := slots + 160) (by omega) (by omega) ?_
  exact kk S2 L2 H locs hI e00 e36 e99 hW hS
set_option maxRecDepth 10000 in
theorem lc_5 (hx : p.tables.exec = Jvm.exec) (hb : c.code = code) (hml : c.maxLocals = 4) (hown : s.vm.findClass "MonsoonTradeLaw" = some m.cls) (hts : ∀ w ∈ xT, w.before args s = true) (hX : va_X b Lw xs s s.heap) (hbl : b < B) (hB : B ≤ s.heap.size) (hfr : 60 + 1 ≤ R.frames ∧ 40 * (60 + 1) ≤ R.locals) (hn : n ≤ 600) (h8 : 8 * n + 8 ≤ Lw) (hL : Lw ≤ 4096) (hc : cells + 1 ≤ R.cells) (hz : slots + 160 ≤ R.slots) (e00 : L 0 0 = x0) (e36 : L 36 0 = y0) (e99 : L 99 0 = 1) (hI : INV n S) (hW : xW s D B L S H) (hS : va_S (xA B) s.heap H locs) (hl : lv_has ls 4 [(3, .int (nI (8 * n))), (0, .ref b), (1, .ref x0), (2, .ref y0)])
    (kk : ∀ (S : xS) (L : xL) (H : Heap) (locs : List Loc), INV (n + 1) S → L 0 0 = x0 → L 36 0 = y0 → L 99 0 = 1 → xW s D B L S H → va_S (xA B) s.heap H locs → W p l e R s m args below meth c H locs (cells + 1) (slots + 160) Q (F0 m 1344 ls [])) : W p l e R s m args below meth c H locs cells slots Q (F0 m 373 ls []) := by
  refine lv_aload_n (k := 1) (i := 1) hx hb (by decide +kernel) rfl (lv_at hl 2 rfl) ?_
  refine lw_argC (k := 1) (kz := 1) (kv := 1) hx hb hX hbl hB hS hl (by decide) (by omega) hL (by decide +kernel) (by decide +kernel) (by decide +kernel) rfl (by decide +kernel) (by decide +kernel) ?_
  refine lw_argC (k := 2) (kz := 2) (kv := 2) hx hb hX hbl hB hS hl (by decide) (by omega) hL (by decide +kernel) (by decide +kernel) (by decide +kernel) rfl (by decide +kernel) (by decide +kernel) ?_
  refine lw_argC (k := 3) (kz := 3) (kv := 3) hx hb hX hbl hB hS hl (by decide) (by omega) hL (by decide +kernel) (by decide +kernel) (by decide +kernel) rfl (by decide +kernel) (by decide +kernel) ?_
  refine rawVa (d := 60) (idx := 35) (mi2 := m_C_way) (k := 0) (i := 0) (ci := 11) (av := [.inl (xs (8 * n + 1)), .inl (xs (8 * n + 2)), .inl (xs (8 * n + 3))]) (c' := 0) (z' := 0) (rest := []) e00 ⟨hx, hb, hml, hown, hts⟩ hl.1 hfr hB (by decide +kernel) (xmok_all (by decide)) (by decide) (xwd_mem (i := 759) (by decide +kernel)) rfl ⟨_, _, rfl⟩ (by decide +kernel) (Nat.zero_le _) (show 0 < xcn L 0 from (show 0 < 1 from Nat.one_pos)) (fun v hv => by simp at hv; rcases hv with rfl | rfl | rfl <;> trivial) hW hS ⟨by omega, by omega⟩ (iv_way hn hI) (fun r S1 L1 H locs hq hL1 hW hS => ?_)
  obtain ⟨v, rfl, hq⟩ := hq.out
  have e00 := (hL1 0 0 (by decide)).trans e00
  have e36 := (hL1 36 0 (by decide)).trans e36
  have e99 := (hL1 99 0 (by decide)).trans e99
  refine lv_aload_n (k := 2) (i := 2) hx hb (by decide +kernel) rfl (lv_at hl 3 rfl) ?_
  refine lw_argC (k := 1) (kz := 1) (kv := 1) hx hb hX hbl hB hS hl (by decide) (by omega) hL (by decide +kernel) (by decide +kernel) (by decide +kernel) rfl (by decide +kernel) (by decide +kernel) ?_
  refine lw_argC (k := 2) (kz := 2) (kv := 2) hx hb hX hbl hB hS hl (by decide) (by omega) hL (by decide +kernel) (by decide +kernel) (by decide +kernel) rfl (by decide +kernel) (by decide +kernel) ?_
  refine lw_argC (k := 3) (kz := 3) (kv := 3) hx hb hX hbl hB hS hl (by decide) (by omega) hL (by decide +kernel) (by decide +kernel) (by decide +kernel) rfl (by decide +kernel) (by decide +kernel) ?_
  refine rawVa (d := 60) (idx := 39) (mi2 := m_M_way) (k := 36) (i := 0) (ci := 12) (av := [.inl (xs (8 * n + 1)), .inl (xs (8 * n + 2)), .inl (xs (8 * n + 3))]) (c' := 0) (z' := 0) (rest := [.int v]) e36 ⟨hx, hb, hml, hown, hts⟩ hl.1 hfr hB (by decide +kernel) (xmok_all (by decide)) (by decide) (xwd_mem (i := 1128) (by decide +kernel)) rfl ⟨_, _, rfl⟩ (by decide +kernel) (by decide) (show 0 < xcn L1 36 by unfold xcn; rw [e99]; decide) (fun v hv => by simp at hv; rcases hv with rfl | rfl | rfl <;> trivial) hW hS ⟨by omega, by omega⟩ hq (fun r S2 L2 H locs hq hL2 hW hS => ?_)
  obtain ⟨rfl, hI⟩ := hq
  have e00 := (hL2 0 0 (by decide)).trans e00
  have e36 := (hL2 36 0 (by decide)).trans e36
  have e99 := (hL2 99 0 (by decide)).trans e99
  refine lv_icmp_eq (off := 933) (tgt := 1344) hx hb (by decide +kernel) rfl (fun _ => ?_) (fun q => absurd rfl q)
  refine W.widen (k := cells + 1) (n := slots + 160) (by omega) (by omega) ?_
  exact kk S2 L2 H locs hI e00 e36 e99 hW hS
set_option maxRecDepth 10000 in
theorem lc_6 (hx : p.tables.exec = Jvm.exec) (hb : c.code = code) (hml : c.maxLocals = 4) (hown : s.vm.findClass "MonsoonTradeLaw" = some m.cls) (hts : ∀ w ∈ xT, w.before args s = true) (hX : va_X b Lw xs s s.heap) (hbl : b < B) (hB : B ≤ s.heap.size) (hfr : 60 + 1 ≤ R.frames ∧ 40 * (60 + 1) ≤ R.locals) (hn : n ≤ 600) (h8 : 8 * n + 8 ≤ Lw) (hL : Lw ≤ 4096) (hc : cells + 1 ≤ R.cells) (hz : slots + 160 ≤ R.slots) (e00 : L 0 0 = x0) (e36 : L 36 0 = y0) (e99 : L 99 0 = 1) (hI : INV n S) (hW : xW s D B L S H) (hS : va_S (xA B) s.heap H locs) (hl : lv_has ls 4 [(3, .int (nI (8 * n))), (0, .ref b), (1, .ref x0), (2, .ref y0)])
    (kk : ∀ (S : xS) (L : xL) (H : Heap) (locs : List Loc), INV (n + 1) S → L 0 0 = x0 → L 36 0 = y0 → L 99 0 = 1 → xW s D B L S H → va_S (xA B) s.heap H locs → W p l e R s m args below meth c H locs (cells + 1) (slots + 160) Q (F0 m 1344 ls [])) : W p l e R s m args below meth c H locs cells slots Q (F0 m 416 ls []) := by
  refine lv_aload_n (k := 1) (i := 1) hx hb (by decide +kernel) rfl (lv_at hl 2 rfl) ?_
  refine lw_argC (k := 1) (kz := 1) (kv := 1) hx hb hX hbl hB hS hl (by decide) (by omega) hL (by decide +kernel) (by decide +kernel) (by decide +kernel) rfl (by decide +kernel) (by decide +kernel) ?_
  refine lw_argC (k := 2) (kz := 2) (kv := 2) hx hb hX hbl hB hS hl (by decide) (by omega) hL (by decide +kernel) (by decide +kernel) (by decide +kernel) rfl (by decide +kernel) (by decide +kernel) ?_
  refine lw_argC (k := 3) (kz := 3) (kv := 3) hx hb hX hbl hB hS hl (by decide) (by omega) hL (by decide +kernel) (by decide +kernel) (by decide +kernel) rfl (by decide +kernel) (by decide +kernel) ?_
  refine rawVa (d := 60) (idx := 40) (mi2 := m_C_dhow) (k := 0) (i := 0) (ci := 11) (av := [.inl (xs (8 * n + 1)), .inl (xs (8 * n + 2)), .inl (xs (8 * n + 3))]) (c' := 0) (z' := 0) (rest := []) e00 ⟨hx, hb, hml, hown, hts⟩ hl.1 hfr hB (by decide +kernel) (xmok_all (by decide)) (by decide) (xwd_mem (i := 777) (by decide +kernel)) rfl ⟨_, _, rfl⟩ (by decide +kernel) (Nat.zero_le _) (show 0 < xcn L 0 from (show 0 < 1 from Nat.one_pos)) (fun v hv => by simp at hv; rcases hv with rfl | rfl | rfl <;> trivial) hW hS ⟨by omega, by omega⟩ (iv_dhow hn hI) (fun r S1 L1 H locs hq hL1 hW hS => ?_)
  obtain ⟨v, rfl, hq⟩ := hq.out
  have e00 := (hL1 0 0 (by decide)).trans e00
  have e36 := (hL1 36 0 (by decide)).trans e36
  have e99 := (hL1 99 0 (by decide)).trans e99
  refine lv_aload_n (k := 2) (i := 2) hx hb (by decide +kernel) rfl (lv_at hl 3 rfl) ?_
  refine lw_argC (k := 1) (kz := 1) (kv := 1) hx hb hX hbl hB hS hl (by decide) (by omega) hL (by decide +kernel) (by decide +kernel) (by decide +kernel) rfl (by decide +kernel) (by decide +kernel) ?_
  refine lw_argC (k := 2) (kz := 2) (kv := 2) hx hb hX hbl hB hS hl (by decide) (by omega) hL (by decide +kernel) (by decide +kernel) (by decide +kernel) rfl (by decide +kernel) (by decide +kernel) ?_
  refine lw_argC (k := 3) (kz := 3) (kv := 3) hx hb hX hbl hB hS hl (by decide) (by omega) hL (by decide +kernel) (by decide +kernel) (by decide +kernel) rfl (by decide +kernel) (by decide +kernel) ?_
  refine rawVa (d := 60) (idx := 43) (mi2 := m_M_dhow) (k := 36) (i := 0) (ci := 12) (av := [.inl (xs (8 * n + 1)), .inl (xs (8 * n + 2)), .inl (xs (8 * n + 3))]) (c' := 0) (z' := 0) (rest := [.int v]) e36 ⟨hx, hb, hml, hown, hts⟩ hl.1 hfr hB (by decide +kernel) (xmok_all (by decide)) (by decide) (xwd_mem (i := 1137) (by decide +kernel)) rfl ⟨_, _, rfl⟩ (by decide +kernel) (by decide) (show 0 < xcn L1 36 by unfold xcn; rw [e99]; decide) (fun v hv => by simp at hv; rcases hv with rfl | rfl | rfl <;> trivial) hW hS ⟨by omega, by omega⟩ hq (fun r S2 L2 H locs hq hL2 hW hS => ?_)
  obtain ⟨rfl, hI⟩ := hq
  have e00 := (hL2 0 0 (by decide)).trans e00
  have e36 := (hL2 36 0 (by decide)).trans e36
  have e99 := (hL2 99 0 (by decide)).trans e99
  refine lv_icmp_eq (off := 890) (tgt := 1344) hx hb (by decide +kernel) rfl (fun _ => ?_) (fun q => absurd rfl q)
  refine W.widen (k := cells + 1) (n := slots + 160) (by omega) (by omega) ?_
  exact kk S2 L2 H locs hI e00 e36 e99 hW hS
set_option maxRecDepth 10000 in
theorem lc_7 (hx : p.tables.exec = Jvm.exec) (hb : c.code = code) (hml : c.maxLocals = 4) (hown : s.vm.findClass "MonsoonTradeLaw" = some m.cls) (hts : ∀ w ∈ xT, w.before args s = true) (hX : va_X b Lw xs s s.heap) (hbl : b < B) (hB : B ≤ s.heap.size) (hfr : 60 + 1 ≤ R.frames ∧ 40 * (60 + 1) ≤ R.locals) (hn : n ≤ 600) (h8 : 8 * n + 8 ≤ Lw) (hL : Lw ≤ 4096) (hc : cells + 1 ≤ R.cells) (hz : slots + 160 ≤ R.slots) (e00 : L 0 0 = x0) (e36 : L 36 0 = y0) (e99 : L 99 0 = 1) (hI : INV n S) (hW : xW s D B L S H) (hS : va_S (xA B) s.heap H locs) (hl : lv_has ls 4 [(3, .int (nI (8 * n))), (0, .ref b), (1, .ref x0), (2, .ref y0)])
    (kk : ∀ (S : xS) (L : xL) (H : Heap) (locs : List Loc), INV (n + 1) S → L 0 0 = x0 → L 36 0 = y0 → L 99 0 = 1 → xW s D B L S H → va_S (xA B) s.heap H locs → W p l e R s m args below meth c H locs (cells + 1) (slots + 160) Q (F0 m 1344 ls [])) : W p l e R s m args below meth c H locs cells slots Q (F0 m 459 ls []) := by
  refine lv_aload_n (k := 1) (i := 1) hx hb (by decide +kernel) rfl (lv_at hl 2 rfl) ?_
  refine lw_argC (k := 1) (kz := 1) (kv := 1) hx hb hX hbl hB hS hl (by decide) (by omega) hL (by decide +kernel) (by decide +kernel) (by decide +kernel) rfl (by decide +kernel) (by decide +kernel) ?_
  refine lw_argC (k := 2) (kz := 2) (kv := 2) hx hb hX hbl hB hS hl (by decide) (by omega) hL (by decide +kernel) (by decide +kernel) (by decide +kernel) rfl (by decide +kernel) (by decide +kernel) ?_
  refine rawVa (d := 60) (idx := 44) (mi2 := m_C_told) (k := 0) (i := 0) (ci := 11) (av := [.inl (xs (8 * n + 1)), .inl (xs (8 * n + 2))]) (c' := 0) (z' := 0) (rest := []) e00 ⟨hx, hb, hml, hown, hts⟩ hl.1 hfr hB (by decide +kernel) (xmok_all (by decide)) (by decide) (xwd_mem (i := 782) (by decide +kernel)) rfl ⟨_, _, rfl⟩ (by decide +kernel) (Nat.zero_le _) (show 0 < xcn L 0 from (show 0 < 1 from Nat.one_pos)) (fun v hv => by simp at hv; rcases hv with rfl | rfl <;> trivial) hW hS ⟨by omega, by omega⟩ (iv_told hn hI) (fun r S1 L1 H locs hq hL1 hW hS => ?_)
  obtain ⟨v, rfl, hq⟩ := hq.out
  have e00 := (hL1 0 0 (by decide)).trans e00
  have e36 := (hL1 36 0 (by decide)).trans e36
  have e99 := (hL1 99 0 (by decide)).trans e99
  refine lv_aload_n (k := 2) (i := 2) hx hb (by decide +kernel) rfl (lv_at hl 3 rfl) ?_
  refine lw_argC (k := 1) (kz := 1) (kv := 1) hx hb hX hbl hB hS hl (by decide) (by omega) hL (by decide +kernel) (by decide +kernel) (by decide +kernel) rfl (by decide +kernel) (by decide +kernel) ?_
  refine lw_argC (k := 2) (kz := 2) (kv := 2) hx hb hX hbl hB hS hl (by decide) (by omega) hL (by decide +kernel) (by decide +kernel) (by decide +kernel) rfl (by decide +kernel) (by decide +kernel) ?_
  refine rawVa (d := 60) (idx := 47) (mi2 := m_M_told) (k := 36) (i := 0) (ci := 12) (av := [.inl (xs (8 * n + 1)), .inl (xs (8 * n + 2))]) (c' := 0) (z' := 0) (rest := [.int v]) e36 ⟨hx, hb, hml, hown, hts⟩ hl.1 hfr hB (by decide +kernel) (xmok_all (by decide)) (by decide) (xwd_mem (i := 1142) (by decide +kernel)) rfl ⟨_, _, rfl⟩ (by decide +kernel) (by decide) (show 0 < xcn L1 36 by unfold xcn; rw [e99]; decide) (fun v hv => by simp at hv; rcases hv with rfl | rfl <;> trivial) hW hS ⟨by omega, by omega⟩ hq (fun r S2 L2 H locs hq hL2 hW hS => ?_)
  obtain ⟨rfl, hI⟩ := hq
  have e00 := (hL2 0 0 (by decide)).trans e00
  have e36 := (hL2 36 0 (by decide)).trans e36
  have e99 := (hL2 99 0 (by decide)).trans e99
  refine lv_icmp_eq (off := 857) (tgt := 1344) hx hb (by decide +kernel) rfl (fun _ => ?_) (fun q => absurd rfl q)
  refine W.widen (k := cells + 1) (n := slots + 160) (by omega) (by omega) ?_
  exact kk S2 L2 H locs hI e00 e36 e99 hW hS
set_option maxRecDepth 10000 in
theorem lc_8 (hx : p.tables.exec = Jvm.exec) (hb : c.code = code) (hml : c.maxLocals = 4) (hown : s.vm.findClass "MonsoonTradeLaw" = some m.cls) (hts : ∀ w ∈ xT, w.before args s = true) (hX : va_X b Lw xs s s.heap) (hbl : b < B) (hB : B ≤ s.heap.size) (hfr : 60 + 1 ≤ R.frames ∧ 40 * (60 + 1) ≤ R.locals) (hn : n ≤ 600) (h8 : 8 * n + 8 ≤ Lw) (hL : Lw ≤ 4096) (hc : cells + 1 ≤ R.cells) (hz : slots + 160 ≤ R.slots) (e00 : L 0 0 = x0) (e36 : L 36 0 = y0) (e99 : L 99 0 = 1) (hI : INV n S) (hW : xW s D B L S H) (hS : va_S (xA B) s.heap H locs) (hl : lv_has ls 4 [(3, .int (nI (8 * n))), (0, .ref b), (1, .ref x0), (2, .ref y0)])
    (kk : ∀ (S : xS) (L : xL) (H : Heap) (locs : List Loc), INV (n + 1) S → L 0 0 = x0 → L 36 0 = y0 → L 99 0 = 1 → xW s D B L S H → va_S (xA B) s.heap H locs → W p l e R s m args below meth c H locs (cells + 1) (slots + 160) Q (F0 m 1344 ls [])) : W p l e R s m args below meth c H locs cells slots Q (F0 m 492 ls []) := by
  refine lv_aload_n (k := 1) (i := 1) hx hb (by decide +kernel) rfl (lv_at hl 2 rfl) ?_
  refine lw_argC (k := 1) (kz := 1) (kv := 1) hx hb hX hbl hB hS hl (by decide) (by omega) hL (by decide +kernel) (by decide +kernel) (by decide +kernel) rfl (by decide +kernel) (by decide +kernel) ?_
  refine lw_argC (k := 2) (kz := 2) (kv := 2) hx hb hX hbl hB hS hl (by decide) (by omega) hL (by decide +kernel) (by decide +kernel) (by decide +kernel) rfl (by decide +kernel) (by decide +kernel) ?_
  refine rawVa (d := 60) (idx := 48) (mi2 := m_C_good) (k := 0) (i := 0) (ci := 11) (av := [.inl (xs (8 * n + 1)), .inl (xs (8 * n + 2))]) (c' := 0) (z' := 0) (rest := []) e00 ⟨hx, hb, hml, hown, hts⟩ hl.1 hfr hB (by decide +kernel) (xmok_all (by decide)) (by decide) (xwd_mem (i := 794) (by decide +kernel)) rfl ⟨_, _, rfl⟩ (by decide +kernel) (Nat.zero_le _) (show 0 < xcn L 0 from (show 0 < 1 from Nat.one_pos)) (fun v hv => by simp at hv; rcases hv with rfl | rfl <;> trivial) hW hS ⟨by omega, by omega⟩ (iv_good hn hI) (fun r S1 L1 H locs hq hL1 hW hS => ?_)
  obtain ⟨v, rfl, hq⟩ := hq.out
  have e00 := (hL1 0 0 (by decide)).trans e00
  have e36 := (hL1 36 0 (by decide)).trans e36
  have e99 := (hL1 99 0 (by decide)).trans e99
  refine lv_aload_n (k := 2) (i := 2) hx hb (by decide +kernel) rfl (lv_at hl 3 rfl) ?_
  refine lw_argC (k := 1) (kz := 1) (kv := 1) hx hb hX hbl hB hS hl (by decide) (by omega) hL (by decide +kernel) (by decide +kernel) (by decide +kernel) rfl (by decide +kernel) (by decide +kernel) ?_
  refine lw_argC (k := 2) (kz := 2) (kv := 2) hx hb hX hbl hB hS hl (by decide) (by omega) hL (by decide +kernel) (by decide +kernel) (by decide +kernel) rfl (by decide +kernel) (by decide +kernel) ?_
  refine rawVa (d := 60) (idx := 51) (mi2 := m_M_good) (k := 36) (i := 0) (ci := 12) (av := [.inl (xs (8 * n + 1)), .inl (xs (8 * n + 2))]) (c' := 0) (z' := 0) (rest := [.int v]) e36 ⟨hx, hb, hml, hown, hts⟩ hl.1 hfr hB (by decide +kernel) (xmok_all (by decide)) (by decide) (xwd_mem (i := 1154) (by decide +kernel)) rfl ⟨_, _, rfl⟩ (by decide +kernel) (by decide) (show 0 < xcn L1 36 by unfold xcn; rw [e99]; decide) (fun v hv => by simp at hv; rcases hv with rfl | rfl <;> trivial) hW hS ⟨by omega, by omega⟩ hq (fun r S2 L2 H locs hq hL2 hW hS => ?_)
  obtain ⟨rfl, hI⟩ := hq
  have e00 := (hL2 0 0 (by decide)).trans e00
  have e36 := (hL2 36 0 (by decide)).trans e36
  have e99 := (hL2 99 0 (by decide)).trans e99
  refine lv_icmp_eq (off := 824) (tgt := 1344) hx hb (by decide +kernel) rfl (fun _ => ?_) (fun q => absurd rfl q)
  refine W.widen (k := cells + 1) (n := slots + 160) (by omega) (by omega) ?_
  exact kk S2 L2 H locs hI e00 e36 e99 hW hS
set_option maxRecDepth 10000 in
theorem lc_9 (hx : p.tables.exec = Jvm.exec) (hb : c.code = code) (hml : c.maxLocals = 4) (hown : s.vm.findClass "MonsoonTradeLaw" = some m.cls) (hts : ∀ w ∈ xT, w.before args s = true) (hX : va_X b Lw xs s s.heap) (hbl : b < B) (hB : B ≤ s.heap.size) (hfr : 60 + 1 ≤ R.frames ∧ 40 * (60 + 1) ≤ R.locals) (hn : n ≤ 600) (h8 : 8 * n + 8 ≤ Lw) (hL : Lw ≤ 4096) (hc : cells + 1 ≤ R.cells) (hz : slots + 160 ≤ R.slots) (e00 : L 0 0 = x0) (e36 : L 36 0 = y0) (e99 : L 99 0 = 1) (hI : INV n S) (hW : xW s D B L S H) (hS : va_S (xA B) s.heap H locs) (hl : lv_has ls 4 [(3, .int (nI (8 * n))), (0, .ref b), (1, .ref x0), (2, .ref y0)])
    (kk : ∀ (S : xS) (L : xL) (H : Heap) (locs : List Loc), INV (n + 1) S → L 0 0 = x0 → L 36 0 = y0 → L 99 0 = 1 → xW s D B L S H → va_S (xA B) s.heap H locs → W p l e R s m args below meth c H locs (cells + 1) (slots + 160) Q (F0 m 1344 ls [])) : W p l e R s m args below meth c H locs cells slots Q (F0 m 525 ls []) := by
  refine lv_aload_n (k := 1) (i := 1) hx hb (by decide +kernel) rfl (lv_at hl 2 rfl) ?_
  refine lw_argC (k := 1) (kz := 1) (kv := 1) hx hb hX hbl hB hS hl (by decide) (by omega) hL (by decide +kernel) (by decide +kernel) (by decide +kernel) rfl (by decide +kernel) (by decide +kernel) ?_
  refine lw_argC (k := 2) (kz := 2) (kv := 2) hx hb hX hbl hB hS hl (by decide) (by omega) hL (by decide +kernel) (by decide +kernel) (by decide +kernel) rfl (by decide +kernel) (by decide +kernel) ?_
  refine lw_argC (k := 3) (kz := 3) (kv := 3) hx hb hX hbl hB hS hl (by decide) (by omega) hL (by decide +kernel) (by decide +kernel) (by decide +kernel) rfl (by decide +kernel) (by decide +kernel) ?_
  refine rawVa (d := 60) (idx := 52) (mi2 := m_C_sell) (k := 0) (i := 0) (ci := 11) (av := [.inl (xs (8 * n + 1)), .inl (xs (8 * n + 2)), .inl (xs (8 * n + 3))]) (c' := 0) (z' := 0) (rest := []) e00 ⟨hx, hb, hml, hown, hts⟩ hl.1 hfr hB (by decide +kernel) (xmok_all (by decide)) (by decide) (xwd_mem (i := 798) (by decide +kernel)) rfl ⟨_, _, rfl⟩ (by decide +kernel) (Nat.zero_le _) (show 0 < xcn L 0 from (show 0 < 1 from Nat.one_pos)) (fun v hv => by simp at hv; rcases hv with rfl | rfl | rfl <;> trivial) hW hS ⟨by omega, by omega⟩ (iv_sell hn hI) (fun r S1 L1 H locs hq hL1 hW hS => ?_)
  obtain ⟨v, rfl, hq⟩ := hq.out
  have e00 := (hL1 0 0 (by decide)).trans e00
  have e36 := (hL1 36 0 (by decide)).trans e36
  have e99 := (hL1 99 0 (by decide)).trans e99
  refine lv_aload_n (k := 2) (i := 2) hx hb (by decide +kernel) rfl (lv_at hl 3 rfl) ?_
  refine lw_argC (k := 1) (kz := 1) (kv := 1) hx hb hX hbl hB hS hl (by decide) (by omega) hL (by decide +kernel) (by decide +kernel) (by decide +kernel) rfl (by decide +kernel) (by decide +kernel) ?_
  refine lw_argC (k := 2) (kz := 2) (kv := 2) hx hb hX hbl hB hS hl (by decide) (by omega) hL (by decide +kernel) (by decide +kernel) (by decide +kernel) rfl (by decide +kernel) (by decide +kernel) ?_
  refine lw_argC (k := 3) (kz := 3) (kv := 3) hx hb hX hbl hB hS hl (by decide) (by omega) hL (by decide +kernel) (by decide +kernel) (by decide +kernel) rfl (by decide +kernel) (by decide +kernel) ?_
  refine rawVa (d := 60) (idx := 55) (mi2 := m_M_sell) (k := 36) (i := 0) (ci := 12) (av := [.inl (xs (8 * n + 1)), .inl (xs (8 * n + 2)), .inl (xs (8 * n + 3))]) (c' := 0) (z' := 0) (rest := [.int v]) e36 ⟨hx, hb, hml, hown, hts⟩ hl.1 hfr hB (by decide +kernel) (xmok_all (by decide)) (by decide) (xwd_mem (i := 1158) (by decide +kernel)) rfl ⟨_, _, rfl⟩ (by decide +kernel) (by decide) (show 0 < xcn L1 36 by unfold xcn; rw [e99]; decide) (fun v hv => by simp at hv; rcases hv with rfl | rfl | rfl <;> trivial) hW hS ⟨by omega, by omega⟩ hq (fun r S2 L2 H locs hq hL2 hW hS => ?_)
  obtain ⟨rfl, hI⟩ := hq
  have e00 := (hL2 0 0 (by decide)).trans e00
  have e36 := (hL2 36 0 (by decide)).trans e36
  have e99 := (hL2 99 0 (by decide)).trans e99
  refine lv_icmp_eq (off := 781) (tgt := 1344) hx hb (by decide +kernel) rfl (fun _ => ?_) (fun q => absurd rfl q)
  refine W.widen (k := cells + 1) (n := slots + 160) (by omega) (by omega) ?_
  exact kk S2 L2 H locs hI e00 e36 e99 hW hS
set_option maxRecDepth 10000 in
theorem lc_10 (hx : p.tables.exec = Jvm.exec) (hb : c.code = code) (hml : c.maxLocals = 4) (hown : s.vm.findClass "MonsoonTradeLaw" = some m.cls) (hts : ∀ w ∈ xT, w.before args s = true) (hX : va_X b Lw xs s s.heap) (hbl : b < B) (hB : B ≤ s.heap.size) (hfr : 60 + 1 ≤ R.frames ∧ 40 * (60 + 1) ≤ R.locals) (hn : n ≤ 600) (h8 : 8 * n + 8 ≤ Lw) (hL : Lw ≤ 4096) (hc : cells + 1 ≤ R.cells) (hz : slots + 160 ≤ R.slots) (e00 : L 0 0 = x0) (e36 : L 36 0 = y0) (e99 : L 99 0 = 1) (hI : INV n S) (hW : xW s D B L S H) (hS : va_S (xA B) s.heap H locs) (hl : lv_has ls 4 [(3, .int (nI (8 * n))), (0, .ref b), (1, .ref x0), (2, .ref y0)])
    (kk : ∀ (S : xS) (L : xL) (H : Heap) (locs : List Loc), INV (n + 1) S → L 0 0 = x0 → L 36 0 = y0 → L 99 0 = 1 → xW s D B L S H → va_S (xA B) s.heap H locs → W p l e R s m args below meth c H locs (cells + 1) (slots + 160) Q (F0 m 1344 ls [])) : W p l e R s m args below meth c H locs cells slots Q (F0 m 568 ls []) := by
  refine lv_aload_n (k := 1) (i := 1) hx hb (by decide +kernel) rfl (lv_at hl 2 rfl) ?_
  refine lw_argC (k := 1) (kz := 1) (kv := 1) hx hb hX hbl hB hS hl (by decide) (by omega) hL (by decide +kernel) (by decide +kernel) (by decide +kernel) rfl (by decide +kernel) (by decide +kernel) ?_
  refine lw_argC (k := 2) (kz := 2) (kv := 2) hx hb hX hbl hB hS hl (by decide) (by omega) hL (by decide +kernel) (by decide +kernel) (by decide +kernel) rfl (by decide +kernel) (by decide +kernel) ?_
  refine lw_argC (k := 3) (kz := 3) (kv := 3) hx hb hX hbl hB hS hl (by decide) (by omega) hL (by decide +kernel) (by decide +kernel) (by decide +kernel) rfl (by decide +kernel) (by decide +kernel) ?_
  refine rawVa (d := 60) (idx := 56) (mi2 := m_C_buy) (k := 0) (i := 0) (ci := 11) (av := [.inl (xs (8 * n + 1)), .inl (xs (8 * n + 2)), .inl (xs (8 * n + 3))]) (c' := 0) (z' := 0) (rest := []) e00 ⟨hx, hb, hml, hown, hts⟩ hl.1 hfr hB (by decide +kernel) (xmok_all (by decide)) (by decide) (xwd_mem (i := 806) (by decide +kernel)) rfl ⟨_, _, rfl⟩ (by decide +kernel) (Nat.zero_le _) (show 0 < xcn L 0 from (show 0 < 1 from Nat.one_pos)) (fun v hv => by simp at hv; rcases hv with rfl | rfl | rfl <;> trivial) hW hS ⟨by omega, by omega⟩ (iv_buy hn hI) (fun r S1 L1 H locs hq hL1 hW hS => ?_)
  obtain ⟨v, rfl, hq⟩ := hq.out
  have e00 := (hL1 0 0 (by decide)).trans e00
  have e36 := (hL1 36 0 (by decide)).trans e36
  have e99 := (hL1 99 0 (by decide)).trans e99
  refine lv_aload_n (k := 2) (i := 2) hx hb (by decide +kernel) rfl (lv_at hl 3 rfl) ?_
  refine lw_argC (k := 1) (kz := 1) (kv := 1) hx hb hX hbl hB hS hl (by decide) (by omega) hL (by decide +kernel) (by decide +kernel) (by decide +kernel) rfl (by decide +kernel) (by decide +kernel) ?_
  refine lw_argC (k := 2) (kz := 2) (kv := 2) hx hb hX hbl hB hS hl (by decide) (by omega) hL (by decide +kernel) (by decide +kernel) (by decide +kernel) rfl (by decide +kernel) (by decide +kernel) ?_
  refine lw_argC (k := 3) (kz := 3) (kv := 3) hx hb hX hbl hB hS hl (by decide) (by omega) hL (by decide +kernel) (by decide +kernel) (by decide +kernel) rfl (by decide +kernel) (by decide +kernel) ?_
  refine rawVa (d := 60) (idx := 59) (mi2 := m_M_buy) (k := 36) (i := 0) (ci := 12) (av := [.inl (xs (8 * n + 1)), .inl (xs (8 * n + 2)), .inl (xs (8 * n + 3))]) (c' := 0) (z' := 0) (rest := [.int v]) e36 ⟨hx, hb, hml, hown, hts⟩ hl.1 hfr hB (by decide +kernel) (xmok_all (by decide)) (by decide) (xwd_mem (i := 1166) (by decide +kernel)) rfl ⟨_, _, rfl⟩ (by decide +kernel) (by decide) (show 0 < xcn L1 36 by unfold xcn; rw [e99]; decide) (fun v hv => by simp at hv; rcases hv with rfl | rfl | rfl <;> trivial) hW hS ⟨by omega, by omega⟩ hq (fun r S2 L2 H locs hq hL2 hW hS => ?_)
  obtain ⟨rfl, hI⟩ := hq
  have e00 := (hL2 0 0 (by decide)).trans e00
  have e36 := (hL2 36 0 (by decide)).trans e36
  have e99 := (hL2 99 0 (by decide)).trans e99
  refine lv_icmp_eq (off := 738) (tgt := 1344) hx hb (by decide +kernel) rfl (fun _ => ?_) (fun q => absurd rfl q)
  refine W.widen (k := cells + 1) (n := slots + 160) (by omega) (by omega) ?_
  exact kk S2 L2 H locs hI e00 e36 e99 hW hS
set_option maxRecDepth 10000 in
theorem lc_11 (hx : p.tables.exec = Jvm.exec) (hb : c.code = code) (hml : c.maxLocals = 4) (hown : s.vm.findClass "MonsoonTradeLaw" = some m.cls) (hts : ∀ w ∈ xT, w.before args s = true) (hX : va_X b Lw xs s s.heap) (hbl : b < B) (hB : B ≤ s.heap.size) (hfr : 60 + 1 ≤ R.frames ∧ 40 * (60 + 1) ≤ R.locals) (hn : n ≤ 600) (h8 : 8 * n + 8 ≤ Lw) (hL : Lw ≤ 4096) (hc : cells + 1 ≤ R.cells) (hz : slots + 160 ≤ R.slots) (e00 : L 0 0 = x0) (e36 : L 36 0 = y0) (e99 : L 99 0 = 1) (hI : INV n S) (hW : xW s D B L S H) (hS : va_S (xA B) s.heap H locs) (hl : lv_has ls 4 [(3, .int (nI (8 * n))), (0, .ref b), (1, .ref x0), (2, .ref y0)])
    (kk : ∀ (S : xS) (L : xL) (H : Heap) (locs : List Loc), INV (n + 1) S → L 0 0 = x0 → L 36 0 = y0 → L 99 0 = 1 → xW s D B L S H → va_S (xA B) s.heap H locs → W p l e R s m args below meth c H locs (cells + 1) (slots + 160) Q (F0 m 1344 ls [])) : W p l e R s m args below meth c H locs cells slots Q (F0 m 611 ls []) := by
  refine lv_aload_n (k := 1) (i := 1) hx hb (by decide +kernel) rfl (lv_at hl 2 rfl) ?_
  refine lw_argC (k := 1) (kz := 1) (kv := 1) hx hb hX hbl hB hS hl (by decide) (by omega) hL (by decide +kernel) (by decide +kernel) (by decide +kernel) rfl (by decide +kernel) (by decide +kernel) ?_
  refine lw_argC (k := 2) (kz := 2) (kv := 2) hx hb hX hbl hB hS hl (by decide) (by omega) hL (by decide +kernel) (by decide +kernel) (by decide +kernel) rfl (by decide +kernel) (by decide +kernel) ?_
  refine rawVa (d := 60) (idx := 60) (mi2 := m_C_sail) (k := 0) (i := 0) (ci := 11) (av := [.inl (xs (8 * n + 1)), .inl (xs (8 * n + 2))]) (c' := 0) (z' := 0) (rest := []) e00 ⟨hx, hb, hml, hown, hts⟩ hl.1 hfr hB (by decide +kernel) (xmok_all (by decide)) (by decide) (xwd_mem (i := 810) (by decide +kernel)) rfl ⟨_, _, rfl⟩ (by decide +kernel) (Nat.zero_le _) (show 0 < xcn L 0 from (show 0 < 1 from Nat.one_pos)) (fun v hv => by simp at hv; rcases hv with rfl | rfl <;> trivial) hW hS ⟨by omega, by omega⟩ (iv_sail hn hI) (fun r S1 L1 H locs hq hL1 hW hS => ?_)
  obtain ⟨v, rfl, hq⟩ := hq.out
  have e00 := (hL1 0 0 (by decide)).trans e00
  have e36 := (hL1 36 0 (by decide)).trans e36
  have e99 := (hL1 99 0 (by decide)).trans e99
  refine lv_aload_n (k := 2) (i := 2) hx hb (by decide +kernel) rfl (lv_at hl 3 rfl) ?_
  refine lw_argC (k := 1) (kz := 1) (kv := 1) hx hb hX hbl hB hS hl (by decide) (by omega) hL (by decide +kernel) (by decide +kernel) (by decide +kernel) rfl (by decide +kernel) (by decide +kernel) ?_
  refine lw_argC (k := 2) (kz := 2) (kv := 2) hx hb hX hbl hB hS hl (by decide) (by omega) hL (by decide +kernel) (by decide +kernel) (by decide +kernel) rfl (by decide +kernel) (by decide +kernel) ?_
  refine rawVa (d := 60) (idx := 63) (mi2 := m_M_sail) (k := 36) (i := 0) (ci := 12) (av := [.inl (xs (8 * n + 1)), .inl (xs (8 * n + 2))]) (c' := 0) (z' := 0) (rest := [.int v]) e36 ⟨hx, hb, hml, hown, hts⟩ hl.1 hfr hB (by decide +kernel) (xmok_all (by decide)) (by decide) (xwd_mem (i := 1170) (by decide +kernel)) rfl ⟨_, _, rfl⟩ (by decide +kernel) (by decide) (show 0 < xcn L1 36 by unfold xcn; rw [e99]; decide) (fun v hv => by simp at hv; rcases hv with rfl | rfl <;> trivial) hW hS ⟨by omega, by omega⟩ hq (fun r S2 L2 H locs hq hL2 hW hS => ?_)
  obtain ⟨rfl, hI⟩ := hq
  have e00 := (hL2 0 0 (by decide)).trans e00
  have e36 := (hL2 36 0 (by decide)).trans e36
  have e99 := (hL2 99 0 (by decide)).trans e99
  refine lv_icmp_eq (off := 705) (tgt := 1344) hx hb (by decide +kernel) rfl (fun _ => ?_) (fun q => absurd rfl q)
  refine W.widen (k := cells + 1) (n := slots + 160) (by omega) (by omega) ?_
  exact kk S2 L2 H locs hI e00 e36 e99 hW hS
set_option maxRecDepth 10000 in
theorem lc_12 (hx : p.tables.exec = Jvm.exec) (hb : c.code = code) (hml : c.maxLocals = 4) (hown : s.vm.findClass "MonsoonTradeLaw" = some m.cls) (hts : ∀ w ∈ xT, w.before args s = true) (hX : va_X b Lw xs s s.heap) (hbl : b < B) (hB : B ≤ s.heap.size) (hfr : 60 + 1 ≤ R.frames ∧ 40 * (60 + 1) ≤ R.locals) (hn : n ≤ 600) (h8 : 8 * n + 8 ≤ Lw) (hL : Lw ≤ 4096) (hc : cells + 1 ≤ R.cells) (hz : slots + 160 ≤ R.slots) (e00 : L 0 0 = x0) (e36 : L 36 0 = y0) (e99 : L 99 0 = 1) (hI : INV n S) (hW : xW s D B L S H) (hS : va_S (xA B) s.heap H locs) (hl : lv_has ls 4 [(3, .int (nI (8 * n))), (0, .ref b), (1, .ref x0), (2, .ref y0)])
    (kk : ∀ (S : xS) (L : xL) (H : Heap) (locs : List Loc), INV (n + 1) S → L 0 0 = x0 → L 36 0 = y0 → L 99 0 = 1 → xW s D B L S H → va_S (xA B) s.heap H locs → W p l e R s m args below meth c H locs (cells + 1) (slots + 160) Q (F0 m 1344 ls [])) : W p l e R s m args below meth c H locs cells slots Q (F0 m 644 ls []) := by
  refine lv_aload_n (k := 1) (i := 1) hx hb (by decide +kernel) rfl (lv_at hl 2 rfl) ?_
  refine lw_argC (k := 1) (kz := 1) (kv := 1) hx hb hX hbl hB hS hl (by decide) (by omega) hL (by decide +kernel) (by decide +kernel) (by decide +kernel) rfl (by decide +kernel) (by decide +kernel) ?_
  refine rawVa (d := 60) (idx := 64) (mi2 := m_C_days) (k := 0) (i := 0) (ci := 11) (av := [.inl (xs (8 * n + 1))]) (c' := 0) (z' := 0) (rest := []) e00 ⟨hx, hb, hml, hown, hts⟩ hl.1 hfr hB (by decide +kernel) (xmok_all (by decide)) (by decide) (xwd_mem (i := 832) (by decide +kernel)) rfl ⟨_, _, rfl⟩ (by decide +kernel) (Nat.zero_le _) (show 0 < xcn L 0 from (show 0 < 1 from Nat.one_pos)) (fun v hv => by simp at hv; subst hv; trivial) hW hS ⟨by omega, by omega⟩ (iv_days hn hI) (fun r S1 L1 H locs hq hL1 hW hS => ?_)
  obtain ⟨v, rfl, hq⟩ := hq.out
  have e00 := (hL1 0 0 (by decide)).trans e00
  have e36 := (hL1 36 0 (by decide)).trans e36
  have e99 := (hL1 99 0 (by decide)).trans e99
  refine lv_aload_n (k := 2) (i := 2) hx hb (by decide +kernel) rfl (lv_at hl 3 rfl) ?_
  refine lw_argC (k := 1) (kz := 1) (kv := 1) hx hb hX hbl hB hS hl (by decide) (by omega) hL (by decide +kernel) (by decide +kernel) (by decide +kernel) rfl (by decide +kernel) (by decide +kernel) ?_
  refine rawVa (d := 60) (idx := 68) (mi2 := m_M_days) (k := 36) (i := 0) (ci := 12) (av := [.inl (xs (8 * n + 1))]) (c' := 0) (z' := 0) (rest := [.int v]) e36 ⟨hx, hb, hml, hown, hts⟩ hl.1 hfr hB (by decide +kernel) (xmok_all (by decide)) (by decide) (xwd_mem (i := 1186) (by decide +kernel)) rfl ⟨_, _, rfl⟩ (by decide +kernel) (by decide) (show 0 < xcn L1 36 by unfold xcn; rw [e99]; decide) (fun v hv => by simp at hv; subst hv; trivial) hW hS ⟨by omega, by omega⟩ hq (fun r S2 L2 H locs hq hL2 hW hS => ?_)
  obtain ⟨rfl, hI⟩ := hq
  have e00 := (hL2 0 0 (by decide)).trans e00
  have e36 := (hL2 36 0 (by decide)).trans e36
  have e99 := (hL2 99 0 (by decide)).trans e99
  refine lv_icmp_eq (off := 682) (tgt := 1344) hx hb (by decide +kernel) rfl (fun _ => ?_) (fun q => absurd rfl q)
  refine W.widen (k := cells + 1) (n := slots + 160) (by omega) (by omega) ?_
  exact kk S2 L2 H locs hI e00 e36 e99 hW hS
set_option maxRecDepth 10000 in
theorem lc_13 (hx : p.tables.exec = Jvm.exec) (hb : c.code = code) (hml : c.maxLocals = 4) (hown : s.vm.findClass "MonsoonTradeLaw" = some m.cls) (hts : ∀ w ∈ xT, w.before args s = true) (hX : va_X b Lw xs s s.heap) (hbl : b < B) (hB : B ≤ s.heap.size) (hfr : 60 + 1 ≤ R.frames ∧ 40 * (60 + 1) ≤ R.locals) (hn : n ≤ 600) (h8 : 8 * n + 8 ≤ Lw) (hL : Lw ≤ 4096) (hc : cells + 1 ≤ R.cells) (hz : slots + 160 ≤ R.slots) (e00 : L 0 0 = x0) (e36 : L 36 0 = y0) (e99 : L 99 0 = 1) (hI : INV n S) (hW : xW s D B L S H) (hS : va_S (xA B) s.heap H locs) (hl : lv_has ls 4 [(3, .int (nI (8 * n))), (0, .ref b), (1, .ref x0), (2, .ref y0)])
    (kk : ∀ (S : xS) (L : xL) (H : Heap) (locs : List Loc), INV (n + 1) S → L 0 0 = x0 → L 36 0 = y0 → L 99 0 = 1 → xW s D B L S H → va_S (xA B) s.heap H locs → W p l e R s m args below meth c H locs (cells + 1) (slots + 160) Q (F0 m 1344 ls [])) : W p l e R s m args below meth c H locs cells slots Q (F0 m 667 ls []) := by
  refine lv_aload_n (k := 1) (i := 1) hx hb (by decide +kernel) rfl (lv_at hl 2 rfl) ?_
  refine lw_argC (k := 1) (kz := 1) (kv := 1) hx hb hX hbl hB hS hl (by decide) (by omega) hL (by decide +kernel) (by decide +kernel) (by decide +kernel) rfl (by decide +kernel) (by decide +kernel) ?_
  refine rawVa (d := 60) (idx := 69) (mi2 := m_C_lose) (k := 0) (i := 0) (ci := 11) (av := [.inl (xs (8 * n + 1))]) (c' := 0) (z' := 0) (rest := []) e00 ⟨hx, hb, hml, hown, hts⟩ hl.1 hfr hB (by decide +kernel) (xmok_all (by decide)) (by decide) (xwd_mem (i := 844) (by decide +kernel)) rfl ⟨_, _, rfl⟩ (by decide +kernel) (Nat.zero_le _) (show 0 < xcn L 0 from (show 0 < 1 from Nat.one_pos)) (fun v hv => by simp at hv; subst hv; trivial) hW hS ⟨by omega, by omega⟩ (iv_lose hn hI) (fun r S1 L1 H locs hq hL1 hW hS => ?_)
  obtain ⟨v, rfl, hq⟩ := hq.out
  have e00 := (hL1 0 0 (by decide)).trans e00
  have e36 := (hL1 36 0 (by decide)).trans e36
  have e99 := (hL1 99 0 (by decide)).trans e99
  refine lv_aload_n (k := 2) (i := 2) hx hb (by decide +kernel) rfl (lv_at hl 3 rfl) ?_
  refine lw_argC (k := 1) (kz := 1) (kv := 1) hx hb hX hbl hB hS hl (by decide) (by omega) hL (by decide +kernel) (by decide +kernel) (by decide +kernel) rfl (by decide +kernel) (by decide +kernel) ?_
  refine rawVa (d := 60) (idx := 72) (mi2 := m_M_lose) (k := 36) (i := 0) (ci := 12) (av := [.inl (xs (8 * n + 1))]) (c' := 0) (z' := 0) (rest := [.int v]) e36 ⟨hx, hb, hml, hown, hts⟩ hl.1 hfr hB (by decide +kernel) (xmok_all (by decide)) (by decide) (xwd_mem (i := 1191) (by decide +kernel)) rfl ⟨_, _, rfl⟩ (by decide +kernel) (by decide) (show 0 < xcn L1 36 by unfold xcn; rw [e99]; decide) (fun v hv => by simp at hv; subst hv; trivial) hW hS ⟨by omega, by omega⟩ hq (fun r S2 L2 H locs hq hL2 hW hS => ?_)
  obtain ⟨rfl, hI⟩ := hq
  have e00 := (hL2 0 0 (by decide)).trans e00
  have e36 := (hL2 36 0 (by decide)).trans e36
  have e99 := (hL2 99 0 (by decide)).trans e99
  refine lv_icmp_eq (off := 659) (tgt := 1344) hx hb (by decide +kernel) rfl (fun _ => ?_) (fun q => absurd rfl q)
  refine W.widen (k := cells + 1) (n := slots + 160) (by omega) (by omega) ?_
  exact kk S2 L2 H locs hI e00 e36 e99 hW hS
set_option maxRecDepth 10000 in
theorem lc_14 (hx : p.tables.exec = Jvm.exec) (hb : c.code = code) (hml : c.maxLocals = 4) (hown : s.vm.findClass "MonsoonTradeLaw" = some m.cls) (hts : ∀ w ∈ xT, w.before args s = true) (hX : va_X b Lw xs s s.heap) (hbl : b < B) (hB : B ≤ s.heap.size) (hfr : 60 + 1 ≤ R.frames ∧ 40 * (60 + 1) ≤ R.locals) (hn : n ≤ 600) (h8 : 8 * n + 8 ≤ Lw) (hL : Lw ≤ 4096) (hc : cells + 1 ≤ R.cells) (hz : slots + 160 ≤ R.slots) (e00 : L 0 0 = x0) (e36 : L 36 0 = y0) (e99 : L 99 0 = 1) (hI : INV n S) (hW : xW s D B L S H) (hS : va_S (xA B) s.heap H locs) (hl : lv_has ls 4 [(3, .int (nI (8 * n))), (0, .ref b), (1, .ref x0), (2, .ref y0)])
    (kk : ∀ (S : xS) (L : xL) (H : Heap) (locs : List Loc), INV (n + 1) S → L 0 0 = x0 → L 36 0 = y0 → L 99 0 = 1 → xW s D B L S H → va_S (xA B) s.heap H locs → W p l e R s m args below meth c H locs (cells + 1) (slots + 160) Q (F0 m 1344 ls [])) : W p l e R s m args below meth c H locs cells slots Q (F0 m 690 ls []) := by
  refine lv_aload_n (k := 1) (i := 1) hx hb (by decide +kernel) rfl (lv_at hl 2 rfl) ?_
  refine lw_argC (k := 1) (kz := 1) (kv := 1) hx hb hX hbl hB hS hl (by decide) (by omega) hL (by decide +kernel) (by decide +kernel) (by decide +kernel) rfl (by decide +kernel) (by decide +kernel) ?_
  refine lw_argC (k := 2) (kz := 2) (kv := 2) hx hb hX hbl hB hS hl (by decide) (by omega) hL (by decide +kernel) (by decide +kernel) (by decide +kernel) rfl (by decide +kernel) (by decide +kernel) ?_
  refine lw_argC (k := 3) (kz := 3) (kv := 3) hx hb hX hbl hB hS hl (by decide) (by omega) hL (by decide +kernel) (by decide +kernel) (by decide +kernel) rfl (by decide +kernel) (by decide +kernel) ?_
  refine lw_argC (k := 4) (kz := 4) (kv := 4) hx hb hX hbl hB hS hl (by decide) (by omega) hL (by decide +kernel) (by decide +kernel) (by decide +kernel) rfl (by decide +kernel) (by decide +kernel) ?_
  refine rawVa (d := 60) (idx := 73) (mi2 := m_C_heard) (k := 0) (i := 0) (ci := 11) (av := [.inl (xs (8 * n + 1)), .inl (xs (8 * n + 2)), .inl (xs (8 * n + 3)), .inl (xs (8 * n + 4))]) (c' := 0) (z' := 0) (rest := []) e00 ⟨hx, hb, hml, hown, hts⟩ hl.1 hfr hB (by decide +kernel) (xmok_all (by decide)) (by decide) (xwd_mem (i := 861) (by decide +kernel)) rfl ⟨_, _, rfl⟩ (by decide +kernel) (Nat.zero_le _) (show 0 < xcn L 0 from (show 0 < 1 from Nat.one_pos)) (fun v hv => by simp at hv; rcases hv with rfl | rfl | rfl | rfl <;> trivial) hW hS ⟨by omega, by omega⟩ (iv_heard hn hI) (fun r S1 L1 H locs hq hL1 hW hS => ?_)
  obtain ⟨v, rfl, hq⟩ := hq.out
  have e00 := (hL1 0 0 (by decide)).trans e00
  have e36 := (hL1 36 0 (by decide)).trans e36
  have e99 := (hL1 99 0 (by decide)).trans e99
  refine lv_aload_n (k := 2) (i := 2) hx hb (by decide +kernel) rfl (lv_at hl 3 rfl) ?_
  refine lw_argC (k := 1) (kz := 1) (kv := 1) hx hb hX hbl hB hS hl (by decide) (by omega) hL (by decide +kernel) (by decide +kernel) (by decide +kernel) rfl (by decide +kernel) (by decide +kernel) ?_
  refine lw_argC (k := 2) (kz := 2) (kv := 2) hx hb hX hbl hB hS hl (by decide) (by omega) hL (by decide +kernel) (by decide +kernel) (by decide +kernel) rfl (by decide +kernel) (by decide +kernel) ?_
  refine lw_argC (k := 3) (kz := 3) (kv := 3) hx hb hX hbl hB hS hl (by decide) (by omega) hL (by decide +kernel) (by decide +kernel) (by decide +kernel) rfl (by decide +kernel) (by decide +kernel) ?_
  refine lw_argC (k := 4) (kz := 4) (kv := 4) hx hb hX hbl hB hS hl (by decide) (by omega) hL (by decide +kernel) (by decide +kernel) (by decide +kernel) rfl (by decide +kernel) (by decide +kernel) ?_
  refine rawVa (d := 60) (idx := 76) (mi2 := m_M_heard) (k := 36) (i := 0) (ci := 12) (av := [.inl (xs (8 * n + 1)), .inl (xs (8 * n + 2)), .inl (xs (8 * n + 3)), .inl (xs (8 * n + 4))]) (c' := 0) (z' := 0) (rest := [.int v]) e36 ⟨hx, hb, hml, hown, hts⟩ hl.1 hfr hB (by decide +kernel) (xmok_all (by decide)) (by decide) (xwd_mem (i := 1195) (by decide +kernel)) rfl ⟨_, _, rfl⟩ (by decide +kernel) (by decide) (show 0 < xcn L1 36 by unfold xcn; rw [e99]; decide) (fun v hv => by simp at hv; rcases hv with rfl | rfl | rfl | rfl <;> trivial) hW hS ⟨by omega, by omega⟩ hq (fun r S2 L2 H locs hq hL2 hW hS => ?_)
  obtain ⟨rfl, hI⟩ := hq
  have e00 := (hL2 0 0 (by decide)).trans e00
  have e36 := (hL2 36 0 (by decide)).trans e36
  have e99 := (hL2 99 0 (by decide)).trans e99
  refine lv_icmp_eq (off := 606) (tgt := 1344) hx hb (by decide +kernel) rfl (fun _ => ?_) (fun q => absurd rfl q)
  refine W.widen (k := cells + 1) (n := slots + 160) (by omega) (by omega) ?_
  exact kk S2 L2 H locs hI e00 e36 e99 hW hS
set_option maxRecDepth 10000 in
theorem lc_15 (hx : p.tables.exec = Jvm.exec) (hb : c.code = code) (hml : c.maxLocals = 4) (hown : s.vm.findClass "MonsoonTradeLaw" = some m.cls) (hts : ∀ w ∈ xT, w.before args s = true) (hX : va_X b Lw xs s s.heap) (hbl : b < B) (hB : B ≤ s.heap.size) (hfr : 60 + 1 ≤ R.frames ∧ 40 * (60 + 1) ≤ R.locals) (hn : n ≤ 600) (h8 : 8 * n + 8 ≤ Lw) (hL : Lw ≤ 4096) (hc : cells + 1 ≤ R.cells) (hz : slots + 160 ≤ R.slots) (e00 : L 0 0 = x0) (e36 : L 36 0 = y0) (e99 : L 99 0 = 1) (hI : INV n S) (hW : xW s D B L S H) (hS : va_S (xA B) s.heap H locs) (hl : lv_has ls 4 [(3, .int (nI (8 * n))), (0, .ref b), (1, .ref x0), (2, .ref y0)])
    (kk : ∀ (S : xS) (L : xL) (H : Heap) (locs : List Loc), INV (n + 1) S → L 0 0 = x0 → L 36 0 = y0 → L 99 0 = 1 → xW s D B L S H → va_S (xA B) s.heap H locs → W p l e R s m args below meth c H locs (cells + 1) (slots + 160) Q (F0 m 1344 ls [])) : W p l e R s m args below meth c H locs cells slots Q (F0 m 743 ls []) := by
  refine lv_aload_n (k := 1) (i := 1) hx hb (by decide +kernel) rfl (lv_at hl 2 rfl) ?_
  refine lw_argC (k := 1) (kz := 1) (kv := 1) hx hb hX hbl hB hS hl (by decide) (by omega) hL (by decide +kernel) (by decide +kernel) (by decide +kernel) rfl (by decide +kernel) (by decide +kernel) ?_
  refine lw_argC (k := 2) (kz := 2) (kv := 2) hx hb hX hbl hB hS hl (by decide) (by omega) hL (by decide +kernel) (by decide +kernel) (by decide +kernel) rfl (by decide +kernel) (by decide +kernel) ?_
  refine lw_argC (k := 3) (kz := 3) (kv := 3) hx hb hX hbl hB hS hl (by decide) (by omega) hL (by decide +kernel) (by decide +kernel) (by decide +kernel) rfl (by decide +kernel) (by decide +kernel) ?_
  refine lw_argC (k := 4) (kz := 4) (kv := 4) hx hb hX hbl hB hS hl (by decide) (by omega) hL (by decide +kernel) (by decide +kernel) (by decide +kernel) rfl (by decide +kernel) (by decide +kernel) ?_
  refine rawVa (d := 60) (idx := 77) (mi2 := m_C_venture) (k := 0) (i := 0) (ci := 11) (av := [.inl (xs (8 * n + 1)), .inl (xs (8 * n + 2)), .inl (xs (8 * n + 3)), .inl (xs (8 * n + 4))]) (c' := 0) (z' := 0) (rest := []) e00 ⟨hx, hb, hml, hown, hts⟩ hl.1 hfr hB (by decide +kernel) (xmok_all (by decide)) (by decide) (xwd_mem (i := 873) (by decide +kernel)) rfl ⟨_, _, rfl⟩ (by decide +kernel) (Nat.zero_le _) (show 0 < xcn L 0 from (show 0 < 1 from Nat.one_pos)) (fun v hv => by simp at hv; rcases hv with rfl | rfl | rfl | rfl <;> trivial) hW hS ⟨by omega, by omega⟩ (iv_venture hn hI) (fun r S1 L1 H locs hq hL1 hW hS => ?_)
  obtain ⟨v, rfl, hq⟩ := hq.out
  have e00 := (hL1 0 0 (by decide)).trans e00
  have e36 := (hL1 36 0 (by decide)).trans e36
  have e99 := (hL1 99 0 (by decide)).trans e99
  refine lv_aload_n (k := 2) (i := 2) hx hb (by decide +kernel) rfl (lv_at hl 3 rfl) ?_
  refine lw_argC (k := 1) (kz := 1) (kv := 1) hx hb hX hbl hB hS hl (by decide) (by omega) hL (by decide +kernel) (by decide +kernel) (by decide +kernel) rfl (by decide +kernel) (by decide +kernel) ?_
  refine lw_argC (k := 2) (kz := 2) (kv := 2) hx hb hX hbl hB hS hl (by decide) (by omega) hL (by decide +kernel) (by decide +kernel) (by decide +kernel) rfl (by decide +kernel) (by decide +kernel) ?_
  refine lw_argC (k := 3) (kz := 3) (kv := 3) hx hb hX hbl hB hS hl (by decide) (by omega) hL (by decide +kernel) (by decide +kernel) (by decide +kernel) rfl (by decide +kernel) (by decide +kernel) ?_
  refine lw_argC (k := 4) (kz := 4) (kv := 4) hx hb hX hbl hB hS hl (by decide) (by omega) hL (by decide +kernel) (by decide +kernel) (by decide +kernel) rfl (by decide +kernel) (by decide +kernel) ?_
  refine rawVa (d := 60) (idx := 80) (mi2 := m_M_venture) (k := 36) (i := 0) (ci := 12) (av := [.inl (xs (8 * n + 1)), .inl (xs (8 * n + 2)), .inl (xs (8 * n + 3)), .inl (xs (8 * n + 4))]) (c' := 0) (z' := 0) (rest := [.int v]) e36 ⟨hx, hb, hml, hown, hts⟩ hl.1 hfr hB (by decide +kernel) (xmok_all (by decide)) (by decide) (xwd_mem (i := 1200) (by decide +kernel)) rfl ⟨_, _, rfl⟩ (by decide +kernel) (by decide) (show 0 < xcn L1 36 by unfold xcn; rw [e99]; decide) (fun v hv => by simp at hv; rcases hv with rfl | rfl | rfl | rfl <;> trivial) hW hS ⟨by omega, by omega⟩ hq (fun r S2 L2 H locs hq hL2 hW hS => ?_)
  obtain ⟨rfl, hI⟩ := hq
  have e00 := (hL2 0 0 (by decide)).trans e00
  have e36 := (hL2 36 0 (by decide)).trans e36
  have e99 := (hL2 99 0 (by decide)).trans e99
  refine lv_icmp_eq (off := 553) (tgt := 1344) hx hb (by decide +kernel) rfl (fun _ => ?_) (fun q => absurd rfl q)
  refine W.widen (k := cells + 1) (n := slots + 160) (by omega) (by omega) ?_
  exact kk S2 L2 H locs hI e00 e36 e99 hW hS
set_option maxRecDepth 10000 in
theorem lc_16 (hx : p.tables.exec = Jvm.exec) (hb : c.code = code) (hml : c.maxLocals = 4) (hown : s.vm.findClass "MonsoonTradeLaw" = some m.cls) (hts : ∀ w ∈ xT, w.before args s = true) (hX : va_X b Lw xs s s.heap) (hbl : b < B) (hB : B ≤ s.heap.size) (hfr : 60 + 1 ≤ R.frames ∧ 40 * (60 + 1) ≤ R.locals) (hn : n ≤ 600) (h8 : 8 * n + 8 ≤ Lw) (hL : Lw ≤ 4096) (hc : cells + 1 ≤ R.cells) (hz : slots + 160 ≤ R.slots) (e00 : L 0 0 = x0) (e36 : L 36 0 = y0) (e99 : L 99 0 = 1) (hI : INV n S) (hW : xW s D B L S H) (hS : va_S (xA B) s.heap H locs) (hl : lv_has ls 4 [(3, .int (nI (8 * n))), (0, .ref b), (1, .ref x0), (2, .ref y0)])
    (kk : ∀ (S : xS) (L : xL) (H : Heap) (locs : List Loc), INV (n + 1) S → L 0 0 = x0 → L 36 0 = y0 → L 99 0 = 1 → xW s D B L S H → va_S (xA B) s.heap H locs → W p l e R s m args below meth c H locs (cells + 1) (slots + 160) Q (F0 m 1344 ls [])) : W p l e R s m args below meth c H locs cells slots Q (F0 m 796 ls []) := by
  refine lv_aload_n (k := 1) (i := 1) hx hb (by decide +kernel) rfl (lv_at hl 2 rfl) ?_
  refine lw_argC (k := 1) (kz := 1) (kv := 1) hx hb hX hbl hB hS hl (by decide) (by omega) hL (by decide +kernel) (by decide +kernel) (by decide +kernel) rfl (by decide +kernel) (by decide +kernel) ?_
  refine lw_argC (k := 2) (kz := 2) (kv := 2) hx hb hX hbl hB hS hl (by decide) (by omega) hL (by decide +kernel) (by decide +kernel) (by decide +kernel) rfl (by decide +kernel) (by decide +kernel) ?_
  refine rawVa (d := 60) (idx := 81) (mi2 := m_C_ventureTold) (k := 0) (i := 0) (ci := 11) (av := [.inl (xs (8 * n + 1)), .inl (xs (8 * n + 2))]) (c' := 0) (z' := 0) (rest := []) e00 ⟨hx, hb, hml, hown, hts⟩ hl.1 hfr hB (by decide +kernel) (xmok_all (by decide)) (by decide) (xwd_mem (i := 889) (by decide +kernel)) rfl ⟨_, _, rfl⟩ (by decide +kernel) (Nat.zero_le _) (show 0 < xcn L 0 from (show 0 < 1 from Nat.one_pos)) (fun v hv => by simp at hv; rcases hv with rfl | rfl <;> trivial) hW hS ⟨by omega, by omega⟩ (iv_ventureTold hn hI) (fun r S1 L1 H locs hq hL1 hW hS => ?_)
  obtain ⟨v, rfl, hq⟩ := hq.out
  have e00 := (hL1 0 0 (by decide)).trans e00
  have e36 := (hL1 36 0 (by decide)).trans e36
  have e99 := (hL1 99 0 (by decide)).trans e99
  refine lv_aload_n (k := 2) (i := 2) hx hb (by decide +kernel) rfl (lv_at hl 3 rfl) ?_
  refine lw_argC (k := 1) (kz := 1) (kv := 1) hx hb hX hbl hB hS hl (by decide) (by omega) hL (by decide +kernel) (by decide +kernel) (by decide +kernel) rfl (by decide +kernel) (by decide +kernel) ?_
  refine lw_argC (k := 2) (kz := 2) (kv := 2) hx hb hX hbl hB hS hl (by decide) (by omega) hL (by decide +kernel) (by decide +kernel) (by decide +kernel) rfl (by decide +kernel) (by decide +kernel) ?_
  refine rawVa (d := 60) (idx := 84) (mi2 := m_M_ventureTold) (k := 36) (i := 0) (ci := 12) (av := [.inl (xs (8 * n + 1)), .inl (xs (8 * n + 2))]) (c' := 0) (z' := 0) (rest := [.int v]) e36 ⟨hx, hb, hml, hown, hts⟩ hl.1 hfr hB (by decide +kernel) (xmok_all (by decide)) (by decide) (xwd_mem (i := 1205) (by decide +kernel)) rfl ⟨_, _, rfl⟩ (by decide +kernel) (by decide) (show 0 < xcn L1 36 by unfold xcn; rw [e99]; decide) (fun v hv => by simp at hv; rcases hv with rfl | rfl <;> trivial) hW hS ⟨by omega, by omega⟩ hq (fun r S2 L2 H locs hq hL2 hW hS => ?_)
  obtain ⟨rfl, hI⟩ := hq
  have e00 := (hL2 0 0 (by decide)).trans e00
  have e36 := (hL2 36 0 (by decide)).trans e36
  have e99 := (hL2 99 0 (by decide)).trans e99
  refine lv_icmp_eq (off := 520) (tgt := 1344) hx hb (by decide +kernel) rfl (fun _ => ?_) (fun q => absurd rfl q)
  refine W.widen (k := cells + 1) (n := slots + 160) (by omega) (by omega) ?_
  exact kk S2 L2 H locs hI e00 e36 e99 hW hS
set_option maxRecDepth 10000 in
theorem lc_17 (hx : p.tables.exec = Jvm.exec) (hb : c.code = code) (hml : c.maxLocals = 4) (hown : s.vm.findClass "MonsoonTradeLaw" = some m.cls) (hts : ∀ w ∈ xT, w.before args s = true) (hX : va_X b Lw xs s s.heap) (hbl : b < B) (hB : B ≤ s.heap.size) (hfr : 60 + 1 ≤ R.frames ∧ 40 * (60 + 1) ≤ R.locals) (hn : n ≤ 600) (h8 : 8 * n + 8 ≤ Lw) (hL : Lw ≤ 4096) (hc : cells + 1 ≤ R.cells) (hz : slots + 160 ≤ R.slots) (e00 : L 0 0 = x0) (e36 : L 36 0 = y0) (e99 : L 99 0 = 1) (hI : INV n S) (hW : xW s D B L S H) (hS : va_S (xA B) s.heap H locs) (hl : lv_has ls 4 [(3, .int (nI (8 * n))), (0, .ref b), (1, .ref x0), (2, .ref y0)])
    (kk : ∀ (S : xS) (L : xL) (H : Heap) (locs : List Loc), INV (n + 1) S → L 0 0 = x0 → L 36 0 = y0 → L 99 0 = 1 → xW s D B L S H → va_S (xA B) s.heap H locs → W p l e R s m args below meth c H locs (cells + 1) (slots + 160) Q (F0 m 1344 ls [])) : W p l e R s m args below meth c H locs cells slots Q (F0 m 829 ls []) := by
  refine lv_aload_n (k := 1) (i := 1) hx hb (by decide +kernel) rfl (lv_at hl 2 rfl) ?_
  refine lw_argC (k := 1) (kz := 1) (kv := 1) hx hb hX hbl hB hS hl (by decide) (by omega) hL (by decide +kernel) (by decide +kernel) (by decide +kernel) rfl (by decide +kernel) (by decide +kernel) ?_
  refine lw_argC (k := 2) (kz := 2) (kv := 2) hx hb hX hbl hB hS hl (by decide) (by omega) hL (by decide +kernel) (by decide +kernel) (by decide +kernel) rfl (by decide +kernel) (by decide +kernel) ?_
  refine rawVa (d := 60) (idx := 85) (mi2 := m_C_on) (k := 0) (i := 0) (ci := 11) (av := [.inl (xs (8 * n + 1)), .inl (xs (8 * n + 2))]) (c' := 0) (z' := 0) (rest := []) e00 ⟨hx, hb, hml, hown, hts⟩ hl.1 hfr hB (by decide +kernel) (xmok_all (by decide)) (by decide) (xwd_mem (i := 897) (by decide +kernel)) rfl ⟨_, _, rfl⟩ (by decide +kernel) (Nat.zero_le _) (show 0 < xcn L 0 from (show 0 < 1 from Nat.one_pos)) (fun v hv => by simp at hv; rcases hv with rfl | rfl <;> trivial) hW hS ⟨by omega, by omega⟩ (iv_on hn hI) (fun r S1 L1 H locs hq hL1 hW hS => ?_)
  obtain ⟨v, rfl, hq⟩ := hq.out
  have e00 := (hL1 0 0 (by decide)).trans e00
  have e36 := (hL1 36 0 (by decide)).trans e36
  have e99 := (hL1 99 0 (by decide)).trans e99
  refine lv_aload_n (k := 2) (i := 2) hx hb (by decide +kernel) rfl (lv_at hl 3 rfl) ?_
  refine lw_argC (k := 1) (kz := 1) (kv := 1) hx hb hX hbl hB hS hl (by decide) (by omega) hL (by decide +kernel) (by decide +kernel) (by decide +kernel) rfl (by decide +kernel) (by decide +kernel) ?_
  refine lw_argC (k := 2) (kz := 2) (kv := 2) hx hb hX hbl hB hS hl (by decide) (by omega) hL (by decide +kernel) (by decide +kernel) (by decide +kernel) rfl (by decide +kernel) (by decide +kernel) ?_
  refine rawVa (d := 60) (idx := 88) (mi2 := m_M_on) (k := 36) (i := 0) (ci := 12) (av := [.inl (xs (8 * n + 1)), .inl (xs (8 * n + 2))]) (c' := 0) (z' := 0) (rest := [.int v]) e36 ⟨hx, hb, hml, hown, hts⟩ hl.1 hfr hB (by decide +kernel) (xmok_all (by decide)) (by decide) (xwd_mem (i := 1213) (by decide +kernel)) rfl ⟨_, _, rfl⟩ (by decide +kernel) (by decide) (show 0 < xcn L1 36 by unfold xcn; rw [e99]; decide) (fun v hv => by simp at hv; rcases hv with rfl | rfl <;> trivial) hW hS ⟨by omega, by omega⟩ hq (fun r S2 L2 H locs hq hL2 hW hS => ?_)
  obtain ⟨rfl, hI⟩ := hq
  have e00 := (hL2 0 0 (by decide)).trans e00
  have e36 := (hL2 36 0 (by decide)).trans e36
  have e99 := (hL2 99 0 (by decide)).trans e99
  refine lv_icmp_eq (off := 487) (tgt := 1344) hx hb (by decide +kernel) rfl (fun _ => ?_) (fun q => absurd rfl q)
  refine W.widen (k := cells + 1) (n := slots + 160) (by omega) (by omega) ?_
  exact kk S2 L2 H locs hI e00 e36 e99 hW hS
set_option maxRecDepth 10000 in
theorem lc_18 (hx : p.tables.exec = Jvm.exec) (hb : c.code = code) (hml : c.maxLocals = 4) (hown : s.vm.findClass "MonsoonTradeLaw" = some m.cls) (hts : ∀ w ∈ xT, w.before args s = true) (hX : va_X b Lw xs s s.heap) (hbl : b < B) (hB : B ≤ s.heap.size) (hfr : 60 + 1 ≤ R.frames ∧ 40 * (60 + 1) ≤ R.locals) (hn : n ≤ 600) (h8 : 8 * n + 8 ≤ Lw) (hL : Lw ≤ 4096) (hc : cells + 1 ≤ R.cells) (hz : slots + 160 ≤ R.slots) (e00 : L 0 0 = x0) (e36 : L 36 0 = y0) (e99 : L 99 0 = 1) (hI : INV n S) (hW : xW s D B L S H) (hS : va_S (xA B) s.heap H locs) (hl : lv_has ls 4 [(3, .int (nI (8 * n))), (0, .ref b), (1, .ref x0), (2, .ref y0)])
    (kk : ∀ (S : xS) (L : xL) (H : Heap) (locs : List Loc), INV (n + 1) S → L 0 0 = x0 → L 36 0 = y0 → L 99 0 = 1 → xW s D B L S H → va_S (xA B) s.heap H locs → W p l e R s m args below meth c H locs (cells + 1) (slots + 160) Q (F0 m 1344 ls [])) : W p l e R s m args below meth c H locs cells slots Q (F0 m 862 ls []) := by
  refine lv_aload_n (k := 1) (i := 1) hx hb (by decide +kernel) rfl (lv_at hl 2 rfl) ?_
  refine lw_argC (k := 1) (kz := 1) (kv := 1) hx hb hX hbl hB hS hl (by decide) (by omega) hL (by decide +kernel) (by decide +kernel) (by decide +kernel) rfl (by decide +kernel) (by decide +kernel) ?_
  refine rawVa (d := 60) (idx := 89) (mi2 := m_C_begin) (k := 0) (i := 0) (ci := 11) (av := [.inl (xs (8 * n + 1))]) (c' := 0) (z' := 0) (rest := []) e00 ⟨hx, hb, hml, hown, hts⟩ hl.1 hfr hB (by decide +kernel) (xmok_all (by decide)) (by decide) (xwd_mem (i := 905) (by decide +kernel)) rfl ⟨_, _, rfl⟩ (by decide +kernel) (Nat.zero_le _) (show 0 < xcn L 0 from (show 0 < 1 from Nat.one_pos)) (fun v hv => by simp at hv; subst hv; trivial) hW hS ⟨by omega, by omega⟩ (iv_begin hn hI) (fun r S1 L1 H locs hq hL1 hW hS => ?_)
  obtain ⟨v, rfl, hq⟩ := hq.out
  have e00 := (hL1 0 0 (by decide)).trans e00
  have e36 := (hL1 36 0 (by decide)).trans e36
  have e99 := (hL1 99 0 (by decide)).trans e99
  refine lv_aload_n (k := 2) (i := 2) hx hb (by decide +kernel) rfl (lv_at hl 3 rfl) ?_
  refine lw_argC (k := 1) (kz := 1) (kv := 1) hx hb hX hbl hB hS hl (by decide) (by omega) hL (by decide +kernel) (by decide +kernel) (by decide +kernel) rfl (by decide +kernel) (by decide +kernel) ?_
  refine rawVa (d := 60) (idx := 92) (mi2 := m_M_begin) (k := 36) (i := 0) (ci := 12) (av := [.inl (xs (8 * n + 1))]) (c' := 0) (z' := 0) (rest := [.int v]) e36 ⟨hx, hb, hml, hown, hts⟩ hl.1 hfr hB (by decide +kernel) (xmok_all (by decide)) (by decide) (xwd_mem (i := 1217) (by decide +kernel)) rfl ⟨_, _, rfl⟩ (by decide +kernel) (by decide) (show 0 < xcn L1 36 by unfold xcn; rw [e99]; decide) (fun v hv => by simp at hv; subst hv; trivial) hW hS ⟨by omega, by omega⟩ hq (fun r S2 L2 H locs hq hL2 hW hS => ?_)
  obtain ⟨rfl, hI⟩ := hq
  have e00 := (hL2 0 0 (by decide)).trans e00
  have e36 := (hL2 36 0 (by decide)).trans e36
  have e99 := (hL2 99 0 (by decide)).trans e99
  refine lv_icmp_eq (off := 464) (tgt := 1344) hx hb (by decide +kernel) rfl (fun _ => ?_) (fun q => absurd rfl q)
  refine W.widen (k := cells + 1) (n := slots + 160) (by omega) (by omega) ?_
  exact kk S2 L2 H locs hI e00 e36 e99 hW hS
set_option maxRecDepth 10000 in
theorem lc_19 (hx : p.tables.exec = Jvm.exec) (hb : c.code = code) (hml : c.maxLocals = 4) (hown : s.vm.findClass "MonsoonTradeLaw" = some m.cls) (hts : ∀ w ∈ xT, w.before args s = true) (hX : va_X b Lw xs s s.heap) (hbl : b < B) (hB : B ≤ s.heap.size) (hfr : 60 + 1 ≤ R.frames ∧ 40 * (60 + 1) ≤ R.locals) (hn : n ≤ 600) (h8 : 8 * n + 8 ≤ Lw) (hL : Lw ≤ 4096) (hc : cells + 1 ≤ R.cells) (hz : slots + 160 ≤ R.slots) (e00 : L 0 0 = x0) (e36 : L 36 0 = y0) (e99 : L 99 0 = 1) (hI : INV n S) (hW : xW s D B L S H) (hS : va_S (xA B) s.heap H locs) (hl : lv_has ls 4 [(3, .int (nI (8 * n))), (0, .ref b), (1, .ref x0), (2, .ref y0)])
    (kk : ∀ (S : xS) (L : xL) (H : Heap) (locs : List Loc), INV (n + 1) S → L 0 0 = x0 → L 36 0 = y0 → L 99 0 = 1 → xW s D B L S H → va_S (xA B) s.heap H locs → W p l e R s m args below meth c H locs (cells + 1) (slots + 160) Q (F0 m 1344 ls [])) : W p l e R s m args below meth c H locs cells slots Q (F0 m 885 ls []) := by
  refine lv_aload_n (k := 1) (i := 1) hx hb (by decide +kernel) rfl (lv_at hl 2 rfl) ?_
  refine lw_argC (k := 1) (kz := 1) (kv := 1) hx hb hX hbl hB hS hl (by decide) (by omega) hL (by decide +kernel) (by decide +kernel) (by decide +kernel) rfl (by decide +kernel) (by decide +kernel) ?_
  refine rawVa (d := 60) (idx := 93) (mi2 := m_C_end) (k := 0) (i := 0) (ci := 11) (av := [.inl (xs (8 * n + 1))]) (c' := 0) (z' := 0) (rest := []) e00 ⟨hx, hb, hml, hown, hts⟩ hl.1 hfr hB (by decide +kernel) (xmok_all (by decide)) (by decide) (xwd_mem (i := 909) (by decide +kernel)) rfl ⟨_, _, rfl⟩ (by decide +kernel) (Nat.zero_le _) (show 0 < xcn L 0 from (show 0 < 1 from Nat.one_pos)) (fun v hv => by simp at hv; subst hv; trivial) hW hS ⟨by omega, by omega⟩ (iv_end hn hI) (fun r S1 L1 H locs hq hL1 hW hS => ?_)
  obtain ⟨v, rfl, hq⟩ := hq.out
  have e00 := (hL1 0 0 (by decide)).trans e00
  have e36 := (hL1 36 0 (by decide)).trans e36
  have e99 := (hL1 99 0 (by decide)).trans e99
  refine lv_aload_n (k := 2) (i := 2) hx hb (by decide +kernel) rfl (lv_at hl 3 rfl) ?_
  refine lw_argC (k := 1) (kz := 1) (kv := 1) hx hb hX hbl hB hS hl (by decide) (by omega) hL (by decide +kernel) (by decide +kernel) (by decide +kernel) rfl (by decide +kernel) (by decide +kernel) ?_
  refine rawVa (d := 60) (idx := 96) (mi2 := m_M_end) (k := 36) (i := 0) (ci := 12) (av := [.inl (xs (8 * n + 1))]) (c' := 0) (z' := 0) (rest := [.int v]) e36 ⟨hx, hb, hml, hown, hts⟩ hl.1 hfr hB (by decide +kernel) (xmok_all (by decide)) (by decide) (xwd_mem (i := 1221) (by decide +kernel)) rfl ⟨_, _, rfl⟩ (by decide +kernel) (by decide) (show 0 < xcn L1 36 by unfold xcn; rw [e99]; decide) (fun v hv => by simp at hv; subst hv; trivial) hW hS ⟨by omega, by omega⟩ hq (fun r S2 L2 H locs hq hL2 hW hS => ?_)
  obtain ⟨rfl, hI⟩ := hq
  have e00 := (hL2 0 0 (by decide)).trans e00
  have e36 := (hL2 36 0 (by decide)).trans e36
  have e99 := (hL2 99 0 (by decide)).trans e99
  refine lv_icmp_eq (off := 441) (tgt := 1344) hx hb (by decide +kernel) rfl (fun _ => ?_) (fun q => absurd rfl q)
  refine W.widen (k := cells + 1) (n := slots + 160) (by omega) (by omega) ?_
  exact kk S2 L2 H locs hI e00 e36 e99 hW hS
set_option maxRecDepth 10000 in
theorem lc_20 (hx : p.tables.exec = Jvm.exec) (hb : c.code = code) (hml : c.maxLocals = 4) (hown : s.vm.findClass "MonsoonTradeLaw" = some m.cls) (hts : ∀ w ∈ xT, w.before args s = true) (hX : va_X b Lw xs s s.heap) (hbl : b < B) (hB : B ≤ s.heap.size) (hfr : 60 + 1 ≤ R.frames ∧ 40 * (60 + 1) ≤ R.locals) (hn : n ≤ 600) (h8 : 8 * n + 8 ≤ Lw) (hL : Lw ≤ 4096) (hc : cells + 1 ≤ R.cells) (hz : slots + 160 ≤ R.slots) (e00 : L 0 0 = x0) (e36 : L 36 0 = y0) (e99 : L 99 0 = 1) (hI : INV n S) (hW : xW s D B L S H) (hS : va_S (xA B) s.heap H locs) (hl : lv_has ls 4 [(3, .int (nI (8 * n))), (0, .ref b), (1, .ref x0), (2, .ref y0)])
    (kk : ∀ (S : xS) (L : xL) (H : Heap) (locs : List Loc), INV (n + 1) S → L 0 0 = x0 → L 36 0 = y0 → L 99 0 = 1 → xW s D B L S H → va_S (xA B) s.heap H locs → W p l e R s m args below meth c H locs (cells + 1) (slots + 160) Q (F0 m 1344 ls [])) : W p l e R s m args below meth c H locs cells slots Q (F0 m 908 ls []) := by
  refine lv_aload_n (k := 1) (i := 1) hx hb (by decide +kernel) rfl (lv_at hl 2 rfl) ?_
  refine lw_argC (k := 1) (kz := 1) (kv := 1) hx hb hX hbl hB hS hl (by decide) (by omega) hL (by decide +kernel) (by decide +kernel) (by decide +kernel) rfl (by decide +kernel) (by decide +kernel) ?_
  refine lw_argC (k := 2) (kz := 2) (kv := 2) hx hb hX hbl hB hS hl (by decide) (by omega) hL (by decide +kernel) (by decide +kernel) (by decide +kernel) rfl (by decide +kernel) (by decide +kernel) ?_
  refine t_i2l hx hb (by decide +kernel) rfl ?_
  refine lv_bipush (n := 32) (v := 32) hx hb (by decide +kernel) rfl ?_
  refine t_lshl hx hb (by decide +kernel) rfl ?_
  refine lw_argC (k := 3) (kz := 3) (kv := 3) hx hb hX hbl hB hS hl (by decide) (by omega) hL (by decide +kernel) (by decide +kernel) (by decide +kernel) rfl (by decide +kernel) (by decide +kernel) ?_
  refine t_i2l hx hb (by decide +kernel) rfl ?_
  refine lv_ldc2 (v := 4294967295) hx hb hown (hts _ (xwd_mem (i := 1554) (by decide +kernel))) (by decide +kernel) ?_
  refine t_land hx hb (by decide +kernel) rfl ?_
  refine t_lor hx hb (by decide +kernel) rfl ?_
  refine rawVa (d := 60) (idx := 99) (mi2 := m_C_feed) (k := 0) (i := 0) (ci := 11) (av := [.inl (xs (8 * n + 1)), .inr (.inl (((xs (8 * n + 2)).toInt64 <<< ((32 : Int32).toInt64 &&& 63)) ||| ((xs (8 * n + 3)).toInt64 &&& 4294967295)))]) (c' := 0) (z' := 0) (rest := []) e00 ⟨hx, hb, hml, hown, hts⟩ hl.1 hfr hB (by decide +kernel) (xmok_all (by decide)) (by decide) (xwd_mem (i := 971) (by decide +kernel)) rfl ⟨_, _, rfl⟩ (by decide +kernel) (Nat.zero_le _) (show 0 < xcn L 0 from (show 0 < 1 from Nat.one_pos)) (fun v hv => by simp at hv; rcases hv with rfl | rfl <;> trivial) hW hS ⟨by omega, by omega⟩ (iv_feed hn hI) (fun r S1 L1 H locs hq hL1 hW hS => ?_)
  obtain ⟨v, rfl, hq⟩ := hq.out
  have e00 := (hL1 0 0 (by decide)).trans e00
  have e36 := (hL1 36 0 (by decide)).trans e36
  have e99 := (hL1 99 0 (by decide)).trans e99
  refine lv_aload_n (k := 2) (i := 2) hx hb (by decide +kernel) rfl (lv_at hl 3 rfl) ?_
  refine lw_argC (k := 1) (kz := 1) (kv := 1) hx hb hX hbl hB hS hl (by decide) (by omega) hL (by decide +kernel) (by decide +kernel) (by decide +kernel) rfl (by decide +kernel) (by decide +kernel) ?_
  refine lw_argC (k := 2) (kz := 2) (kv := 2) hx hb hX hbl hB hS hl (by decide) (by omega) hL (by decide +kernel) (by decide +kernel) (by decide +kernel) rfl (by decide +kernel) (by decide +kernel) ?_
  refine t_i2l hx hb (by decide +kernel) rfl ?_
  refine lv_bipush (n := 32) (v := 32) hx hb (by decide +kernel) rfl ?_
  refine t_lshl hx hb (by decide +kernel) rfl ?_
  refine lw_argC (k := 3) (kz := 3) (kv := 3) hx hb hX hbl hB hS hl (by decide) (by omega) hL (by decide +kernel) (by decide +kernel) (by decide +kernel) rfl (by decide +kernel) (by decide +kernel) ?_
  refine t_i2l hx hb (by decide +kernel) rfl ?_
  refine lv_ldc2 (v := 4294967295) hx hb hown (hts _ (xwd_mem (i := 1554) (by decide +kernel))) (by decide +kernel) ?_
  refine t_land hx hb (by decide +kernel) rfl ?_
  refine t_lor hx hb (by decide +kernel) rfl ?_
  refine rawVa (d := 60) (idx := 103) (mi2 := m_M_feed) (k := 36) (i := 0) (ci := 12) (av := [.inl (xs (8 * n + 1)), .inr (.inl (((xs (8 * n + 2)).toInt64 <<< ((32 : Int32).toInt64 &&& 63)) ||| ((xs (8 * n + 3)).toInt64 &&& 4294967295)))]) (c' := 0) (z' := 0) (rest := [.int v]) e36 ⟨hx, hb, hml, hown, hts⟩ hl.1 hfr hB (by decide +kernel) (xmok_all (by decide)) (by decide) (xwd_mem (i := 1445) (by decide +kernel)) rfl ⟨_, _, rfl⟩ (by decide +kernel) (by decide) (show 0 < xcn L1 36 by unfold xcn; rw [e99]; decide) (fun v hv => by simp at hv; rcases hv with rfl | rfl <;> trivial) hW hS ⟨by omega, by omega⟩ hq (fun r S2 L2 H locs hq hL2 hW hS => ?_)
  obtain ⟨rfl, hI⟩ := hq
  have e00 := (hL2 0 0 (by decide)).trans e00
  have e36 := (hL2 36 0 (by decide)).trans e36
  have e99 := (hL2 99 0 (by decide)).trans e99
  refine lv_icmp_eq (off := 378) (tgt := 1344) hx hb (by decide +kernel) rfl (fun _ => ?_) (fun q => absurd rfl q)
  refine W.widen (k := cells + 1) (n := slots + 160) (by omega) (by omega) ?_
  exact kk S2 L2 H locs hI e00 e36 e99 hW hS
set_option maxRecDepth 10000 in
theorem lc_21 (hx : p.tables.exec = Jvm.exec) (hb : c.code = code) (hml : c.maxLocals = 4) (hown : s.vm.findClass "MonsoonTradeLaw" = some m.cls) (hts : ∀ w ∈ xT, w.before args s = true) (hX : va_X b Lw xs s s.heap) (hbl : b < B) (hB : B ≤ s.heap.size) (hfr : 60 + 1 ≤ R.frames ∧ 40 * (60 + 1) ≤ R.locals) (hn : n ≤ 600) (h8 : 8 * n + 8 ≤ Lw) (hL : Lw ≤ 4096) (hc : cells + 1 ≤ R.cells) (hz : slots + 160 ≤ R.slots) (e00 : L 0 0 = x0) (e36 : L 36 0 = y0) (e99 : L 99 0 = 1) (hI : INV n S) (hW : xW s D B L S H) (hS : va_S (xA B) s.heap H locs) (hl : lv_has ls 4 [(3, .int (nI (8 * n))), (0, .ref b), (1, .ref x0), (2, .ref y0)])
    (kk : ∀ (S : xS) (L : xL) (H : Heap) (locs : List Loc), INV (n + 1) S → L 0 0 = x0 → L 36 0 = y0 → L 99 0 = 1 → xW s D B L S H → va_S (xA B) s.heap H locs → W p l e R s m args below meth c H locs (cells + 1) (slots + 160) Q (F0 m 1344 ls [])) : W p l e R s m args below meth c H locs cells slots Q (F0 m 971 ls []) := by
  refine lv_aload_n (k := 1) (i := 1) hx hb (by decide +kernel) rfl (lv_at hl 2 rfl) ?_
  refine rawVa (d := 60) (idx := 104) (mi2 := m_C_text) (k := 0) (i := 0) (ci := 11) (av := []) (c' := 1) (z' := 160) (rest := []) e00 ⟨hx, hb, hml, hown, hts⟩ hl.1 hfr hB (by decide +kernel) (xmok_all (by decide)) (by decide) (xwd_mem (i := 976) (by decide +kernel)) rfl ⟨_, _, rfl⟩ (by decide +kernel) (Nat.zero_le _) (show 0 < xcn L 0 from (show 0 < 1 from Nat.one_pos)) (fun v hv => by cases hv) hW hS ⟨by omega, by omega⟩ (iv_text hn hI) (fun r S1 L1 H locs hq hL1 hW hS => ?_)
  obtain ⟨v, rfl, hq⟩ := hq.out
  have e00 := (hL1 0 0 (by decide)).trans e00
  have e36 := (hL1 36 0 (by decide)).trans e36
  have e99 := (hL1 99 0 (by decide)).trans e99
  refine lv_aload_n (k := 2) (i := 2) hx hb (by decide +kernel) rfl (lv_at hl 3 rfl) ?_
  refine rawVa (d := 60) (idx := 108) (mi2 := m_M_text) (k := 36) (i := 0) (ci := 12) (av := []) (c' := 0) (z' := 0) (rest := [.int v]) e36 ⟨hx, hb, hml, hown, hts⟩ hl.1 hfr hB (by decide +kernel) (xmok_all (by decide)) (by decide) (xwd_mem (i := 1450) (by decide +kernel)) rfl ⟨_, _, rfl⟩ (by decide +kernel) (by decide) (show 0 < xcn L1 36 by unfold xcn; rw [e99]; decide) (fun v hv => by cases hv) hW hS ⟨by omega, by omega⟩ hq (fun r S2 L2 H locs hq hL2 hW hS => ?_)
  obtain ⟨rfl, hI⟩ := hq
  have e00 := (hL2 0 0 (by decide)).trans e00
  have e36 := (hL2 36 0 (by decide)).trans e36
  have e99 := (hL2 99 0 (by decide)).trans e99
  refine lv_icmp_eq (off := 365) (tgt := 1344) hx hb (by decide +kernel) rfl (fun _ => ?_) (fun q => absurd rfl q)
  refine W.widen (k := cells + 1) (n := slots + 160) (by omega) (by omega) ?_
  exact kk S2 L2 H locs hI e00 e36 e99 hW hS
set_option maxRecDepth 10000 in
theorem lc_22 (hx : p.tables.exec = Jvm.exec) (hb : c.code = code) (hml : c.maxLocals = 4) (hown : s.vm.findClass "MonsoonTradeLaw" = some m.cls) (hts : ∀ w ∈ xT, w.before args s = true) (hX : va_X b Lw xs s s.heap) (hbl : b < B) (hB : B ≤ s.heap.size) (hfr : 60 + 1 ≤ R.frames ∧ 40 * (60 + 1) ≤ R.locals) (hn : n ≤ 600) (h8 : 8 * n + 8 ≤ Lw) (hL : Lw ≤ 4096) (hc : cells + 1 ≤ R.cells) (hz : slots + 160 ≤ R.slots) (e00 : L 0 0 = x0) (e36 : L 36 0 = y0) (e99 : L 99 0 = 1) (hI : INV n S) (hW : xW s D B L S H) (hS : va_S (xA B) s.heap H locs) (hl : lv_has ls 4 [(3, .int (nI (8 * n))), (0, .ref b), (1, .ref x0), (2, .ref y0)])
    (kk : ∀ (S : xS) (L : xL) (H : Heap) (locs : List Loc), INV (n + 1) S → L 0 0 = x0 → L 36 0 = y0 → L 99 0 = 1 → xW s D B L S H → va_S (xA B) s.heap H locs → W p l e R s m args below meth c H locs (cells + 1) (slots + 160) Q (F0 m 1344 ls [])) : W p l e R s m args below meth c H locs cells slots Q (F0 m 984 ls []) := by
  refine lv_aload_n (k := 1) (i := 1) hx hb (by decide +kernel) rfl (lv_at hl 2 rfl) ?_
  refine lw_argC (k := 1) (kz := 1) (kv := 1) hx hb hX hbl hB hS hl (by decide) (by omega) hL (by decide +kernel) (by decide +kernel) (by decide +kernel) rfl (by decide +kernel) (by decide +kernel) ?_
  refine rawVa (d := 60) (idx := 109) (mi2 := m_C_force) (k := 0) (i := 0) (ci := 11) (av := [.inl (xs (8 * n + 1))]) (c' := 0) (z' := 0) (rest := []) e00 ⟨hx, hb, hml, hown, hts⟩ hl.1 hfr hB (by decide +kernel) (xmok_all (by decide)) (by decide) (xwd_mem (i := 977) (by decide +kernel)) rfl ⟨_, _, rfl⟩ (by decide +kernel) (Nat.zero_le _) (show 0 < xcn L 0 from (show 0 < 1 from Nat.one_pos)) (fun v hv => by simp at hv; subst hv; trivial) hW hS ⟨by omega, by omega⟩ (iv_force hn hI) (fun r S1 L1 H locs hq hL1 hW hS => ?_)
  obtain ⟨v, rfl, hq⟩ := hq.out
  have e00 := (hL1 0 0 (by decide)).trans e00
  have e36 := (hL1 36 0 (by decide)).trans e36
  have e99 := (hL1 99 0 (by decide)).trans e99
  refine lv_aload_n (k := 2) (i := 2) hx hb (by decide +kernel) rfl (lv_at hl 3 rfl) ?_
  refine lw_argC (k := 1) (kz := 1) (kv := 1) hx hb hX hbl hB hS hl (by decide) (by omega) hL (by decide +kernel) (by decide +kernel) (by decide +kernel) rfl (by decide +kernel) (by decide +kernel) ?_
  refine rawVa (d := 60) (idx := 112) (mi2 := m_M_force) (k := 36) (i := 0) (ci := 12) (av := [.inl (xs (8 * n + 1))]) (c' := 0) (z' := 0) (rest := [.int v]) e36 ⟨hx, hb, hml, hown, hts⟩ hl.1 hfr hB (by decide +kernel) (xmok_all (by decide)) (by decide) (xwd_mem (i := 1502) (by decide +kernel)) rfl ⟨_, _, rfl⟩ (by decide +kernel) (by decide) (show 0 < xcn L1 36 by unfold xcn; rw [e99]; decide) (fun v hv => by simp at hv; subst hv; trivial) hW hS ⟨by omega, by omega⟩ hq (fun r S2 L2 H locs hq hL2 hW hS => ?_)
  obtain ⟨rfl, hI⟩ := hq
  have e00 := (hL2 0 0 (by decide)).trans e00
  have e36 := (hL2 36 0 (by decide)).trans e36
  have e99 := (hL2 99 0 (by decide)).trans e99
  refine lv_icmp_eq (off := 342) (tgt := 1344) hx hb (by decide +kernel) rfl (fun _ => ?_) (fun q => absurd rfl q)
  refine W.widen (k := cells + 1) (n := slots + 160) (by omega) (by omega) ?_
  exact kk S2 L2 H locs hI e00 e36 e99 hW hS
set_option maxRecDepth 10000 in
theorem lc_23 (hx : p.tables.exec = Jvm.exec) (hb : c.code = code) (hml : c.maxLocals = 4) (hown : s.vm.findClass "MonsoonTradeLaw" = some m.cls) (hts : ∀ w ∈ xT, w.before args s = true) (hX : va_X b Lw xs s s.heap) (hbl : b < B) (hB : B ≤ s.heap.size) (hfr : 60 + 1 ≤ R.frames ∧ 40 * (60 + 1) ≤ R.locals) (hn : n ≤ 600) (h8 : 8 * n + 8 ≤ Lw) (hL : Lw ≤ 4096) (hc : cells + 1 ≤ R.cells) (hz : slots + 160 ≤ R.slots) (e00 : L 0 0 = x0) (e36 : L 36 0 = y0) (e99 : L 99 0 = 1) (hI : INV n S) (hW : xW s D B L S H) (hS : va_S (xA B) s.heap H locs) (hl : lv_has ls 4 [(3, .int (nI (8 * n))), (0, .ref b), (1, .ref x0), (2, .ref y0)])
    (kk : ∀ (S : xS) (L : xL) (H : Heap) (locs : List Loc), INV (n + 1) S → L 0 0 = x0 → L 36 0 = y0 → L 99 0 = 1 → xW s D B L S H → va_S (xA B) s.heap H locs → W p l e R s m args below meth c H locs (cells + 1) (slots + 160) Q (F0 m 1344 ls [])) : W p l e R s m args below meth c H locs cells slots Q (F0 m 1007 ls []) := by
  refine lv_aload_n (k := 1) (i := 1) hx hb (by decide +kernel) rfl (lv_at hl 2 rfl) ?_
  refine lw_argC (k := 1) (kz := 1) (kv := 1) hx hb hX hbl hB hS hl (by decide) (by omega) hL (by decide +kernel) (by decide +kernel) (by decide +kernel) rfl (by decide +kernel) (by decide +kernel) ?_
  refine lw_argC (k := 2) (kz := 2) (kv := 2) hx hb hX hbl hB hS hl (by decide) (by omega) hL (by decide +kernel) (by decide +kernel) (by decide +kernel) rfl (by decide +kernel) (by decide +kernel) ?_
  refine lw_argC (k := 3) (kz := 3) (kv := 3) hx hb hX hbl hB hS hl (by decide) (by omega) hL (by decide +kernel) (by decide +kernel) (by decide +kernel) rfl (by decide +kernel) (by decide +kernel) ?_
  refine lw_argC (k := 4) (kz := 4) (kv := 4) hx hb hX hbl hB hS hl (by decide) (by omega) hL (by decide +kernel) (by decide +kernel) (by decide +kernel) rfl (by decide +kernel) (by decide +kernel) ?_
  refine lw_argC (k := 5) (kz := 5) (kv := 5) hx hb hX hbl hB hS hl (by decide) (by omega) hL (by decide +kernel) (by decide +kernel) (by decide +kernel) rfl (by decide +kernel) (by decide +kernel) ?_
  refine lw_argB (k := 6) (kz := 6) (kv := 6) hx hb hX hbl hB hS hl (by decide) (by omega) hL (by decide +kernel) (by decide +kernel) (by decide +kernel) rfl (by decide +kernel) (by decide +kernel) ?_
  refine lw_argB (k := 7) (kz := 7) (kv := 7) hx hb hX hbl hB hS hl (by decide) (by omega) hL (by decide +kernel) (by decide +kernel) (by decide +kernel) rfl (by decide +kernel) (by decide +kernel) ?_
  refine rawVa (d := 60) (idx := 113) (mi2 := m_C_says) (k := 0) (i := 0) (ci := 11) (av := [.inl (xs (8 * n + 1)), .inl (xs (8 * n + 2)), .inl (xs (8 * n + 3)), .inl (xs (8 * n + 4)), .inl (xs (8 * n + 5)), .inl (xs (8 * n + 6)), .inl (xs (8 * n + 7))]) (c' := 0) (z' := 0) (rest := []) e00 ⟨hx, hb, hml, hown, hts⟩ hl.1 hfr hB (by decide +kernel) (xmok_all (by decide)) (by decide) (xwd_mem (i := 985) (by decide +kernel)) rfl ⟨_, _, rfl⟩ (by decide +kernel) (Nat.zero_le _) (show 0 < xcn L 0 from (show 0 < 1 from Nat.one_pos)) (fun v hv => by simp at hv; rcases hv with rfl | rfl | rfl | rfl | rfl | rfl | rfl <;> trivial) hW hS ⟨by omega, by omega⟩ (iv_says hn hI) (fun r S1 L1 H locs hq hL1 hW hS => ?_)
  obtain ⟨v, rfl, hq⟩ := hq.out
  have e00 := (hL1 0 0 (by decide)).trans e00
  have e36 := (hL1 36 0 (by decide)).trans e36
  have e99 := (hL1 99 0 (by decide)).trans e99
  refine lv_aload_n (k := 2) (i := 2) hx hb (by decide +kernel) rfl (lv_at hl 3 rfl) ?_
  refine lw_argC (k := 1) (kz := 1) (kv := 1) hx hb hX hbl hB hS hl (by decide) (by omega) hL (by decide +kernel) (by decide +kernel) (by decide +kernel) rfl (by decide +kernel) (by decide +kernel) ?_
  refine lw_argC (k := 2) (kz := 2) (kv := 2) hx hb hX hbl hB hS hl (by decide) (by omega) hL (by decide +kernel) (by decide +kernel) (by decide +kernel) rfl (by decide +kernel) (by decide +kernel) ?_
  refine lw_argC (k := 3) (kz := 3) (kv := 3) hx hb hX hbl hB hS hl (by decide) (by omega) hL (by decide +kernel) (by decide +kernel) (by decide +kernel) rfl (by decide +kernel) (by decide +kernel) ?_
  refine lw_argC (k := 4) (kz := 4) (kv := 4) hx hb hX hbl hB hS hl (by decide) (by omega) hL (by decide +kernel) (by decide +kernel) (by decide +kernel) rfl (by decide +kernel) (by decide +kernel) ?_
  refine lw_argC (k := 5) (kz := 5) (kv := 5) hx hb hX hbl hB hS hl (by decide) (by omega) hL (by decide +kernel) (by decide +kernel) (by decide +kernel) rfl (by decide +kernel) (by decide +kernel) ?_
  refine lw_argB (k := 6) (kz := 6) (kv := 6) hx hb hX hbl hB hS hl (by decide) (by omega) hL (by decide +kernel) (by decide +kernel) (by decide +kernel) rfl (by decide +kernel) (by decide +kernel) ?_
  refine lw_argB (k := 7) (kz := 7) (kv := 7) hx hb hX hbl hB hS hl (by decide) (by omega) hL (by decide +kernel) (by decide +kernel) (by decide +kernel) rfl (by decide +kernel) (by decide +kernel) ?_
  refine rawVa (d := 60) (idx := 117) (mi2 := m_M_says) (k := 36) (i := 0) (ci := 12) (av := [.inl (xs (8 * n + 1)), .inl (xs (8 * n + 2)), .inl (xs (8 * n + 3)), .inl (xs (8 * n + 4)), .inl (xs (8 * n + 5)), .inl (xs (8 * n + 6)), .inl (xs (8 * n + 7))]) (c' := 0) (z' := 0) (rest := [.long v]) e36 ⟨hx, hb, hml, hown, hts⟩ hl.1 hfr hB (by decide +kernel) (xmok_all (by decide)) (by decide) (xwd_mem (i := 1506) (by decide +kernel)) rfl ⟨_, _, rfl⟩ (by decide +kernel) (by decide) (show 0 < xcn L1 36 by unfold xcn; rw [e99]; decide) (fun v hv => by simp at hv; rcases hv with rfl | rfl | rfl | rfl | rfl | rfl | rfl <;> trivial) hW hS ⟨by omega, by omega⟩ hq (fun r S2 L2 H locs hq hL2 hW hS => ?_)
  obtain ⟨rfl, hI⟩ := hq
  have e00 := (hL2 0 0 (by decide)).trans e00
  have e36 := (hL2 36 0 (by decide)).trans e36
  have e99 := (hL2 99 0 (by decide)).trans e99
  refine W.lcmp hx hb (by decide +kernel) ?_
  rw [lg_cmp0]
  refine lv_if_eq (off := 254) (tgt := 1344) hx hb (by decide +kernel) rfl (fun _ => ?_) (fun q => absurd rfl q)
  refine W.widen (k := cells + 1) (n := slots + 160) (by omega) (by omega) ?_
  exact kk S2 L2 H locs hI e00 e36 e99 hW hS
set_option maxRecDepth 10000 in
theorem lc_24 (hx : p.tables.exec = Jvm.exec) (hb : c.code = code) (hml : c.maxLocals = 4) (hown : s.vm.findClass "MonsoonTradeLaw" = some m.cls) (hts : ∀ w ∈ xT, w.before args s = true) (hX : va_X b Lw xs s s.heap) (hbl : b < B) (hB : B ≤ s.heap.size) (hfr : 60 + 1 ≤ R.frames ∧ 40 * (60 + 1) ≤ R.locals) (hn : n ≤ 600) (h8 : 8 * n + 8 ≤ Lw) (hL : Lw ≤ 4096) (hc : cells + 1 ≤ R.cells) (hz : slots + 160 ≤ R.slots) (e00 : L 0 0 = x0) (e36 : L 36 0 = y0) (e99 : L 99 0 = 1) (hI : INV n S) (hW : xW s D B L S H) (hS : va_S (xA B) s.heap H locs) (hl : lv_has ls 4 [(3, .int (nI (8 * n))), (0, .ref b), (1, .ref x0), (2, .ref y0)])
    (kk : ∀ (S : xS) (L : xL) (H : Heap) (locs : List Loc), INV (n + 1) S → L 0 0 = x0 → L 36 0 = y0 → L 99 0 = 1 → xW s D B L S H → va_S (xA B) s.heap H locs → W p l e R s m args below meth c H locs (cells + 1) (slots + 160) Q (F0 m 1344 ls [])) : W p l e R s m args below meth c H locs cells slots Q (F0 m 1095 ls []) := by
  refine lv_aload_n (k := 1) (i := 1) hx hb (by decide +kernel) rfl (lv_at hl 2 rfl) ?_
  refine lw_argC (k := 1) (kz := 1) (kv := 1) hx hb hX hbl hB hS hl (by decide) (by omega) hL (by decide +kernel) (by decide +kernel) (by decide +kernel) rfl (by decide +kernel) (by decide +kernel) ?_
  refine lw_argC (k := 2) (kz := 2) (kv := 2) hx hb hX hbl hB hS hl (by decide) (by omega) hL (by decide +kernel) (by decide +kernel) (by decide +kernel) rfl (by decide +kernel) (by decide +kernel) ?_
  refine lw_argC (k := 3) (kz := 3) (kv := 3) hx hb hX hbl hB hS hl (by decide) (by omega) hL (by decide +kernel) (by decide +kernel) (by decide +kernel) rfl (by decide +kernel) (by decide +kernel) ?_
  refine lw_argC (k := 4) (kz := 4) (kv := 4) hx hb hX hbl hB hS hl (by decide) (by omega) hL (by decide +kernel) (by decide +kernel) (by decide +kernel) rfl (by decide +kernel) (by decide +kernel) ?_
  refine rawVa (d := 60) (idx := 118) (mi2 := m_C_order) (k := 0) (i := 0) (ci := 11) (av := [.inl (xs (8 * n + 1)), .inl (xs (8 * n + 2)), .inl (xs (8 * n + 3)), .inl (xs (8 * n + 4))]) (c' := 0) (z' := 0) (rest := []) e00 ⟨hx, hb, hml, hown, hts⟩ hl.1 hfr hB (by decide +kernel) (xmok_all (by decide)) (by decide) (xwd_mem (i := 992) (by decide +kernel)) rfl ⟨_, _, rfl⟩ (by decide +kernel) (Nat.zero_le _) (show 0 < xcn L 0 from (show 0 < 1 from Nat.one_pos)) (fun v hv => by simp at hv; rcases hv with rfl | rfl | rfl | rfl <;> trivial) hW hS ⟨by omega, by omega⟩ (iv_order hn hI) (fun r S1 L1 H locs hq hL1 hW hS => ?_)
  obtain ⟨v, rfl, hq⟩ := hq.out
  have e00 := (hL1 0 0 (by decide)).trans e00
  have e36 := (hL1 36 0 (by decide)).trans e36
  have e99 := (hL1 99 0 (by decide)).trans e99
  refine lv_aload_n (k := 2) (i := 2) hx hb (by decide +kernel) rfl (lv_at hl 3 rfl) ?_
  refine lw_argC (k := 1) (kz := 1) (kv := 1) hx hb hX hbl hB hS hl (by decide) (by omega) hL (by decide +kernel) (by decide +kernel) (by decide +kernel) rfl (by decide +kernel) (by decide +kernel) ?_
  refine lw_argC (k := 2) (kz := 2) (kv := 2) hx hb hX hbl hB hS hl (by decide) (by omega) hL (by decide +kernel) (by decide +kernel) (by decide +kernel) rfl (by decide +kernel) (by decide +kernel) ?_
  refine lw_argC (k := 3) (kz := 3) (kv := 3) hx hb hX hbl hB hS hl (by decide) (by omega) hL (by decide +kernel) (by decide +kernel) (by decide +kernel) rfl (by decide +kernel) (by decide +kernel) ?_
  refine lw_argC (k := 4) (kz := 4) (kv := 4) hx hb hX hbl hB hS hl (by decide) (by omega) hL (by decide +kernel) (by decide +kernel) (by decide +kernel) rfl (by decide +kernel) (by decide +kernel) ?_
  refine rawVa (d := 60) (idx := 122) (mi2 := m_M_order) (k := 36) (i := 0) (ci := 12) (av := [.inl (xs (8 * n + 1)), .inl (xs (8 * n + 2)), .inl (xs (8 * n + 3)), .inl (xs (8 * n + 4))]) (c' := 0) (z' := 0) (rest := [.long v]) e36 ⟨hx, hb, hml, hown, hts⟩ hl.1 hfr hB (by decide +kernel) (xmok_all (by decide)) (by decide) (xwd_mem (i := 1514) (by decide +kernel)) rfl ⟨_, _, rfl⟩ (by decide +kernel) (by decide) (show 0 < xcn L1 36 by unfold xcn; rw [e99]; decide) (fun v hv => by simp at hv; rcases hv with rfl | rfl | rfl | rfl <;> trivial) hW hS ⟨by omega, by omega⟩ hq (fun r S2 L2 H locs hq hL2 hW hS => ?_)
  obtain ⟨rfl, hI⟩ := hq
  have e00 := (hL2 0 0 (by decide)).trans e00
  have e36 := (hL2 36 0 (by decide)).trans e36
  have e99 := (hL2 99 0 (by decide)).trans e99
  refine W.lcmp hx hb (by decide +kernel) ?_
  rw [lg_cmp0]
  refine lv_if_eq (off := 200) (tgt := 1344) hx hb (by decide +kernel) rfl (fun _ => ?_) (fun q => absurd rfl q)
  refine W.widen (k := cells + 1) (n := slots + 160) (by omega) (by omega) ?_
  exact kk S2 L2 H locs hI e00 e36 e99 hW hS
set_option maxRecDepth 10000 in
theorem lc_25 (hx : p.tables.exec = Jvm.exec) (hb : c.code = code) (hml : c.maxLocals = 4) (hown : s.vm.findClass "MonsoonTradeLaw" = some m.cls) (hts : ∀ w ∈ xT, w.before args s = true) (hX : va_X b Lw xs s s.heap) (hbl : b < B) (hB : B ≤ s.heap.size) (hfr : 60 + 1 ≤ R.frames ∧ 40 * (60 + 1) ≤ R.locals) (hn : n ≤ 600) (h8 : 8 * n + 8 ≤ Lw) (hL : Lw ≤ 4096) (hc : cells + 1 ≤ R.cells) (hz : slots + 160 ≤ R.slots) (e00 : L 0 0 = x0) (e36 : L 36 0 = y0) (e99 : L 99 0 = 1) (hI : INV n S) (hW : xW s D B L S H) (hS : va_S (xA B) s.heap H locs) (hl : lv_has ls 4 [(3, .int (nI (8 * n))), (0, .ref b), (1, .ref x0), (2, .ref y0)])
    (kk : ∀ (S : xS) (L : xL) (H : Heap) (locs : List Loc), INV (n + 1) S → L 0 0 = x0 → L 36 0 = y0 → L 99 0 = 1 → xW s D B L S H → va_S (xA B) s.heap H locs → W p l e R s m args below meth c H locs (cells + 1) (slots + 160) Q (F0 m 1344 ls [])) : W p l e R s m args below meth c H locs cells slots Q (F0 m 1149 ls []) := by
  refine lv_aload_n (k := 1) (i := 1) hx hb (by decide +kernel) rfl (lv_at hl 2 rfl) ?_
  refine lw_argC (k := 1) (kz := 1) (kv := 1) hx hb hX hbl hB hS hl (by decide) (by omega) hL (by decide +kernel) (by decide +kernel) (by decide +kernel) rfl (by decide +kernel) (by decide +kernel) ?_
  refine lw_argC (k := 2) (kz := 2) (kv := 2) hx hb hX hbl hB hS hl (by decide) (by omega) hL (by decide +kernel) (by decide +kernel) (by decide +kernel) rfl (by decide +kernel) (by decide +kernel) ?_
  refine lw_argC (k := 3) (kz := 3) (kv := 3) hx hb hX hbl hB hS hl (by decide) (by omega) hL (by decide +kernel) (by decide +kernel) (by decide +kernel) rfl (by decide +kernel) (by decide +kernel) ?_
  refine lw_argC (k := 4) (kz := 4) (kv := 4) hx hb hX hbl hB hS hl (by decide) (by omega) hL (by decide +kernel) (by decide +kernel) (by decide +kernel) rfl (by decide +kernel) (by decide +kernel) ?_
  refine rawVa (d := 60) (idx := 123) (mi2 := m_C_leg) (k := 0) (i := 0) (ci := 11) (av := [.inl (xs (8 * n + 1)), .inl (xs (8 * n + 2)), .inl (xs (8 * n + 3)), .inl (xs (8 * n + 4))]) (c' := 0) (z' := 0) (rest := []) e00 ⟨hx, hb, hml, hown, hts⟩ hl.1 hfr hB (by decide +kernel) (xmok_all (by decide)) (by decide) (xwd_mem (i := 1043) (by decide +kernel)) rfl ⟨_, _, rfl⟩ (by decide +kernel) (Nat.zero_le _) (show 0 < xcn L 0 from (show 0 < 1 from Nat.one_pos)) (fun v hv => by simp at hv; rcases hv with rfl | rfl | rfl | rfl <;> trivial) hW hS ⟨by omega, by omega⟩ (iv_leg hn hI) (fun r S1 L1 H locs hq hL1 hW hS => ?_)
  obtain ⟨v, rfl, hq⟩ := hq.out
  have e00 := (hL1 0 0 (by decide)).trans e00
  have e36 := (hL1 36 0 (by decide)).trans e36
  have e99 := (hL1 99 0 (by decide)).trans e99
  refine lv_aload_n (k := 2) (i := 2) hx hb (by decide +kernel) rfl (lv_at hl 3 rfl) ?_
  refine lw_argC (k := 1) (kz := 1) (kv := 1) hx hb hX hbl hB hS hl (by decide) (by omega) hL (by decide +kernel) (by decide +kernel) (by decide +kernel) rfl (by decide +kernel) (by decide +kernel) ?_
  refine lw_argC (k := 2) (kz := 2) (kv := 2) hx hb hX hbl hB hS hl (by decide) (by omega) hL (by decide +kernel) (by decide +kernel) (by decide +kernel) rfl (by decide +kernel) (by decide +kernel) ?_
  refine lw_argC (k := 3) (kz := 3) (kv := 3) hx hb hX hbl hB hS hl (by decide) (by omega) hL (by decide +kernel) (by decide +kernel) (by decide +kernel) rfl (by decide +kernel) (by decide +kernel) ?_
  refine lw_argC (k := 4) (kz := 4) (kv := 4) hx hb hX hbl hB hS hl (by decide) (by omega) hL (by decide +kernel) (by decide +kernel) (by decide +kernel) rfl (by decide +kernel) (by decide +kernel) ?_
  refine rawVa (d := 60) (idx := 126) (mi2 := m_M_leg) (k := 36) (i := 0) (ci := 12) (av := [.inl (xs (8 * n + 1)), .inl (xs (8 * n + 2)), .inl (xs (8 * n + 3)), .inl (xs (8 * n + 4))]) (c' := 0) (z' := 0) (rest := [.int v]) e36 ⟨hx, hb, hml, hown, hts⟩ hl.1 hfr hB (by decide +kernel) (xmok_all (by decide)) (by decide) (xwd_mem (i := 1534) (by decide +kernel)) rfl ⟨_, _, rfl⟩ (by decide +kernel) (by decide) (show 0 < xcn L1 36 by unfold xcn; rw [e99]; decide) (fun v hv => by simp at hv; rcases hv with rfl | rfl | rfl | rfl <;> trivial) hW hS ⟨by omega, by omega⟩ hq (fun r S2 L2 H locs hq hL2 hW hS => ?_)
  obtain ⟨rfl, hI⟩ := hq
  have e00 := (hL2 0 0 (by decide)).trans e00
  have e36 := (hL2 36 0 (by decide)).trans e36
  have e99 := (hL2 99 0 (by decide)).trans e99
  refine lv_icmp_eq (off := 147) (tgt := 1344) hx hb (by decide +kernel) rfl (fun _ => ?_) (fun q => absurd rfl q)
  refine W.widen (k := cells + 1) (n := slots + 160) (by omega) (by omega) ?_
  exact kk S2 L2 H locs hI e00 e36 e99 hW hS
set_option maxRecDepth 10000 in
theorem lc_26 (hx : p.tables.exec = Jvm.exec) (hb : c.code = code) (hml : c.maxLocals = 4) (hown : s.vm.findClass "MonsoonTradeLaw" = some m.cls) (hts : ∀ w ∈ xT, w.before args s = true) (hX : va_X b Lw xs s s.heap) (hbl : b < B) (hB : B ≤ s.heap.size) (hfr : 60 + 1 ≤ R.frames ∧ 40 * (60 + 1) ≤ R.locals) (hn : n ≤ 600) (h8 : 8 * n + 8 ≤ Lw) (hL : Lw ≤ 4096) (hc : cells + 1 ≤ R.cells) (hz : slots + 160 ≤ R.slots) (e00 : L 0 0 = x0) (e36 : L 36 0 = y0) (e99 : L 99 0 = 1) (hI : INV n S) (hW : xW s D B L S H) (hS : va_S (xA B) s.heap H locs) (hl : lv_has ls 4 [(3, .int (nI (8 * n))), (0, .ref b), (1, .ref x0), (2, .ref y0)])
    (kk : ∀ (S : xS) (L : xL) (H : Heap) (locs : List Loc), INV (n + 1) S → L 0 0 = x0 → L 36 0 = y0 → L 99 0 = 1 → xW s D B L S H → va_S (xA B) s.heap H locs → W p l e R s m args below meth c H locs (cells + 1) (slots + 160) Q (F0 m 1344 ls [])) : W p l e R s m args below meth c H locs cells slots Q (F0 m 1202 ls []) := by
  refine lv_aload_n (k := 1) (i := 1) hx hb (by decide +kernel) rfl (lv_at hl 2 rfl) ?_
  refine lw_argC (k := 1) (kz := 1) (kv := 1) hx hb hX hbl hB hS hl (by decide) (by omega) hL (by decide +kernel) (by decide +kernel) (by decide +kernel) rfl (by decide +kernel) (by decide +kernel) ?_
  refine rawVa (d := 60) (idx := 127) (mi2 := m_C_count) (k := 0) (i := 0) (ci := 11) (av := [.inl (xs (8 * n + 1))]) (c' := 0) (z' := 0) (rest := []) e00 ⟨hx, hb, hml, hown, hts⟩ hl.1 hfr hB (by decide +kernel) (xmok_all (by decide)) (by decide) (xwd_mem (i := 1047) (by decide +kernel)) rfl ⟨_, _, rfl⟩ (by decide +kernel) (Nat.zero_le _) (show 0 < xcn L 0 from (show 0 < 1 from Nat.one_pos)) (fun v hv => by simp at hv; subst hv; trivial) hW hS ⟨by omega, by omega⟩ (iv_count hn hI) (fun r S1 L1 H locs hq hL1 hW hS => ?_)
  obtain ⟨v, rfl, hq⟩ := hq.out
  have e00 := (hL1 0 0 (by decide)).trans e00
  have e36 := (hL1 36 0 (by decide)).trans e36
  have e99 := (hL1 99 0 (by decide)).trans e99
  refine lv_aload_n (k := 2) (i := 2) hx hb (by decide +kernel) rfl (lv_at hl 3 rfl) ?_
  refine lw_argC (k := 1) (kz := 1) (kv := 1) hx hb hX hbl hB hS hl (by decide) (by omega) hL (by decide +kernel) (by decide +kernel) (by decide +kernel) rfl (by decide +kernel) (by decide +kernel) ?_
  refine rawVa (d := 60) (idx := 130) (mi2 := m_M_count) (k := 36) (i := 0) (ci := 12) (av := [.inl (xs (8 * n + 1))]) (c' := 0) (z' := 0) (rest := [.int v]) e36 ⟨hx, hb, hml, hown, hts⟩ hl.1 hfr hB (by decide +kernel) (xmok_all (by decide)) (by decide) (xwd_mem (i := 1538) (by decide +kernel)) rfl ⟨_, _, rfl⟩ (by decide +kernel) (by decide) (show 0 < xcn L1 36 by unfold xcn; rw [e99]; decide) (fun v hv => by simp at hv; subst hv; trivial) hW hS ⟨by omega, by omega⟩ hq (fun r S2 L2 H locs hq hL2 hW hS => ?_)
  obtain ⟨rfl, hI⟩ := hq
  have e00 := (hL2 0 0 (by decide)).trans e00
  have e36 := (hL2 36 0 (by decide)).trans e36
  have e99 := (hL2 99 0 (by decide)).trans e99
  refine lv_icmp_eq (off := 124) (tgt := 1344) hx hb (by decide +kernel) rfl (fun _ => ?_) (fun q => absurd rfl q)
  refine W.widen (k := cells + 1) (n := slots + 160) (by omega) (by omega) ?_
  exact kk S2 L2 H locs hI e00 e36 e99 hW hS
set_option maxRecDepth 10000 in
theorem lc_27 (hx : p.tables.exec = Jvm.exec) (hb : c.code = code) (hml : c.maxLocals = 4) (hown : s.vm.findClass "MonsoonTradeLaw" = some m.cls) (hts : ∀ w ∈ xT, w.before args s = true) (hX : va_X b Lw xs s s.heap) (hbl : b < B) (hB : B ≤ s.heap.size) (hfr : 60 + 1 ≤ R.frames ∧ 40 * (60 + 1) ≤ R.locals) (hn : n ≤ 600) (h8 : 8 * n + 8 ≤ Lw) (hL : Lw ≤ 4096) (hc : cells + 1 ≤ R.cells) (hz : slots + 160 ≤ R.slots) (e00 : L 0 0 = x0) (e36 : L 36 0 = y0) (e99 : L 99 0 = 1) (hI : INV n S) (hW : xW s D B L S H) (hS : va_S (xA B) s.heap H locs) (hl : lv_has ls 4 [(3, .int (nI (8 * n))), (0, .ref b), (1, .ref x0), (2, .ref y0)])
    (kk : ∀ (S : xS) (L : xL) (H : Heap) (locs : List Loc), INV (n + 1) S → L 0 0 = x0 → L 36 0 = y0 → L 99 0 = 1 → xW s D B L S H → va_S (xA B) s.heap H locs → W p l e R s m args below meth c H locs (cells + 1) (slots + 160) Q (F0 m 1344 ls [])) : W p l e R s m args below meth c H locs cells slots Q (F0 m 1225 ls []) := by
  refine lv_aload_n (k := 1) (i := 1) hx hb (by decide +kernel) rfl (lv_at hl 2 rfl) ?_
  refine lw_argC (k := 1) (kz := 1) (kv := 1) hx hb hX hbl hB hS hl (by decide) (by omega) hL (by decide +kernel) (by decide +kernel) (by decide +kernel) rfl (by decide +kernel) (by decide +kernel) ?_
  refine lw_argC (k := 2) (kz := 2) (kv := 2) hx hb hX hbl hB hS hl (by decide) (by omega) hL (by decide +kernel) (by decide +kernel) (by decide +kernel) rfl (by decide +kernel) (by decide +kernel) ?_
  refine lw_argC (k := 3) (kz := 3) (kv := 3) hx hb hX hbl hB hS hl (by decide) (by omega) hL (by decide +kernel) (by decide +kernel) (by decide +kernel) rfl (by decide +kernel) (by decide +kernel) ?_
  refine rawVa (d := 60) (idx := 131) (mi2 := m_C_sheet) (k := 0) (i := 0) (ci := 11) (av := [.inl (xs (8 * n + 1)), .inl (xs (8 * n + 2)), .inl (xs (8 * n + 3))]) (c' := 0) (z' := 0) (rest := []) e00 ⟨hx, hb, hml, hown, hts⟩ hl.1 hfr hB (by decide +kernel) (xmok_all (by decide)) (by decide) (xwd_mem (i := 1059) (by decide +kernel)) rfl ⟨_, _, rfl⟩ (by decide +kernel) (Nat.zero_le _) (show 0 < xcn L 0 from (show 0 < 1 from Nat.one_pos)) (fun v hv => by simp at hv; rcases hv with rfl | rfl | rfl <;> trivial) hW hS ⟨by omega, by omega⟩ (iv_sheet hn hI) (fun r S1 L1 H locs hq hL1 hW hS => ?_)
  obtain ⟨v, rfl, hq⟩ := hq.out
  have e00 := (hL1 0 0 (by decide)).trans e00
  have e36 := (hL1 36 0 (by decide)).trans e36
  have e99 := (hL1 99 0 (by decide)).trans e99
  refine lv_aload_n (k := 2) (i := 2) hx hb (by decide +kernel) rfl (lv_at hl 3 rfl) ?_
  refine lw_argC (k := 1) (kz := 1) (kv := 1) hx hb hX hbl hB hS hl (by decide) (by omega) hL (by decide +kernel) (by decide +kernel) (by decide +kernel) rfl (by decide +kernel) (by decide +kernel) ?_
  refine lw_argC (k := 2) (kz := 2) (kv := 2) hx hb hX hbl hB hS hl (by decide) (by omega) hL (by decide +kernel) (by decide +kernel) (by decide +kernel) rfl (by decide +kernel) (by decide +kernel) ?_
  refine lw_argC (k := 3) (kz := 3) (kv := 3) hx hb hX hbl hB hS hl (by decide) (by omega) hL (by decide +kernel) (by decide +kernel) (by decide +kernel) rfl (by decide +kernel) (by decide +kernel) ?_
  refine rawVa (d := 60) (idx := 134) (mi2 := m_M_sheet) (k := 36) (i := 0) (ci := 12) (av := [.inl (xs (8 * n + 1)), .inl (xs (8 * n + 2)), .inl (xs (8 * n + 3))]) (c' := 0) (z' := 0) (rest := [.int v]) e36 ⟨hx, hb, hml, hown, hts⟩ hl.1 hfr hB (by decide +kernel) (xmok_all (by decide)) (by decide) (xwd_mem (i := 1542) (by decide +kernel)) rfl ⟨_, _, rfl⟩ (by decide +kernel) (by decide) (show 0 < xcn L1 36 by unfold xcn; rw [e99]; decide) (fun v hv => by simp at hv; rcases hv with rfl | rfl | rfl <;> trivial) hW hS ⟨by omega, by omega⟩ hq (fun r S2 L2 H locs hq hL2 hW hS => ?_)
  obtain ⟨rfl, hI⟩ := hq
  have e00 := (hL2 0 0 (by decide)).trans e00
  have e36 := (hL2 36 0 (by decide)).trans e36
  have e99 := (hL2 99 0 (by decide)).trans e99
  refine lv_icmp_eq (off := 81) (tgt := 1344) hx hb (by decide +kernel) rfl (fun _ => ?_) (fun q => absurd rfl q)
  refine W.widen (k := cells + 1) (n := slots + 160) (by omega) (by omega) ?_
  exact kk S2 L2 H locs hI e00 e36 e99 hW hS
set_option maxRecDepth 10000 in
theorem lc_28 (hx : p.tables.exec = Jvm.exec) (hb : c.code = code) (hml : c.maxLocals = 4) (hown : s.vm.findClass "MonsoonTradeLaw" = some m.cls) (hts : ∀ w ∈ xT, w.before args s = true) (hX : va_X b Lw xs s s.heap) (hbl : b < B) (hB : B ≤ s.heap.size) (hfr : 60 + 1 ≤ R.frames ∧ 40 * (60 + 1) ≤ R.locals) (hn : n ≤ 600) (h8 : 8 * n + 8 ≤ Lw) (hL : Lw ≤ 4096) (hc : cells + 1 ≤ R.cells) (hz : slots + 160 ≤ R.slots) (e00 : L 0 0 = x0) (e36 : L 36 0 = y0) (e99 : L 99 0 = 1) (hI : INV n S) (hW : xW s D B L S H) (hS : va_S (xA B) s.heap H locs) (hl : lv_has ls 4 [(3, .int (nI (8 * n))), (0, .ref b), (1, .ref x0), (2, .ref y0)])
    (kk : ∀ (S : xS) (L : xL) (H : Heap) (locs : List Loc), INV (n + 1) S → L 0 0 = x0 → L 36 0 = y0 → L 99 0 = 1 → xW s D B L S H → va_S (xA B) s.heap H locs → W p l e R s m args below meth c H locs (cells + 1) (slots + 160) Q (F0 m 1344 ls [])) : W p l e R s m args below meth c H locs cells slots Q (F0 m 1268 ls []) := by
  refine lv_aload_n (k := 1) (i := 1) hx hb (by decide +kernel) rfl (lv_at hl 2 rfl) ?_
  refine lw_argC (k := 1) (kz := 1) (kv := 1) hx hb hX hbl hB hS hl (by decide) (by omega) hL (by decide +kernel) (by decide +kernel) (by decide +kernel) rfl (by decide +kernel) (by decide +kernel) ?_
  refine lw_argC (k := 2) (kz := 2) (kv := 2) hx hb hX hbl hB hS hl (by decide) (by omega) hL (by decide +kernel) (by decide +kernel) (by decide +kernel) rfl (by decide +kernel) (by decide +kernel) ?_
  refine lw_argC (k := 3) (kz := 3) (kv := 3) hx hb hX hbl hB hS hl (by decide) (by omega) hL (by decide +kernel) (by decide +kernel) (by decide +kernel) rfl (by decide +kernel) (by decide +kernel) ?_
  refine rawVa (d := 60) (idx := 135) (mi2 := m_C_cell) (k := 0) (i := 0) (ci := 11) (av := [.inl (xs (8 * n + 1)), .inl (xs (8 * n + 2)), .inl (xs (8 * n + 3))]) (c' := 0) (z' := 0) (rest := []) e00 ⟨hx, hb, hml, hown, hts⟩ hl.1 hfr hB (by decide +kernel) (xmok_all (by decide)) (by decide) (xwd_mem (i := 1068) (by decide +kernel)) rfl ⟨_, _, rfl⟩ (by decide +kernel) (Nat.zero_le _) (show 0 < xcn L 0 from (show 0 < 1 from Nat.one_pos)) (fun v hv => by simp at hv; rcases hv with rfl | rfl | rfl <;> trivial) hW hS ⟨by omega, by omega⟩ (iv_cell hn hI) (fun r S1 L1 H locs hq hL1 hW hS => ?_)
  obtain ⟨v, rfl, hq⟩ := hq.out
  have e00 := (hL1 0 0 (by decide)).trans e00
  have e36 := (hL1 36 0 (by decide)).trans e36
  have e99 := (hL1 99 0 (by decide)).trans e99
  refine lv_aload_n (k := 2) (i := 2) hx hb (by decide +kernel) rfl (lv_at hl 3 rfl) ?_
  refine lw_argC (k := 1) (kz := 1) (kv := 1) hx hb hX hbl hB hS hl (by decide) (by omega) hL (by decide +kernel) (by decide +kernel) (by decide +kernel) rfl (by decide +kernel) (by decide +kernel) ?_
  refine lw_argC (k := 2) (kz := 2) (kv := 2) hx hb hX hbl hB hS hl (by decide) (by omega) hL (by decide +kernel) (by decide +kernel) (by decide +kernel) rfl (by decide +kernel) (by decide +kernel) ?_
  refine lw_argC (k := 3) (kz := 3) (kv := 3) hx hb hX hbl hB hS hl (by decide) (by omega) hL (by decide +kernel) (by decide +kernel) (by decide +kernel) rfl (by decide +kernel) (by decide +kernel) ?_
  refine rawVa (d := 60) (idx := 138) (mi2 := m_M_cell) (k := 36) (i := 0) (ci := 12) (av := [.inl (xs (8 * n + 1)), .inl (xs (8 * n + 2)), .inl (xs (8 * n + 3))]) (c' := 0) (z' := 0) (rest := [.int v]) e36 ⟨hx, hb, hml, hown, hts⟩ hl.1 hfr hB (by decide +kernel) (xmok_all (by decide)) (by decide) (xwd_mem (i := 1546) (by decide +kernel)) rfl ⟨_, _, rfl⟩ (by decide +kernel) (by decide) (show 0 < xcn L1 36 by unfold xcn; rw [e99]; decide) (fun v hv => by simp at hv; rcases hv with rfl | rfl | rfl <;> trivial) hW hS ⟨by omega, by omega⟩ hq (fun r S2 L2 H locs hq hL2 hW hS => ?_)
  obtain ⟨rfl, hI⟩ := hq
  have e00 := (hL2 0 0 (by decide)).trans e00
  have e36 := (hL2 36 0 (by decide)).trans e36
  have e99 := (hL2 99 0 (by decide)).trans e99
  refine lv_icmp_eq (off := 38) (tgt := 1344) hx hb (by decide +kernel) rfl (fun _ => ?_) (fun q => absurd rfl q)
  refine W.widen (k := cells + 1) (n := slots + 160) (by omega) (by omega) ?_
  exact kk S2 L2 H locs hI e00 e36 e99 hW hS
set_option maxRecDepth 10000 in
theorem lc_29 (hx : p.tables.exec = Jvm.exec) (hb : c.code = code) (hml : c.maxLocals = 4) (hown : s.vm.findClass "MonsoonTradeLaw" = some m.cls) (hts : ∀ w ∈ xT, w.before args s = true) (hX : va_X b Lw xs s s.heap) (hbl : b < B) (hB : B ≤ s.heap.size) (hfr : 60 + 1 ≤ R.frames ∧ 40 * (60 + 1) ≤ R.locals) (hn : n ≤ 600) (h8 : 8 * n + 8 ≤ Lw) (hL : Lw ≤ 4096) (hc : cells + 1 ≤ R.cells) (hz : slots + 160 ≤ R.slots) (e00 : L 0 0 = x0) (e36 : L 36 0 = y0) (e99 : L 99 0 = 1) (hI : INV n S) (hW : xW s D B L S H) (hS : va_S (xA B) s.heap H locs) (hl : lv_has ls 4 [(3, .int (nI (8 * n))), (0, .ref b), (1, .ref x0), (2, .ref y0)])
    (kk : ∀ (S : xS) (L : xL) (H : Heap) (locs : List Loc), INV (n + 1) S → L 0 0 = x0 → L 36 0 = y0 → L 99 0 = 1 → xW s D B L S H → va_S (xA B) s.heap H locs → W p l e R s m args below meth c H locs (cells + 1) (slots + 160) Q (F0 m 1344 ls [])) : W p l e R s m args below meth c H locs cells slots Q (F0 m 1311 ls []) := by
  refine lv_aload_n (k := 1) (i := 1) hx hb (by decide +kernel) rfl (lv_at hl 2 rfl) ?_
  refine lw_argC (k := 1) (kz := 1) (kv := 1) hx hb hX hbl hB hS hl (by decide) (by omega) hL (by decide +kernel) (by decide +kernel) (by decide +kernel) rfl (by decide +kernel) (by decide +kernel) ?_
  refine lw_argC (k := 2) (kz := 2) (kv := 2) hx hb hX hbl hB hS hl (by decide) (by omega) hL (by decide +kernel) (by decide +kernel) (by decide +kernel) rfl (by decide +kernel) (by decide +kernel) ?_
  refine rawVa (d := 60) (idx := 139) (mi2 := m_C_taken) (k := 0) (i := 0) (ci := 11) (av := [.inl (xs (8 * n + 1)), .inl (xs (8 * n + 2))]) (c' := 0) (z' := 0) (rest := []) e00 ⟨hx, hb, hml, hown, hts⟩ hl.1 hfr hB (by decide +kernel) (xmok_all (by decide)) (by decide) (xwd_mem (i := 1076) (by decide +kernel)) rfl ⟨_, _, rfl⟩ (by decide +kernel) (Nat.zero_le _) (show 0 < xcn L 0 from (show 0 < 1 from Nat.one_pos)) (fun v hv => by simp at hv; rcases hv with rfl | rfl <;> trivial) hW hS ⟨by omega, by omega⟩ (iv_taken hn hI) (fun r S1 L1 H locs hq hL1 hW hS => ?_)
  obtain ⟨v, rfl, hq⟩ := hq.out
  have e00 := (hL1 0 0 (by decide)).trans e00
  have e36 := (hL1 36 0 (by decide)).trans e36
  have e99 := (hL1 99 0 (by decide)).trans e99
  refine lv_aload_n (k := 2) (i := 2) hx hb (by decide +kernel) rfl (lv_at hl 3 rfl) ?_
  refine lw_argC (k := 1) (kz := 1) (kv := 1) hx hb hX hbl hB hS hl (by decide) (by omega) hL (by decide +kernel) (by decide +kernel) (by decide +kernel) rfl (by decide +kernel) (by decide +kernel) ?_
  refine lw_argC (k := 2) (kz := 2) (kv := 2) hx hb hX hbl hB hS hl (by decide) (by omega) hL (by decide +kernel) (by decide +kernel) (by decide +kernel) rfl (by decide +kernel) (by decide +kernel) ?_
  refine rawVa (d := 60) (idx := 142) (mi2 := m_M_taken) (k := 36) (i := 0) (ci := 12) (av := [.inl (xs (8 * n + 1)), .inl (xs (8 * n + 2))]) (c' := 0) (z' := 0) (rest := [.int v]) e36 ⟨hx, hb, hml, hown, hts⟩ hl.1 hfr hB (by decide +kernel) (xmok_all (by decide)) (by decide) (xwd_mem (i := 1550) (by decide +kernel)) rfl ⟨_, _, rfl⟩ (by decide +kernel) (by decide) (show 0 < xcn L1 36 by unfold xcn; rw [e99]; decide) (fun v hv => by simp at hv; rcases hv with rfl | rfl <;> trivial) hW hS ⟨by omega, by omega⟩ hq (fun r S2 L2 H locs hq hL2 hW hS => ?_)
  obtain ⟨rfl, hI⟩ := hq
  have e00 := (hL2 0 0 (by decide)).trans e00
  have e36 := (hL2 36 0 (by decide)).trans e36
  have e99 := (hL2 99 0 (by decide)).trans e99
  refine lv_icmp_eq (off := 5) (tgt := 1344) hx hb (by decide +kernel) rfl (fun _ => ?_) (fun q => absurd rfl q)
  refine W.widen (k := cells + 1) (n := slots + 160) (by omega) (by omega) ?_
  exact kk S2 L2 H locs hI e00 e36 e99 hW hS
end LAW
