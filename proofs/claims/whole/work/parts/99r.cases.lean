/-! the law's cases 0 .. 14 (written by law2.py) -/
section LAW
variable {p : Program} {l : Launch} {e : Env} {R : Room} {s : State} {m : MethodId} {args : Array Value} {below : List Frame} {meth : Method} {c : Code} {H : Heap} {locs : List Loc} {cells slots b Lw n B x0 y0 : Nat} {D : va_G} {L : xL} {S : xS} {Q : State → Prop} {ls : Array Slot} {xs : Nat → Int32}
set_option maxRecDepth 10000 in
theorem lc_0 (hx : p.tables.exec = Jvm.exec) (hb : c.code = code) (hml : c.maxLocals = 4) (hown : s.vm.findClass "MonsoonTradeLaw" = some m.cls) (hts : ∀ w ∈ xT, w.before args s = true) (hX : va_X b Lw xs s s.heap) (hbl : b < B) (hB : B ≤ s.heap.size) (hfr : 60 + 1 ≤ R.frames ∧ 40 * (60 + 1) ≤ R.locals) (hn : n ≤ 600) (h8 : 8 * n + 8 ≤ Lw) (hL : Lw ≤ 4096) (hc : cells + 1 ≤ R.cells) (hz : slots + 160 ≤ R.slots) (e00 : L 0 0 = x0) (e36 : L 36 0 = y0) (e99 : L 99 0 = 1) (hI : INV n S) (hW : xW s D B L S H) (hS : va_S (xA B) s.heap H locs) (hl : lv_has ls 4 [(3, .int (nI (8 * n))), (0, .ref b), (1, .ref x0), (2, .ref y0)])
    (kk : ∀ (S : xS) (L : xL) (H : Heap) (locs : List Loc), INV (n + 1) S → L 0 0 = x0 → L 36 0 = y0 → L 99 0 = 1 → xW s D B L S H → va_S (xA B) s.heap H locs → W p l e R s m args below meth c H locs (cells + 1) (slots + 160) Q (F0 m 1344 ls [])) : W p l e R s m args below meth c H locs cells slots Q (F0 m 168 ls []) := by
  refine lv_aload_n (k := 1) (i := 1) hx hb (by decide +kernel) rfl (lv_at hl 2 rfl) ?_
  refine lw_argC (k := 1) (kz := 1) (kv := 1) hx hb hX hbl hB hS hl (by decide) (by omega) hL (by decide +kernel) (by decide +kernel) (by decide +kernel) rfl (by decide +kernel) (by decide +kernel) ?_
  refine lw_argC (k := 2) (kz := 2) (kv := 2) hx hb hX hbl hB hS hl (by decide) (by omega) hL (by decide +kernel) (by decide +kernel) (by decide +kernel) rfl (by decide +kernel) (by decide +kernel) ?_
  refine rawVa (d := 60) (idx := 13) (mi2 := m_C_port) (k := 0) (i := 0) (ci := 11) (av := [.inl (xs (8 * n + 1)), .inl (xs (8 * n + 2))]) (c' := 0) (z' := 0) (rest := []) e00 ⟨hx, hb, hml, hown, hts⟩ hl.1 hfr hB (by decide +kernel) (xmok_all (by decide)) (by decide) (xwd_mem (i := 699) (by decide +kernel)) rfl ⟨_, _, rfl⟩ (by decide +kernel : (parseMethodDescriptor (mt m_C_port).1.desc).map (fun d => d.parameters.length) = some 2) (Nat.zero_le _) (show 0 < xcn L 0 from (show 0 < 1 from Nat.one_pos)) (fun v hv => by simp at hv; rcases hv with rfl | rfl <;> trivial) hW hS ⟨by omega, by omega⟩ (iv_port hn hI) (fun r S1 L1 H locs hq hL1 hW hS => ?_)
  obtain ⟨v, rfl, hq⟩ := hq.out
  have e00 := (hL1 0 0 (by decide)).trans e00
  have e36 := (hL1 36 0 (by decide)).trans e36
  have e99 := (hL1 99 0 (by decide)).trans e99
  refine lv_aload_n (k := 2) (i := 2) hx hb (by decide +kernel) rfl (lv_at hl 3 rfl) ?_
  refine lw_argC (k := 1) (kz := 1) (kv := 1) hx hb hX hbl hB hS hl (by decide) (by omega) hL (by decide +kernel) (by decide +kernel) (by decide +kernel) rfl (by decide +kernel) (by decide +kernel) ?_
  refine lw_argC (k := 2) (kz := 2) (kv := 2) hx hb hX hbl hB hS hl (by decide) (by omega) hL (by decide +kernel) (by decide +kernel) (by decide +kernel) rfl (by decide +kernel) (by decide +kernel) ?_
  refine rawVa (d := 60) (idx := 17) (mi2 := m_M_port) (k := 36) (i := 0) (ci := 12) (av := [.inl (xs (8 * n + 1)), .inl (xs (8 * n + 2))]) (c' := 0) (z' := 0) (rest := [.int v]) e36 ⟨hx, hb, hml, hown, hts⟩ hl.1 hfr hB (by decide +kernel) (xmok_all (by decide)) (by decide) (xwd_mem (i := 1085) (by decide +kernel)) rfl ⟨_, _, rfl⟩ (by decide +kernel : (parseMethodDescriptor (mt m_M_port).1.desc).map (fun d => d.parameters.length) = some 2) (Nat.le_of_ble_eq_true rfl) (show 0 < xcn L1 36 by unfold xcn; rw [e99]; decide) (fun v hv => by simp at hv; rcases hv with rfl | rfl <;> trivial) hW hS ⟨by omega, by omega⟩ hq (fun r S2 L2 H locs hq hL2 hW hS => ?_)
  obtain ⟨rfl, hI⟩ := hq
  have e00 := (hL2 0 0 (by decide)).trans e00
  have e36 := (hL2 36 0 (by decide)).trans e36
  have e99 := (hL2 99 0 (by decide)).trans e99
  refine lv_icmp_eq (off := 1148) (tgt := 1344) hx hb (by decide +kernel) rfl (fun _ => ?_) (fun q => absurd rfl q)
  refine W.widen (k := cells + 1) (n := slots + 160) (by omega) (by omega) ?_
  exact kk S2 L2 H locs hI e00 e36 e99 hW hS
set_option maxRecDepth 10000 in
theorem lc_1 (hx : p.tables.exec = Jvm.exec) (hb : c.code = code) (hml : c.maxLocals = 4) (hown : s.vm.findClass "MonsoonTradeLaw" = some m.cls) (hts : ∀ w ∈ xT, w.before args s = true) (hX : va_X b Lw xs s s.heap) (hbl : b < B) (hB : B ≤ s.heap.size) (hfr : 60 + 1 ≤ R.frames ∧ 40 * (60 + 1) ≤ R.locals) (hn : n ≤ 600) (h8 : 8 * n + 8 ≤ Lw) (hL : Lw ≤ 4096) (hc : cells + 1 ≤ R.cells) (hz : slots + 160 ≤ R.slots) (e00 : L 0 0 = x0) (e36 : L 36 0 = y0) (e99 : L 99 0 = 1) (hI : INV n S) (hW : xW s D B L S H) (hS : va_S (xA B) s.heap H locs) (hl : lv_has ls 4 [(3, .int (nI (8 * n))), (0, .ref b), (1, .ref x0), (2, .ref y0)])
    (kk : ∀ (S : xS) (L : xL) (H : Heap) (locs : List Loc), INV (n + 1) S → L 0 0 = x0 → L 36 0 = y0 → L 99 0 = 1 → xW s D B L S H → va_S (xA B) s.heap H locs → W p l e R s m args below meth c H locs (cells + 1) (slots + 160) Q (F0 m 1344 ls [])) : W p l e R s m args below meth c H locs cells slots Q (F0 m 201 ls []) := by
  refine lv_aload_n (k := 1) (i := 1) hx hb (by decide +kernel) rfl (lv_at hl 2 rfl) ?_
  refine lw_argC (k := 1) (kz := 1) (kv := 1) hx hb hX hbl hB hS hl (by decide) (by omega) hL (by decide +kernel) (by decide +kernel) (by decide +kernel) rfl (by decide +kernel) (by decide +kernel) ?_
  refine lw_argC (k := 2) (kz := 2) (kv := 2) hx hb hX hbl hB hS hl (by decide) (by omega) hL (by decide +kernel) (by decide +kernel) (by decide +kernel) rfl (by decide +kernel) (by decide +kernel) ?_
  refine lw_argC (k := 3) (kz := 3) (kv := 3) hx hb hX hbl hB hS hl (by decide) (by omega) hL (by decide +kernel) (by decide +kernel) (by decide +kernel) rfl (by decide +kernel) (by decide +kernel) ?_
  refine lw_argC (k := 4) (kz := 4) (kv := 4) hx hb hX hbl hB hS hl (by decide) (by omega) hL (by decide +kernel) (by decide +kernel) (by decide +kernel) rfl (by decide +kernel) (by decide +kernel) ?_
  refine rawVa (d := 60) (idx := 18) (mi2 := m_C_wants) (k := 0) (i := 0) (ci := 11) (av := [.inl (xs (8 * n + 1)), .inl (xs (8 * n + 2)), .inl (xs (8 * n + 3)), .inl (xs (8 * n + 4))]) (c' := 0) (z' := 0) (rest := []) e00 ⟨hx, hb, hml, hown, hts⟩ hl.1 hfr hB (by decide +kernel) (xmok_all (by decide)) (by decide) (xwd_mem (i := 709) (by decide +kernel)) rfl ⟨_, _, rfl⟩ (by decide +kernel : (parseMethodDescriptor (mt m_C_wants).1.desc).map (fun d => d.parameters.length) = some 4) (Nat.zero_le _) (show 0 < xcn L 0 from (show 0 < 1 from Nat.one_pos)) (fun v hv => by simp at hv; rcases hv with rfl | rfl | rfl | rfl <;> trivial) hW hS ⟨by omega, by omega⟩ (iv_wants hn hI) (fun r S1 L1 H locs hq hL1 hW hS => ?_)
  obtain ⟨v, rfl, hq⟩ := hq.out
  have e00 := (hL1 0 0 (by decide)).trans e00
  have e36 := (hL1 36 0 (by decide)).trans e36
  have e99 := (hL1 99 0 (by decide)).trans e99
  refine lv_aload_n (k := 2) (i := 2) hx hb (by decide +kernel) rfl (lv_at hl 3 rfl) ?_
  refine lw_argC (k := 1) (kz := 1) (kv := 1) hx hb hX hbl hB hS hl (by decide) (by omega) hL (by decide +kernel) (by decide +kernel) (by decide +kernel) rfl (by decide +kernel) (by decide +kernel) ?_
  refine lw_argC (k := 2) (kz := 2) (kv := 2) hx hb hX hbl hB hS hl (by decide) (by omega) hL (by decide +kernel) (by decide +kernel) (by decide +kernel) rfl (by decide +kernel) (by decide +kernel) ?_
  refine lw_argC (k := 3) (kz := 3) (kv := 3) hx hb hX hbl hB hS hl (by decide) (by omega) hL (by decide +kernel) (by decide +kernel) (by decide +kernel) rfl (by decide +kernel) (by decide +kernel) ?_
  refine lw_argC (k := 4) (kz := 4) (kv := 4) hx hb hX hbl hB hS hl (by decide) (by omega) hL (by decide +kernel) (by decide +kernel) (by decide +kernel) rfl (by decide +kernel) (by decide +kernel) ?_
  refine rawVa (d := 60) (idx := 22) (mi2 := m_M_wants) (k := 36) (i := 0) (ci := 12) (av := [.inl (xs (8 * n + 1)), .inl (xs (8 * n + 2)), .inl (xs (8 * n + 3)), .inl (xs (8 * n + 4))]) (c' := 0) (z' := 0) (rest := [.int v]) e36 ⟨hx, hb, hml, hown, hts⟩ hl.1 hfr hB (by decide +kernel) (xmok_all (by decide)) (by decide) (xwd_mem (i := 1093) (by decide +kernel)) rfl ⟨_, _, rfl⟩ (by decide +kernel : (parseMethodDescriptor (mt m_M_wants).1.desc).map (fun d => d.parameters.length) = some 4) (Nat.le_of_ble_eq_true rfl) (show 0 < xcn L1 36 by unfold xcn; rw [e99]; decide) (fun v hv => by simp at hv; rcases hv with rfl | rfl | rfl | rfl <;> trivial) hW hS ⟨by omega, by omega⟩ hq (fun r S2 L2 H locs hq hL2 hW hS => ?_)
  obtain ⟨rfl, hI⟩ := hq
  have e00 := (hL2 0 0 (by decide)).trans e00
  have e36 := (hL2 36 0 (by decide)).trans e36
  have e99 := (hL2 99 0 (by decide)).trans e99
  refine lv_icmp_eq (off := 1095) (tgt := 1344) hx hb (by decide +kernel) rfl (fun _ => ?_) (fun q => absurd rfl q)
  refine W.widen (k := cells + 1) (n := slots + 160) (by omega) (by omega) ?_
  exact kk S2 L2 H locs hI e00 e36 e99 hW hS
set_option maxRecDepth 10000 in
theorem lc_2 (hx : p.tables.exec = Jvm.exec) (hb : c.code = code) (hml : c.maxLocals = 4) (hown : s.vm.findClass "MonsoonTradeLaw" = some m.cls) (hts : ∀ w ∈ xT, w.before args s = true) (hX : va_X b Lw xs s s.heap) (hbl : b < B) (hB : B ≤ s.heap.size) (hfr : 60 + 1 ≤ R.frames ∧ 40 * (60 + 1) ≤ R.locals) (hn : n ≤ 600) (h8 : 8 * n + 8 ≤ Lw) (hL : Lw ≤ 4096) (hc : cells + 1 ≤ R.cells) (hz : slots + 160 ≤ R.slots) (e00 : L 0 0 = x0) (e36 : L 36 0 = y0) (e99 : L 99 0 = 1) (hI : INV n S) (hW : xW s D B L S H) (hS : va_S (xA B) s.heap H locs) (hl : lv_has ls 4 [(3, .int (nI (8 * n))), (0, .ref b), (1, .ref x0), (2, .ref y0)])
    (kk : ∀ (S : xS) (L : xL) (H : Heap) (locs : List Loc), INV (n + 1) S → L 0 0 = x0 → L 36 0 = y0 → L 99 0 = 1 → xW s D B L S H → va_S (xA B) s.heap H locs → W p l e R s m args below meth c H locs (cells + 1) (slots + 160) Q (F0 m 1344 ls [])) : W p l e R s m args below meth c H locs cells slots Q (F0 m 254 ls []) := by
  refine lv_aload_n (k := 1) (i := 1) hx hb (by decide +kernel) rfl (lv_at hl 2 rfl) ?_
  refine lw_argC (k := 1) (kz := 1) (kv := 1) hx hb hX hbl hB hS hl (by decide) (by omega) hL (by decide +kernel) (by decide +kernel) (by decide +kernel) rfl (by decide +kernel) (by decide +kernel) ?_
  refine lw_argC (k := 2) (kz := 2) (kv := 2) hx hb hX hbl hB hS hl (by decide) (by omega) hL (by decide +kernel) (by decide +kernel) (by decide +kernel) rfl (by decide +kernel) (by decide +kernel) ?_
  refine rawVa (d := 60) (idx := 23) (mi2 := m_C_price) (k := 0) (i := 0) (ci := 11) (av := [.inl (xs (8 * n + 1)), .inl (xs (8 * n + 2))]) (c' := 0) (z' := 0) (rest := []) e00 ⟨hx, hb, hml, hown, hts⟩ hl.1 hfr hB (by decide +kernel) (xmok_all (by decide)) (by decide) (xwd_mem (i := 726) (by decide +kernel)) rfl ⟨_, _, rfl⟩ (by decide +kernel : (parseMethodDescriptor (mt m_C_price).1.desc).map (fun d => d.parameters.length) = some 2) (Nat.zero_le _) (show 0 < xcn L 0 from (show 0 < 1 from Nat.one_pos)) (fun v hv => by simp at hv; rcases hv with rfl | rfl <;> trivial) hW hS ⟨by omega, by omega⟩ (iv_price hn hI) (fun r S1 L1 H locs hq hL1 hW hS => ?_)
  obtain ⟨v, rfl, hq⟩ := hq.out
  have e00 := (hL1 0 0 (by decide)).trans e00
  have e36 := (hL1 36 0 (by decide)).trans e36
  have e99 := (hL1 99 0 (by decide)).trans e99
  refine lv_aload_n (k := 2) (i := 2) hx hb (by decide +kernel) rfl (lv_at hl 3 rfl) ?_
  refine lw_argC (k := 1) (kz := 1) (kv := 1) hx hb hX hbl hB hS hl (by decide) (by omega) hL (by decide +kernel) (by decide +kernel) (by decide +kernel) rfl (by decide +kernel) (by decide +kernel) ?_
  refine lw_argC (k := 2) (kz := 2) (kv := 2) hx hb hX hbl hB hS hl (by decide) (by omega) hL (by decide +kernel) (by decide +kernel) (by decide +kernel) rfl (by decide +kernel) (by decide +kernel) ?_
  refine rawVa (d := 60) (idx := 26) (mi2 := m_M_price) (k := 36) (i := 0) (ci := 12) (av := [.inl (xs (8 * n + 1)), .inl (xs (8 * n + 2))]) (c' := 0) (z' := 0) (rest := [.int v]) e36 ⟨hx, hb, hml, hown, hts⟩ hl.1 hfr hB (by decide +kernel) (xmok_all (by decide)) (by decide) (xwd_mem (i := 1111) (by decide +kernel)) rfl ⟨_, _, rfl⟩ (by decide +kernel : (parseMethodDescriptor (mt m_M_price).1.desc).map (fun d => d.parameters.length) = some 2) (Nat.le_of_ble_eq_true rfl) (show 0 < xcn L1 36 by unfold xcn; rw [e99]; decide) (fun v hv => by simp at hv; rcases hv with rfl | rfl <;> trivial) hW hS ⟨by omega, by omega⟩ hq (fun r S2 L2 H locs hq hL2 hW hS => ?_)
  obtain ⟨rfl, hI⟩ := hq
  have e00 := (hL2 0 0 (by decide)).trans e00
  have e36 := (hL2 36 0 (by decide)).trans e36
  have e99 := (hL2 99 0 (by decide)).trans e99
  refine lv_icmp_eq (off := 1062) (tgt := 1344) hx hb (by decide +kernel) rfl (fun _ => ?_) (fun q => absurd rfl q)
  refine W.widen (k := cells + 1) (n := slots + 160) (by omega) (by omega) ?_
  exact kk S2 L2 H locs hI e00 e36 e99 hW hS
set_option maxRecDepth 10000 in
theorem lc_3 (hx : p.tables.exec = Jvm.exec) (hb : c.code = code) (hml : c.maxLocals = 4) (hown : s.vm.findClass "MonsoonTradeLaw" = some m.cls) (hts : ∀ w ∈ xT, w.before args s = true) (hX : va_X b Lw xs s s.heap) (hbl : b < B) (hB : B ≤ s.heap.size) (hfr : 60 + 1 ≤ R.frames ∧ 40 * (60 + 1) ≤ R.locals) (hn : n ≤ 600) (h8 : 8 * n + 8 ≤ Lw) (hL : Lw ≤ 4096) (hc : cells + 1 ≤ R.cells) (hz : slots + 160 ≤ R.slots) (e00 : L 0 0 = x0) (e36 : L 36 0 = y0) (e99 : L 99 0 = 1) (hI : INV n S) (hW : xW s D B L S H) (hS : va_S (xA B) s.heap H locs) (hl : lv_has ls 4 [(3, .int (nI (8 * n))), (0, .ref b), (1, .ref x0), (2, .ref y0)])
    (kk : ∀ (S : xS) (L : xL) (H : Heap) (locs : List Loc), INV (n + 1) S → L 0 0 = x0 → L 36 0 = y0 → L 99 0 = 1 → xW s D B L S H → va_S (xA B) s.heap H locs → W p l e R s m args below meth c H locs (cells + 1) (slots + 160) Q (F0 m 1344 ls [])) : W p l e R s m args below meth c H locs cells slots Q (F0 m 287 ls []) := by
  refine lv_aload_n (k := 1) (i := 1) hx hb (by decide +kernel) rfl (lv_at hl 2 rfl) ?_
  refine lw_argC (k := 1) (kz := 1) (kv := 1) hx hb hX hbl hB hS hl (by decide) (by omega) hL (by decide +kernel) (by decide +kernel) (by decide +kernel) rfl (by decide +kernel) (by decide +kernel) ?_
  refine lw_argC (k := 2) (kz := 2) (kv := 2) hx hb hX hbl hB hS hl (by decide) (by omega) hL (by decide +kernel) (by decide +kernel) (by decide +kernel) rfl (by decide +kernel) (by decide +kernel) ?_
  refine rawVa (d := 60) (idx := 27) (mi2 := m_C_wind) (k := 0) (i := 0) (ci := 11) (av := [.inl (xs (8 * n + 1)), .inl (xs (8 * n + 2))]) (c' := 0) (z' := 0) (rest := []) e00 ⟨hx, hb, hml, hown, hts⟩ hl.1 hfr hB (by decide +kernel) (xmok_all (by decide)) (by decide) (xwd_mem (i := 730) (by decide +kernel)) rfl ⟨_, _, rfl⟩ (by decide +kernel : (parseMethodDescriptor (mt m_C_wind).1.desc).map (fun d => d.parameters.length) = some 2) (Nat.zero_le _) (show 0 < xcn L 0 from (show 0 < 1 from Nat.one_pos)) (fun v hv => by simp at hv; rcases hv with rfl | rfl <;> trivial) hW hS ⟨by omega, by omega⟩ (iv_wind hn hI) (fun r S1 L1 H locs hq hL1 hW hS => ?_)
  obtain ⟨v, rfl, hq⟩ := hq.out
  have e00 := (hL1 0 0 (by decide)).trans e00
  have e36 := (hL1 36 0 (by decide)).trans e36
  have e99 := (hL1 99 0 (by decide)).trans e99
  refine lv_aload_n (k := 2) (i := 2) hx hb (by decide +kernel) rfl (lv_at hl 3 rfl) ?_
  refine lw_argC (k := 1) (kz := 1) (kv := 1) hx hb hX hbl hB hS hl (by decide) (by omega) hL (by decide +kernel) (by decide +kernel) (by decide +kernel) rfl (by decide +kernel) (by decide +kernel) ?_
  refine lw_argC (k := 2) (kz := 2) (kv := 2) hx hb hX hbl hB hS hl (by decide) (by omega) hL (by decide +kernel) (by decide +kernel) (by decide +kernel) rfl (by decide +kernel) (by decide +kernel) ?_
  refine rawVa (d := 60) (idx := 30) (mi2 := m_M_wind) (k := 36) (i := 0) (ci := 12) (av := [.inl (xs (8 * n + 1)), .inl (xs (8 * n + 2))]) (c' := 0) (z' := 0) (rest := [.int v]) e36 ⟨hx, hb, hml, hown, hts⟩ hl.1 hfr hB (by decide +kernel) (xmok_all (by decide)) (by decide) (xwd_mem (i := 1115) (by decide +kernel)) rfl ⟨_, _, rfl⟩ (by decide +kernel : (parseMethodDescriptor (mt m_M_wind).1.desc).map (fun d => d.parameters.length) = some 2) (Nat.le_of_ble_eq_true rfl) (show 0 < xcn L1 36 by unfold xcn; rw [e99]; decide) (fun v hv => by simp at hv; rcases hv with rfl | rfl <;> trivial) hW hS ⟨by omega, by omega⟩ hq (fun r S2 L2 H locs hq hL2 hW hS => ?_)
  obtain ⟨rfl, hI⟩ := hq
  have e00 := (hL2 0 0 (by decide)).trans e00
  have e36 := (hL2 36 0 (by decide)).trans e36
  have e99 := (hL2 99 0 (by decide)).trans e99
  refine lv_icmp_eq (off := 1029) (tgt := 1344) hx hb (by decide +kernel) rfl (fun _ => ?_) (fun q => absurd rfl q)
  refine W.widen (k := cells + 1) (n := slots + 160) (by omega) (by omega) ?_
  exact kk S2 L2 H locs hI e00 e36 e99 hW hS
set_option maxRecDepth 10000 in
theorem lc_4 (hx : p.tables.exec = Jvm.exec) (hb : c.code = code) (hml : c.maxLocals = 4) (hown : s.vm.findClass "MonsoonTradeLaw" = some m.cls) (hts : ∀ w ∈ xT, w.before args s = true) (hX : va_X b Lw xs s s.heap) (hbl : b < B) (hB : B ≤ s.heap.size) (hfr : 60 + 1 ≤ R.frames ∧ 40 * (60 + 1) ≤ R.locals) (hn : n ≤ 600) (h8 : 8 * n + 8 ≤ Lw) (hL : Lw ≤ 4096) (hc : cells + 1 ≤ R.cells) (hz : slots + 160 ≤ R.slots) (e00 : L 0 0 = x0) (e36 : L 36 0 = y0) (e99 : L 99 0 = 1) (hI : INV n S) (hW : xW s D B L S H) (hS : va_S (xA B) s.heap H locs) (hl : lv_has ls 4 [(3, .int (nI (8 * n))), (0, .ref b), (1, .ref x0), (2, .ref y0)])
    (kk : ∀ (S : xS) (L : xL) (H : Heap) (locs : List Loc), INV (n + 1) S → L 0 0 = x0 → L 36 0 = y0 → L 99 0 = 1 → xW s D B L S H → va_S (xA B) s.heap H locs → W p l e R s m args below meth c H locs (cells + 1) (slots + 160) Q (F0 m 1344 ls [])) : W p l e R s m args below meth c H locs cells slots Q (F0 m 320 ls []) := by
  refine lv_aload_n (k := 1) (i := 1) hx hb (by decide +kernel) rfl (lv_at hl 2 rfl) ?_
  refine lw_argC (k := 1) (kz := 1) (kv := 1) hx hb hX hbl hB hS hl (by decide) (by omega) hL (by decide +kernel) (by decide +kernel) (by decide +kernel) rfl (by decide +kernel) (by decide +kernel) ?_
  refine lw_argC (k := 2) (kz := 2) (kv := 2) hx hb hX hbl hB hS hl (by decide) (by omega) hL (by decide +kernel) (by decide +kernel) (by decide +kernel) rfl (by decide +kernel) (by decide +kernel) ?_
  refine lw_argC (k := 3) (kz := 3) (kv := 3) hx hb hX hbl hB hS hl (by decide) (by omega) hL (by decide +kernel) (by decide +kernel) (by decide +kernel) rfl (by decide +kernel) (by decide +kernel) ?_
  refine lw_argC (k := 4) (kz := 4) (kv := 4) hx hb hX hbl hB hS hl (by decide) (by omega) hL (by decide +kernel) (by decide +kernel) (by decide +kernel) rfl (by decide +kernel) (by decide +kernel) ?_
  refine rawVa (d := 60) (idx := 31) (mi2 := m_C_winds) (k := 0) (i := 0) (ci := 11) (av := [.inl (xs (8 * n + 1)), .inl (xs (8 * n + 2)), .inl (xs (8 * n + 3)), .inl (xs (8 * n + 4))]) (c' := 0) (z' := 0) (rest := []) e00 ⟨hx, hb, hml, hown, hts⟩ hl.1 hfr hB (by decide +kernel) (xmok_all (by decide)) (by decide) (xwd_mem (i := 734) (by decide +kernel)) rfl ⟨_, _, rfl⟩ (by decide +kernel : (parseMethodDescriptor (mt m_C_winds).1.desc).map (fun d => d.parameters.length) = some 4) (Nat.zero_le _) (show 0 < xcn L 0 from (show 0 < 1 from Nat.one_pos)) (fun v hv => by simp at hv; rcases hv with rfl | rfl | rfl | rfl <;> trivial) hW hS ⟨by omega, by omega⟩ (iv_winds hn hI) (fun r S1 L1 H locs hq hL1 hW hS => ?_)
  obtain ⟨v, rfl, hq⟩ := hq.out
  have e00 := (hL1 0 0 (by decide)).trans e00
  have e36 := (hL1 36 0 (by decide)).trans e36
  have e99 := (hL1 99 0 (by decide)).trans e99
  refine lv_aload_n (k := 2) (i := 2) hx hb (by decide +kernel) rfl (lv_at hl 3 rfl) ?_
  refine lw_argC (k := 1) (kz := 1) (kv := 1) hx hb hX hbl hB hS hl (by decide) (by omega) hL (by decide +kernel) (by decide +kernel) (by decide +kernel) rfl (by decide +kernel) (by decide +kernel) ?_
  refine lw_argC (k := 2) (kz := 2) (kv := 2) hx hb hX hbl hB hS hl (by decide) (by omega) hL (by decide +kernel) (by decide +kernel) (by decide +kernel) rfl (by decide +kernel) (by decide +kernel) ?_
  refine lw_argC (k := 3) (kz := 3) (kv := 3) hx hb hX hbl hB hS hl (by decide) (by omega) hL (by decide +kernel) (by decide +kernel) (by decide +kernel) rfl (by decide +kernel) (by decide +kernel) ?_
  refine lw_argC (k := 4) (kz := 4) (kv := 4) hx hb hX hbl hB hS hl (by decide) (by omega) hL (by decide +kernel) (by decide +kernel) (by decide +kernel) rfl (by decide +kernel) (by decide +kernel) ?_
  refine rawVa (d := 60) (idx := 34) (mi2 := m_M_winds) (k := 36) (i := 0) (ci := 12) (av := [.inl (xs (8 * n + 1)), .inl (xs (8 * n + 2)), .inl (xs (8 * n + 3)), .inl (xs (8 * n + 4))]) (c' := 0) (z' := 0) (rest := [.int v]) e36 ⟨hx, hb, hml, hown, hts⟩ hl.1 hfr hB (by decide +kernel) (xmok_all (by decide)) (by decide) (xwd_mem (i := 1122) (by decide +kernel)) rfl ⟨_, _, rfl⟩ (by decide +kernel : (parseMethodDescriptor (mt m_M_winds).1.desc).map (fun d => d.parameters.length) = some 4) (Nat.le_of_ble_eq_true rfl) (show 0 < xcn L1 36 by unfold xcn; rw [e99]; decide) (fun v hv => by simp at hv; rcases hv with rfl | rfl | rfl | rfl <;> trivial) hW hS ⟨by omega, by omega⟩ hq (fun r S2 L2 H locs hq hL2 hW hS => ?_)
  obtain ⟨rfl, hI⟩ := hq
  have e00 := (hL2 0 0 (by decide)).trans e00
  have e36 := (hL2 36 0 (by decide)).trans e36
  have e99 := (hL2 99 0 (by decide)).trans e99
  refine lv_icmp_eq (off := 976) (tgt := 1344) hx hb (by decide +kernel) rfl (fun _ => ?_) (fun q => absurd rfl q)
  refine W.widen (k := cells + 1) (n := slots + 160) (by omega) (by omega) ?_
  exact kk S2 L2 H locs hI e00 e36 e99 hW hS
set_option maxRecDepth 10000 in
theorem lc_5 (hx : p.tables.exec = Jvm.exec) (hb : c.code = code) (hml : c.maxLocals = 4) (hown : s.vm.findClass "MonsoonTradeLaw" = some m.cls) (hts : ∀ w ∈ xT, w.before args s = true) (hX : va_X b Lw xs s s.heap) (hbl : b < B) (hB : B ≤ s.heap.size) (hfr : 60 + 1 ≤ R.frames ∧ 40 * (60 + 1) ≤ R.locals) (hn : n ≤ 600) (h8 : 8 * n + 8 ≤ Lw) (hL : Lw ≤ 4096) (hc : cells + 1 ≤ R.cells) (hz : slots + 160 ≤ R.slots) (e00 : L 0 0 = x0) (e36 : L 36 0 = y0) (e99 : L 99 0 = 1) (hI : INV n S) (hW : xW s D B L S H) (hS : va_S (xA B) s.heap H locs) (hl : lv_has ls 4 [(3, .int (nI (8 * n))), (0, .ref b), (1, .ref x0), (2, .ref y0)])
    (kk : ∀ (S : xS) (L : xL) (H : Heap) (locs : List Loc), INV (n + 1) S → L 0 0 = x0 → L 36 0 = y0 → L 99 0 = 1 → xW s D B L S H → va_S (xA B) s.heap H locs → W p l e R s m args below meth c H locs (cells + 1) (slots + 160) Q (F0 m 1344 ls [])) : W p l e R s m args below meth c H locs cells slots Q (F0 m 373 ls []) := by
  refine lv_aload_n (k := 1) (i := 1) hx hb (by decide +kernel) rfl (lv_at hl 2 rfl) ?_
  refine lw_argC (k := 1) (kz := 1) (kv := 1) hx hb hX hbl hB hS hl (by decide) (by omega) hL (by decide +kernel) (by decide +kernel) (by decide +kernel) rfl (by decide +kernel) (by decide +kernel) ?_
  refine lw_argC (k := 2) (kz := 2) (kv := 2) hx hb hX hbl hB hS hl (by decide) (by omega) hL (by decide +kernel) (by decide +kernel) (by decide +kernel) rfl (by decide +kernel) (by decide +kernel) ?_
  refine lw_argC (k := 3) (kz := 3) (kv := 3) hx hb hX hbl hB hS hl (by decide) (by omega) hL (by decide +kernel) (by decide +kernel) (by decide +kernel) rfl (by decide +kernel) (by decide +kernel) ?_
  refine rawVa (d := 60) (idx := 35) (mi2 := m_C_way) (k := 0) (i := 0) (ci := 11) (av := [.inl (xs (8 * n + 1)), .inl (xs (8 * n + 2)), .inl (xs (8 * n + 3))]) (c' := 0) (z' := 0) (rest := []) e00 ⟨hx, hb, hml, hown, hts⟩ hl.1 hfr hB (by decide +kernel) (xmok_all (by decide)) (by decide) (xwd_mem (i := 755) (by decide +kernel)) rfl ⟨_, _, rfl⟩ (by decide +kernel : (parseMethodDescriptor (mt m_C_way).1.desc).map (fun d => d.parameters.length) = some 3) (Nat.zero_le _) (show 0 < xcn L 0 from (show 0 < 1 from Nat.one_pos)) (fun v hv => by simp at hv; rcases hv with rfl | rfl | rfl <;> trivial) hW hS ⟨by omega, by omega⟩ (iv_way hn hI) (fun r S1 L1 H locs hq hL1 hW hS => ?_)
  obtain ⟨v, rfl, hq⟩ := hq.out
  have e00 := (hL1 0 0 (by decide)).trans e00
  have e36 := (hL1 36 0 (by decide)).trans e36
  have e99 := (hL1 99 0 (by decide)).trans e99
  refine lv_aload_n (k := 2) (i := 2) hx hb (by decide +kernel) rfl (lv_at hl 3 rfl) ?_
  refine lw_argC (k := 1) (kz := 1) (kv := 1) hx hb hX hbl hB hS hl (by decide) (by omega) hL (by decide +kernel) (by decide +kernel) (by decide +kernel) rfl (by decide +kernel) (by decide +kernel) ?_
  refine lw_argC (k := 2) (kz := 2) (kv := 2) hx hb hX hbl hB hS hl (by decide) (by omega) hL (by decide +kernel) (by decide +kernel) (by decide +kernel) rfl (by decide +kernel) (by decide +kernel) ?_
  refine lw_argC (k := 3) (kz := 3) (kv := 3) hx hb hX hbl hB hS hl (by decide) (by omega) hL (by decide +kernel) (by decide +kernel) (by decide +kernel) rfl (by decide +kernel) (by decide +kernel) ?_
  refine rawVa (d := 60) (idx := 39) (mi2 := m_M_way) (k := 36) (i := 0) (ci := 12) (av := [.inl (xs (8 * n + 1)), .inl (xs (8 * n + 2)), .inl (xs (8 * n + 3))]) (c' := 0) (z' := 0) (rest := [.int v]) e36 ⟨hx, hb, hml, hown, hts⟩ hl.1 hfr hB (by decide +kernel) (xmok_all (by decide)) (by decide) (xwd_mem (i := 1127) (by decide +kernel)) rfl ⟨_, _, rfl⟩ (by decide +kernel : (parseMethodDescriptor (mt m_M_way).1.desc).map (fun d => d.parameters.length) = some 3) (Nat.le_of_ble_eq_true rfl) (show 0 < xcn L1 36 by unfold xcn; rw [e99]; decide) (fun v hv => by simp at hv; rcases hv with rfl | rfl | rfl <;> trivial) hW hS ⟨by omega, by omega⟩ hq (fun r S2 L2 H locs hq hL2 hW hS => ?_)
  obtain ⟨rfl, hI⟩ := hq
  have e00 := (hL2 0 0 (by decide)).trans e00
  have e36 := (hL2 36 0 (by decide)).trans e36
  have e99 := (hL2 99 0 (by decide)).trans e99
  refine lv_icmp_eq (off := 933) (tgt := 1344) hx hb (by decide +kernel) rfl (fun _ => ?_) (fun q => absurd rfl q)
  refine W.widen (k := cells + 1) (n := slots + 160) (by omega) (by omega) ?_
  exact kk S2 L2 H locs hI e00 e36 e99 hW hS
set_option maxRecDepth 10000 in
theorem lc_6 (hx : p.tables.exec = Jvm.exec) (hb : c.code = code) (hml : c.maxLocals = 4) (hown : s.vm.findClass "MonsoonTradeLaw" = some m.cls) (hts : ∀ w ∈ xT, w.before args s = true) (hX : va_X b Lw xs s s.heap) (hbl : b < B) (hB : B ≤ s.heap.size) (hfr : 60 + 1 ≤ R.frames ∧ 40 * (60 + 1) ≤ R.locals) (hn : n ≤ 600) (h8 : 8 * n + 8 ≤ Lw) (hL : Lw ≤ 4096) (hc : cells + 1 ≤ R.cells) (hz : slots + 160 ≤ R.slots) (e00 : L 0 0 = x0) (e36 : L 36 0 = y0) (e99 : L 99 0 = 1) (hI : INV n S) (hW : xW s D B L S H) (hS : va_S (xA B) s.heap H locs) (hl : lv_has ls 4 [(3, .int (nI (8 * n))), (0, .ref b), (1, .ref x0), (2, .ref y0)])
    (kk : ∀ (S : xS) (L : xL) (H : Heap) (locs : List Loc), INV (n + 1) S → L 0 0 = x0 → L 36 0 = y0 → L 99 0 = 1 → xW s D B L S H → va_S (xA B) s.heap H locs → W p l e R s m args below meth c H locs (cells + 1) (slots + 160) Q (F0 m 1344 ls [])) : W p l e R s m args below meth c H locs cells slots Q (F0 m 416 ls []) := by
  refine lv_aload_n (k := 1) (i := 1) hx hb (by decide +kernel) rfl (lv_at hl 2 rfl) ?_
  refine lw_argC (k := 1) (kz := 1) (kv := 1) hx hb hX hbl hB hS hl (by decide) (by omega) hL (by decide +kernel) (by decide +kernel) (by decide +kernel) rfl (by decide +kernel) (by decide +kernel) ?_
  refine lw_argC (k := 2) (kz := 2) (kv := 2) hx hb hX hbl hB hS hl (by decide) (by omega) hL (by decide +kernel) (by decide +kernel) (by decide +kernel) rfl (by decide +kernel) (by decide +kernel) ?_
  refine lw_argC (k := 3) (kz := 3) (kv := 3) hx hb hX hbl hB hS hl (by decide) (by omega) hL (by decide +kernel) (by decide +kernel) (by decide +kernel) rfl (by decide +kernel) (by decide +kernel) ?_
  refine rawVa (d := 60) (idx := 40) (mi2 := m_C_dhow) (k := 0) (i := 0) (ci := 11) (av := [.inl (xs (8 * n + 1)), .inl (xs (8 * n + 2)), .inl (xs (8 * n + 3))]) (c' := 0) (z' := 0) (rest := []) e00 ⟨hx, hb, hml, hown, hts⟩ hl.1 hfr hB (by decide +kernel) (xmok_all (by decide)) (by decide) (xwd_mem (i := 773) (by decide +kernel)) rfl ⟨_, _, rfl⟩ (by decide +kernel : (parseMethodDescriptor (mt m_C_dhow).1.desc).map (fun d => d.parameters.length) = some 3) (Nat.zero_le _) (show 0 < xcn L 0 from (show 0 < 1 from Nat.one_pos)) (fun v hv => by simp at hv; rcases hv with rfl | rfl | rfl <;> trivial) hW hS ⟨by omega, by omega⟩ (iv_dhow hn hI) (fun r S1 L1 H locs hq hL1 hW hS => ?_)
  obtain ⟨v, rfl, hq⟩ := hq.out
  have e00 := (hL1 0 0 (by decide)).trans e00
  have e36 := (hL1 36 0 (by decide)).trans e36
  have e99 := (hL1 99 0 (by decide)).trans e99
  refine lv_aload_n (k := 2) (i := 2) hx hb (by decide +kernel) rfl (lv_at hl 3 rfl) ?_
  refine lw_argC (k := 1) (kz := 1) (kv := 1) hx hb hX hbl hB hS hl (by decide) (by omega) hL (by decide +kernel) (by decide +kernel) (by decide +kernel) rfl (by decide +kernel) (by decide +kernel) ?_
  refine lw_argC (k := 2) (kz := 2) (kv := 2) hx hb hX hbl hB hS hl (by decide) (by omega) hL (by decide +kernel) (by decide +kernel) (by decide +kernel) rfl (by decide +kernel) (by decide +kernel) ?_
  refine lw_argC (k := 3) (kz := 3) (kv := 3) hx hb hX hbl hB hS hl (by decide) (by omega) hL (by decide +kernel) (by decide +kernel) (by decide +kernel) rfl (by decide +kernel) (by decide +kernel) ?_
  refine rawVa (d := 60) (idx := 43) (mi2 := m_M_dhow) (k := 36) (i := 0) (ci := 12) (av := [.inl (xs (8 * n + 1)), .inl (xs (8 * n + 2)), .inl (xs (8 * n + 3))]) (c' := 0) (z' := 0) (rest := [.int v]) e36 ⟨hx, hb, hml, hown, hts⟩ hl.1 hfr hB (by decide +kernel) (xmok_all (by decide)) (by decide) (xwd_mem (i := 1136) (by decide +kernel)) rfl ⟨_, _, rfl⟩ (by decide +kernel : (parseMethodDescriptor (mt m_M_dhow).1.desc).map (fun d => d.parameters.length) = some 3) (Nat.le_of_ble_eq_true rfl) (show 0 < xcn L1 36 by unfold xcn; rw [e99]; decide) (fun v hv => by simp at hv; rcases hv with rfl | rfl | rfl <;> trivial) hW hS ⟨by omega, by omega⟩ hq (fun r S2 L2 H locs hq hL2 hW hS => ?_)
  obtain ⟨rfl, hI⟩ := hq
  have e00 := (hL2 0 0 (by decide)).trans e00
  have e36 := (hL2 36 0 (by decide)).trans e36
  have e99 := (hL2 99 0 (by decide)).trans e99
  refine lv_icmp_eq (off := 890) (tgt := 1344) hx hb (by decide +kernel) rfl (fun _ => ?_) (fun q => absurd rfl q)
  refine W.widen (k := cells + 1) (n := slots + 160) (by omega) (by omega) ?_
  exact kk S2 L2 H locs hI e00 e36 e99 hW hS
set_option maxRecDepth 10000 in
theorem lc_7 (hx : p.tables.exec = Jvm.exec) (hb : c.code = code) (hml : c.maxLocals = 4) (hown : s.vm.findClass "MonsoonTradeLaw" = some m.cls) (hts : ∀ w ∈ xT, w.before args s = true) (hX : va_X b Lw xs s s.heap) (hbl : b < B) (hB : B ≤ s.heap.size) (hfr : 60 + 1 ≤ R.frames ∧ 40 * (60 + 1) ≤ R.locals) (hn : n ≤ 600) (h8 : 8 * n + 8 ≤ Lw) (hL : Lw ≤ 4096) (hc : cells + 1 ≤ R.cells) (hz : slots + 160 ≤ R.slots) (e00 : L 0 0 = x0) (e36 : L 36 0 = y0) (e99 : L 99 0 = 1) (hI : INV n S) (hW : xW s D B L S H) (hS : va_S (xA B) s.heap H locs) (hl : lv_has ls 4 [(3, .int (nI (8 * n))), (0, .ref b), (1, .ref x0), (2, .ref y0)])
    (kk : ∀ (S : xS) (L : xL) (H : Heap) (locs : List Loc), INV (n + 1) S → L 0 0 = x0 → L 36 0 = y0 → L 99 0 = 1 → xW s D B L S H → va_S (xA B) s.heap H locs → W p l e R s m args below meth c H locs (cells + 1) (slots + 160) Q (F0 m 1344 ls [])) : W p l e R s m args below meth c H locs cells slots Q (F0 m 459 ls []) := by
  refine lv_aload_n (k := 1) (i := 1) hx hb (by decide +kernel) rfl (lv_at hl 2 rfl) ?_
  refine lw_argC (k := 1) (kz := 1) (kv := 1) hx hb hX hbl hB hS hl (by decide) (by omega) hL (by decide +kernel) (by decide +kernel) (by decide +kernel) rfl (by decide +kernel) (by decide +kernel) ?_
  refine lw_argC (k := 2) (kz := 2) (kv := 2) hx hb hX hbl hB hS hl (by decide) (by omega) hL (by decide +kernel) (by decide +kernel) (by decide +kernel) rfl (by decide +kernel) (by decide +kernel) ?_
  refine rawVa (d := 60) (idx := 44) (mi2 := m_C_told) (k := 0) (i := 0) (ci := 11) (av := [.inl (xs (8 * n + 1)), .inl (xs (8 * n + 2))]) (c' := 0) (z' := 0) (rest := []) e00 ⟨hx, hb, hml, hown, hts⟩ hl.1 hfr hB (by decide +kernel) (xmok_all (by decide)) (by decide) (xwd_mem (i := 778) (by decide +kernel)) rfl ⟨_, _, rfl⟩ (by decide +kernel : (parseMethodDescriptor (mt m_C_told).1.desc).map (fun d => d.parameters.length) = some 2) (Nat.zero_le _) (show 0 < xcn L 0 from (show 0 < 1 from Nat.one_pos)) (fun v hv => by simp at hv; rcases hv with rfl | rfl <;> trivial) hW hS ⟨by omega, by omega⟩ (iv_told hn hI) (fun r S1 L1 H locs hq hL1 hW hS => ?_)
  obtain ⟨v, rfl, hq⟩ := hq.out
  have e00 := (hL1 0 0 (by decide)).trans e00
  have e36 := (hL1 36 0 (by decide)).trans e36
  have e99 := (hL1 99 0 (by decide)).trans e99
  refine lv_aload_n (k := 2) (i := 2) hx hb (by decide +kernel) rfl (lv_at hl 3 rfl) ?_
  refine lw_argC (k := 1) (kz := 1) (kv := 1) hx hb hX hbl hB hS hl (by decide) (by omega) hL (by decide +kernel) (by decide +kernel) (by decide +kernel) rfl (by decide +kernel) (by decide +kernel) ?_
  refine lw_argC (k := 2) (kz := 2) (kv := 2) hx hb hX hbl hB hS hl (by decide) (by omega) hL (by decide +kernel) (by decide +kernel) (by decide +kernel) rfl (by decide +kernel) (by decide +kernel) ?_
  refine rawVa (d := 60) (idx := 47) (mi2 := m_M_told) (k := 36) (i := 0) (ci := 12) (av := [.inl (xs (8 * n + 1)), .inl (xs (8 * n + 2))]) (c' := 0) (z' := 0) (rest := [.int v]) e36 ⟨hx, hb, hml, hown, hts⟩ hl.1 hfr hB (by decide +kernel) (xmok_all (by decide)) (by decide) (xwd_mem (i := 1141) (by decide +kernel)) rfl ⟨_, _, rfl⟩ (by decide +kernel : (parseMethodDescriptor (mt m_M_told).1.desc).map (fun d => d.parameters.length) = some 2) (Nat.le_of_ble_eq_true rfl) (show 0 < xcn L1 36 by unfold xcn; rw [e99]; decide) (fun v hv => by simp at hv; rcases hv with rfl | rfl <;> trivial) hW hS ⟨by omega, by omega⟩ hq (fun r S2 L2 H locs hq hL2 hW hS => ?_)
  obtain ⟨rfl, hI⟩ := hq
  have e00 := (hL2 0 0 (by decide)).trans e00
  have e36 := (hL2 36 0 (by decide)).trans e36
  have e99 := (hL2 99 0 (by decide)).trans e99
  refine lv_icmp_eq (off := 857) (tgt := 1344) hx hb (by decide +kernel) rfl (fun _ => ?_) (fun q => absurd rfl q)
  refine W.widen (k := cells + 1) (n := slots + 160) (by omega) (by omega) ?_
  exact kk S2 L2 H locs hI e00 e36 e99 hW hS
set_option maxRecDepth 10000 in
theorem lc_8 (hx : p.tables.exec = Jvm.exec) (hb : c.code = code) (hml : c.maxLocals = 4) (hown : s.vm.findClass "MonsoonTradeLaw" = some m.cls) (hts : ∀ w ∈ xT, w.before args s = true) (hX : va_X b Lw xs s s.heap) (hbl : b < B) (hB : B ≤ s.heap.size) (hfr : 60 + 1 ≤ R.frames ∧ 40 * (60 + 1) ≤ R.locals) (hn : n ≤ 600) (h8 : 8 * n + 8 ≤ Lw) (hL : Lw ≤ 4096) (hc : cells + 1 ≤ R.cells) (hz : slots + 160 ≤ R.slots) (e00 : L 0 0 = x0) (e36 : L 36 0 = y0) (e99 : L 99 0 = 1) (hI : INV n S) (hW : xW s D B L S H) (hS : va_S (xA B) s.heap H locs) (hl : lv_has ls 4 [(3, .int (nI (8 * n))), (0, .ref b), (1, .ref x0), (2, .ref y0)])
    (kk : ∀ (S : xS) (L : xL) (H : Heap) (locs : List Loc), INV (n + 1) S → L 0 0 = x0 → L 36 0 = y0 → L 99 0 = 1 → xW s D B L S H → va_S (xA B) s.heap H locs → W p l e R s m args below meth c H locs (cells + 1) (slots + 160) Q (F0 m 1344 ls [])) : W p l e R s m args below meth c H locs cells slots Q (F0 m 492 ls []) := by
  refine lv_aload_n (k := 1) (i := 1) hx hb (by decide +kernel) rfl (lv_at hl 2 rfl) ?_
  refine lw_argC (k := 1) (kz := 1) (kv := 1) hx hb hX hbl hB hS hl (by decide) (by omega) hL (by decide +kernel) (by decide +kernel) (by decide +kernel) rfl (by decide +kernel) (by decide +kernel) ?_
  refine lw_argC (k := 2) (kz := 2) (kv := 2) hx hb hX hbl hB hS hl (by decide) (by omega) hL (by decide +kernel) (by decide +kernel) (by decide +kernel) rfl (by decide +kernel) (by decide +kernel) ?_
  refine rawVa (d := 60) (idx := 48) (mi2 := m_C_good) (k := 0) (i := 0) (ci := 11) (av := [.inl (xs (8 * n + 1)), .inl (xs (8 * n + 2))]) (c' := 0) (z' := 0) (rest := []) e00 ⟨hx, hb, hml, hown, hts⟩ hl.1 hfr hB (by decide +kernel) (xmok_all (by decide)) (by decide) (xwd_mem (i := 790) (by decide +kernel)) rfl ⟨_, _, rfl⟩ (by decide +kernel : (parseMethodDescriptor (mt m_C_good).1.desc).map (fun d => d.parameters.length) = some 2) (Nat.zero_le _) (show 0 < xcn L 0 from (show 0 < 1 from Nat.one_pos)) (fun v hv => by simp at hv; rcases hv with rfl | rfl <;> trivial) hW hS ⟨by omega, by omega⟩ (iv_good hn hI) (fun r S1 L1 H locs hq hL1 hW hS => ?_)
  obtain ⟨v, rfl, hq⟩ := hq.out
  have e00 := (hL1 0 0 (by decide)).trans e00
  have e36 := (hL1 36 0 (by decide)).trans e36
  have e99 := (hL1 99 0 (by decide)).trans e99
  refine lv_aload_n (k := 2) (i := 2) hx hb (by decide +kernel) rfl (lv_at hl 3 rfl) ?_
  refine lw_argC (k := 1) (kz := 1) (kv := 1) hx hb hX hbl hB hS hl (by decide) (by omega) hL (by decide +kernel) (by decide +kernel) (by decide +kernel) rfl (by decide +kernel) (by decide +kernel) ?_
  refine lw_argC (k := 2) (kz := 2) (kv := 2) hx hb hX hbl hB hS hl (by decide) (by omega) hL (by decide +kernel) (by decide +kernel) (by decide +kernel) rfl (by decide +kernel) (by decide +kernel) ?_
  refine rawVa (d := 60) (idx := 51) (mi2 := m_M_good) (k := 36) (i := 0) (ci := 12) (av := [.inl (xs (8 * n + 1)), .inl (xs (8 * n + 2))]) (c' := 0) (z' := 0) (rest := [.int v]) e36 ⟨hx, hb, hml, hown, hts⟩ hl.1 hfr hB (by decide +kernel) (xmok_all (by decide)) (by decide) (xwd_mem (i := 1153) (by decide +kernel)) rfl ⟨_, _, rfl⟩ (by decide +kernel : (parseMethodDescriptor (mt m_M_good).1.desc).map (fun d => d.parameters.length) = some 2) (Nat.le_of_ble_eq_true rfl) (show 0 < xcn L1 36 by unfold xcn; rw [e99]; decide) (fun v hv => by simp at hv; rcases hv with rfl | rfl <;> trivial) hW hS ⟨by omega, by omega⟩ hq (fun r S2 L2 H locs hq hL2 hW hS => ?_)
  obtain ⟨rfl, hI⟩ := hq
  have e00 := (hL2 0 0 (by decide)).trans e00
  have e36 := (hL2 36 0 (by decide)).trans e36
  have e99 := (hL2 99 0 (by decide)).trans e99
  refine lv_icmp_eq (off := 824) (tgt := 1344) hx hb (by decide +kernel) rfl (fun _ => ?_) (fun q => absurd rfl q)
  refine W.widen (k := cells + 1) (n := slots + 160) (by omega) (by omega) ?_
  exact kk S2 L2 H locs hI e00 e36 e99 hW hS
set_option maxRecDepth 10000 in
theorem lc_9 (hx : p.tables.exec = Jvm.exec) (hb : c.code = code) (hml : c.maxLocals = 4) (hown : s.vm.findClass "MonsoonTradeLaw" = some m.cls) (hts : ∀ w ∈ xT, w.before args s = true) (hX : va_X b Lw xs s s.heap) (hbl : b < B) (hB : B ≤ s.heap.size) (hfr : 60 + 1 ≤ R.frames ∧ 40 * (60 + 1) ≤ R.locals) (hn : n ≤ 600) (h8 : 8 * n + 8 ≤ Lw) (hL : Lw ≤ 4096) (hc : cells + 1 ≤ R.cells) (hz : slots + 160 ≤ R.slots) (e00 : L 0 0 = x0) (e36 : L 36 0 = y0) (e99 : L 99 0 = 1) (hI : INV n S) (hW : xW s D B L S H) (hS : va_S (xA B) s.heap H locs) (hl : lv_has ls 4 [(3, .int (nI (8 * n))), (0, .ref b), (1, .ref x0), (2, .ref y0)])
    (kk : ∀ (S : xS) (L : xL) (H : Heap) (locs : List Loc), INV (n + 1) S → L 0 0 = x0 → L 36 0 = y0 → L 99 0 = 1 → xW s D B L S H → va_S (xA B) s.heap H locs → W p l e R s m args below meth c H locs (cells + 1) (slots + 160) Q (F0 m 1344 ls [])) : W p l e R s m args below meth c H locs cells slots Q (F0 m 525 ls []) := by
  refine lv_aload_n (k := 1) (i := 1) hx hb (by decide +kernel) rfl (lv_at hl 2 rfl) ?_
  refine lw_argC (k := 1) (kz := 1) (kv := 1) hx hb hX hbl hB hS hl (by decide) (by omega) hL (by decide +kernel) (by decide +kernel) (by decide +kernel) rfl (by decide +kernel) (by decide +kernel) ?_
  refine lw_argC (k := 2) (kz := 2) (kv := 2) hx hb hX hbl hB hS hl (by decide) (by omega) hL (by decide +kernel) (by decide +kernel) (by decide +kernel) rfl (by decide +kernel) (by decide +kernel) ?_
  refine lw_argC (k := 3) (kz := 3) (kv := 3) hx hb hX hbl hB hS hl (by decide) (by omega) hL (by decide +kernel) (by decide +kernel) (by decide +kernel) rfl (by decide +kernel) (by decide +kernel) ?_
  refine rawVa (d := 60) (idx := 52) (mi2 := m_C_sell) (k := 0) (i := 0) (ci := 11) (av := [.inl (xs (8 * n + 1)), .inl (xs (8 * n + 2)), .inl (xs (8 * n + 3))]) (c' := 0) (z' := 0) (rest := []) e00 ⟨hx, hb, hml, hown, hts⟩ hl.1 hfr hB (by decide +kernel) (xmok_all (by decide)) (by decide) (xwd_mem (i := 794) (by decide +kernel)) rfl ⟨_, _, rfl⟩ (by decide +kernel : (parseMethodDescriptor (mt m_C_sell).1.desc).map (fun d => d.parameters.length) = some 3) (Nat.zero_le _) (show 0 < xcn L 0 from (show 0 < 1 from Nat.one_pos)) (fun v hv => by simp at hv; rcases hv with rfl | rfl | rfl <;> trivial) hW hS ⟨by omega, by omega⟩ (iv_sell hn hI) (fun r S1 L1 H locs hq hL1 hW hS => ?_)
  obtain ⟨v, rfl, hq⟩ := hq.out
  have e00 := (hL1 0 0 (by decide)).trans e00
  have e36 := (hL1 36 0 (by decide)).trans e36
  have e99 := (hL1 99 0 (by decide)).trans e99
  refine lv_aload_n (k := 2) (i := 2) hx hb (by decide +kernel) rfl (lv_at hl 3 rfl) ?_
  refine lw_argC (k := 1) (kz := 1) (kv := 1) hx hb hX hbl hB hS hl (by decide) (by omega) hL (by decide +kernel) (by decide +kernel) (by decide +kernel) rfl (by decide +kernel) (by decide +kernel) ?_
  refine lw_argC (k := 2) (kz := 2) (kv := 2) hx hb hX hbl hB hS hl (by decide) (by omega) hL (by decide +kernel) (by decide +kernel) (by decide +kernel) rfl (by decide +kernel) (by decide +kernel) ?_
  refine lw_argC (k := 3) (kz := 3) (kv := 3) hx hb hX hbl hB hS hl (by decide) (by omega) hL (by decide +kernel) (by decide +kernel) (by decide +kernel) rfl (by decide +kernel) (by decide +kernel) ?_
  refine rawVa (d := 60) (idx := 55) (mi2 := m_M_sell) (k := 36) (i := 0) (ci := 12) (av := [.inl (xs (8 * n + 1)), .inl (xs (8 * n + 2)), .inl (xs (8 * n + 3))]) (c' := 0) (z' := 0) (rest := [.int v]) e36 ⟨hx, hb, hml, hown, hts⟩ hl.1 hfr hB (by decide +kernel) (xmok_all (by decide)) (by decide) (xwd_mem (i := 1157) (by decide +kernel)) rfl ⟨_, _, rfl⟩ (by decide +kernel : (parseMethodDescriptor (mt m_M_sell).1.desc).map (fun d => d.parameters.length) = some 3) (Nat.le_of_ble_eq_true rfl) (show 0 < xcn L1 36 by unfold xcn; rw [e99]; decide) (fun v hv => by simp at hv; rcases hv with rfl | rfl | rfl <;> trivial) hW hS ⟨by omega, by omega⟩ hq (fun r S2 L2 H locs hq hL2 hW hS => ?_)
  obtain ⟨rfl, hI⟩ := hq
  have e00 := (hL2 0 0 (by decide)).trans e00
  have e36 := (hL2 36 0 (by decide)).trans e36
  have e99 := (hL2 99 0 (by decide)).trans e99
  refine lv_icmp_eq (off := 781) (tgt := 1344) hx hb (by decide +kernel) rfl (fun _ => ?_) (fun q => absurd rfl q)
  refine W.widen (k := cells + 1) (n := slots + 160) (by omega) (by omega) ?_
  exact kk S2 L2 H locs hI e00 e36 e99 hW hS
set_option maxRecDepth 10000 in
theorem lc_10 (hx : p.tables.exec = Jvm.exec) (hb : c.code = code) (hml : c.maxLocals = 4) (hown : s.vm.findClass "MonsoonTradeLaw" = some m.cls) (hts : ∀ w ∈ xT, w.before args s = true) (hX : va_X b Lw xs s s.heap) (hbl : b < B) (hB : B ≤ s.heap.size) (hfr : 60 + 1 ≤ R.frames ∧ 40 * (60 + 1) ≤ R.locals) (hn : n ≤ 600) (h8 : 8 * n + 8 ≤ Lw) (hL : Lw ≤ 4096) (hc : cells + 1 ≤ R.cells) (hz : slots + 160 ≤ R.slots) (e00 : L 0 0 = x0) (e36 : L 36 0 = y0) (e99 : L 99 0 = 1) (hI : INV n S) (hW : xW s D B L S H) (hS : va_S (xA B) s.heap H locs) (hl : lv_has ls 4 [(3, .int (nI (8 * n))), (0, .ref b), (1, .ref x0), (2, .ref y0)])
    (kk : ∀ (S : xS) (L : xL) (H : Heap) (locs : List Loc), INV (n + 1) S → L 0 0 = x0 → L 36 0 = y0 → L 99 0 = 1 → xW s D B L S H → va_S (xA B) s.heap H locs → W p l e R s m args below meth c H locs (cells + 1) (slots + 160) Q (F0 m 1344 ls [])) : W p l e R s m args below meth c H locs cells slots Q (F0 m 568 ls []) := by
  refine lv_aload_n (k := 1) (i := 1) hx hb (by decide +kernel) rfl (lv_at hl 2 rfl) ?_
  refine lw_argC (k := 1) (kz := 1) (kv := 1) hx hb hX hbl hB hS hl (by decide) (by omega) hL (by decide +kernel) (by decide +kernel) (by decide +kernel) rfl (by decide +kernel) (by decide +kernel) ?_
  refine lw_argC (k := 2) (kz := 2) (kv := 2) hx hb hX hbl hB hS hl (by decide) (by omega) hL (by decide +kernel) (by decide +kernel) (by decide +kernel) rfl (by decide +kernel) (by decide +kernel) ?_
  refine lw_argC (k := 3) (kz := 3) (kv := 3) hx hb hX hbl hB hS hl (by decide) (by omega) hL (by decide +kernel) (by decide +kernel) (by decide +kernel) rfl (by decide +kernel) (by decide +kernel) ?_
  refine rawVa (d := 60) (idx := 56) (mi2 := m_C_buy) (k := 0) (i := 0) (ci := 11) (av := [.inl (xs (8 * n + 1)), .inl (xs (8 * n + 2)), .inl (xs (8 * n + 3))]) (c' := 0) (z' := 0) (rest := []) e00 ⟨hx, hb, hml, hown, hts⟩ hl.1 hfr hB (by decide +kernel) (xmok_all (by decide)) (by decide) (xwd_mem (i := 802) (by decide +kernel)) rfl ⟨_, _, rfl⟩ (by decide +kernel : (parseMethodDescriptor (mt m_C_buy).1.desc).map (fun d => d.parameters.length) = some 3) (Nat.zero_le _) (show 0 < xcn L 0 from (show 0 < 1 from Nat.one_pos)) (fun v hv => by simp at hv; rcases hv with rfl | rfl | rfl <;> trivial) hW hS ⟨by omega, by omega⟩ (iv_buy hn hI) (fun r S1 L1 H locs hq hL1 hW hS => ?_)
  obtain ⟨v, rfl, hq⟩ := hq.out
  have e00 := (hL1 0 0 (by decide)).trans e00
  have e36 := (hL1 36 0 (by decide)).trans e36
  have e99 := (hL1 99 0 (by decide)).trans e99
  refine lv_aload_n (k := 2) (i := 2) hx hb (by decide +kernel) rfl (lv_at hl 3 rfl) ?_
  refine lw_argC (k := 1) (kz := 1) (kv := 1) hx hb hX hbl hB hS hl (by decide) (by omega) hL (by decide +kernel) (by decide +kernel) (by decide +kernel) rfl (by decide +kernel) (by decide +kernel) ?_
  refine lw_argC (k := 2) (kz := 2) (kv := 2) hx hb hX hbl hB hS hl (by decide) (by omega) hL (by decide +kernel) (by decide +kernel) (by decide +kernel) rfl (by decide +kernel) (by decide +kernel) ?_
  refine lw_argC (k := 3) (kz := 3) (kv := 3) hx hb hX hbl hB hS hl (by decide) (by omega) hL (by decide +kernel) (by decide +kernel) (by decide +kernel) rfl (by decide +kernel) (by decide +kernel) ?_
  refine rawVa (d := 60) (idx := 59) (mi2 := m_M_buy) (k := 36) (i := 0) (ci := 12) (av := [.inl (xs (8 * n + 1)), .inl (xs (8 * n + 2)), .inl (xs (8 * n + 3))]) (c' := 0) (z' := 0) (rest := [.int v]) e36 ⟨hx, hb, hml, hown, hts⟩ hl.1 hfr hB (by decide +kernel) (xmok_all (by decide)) (by decide) (xwd_mem (i := 1165) (by decide +kernel)) rfl ⟨_, _, rfl⟩ (by decide +kernel : (parseMethodDescriptor (mt m_M_buy).1.desc).map (fun d => d.parameters.length) = some 3) (Nat.le_of_ble_eq_true rfl) (show 0 < xcn L1 36 by unfold xcn; rw [e99]; decide) (fun v hv => by simp at hv; rcases hv with rfl | rfl | rfl <;> trivial) hW hS ⟨by omega, by omega⟩ hq (fun r S2 L2 H locs hq hL2 hW hS => ?_)
  obtain ⟨rfl, hI⟩ := hq
  have e00 := (hL2 0 0 (by decide)).trans e00
  have e36 := (hL2 36 0 (by decide)).trans e36
  have e99 := (hL2 99 0 (by decide)).trans e99
  refine lv_icmp_eq (off := 738) (tgt := 1344) hx hb (by decide +kernel) rfl (fun _ => ?_) (fun q => absurd rfl q)
  refine W.widen (k := cells + 1) (n := slots + 160) (by omega) (by omega) ?_
  exact kk S2 L2 H locs hI e00 e36 e99 hW hS
set_option maxRecDepth 10000 in
theorem lc_11 (hx : p.tables.exec = Jvm.exec) (hb : c.code = code) (hml : c.maxLocals = 4) (hown : s.vm.findClass "MonsoonTradeLaw" = some m.cls) (hts : ∀ w ∈ xT, w.before args s = true) (hX : va_X b Lw xs s s.heap) (hbl : b < B) (hB : B ≤ s.heap.size) (hfr : 60 + 1 ≤ R.frames ∧ 40 * (60 + 1) ≤ R.locals) (hn : n ≤ 600) (h8 : 8 * n + 8 ≤ Lw) (hL : Lw ≤ 4096) (hc : cells + 1 ≤ R.cells) (hz : slots + 160 ≤ R.slots) (e00 : L 0 0 = x0) (e36 : L 36 0 = y0) (e99 : L 99 0 = 1) (hI : INV n S) (hW : xW s D B L S H) (hS : va_S (xA B) s.heap H locs) (hl : lv_has ls 4 [(3, .int (nI (8 * n))), (0, .ref b), (1, .ref x0), (2, .ref y0)])
    (kk : ∀ (S : xS) (L : xL) (H : Heap) (locs : List Loc), INV (n + 1) S → L 0 0 = x0 → L 36 0 = y0 → L 99 0 = 1 → xW s D B L S H → va_S (xA B) s.heap H locs → W p l e R s m args below meth c H locs (cells + 1) (slots + 160) Q (F0 m 1344 ls [])) : W p l e R s m args below meth c H locs cells slots Q (F0 m 611 ls []) := by
  refine lv_aload_n (k := 1) (i := 1) hx hb (by decide +kernel) rfl (lv_at hl 2 rfl) ?_
  refine lw_argC (k := 1) (kz := 1) (kv := 1) hx hb hX hbl hB hS hl (by decide) (by omega) hL (by decide +kernel) (by decide +kernel) (by decide +kernel) rfl (by decide +kernel) (by decide +kernel) ?_
  refine lw_argC (k := 2) (kz := 2) (kv := 2) hx hb hX hbl hB hS hl (by decide) (by omega) hL (by decide +kernel) (by decide +kernel) (by decide +kernel) rfl (by decide +kernel) (by decide +kernel) ?_
  refine rawVa (d := 60) (idx := 60) (mi2 := m_C_sail) (k := 0) (i := 0) (ci := 11) (av := [.inl (xs (8 * n + 1)), .inl (xs (8 * n + 2))]) (c' := 0) (z' := 0) (rest := []) e00 ⟨hx, hb, hml, hown, hts⟩ hl.1 hfr hB (by decide +kernel) (xmok_all (by decide)) (by decide) (xwd_mem (i := 806) (by decide +kernel)) rfl ⟨_, _, rfl⟩ (by decide +kernel : (parseMethodDescriptor (mt m_C_sail).1.desc).map (fun d => d.parameters.length) = some 2) (Nat.zero_le _) (show 0 < xcn L 0 from (show 0 < 1 from Nat.one_pos)) (fun v hv => by simp at hv; rcases hv with rfl | rfl <;> trivial) hW hS ⟨by omega, by omega⟩ (iv_sail hn hI) (fun r S1 L1 H locs hq hL1 hW hS => ?_)
  obtain ⟨v, rfl, hq⟩ := hq.out
  have e00 := (hL1 0 0 (by decide)).trans e00
  have e36 := (hL1 36 0 (by decide)).trans e36
  have e99 := (hL1 99 0 (by decide)).trans e99
  refine lv_aload_n (k := 2) (i := 2) hx hb (by decide +kernel) rfl (lv_at hl 3 rfl) ?_
  refine lw_argC (k := 1) (kz := 1) (kv := 1) hx hb hX hbl hB hS hl (by decide) (by omega) hL (by decide +kernel) (by decide +kernel) (by decide +kernel) rfl (by decide +kernel) (by decide +kernel) ?_
  refine lw_argC (k := 2) (kz := 2) (kv := 2) hx hb hX hbl hB hS hl (by decide) (by omega) hL (by decide +kernel) (by decide +kernel) (by decide +kernel) rfl (by decide +kernel) (by decide +kernel) ?_
  refine rawVa (d := 60) (idx := 63) (mi2 := m_M_sail) (k := 36) (i := 0) (ci := 12) (av := [.inl (xs (8 * n + 1)), .inl (xs (8 * n + 2))]) (c' := 0) (z' := 0) (rest := [.int v]) e36 ⟨hx, hb, hml, hown, hts⟩ hl.1 hfr hB (by decide +kernel) (xmok_all (by decide)) (by decide) (xwd_mem (i := 1169) (by decide +kernel)) rfl ⟨_, _, rfl⟩ (by decide +kernel : (parseMethodDescriptor (mt m_M_sail).1.desc).map (fun d => d.parameters.length) = some 2) (Nat.le_of_ble_eq_true rfl) (show 0 < xcn L1 36 by unfold xcn; rw [e99]; decide) (fun v hv => by simp at hv; rcases hv with rfl | rfl <;> trivial) hW hS ⟨by omega, by omega⟩ hq (fun r S2 L2 H locs hq hL2 hW hS => ?_)
  obtain ⟨rfl, hI⟩ := hq
  have e00 := (hL2 0 0 (by decide)).trans e00
  have e36 := (hL2 36 0 (by decide)).trans e36
  have e99 := (hL2 99 0 (by decide)).trans e99
  refine lv_icmp_eq (off := 705) (tgt := 1344) hx hb (by decide +kernel) rfl (fun _ => ?_) (fun q => absurd rfl q)
  refine W.widen (k := cells + 1) (n := slots + 160) (by omega) (by omega) ?_
  exact kk S2 L2 H locs hI e00 e36 e99 hW hS
set_option maxRecDepth 10000 in
theorem lc_12 (hx : p.tables.exec = Jvm.exec) (hb : c.code = code) (hml : c.maxLocals = 4) (hown : s.vm.findClass "MonsoonTradeLaw" = some m.cls) (hts : ∀ w ∈ xT, w.before args s = true) (hX : va_X b Lw xs s s.heap) (hbl : b < B) (hB : B ≤ s.heap.size) (hfr : 60 + 1 ≤ R.frames ∧ 40 * (60 + 1) ≤ R.locals) (hn : n ≤ 600) (h8 : 8 * n + 8 ≤ Lw) (hL : Lw ≤ 4096) (hc : cells + 1 ≤ R.cells) (hz : slots + 160 ≤ R.slots) (e00 : L 0 0 = x0) (e36 : L 36 0 = y0) (e99 : L 99 0 = 1) (hI : INV n S) (hW : xW s D B L S H) (hS : va_S (xA B) s.heap H locs) (hl : lv_has ls 4 [(3, .int (nI (8 * n))), (0, .ref b), (1, .ref x0), (2, .ref y0)])
    (kk : ∀ (S : xS) (L : xL) (H : Heap) (locs : List Loc), INV (n + 1) S → L 0 0 = x0 → L 36 0 = y0 → L 99 0 = 1 → xW s D B L S H → va_S (xA B) s.heap H locs → W p l e R s m args below meth c H locs (cells + 1) (slots + 160) Q (F0 m 1344 ls [])) : W p l e R s m args below meth c H locs cells slots Q (F0 m 644 ls []) := by
  refine lv_aload_n (k := 1) (i := 1) hx hb (by decide +kernel) rfl (lv_at hl 2 rfl) ?_
  refine lw_argC (k := 1) (kz := 1) (kv := 1) hx hb hX hbl hB hS hl (by decide) (by omega) hL (by decide +kernel) (by decide +kernel) (by decide +kernel) rfl (by decide +kernel) (by decide +kernel) ?_
  refine rawVa (d := 60) (idx := 64) (mi2 := m_C_days) (k := 0) (i := 0) (ci := 11) (av := [.inl (xs (8 * n + 1))]) (c' := 0) (z' := 0) (rest := []) e00 ⟨hx, hb, hml, hown, hts⟩ hl.1 hfr hB (by decide +kernel) (xmok_all (by decide)) (by decide) (xwd_mem (i := 828) (by decide +kernel)) rfl ⟨_, _, rfl⟩ (by decide +kernel : (parseMethodDescriptor (mt m_C_days).1.desc).map (fun d => d.parameters.length) = some 1) (Nat.zero_le _) (show 0 < xcn L 0 from (show 0 < 1 from Nat.one_pos)) (fun v hv => by simp at hv; subst hv; trivial) hW hS ⟨by omega, by omega⟩ (iv_days hn hI) (fun r S1 L1 H locs hq hL1 hW hS => ?_)
  obtain ⟨v, rfl, hq⟩ := hq.out
  have e00 := (hL1 0 0 (by decide)).trans e00
  have e36 := (hL1 36 0 (by decide)).trans e36
  have e99 := (hL1 99 0 (by decide)).trans e99
  refine lv_aload_n (k := 2) (i := 2) hx hb (by decide +kernel) rfl (lv_at hl 3 rfl) ?_
  refine lw_argC (k := 1) (kz := 1) (kv := 1) hx hb hX hbl hB hS hl (by decide) (by omega) hL (by decide +kernel) (by decide +kernel) (by decide +kernel) rfl (by decide +kernel) (by decide +kernel) ?_
  refine rawVa (d := 60) (idx := 68) (mi2 := m_M_days) (k := 36) (i := 0) (ci := 12) (av := [.inl (xs (8 * n + 1))]) (c' := 0) (z' := 0) (rest := [.int v]) e36 ⟨hx, hb, hml, hown, hts⟩ hl.1 hfr hB (by decide +kernel) (xmok_all (by decide)) (by decide) (xwd_mem (i := 1185) (by decide +kernel)) rfl ⟨_, _, rfl⟩ (by decide +kernel : (parseMethodDescriptor (mt m_M_days).1.desc).map (fun d => d.parameters.length) = some 1) (Nat.le_of_ble_eq_true rfl) (show 0 < xcn L1 36 by unfold xcn; rw [e99]; decide) (fun v hv => by simp at hv; subst hv; trivial) hW hS ⟨by omega, by omega⟩ hq (fun r S2 L2 H locs hq hL2 hW hS => ?_)
  obtain ⟨rfl, hI⟩ := hq
  have e00 := (hL2 0 0 (by decide)).trans e00
  have e36 := (hL2 36 0 (by decide)).trans e36
  have e99 := (hL2 99 0 (by decide)).trans e99
  refine lv_icmp_eq (off := 682) (tgt := 1344) hx hb (by decide +kernel) rfl (fun _ => ?_) (fun q => absurd rfl q)
  refine W.widen (k := cells + 1) (n := slots + 160) (by omega) (by omega) ?_
  exact kk S2 L2 H locs hI e00 e36 e99 hW hS
set_option maxRecDepth 10000 in
theorem lc_13 (hx : p.tables.exec = Jvm.exec) (hb : c.code = code) (hml : c.maxLocals = 4) (hown : s.vm.findClass "MonsoonTradeLaw" = some m.cls) (hts : ∀ w ∈ xT, w.before args s = true) (hX : va_X b Lw xs s s.heap) (hbl : b < B) (hB : B ≤ s.heap.size) (hfr : 60 + 1 ≤ R.frames ∧ 40 * (60 + 1) ≤ R.locals) (hn : n ≤ 600) (h8 : 8 * n + 8 ≤ Lw) (hL : Lw ≤ 4096) (hc : cells + 1 ≤ R.cells) (hz : slots + 160 ≤ R.slots) (e00 : L 0 0 = x0) (e36 : L 36 0 = y0) (e99 : L 99 0 = 1) (hI : INV n S) (hW : xW s D B L S H) (hS : va_S (xA B) s.heap H locs) (hl : lv_has ls 4 [(3, .int (nI (8 * n))), (0, .ref b), (1, .ref x0), (2, .ref y0)])
    (kk : ∀ (S : xS) (L : xL) (H : Heap) (locs : List Loc), INV (n + 1) S → L 0 0 = x0 → L 36 0 = y0 → L 99 0 = 1 → xW s D B L S H → va_S (xA B) s.heap H locs → W p l e R s m args below meth c H locs (cells + 1) (slots + 160) Q (F0 m 1344 ls [])) : W p l e R s m args below meth c H locs cells slots Q (F0 m 667 ls []) := by
  refine lv_aload_n (k := 1) (i := 1) hx hb (by decide +kernel) rfl (lv_at hl 2 rfl) ?_
  refine lw_argC (k := 1) (kz := 1) (kv := 1) hx hb hX hbl hB hS hl (by decide) (by omega) hL (by decide +kernel) (by decide +kernel) (by decide +kernel) rfl (by decide +kernel) (by decide +kernel) ?_
  refine rawVa (d := 60) (idx := 69) (mi2 := m_C_lose) (k := 0) (i := 0) (ci := 11) (av := [.inl (xs (8 * n + 1))]) (c' := 0) (z' := 0) (rest := []) e00 ⟨hx, hb, hml, hown, hts⟩ hl.1 hfr hB (by decide +kernel) (xmok_all (by decide)) (by decide) (xwd_mem (i := 840) (by decide +kernel)) rfl ⟨_, _, rfl⟩ (by decide +kernel : (parseMethodDescriptor (mt m_C_lose).1.desc).map (fun d => d.parameters.length) = some 1) (Nat.zero_le _) (show 0 < xcn L 0 from (show 0 < 1 from Nat.one_pos)) (fun v hv => by simp at hv; subst hv; trivial) hW hS ⟨by omega, by omega⟩ (iv_lose hn hI) (fun r S1 L1 H locs hq hL1 hW hS => ?_)
  obtain ⟨v, rfl, hq⟩ := hq.out
  have e00 := (hL1 0 0 (by decide)).trans e00
  have e36 := (hL1 36 0 (by decide)).trans e36
  have e99 := (hL1 99 0 (by decide)).trans e99
  refine lv_aload_n (k := 2) (i := 2) hx hb (by decide +kernel) rfl (lv_at hl 3 rfl) ?_
  refine lw_argC (k := 1) (kz := 1) (kv := 1) hx hb hX hbl hB hS hl (by decide) (by omega) hL (by decide +kernel) (by decide +kernel) (by decide +kernel) rfl (by decide +kernel) (by decide +kernel) ?_
  refine rawVa (d := 60) (idx := 72) (mi2 := m_M_lose) (k := 36) (i := 0) (ci := 12) (av := [.inl (xs (8 * n + 1))]) (c' := 0) (z' := 0) (rest := [.int v]) e36 ⟨hx, hb, hml, hown, hts⟩ hl.1 hfr hB (by decide +kernel) (xmok_all (by decide)) (by decide) (xwd_mem (i := 1190) (by decide +kernel)) rfl ⟨_, _, rfl⟩ (by decide +kernel : (parseMethodDescriptor (mt m_M_lose).1.desc).map (fun d => d.parameters.length) = some 1) (Nat.le_of_ble_eq_true rfl) (show 0 < xcn L1 36 by unfold xcn; rw [e99]; decide) (fun v hv => by simp at hv; subst hv; trivial) hW hS ⟨by omega, by omega⟩ hq (fun r S2 L2 H locs hq hL2 hW hS => ?_)
  obtain ⟨rfl, hI⟩ := hq
  have e00 := (hL2 0 0 (by decide)).trans e00
  have e36 := (hL2 36 0 (by decide)).trans e36
  have e99 := (hL2 99 0 (by decide)).trans e99
  refine lv_icmp_eq (off := 659) (tgt := 1344) hx hb (by decide +kernel) rfl (fun _ => ?_) (fun q => absurd rfl q)
  refine W.widen (k := cells + 1) (n := slots + 160) (by omega) (by omega) ?_
  exact kk S2 L2 H locs hI e00 e36 e99 hW hS
set_option maxRecDepth 10000 in
theorem lc_14 (hx : p.tables.exec = Jvm.exec) (hb : c.code = code) (hml : c.maxLocals = 4) (hown : s.vm.findClass "MonsoonTradeLaw" = some m.cls) (hts : ∀ w ∈ xT, w.before args s = true) (hX : va_X b Lw xs s s.heap) (hbl : b < B) (hB : B ≤ s.heap.size) (hfr : 60 + 1 ≤ R.frames ∧ 40 * (60 + 1) ≤ R.locals) (hn : n ≤ 600) (h8 : 8 * n + 8 ≤ Lw) (hL : Lw ≤ 4096) (hc : cells + 1 ≤ R.cells) (hz : slots + 160 ≤ R.slots) (e00 : L 0 0 = x0) (e36 : L 36 0 = y0) (e99 : L 99 0 = 1) (hI : INV n S) (hW : xW s D B L S H) (hS : va_S (xA B) s.heap H locs) (hl : lv_has ls 4 [(3, .int (nI (8 * n))), (0, .ref b), (1, .ref x0), (2, .ref y0)])
    (kk : ∀ (S : xS) (L : xL) (H : Heap) (locs : List Loc), INV (n + 1) S → L 0 0 = x0 → L 36 0 = y0 → L 99 0 = 1 → xW s D B L S H → va_S (xA B) s.heap H locs → W p l e R s m args below meth c H locs (cells + 1) (slots + 160) Q (F0 m 1344 ls [])) : W p l e R s m args below meth c H locs cells slots Q (F0 m 690 ls []) := by
  refine lv_aload_n (k := 1) (i := 1) hx hb (by decide +kernel) rfl (lv_at hl 2 rfl) ?_
  refine lw_argC (k := 1) (kz := 1) (kv := 1) hx hb hX hbl hB hS hl (by decide) (by omega) hL (by decide +kernel) (by decide +kernel) (by decide +kernel) rfl (by decide +kernel) (by decide +kernel) ?_
  refine lw_argC (k := 2) (kz := 2) (kv := 2) hx hb hX hbl hB hS hl (by decide) (by omega) hL (by decide +kernel) (by decide +kernel) (by decide +kernel) rfl (by decide +kernel) (by decide +kernel) ?_
  refine lw_argC (k := 3) (kz := 3) (kv := 3) hx hb hX hbl hB hS hl (by decide) (by omega) hL (by decide +kernel) (by decide +kernel) (by decide +kernel) rfl (by decide +kernel) (by decide +kernel) ?_
  refine lw_argC (k := 4) (kz := 4) (kv := 4) hx hb hX hbl hB hS hl (by decide) (by omega) hL (by decide +kernel) (by decide +kernel) (by decide +kernel) rfl (by decide +kernel) (by decide +kernel) ?_
  refine rawVa (d := 60) (idx := 73) (mi2 := m_C_heard) (k := 0) (i := 0) (ci := 11) (av := [.inl (xs (8 * n + 1)), .inl (xs (8 * n + 2)), .inl (xs (8 * n + 3)), .inl (xs (8 * n + 4))]) (c' := 0) (z' := 0) (rest := []) e00 ⟨hx, hb, hml, hown, hts⟩ hl.1 hfr hB (by decide +kernel) (xmok_all (by decide)) (by decide) (xwd_mem (i := 857) (by decide +kernel)) rfl ⟨_, _, rfl⟩ (by decide +kernel : (parseMethodDescriptor (mt m_C_heard).1.desc).map (fun d => d.parameters.length) = some 4) (Nat.zero_le _) (show 0 < xcn L 0 from (show 0 < 1 from Nat.one_pos)) (fun v hv => by simp at hv; rcases hv with rfl | rfl | rfl | rfl <;> trivial) hW hS ⟨by omega, by omega⟩ (iv_heard hn hI) (fun r S1 L1 H locs hq hL1 hW hS => ?_)
  obtain ⟨v, rfl, hq⟩ := hq.out
  have e00 := (hL1 0 0 (by decide)).trans e00
  have e36 := (hL1 36 0 (by decide)).trans e36
  have e99 := (hL1 99 0 (by decide)).trans e99
  refine lv_aload_n (k := 2) (i := 2) hx hb (by decide +kernel) rfl (lv_at hl 3 rfl) ?_
  refine lw_argC (k := 1) (kz := 1) (kv := 1) hx hb hX hbl hB hS hl (by decide) (by omega) hL (by decide +kernel) (by decide +kernel) (by decide +kernel) rfl (by decide +kernel) (by decide +kernel) ?_
  refine lw_argC (k := 2) (kz := 2) (kv := 2) hx hb hX hbl hB hS hl (by decide) (by omega) hL (by decide +kernel) (by decide +kernel) (by decide +kernel) rfl (by decide +kernel) (by decide +kernel) ?_
  refine lw_argC (k := 3) (kz := 3) (kv := 3) hx hb hX hbl hB hS hl (by decide) (by omega) hL (by decide +kernel) (by decide +kernel) (by decide +kernel) rfl (by decide +kernel) (by decide +kernel) ?_
  refine lw_argC (k := 4) (kz := 4) (kv := 4) hx hb hX hbl hB hS hl (by decide) (by omega) hL (by decide +kernel) (by decide +kernel) (by decide +kernel) rfl (by decide +kernel) (by decide +kernel) ?_
  refine rawVa (d := 60) (idx := 76) (mi2 := m_M_heard) (k := 36) (i := 0) (ci := 12) (av := [.inl (xs (8 * n + 1)), .inl (xs (8 * n + 2)), .inl (xs (8 * n + 3)), .inl (xs (8 * n + 4))]) (c' := 0) (z' := 0) (rest := [.int v]) e36 ⟨hx, hb, hml, hown, hts⟩ hl.1 hfr hB (by decide +kernel) (xmok_all (by decide)) (by decide) (xwd_mem (i := 1194) (by decide +kernel)) rfl ⟨_, _, rfl⟩ (by decide +kernel : (parseMethodDescriptor (mt m_M_heard).1.desc).map (fun d => d.parameters.length) = some 4) (Nat.le_of_ble_eq_true rfl) (show 0 < xcn L1 36 by unfold xcn; rw [e99]; decide) (fun v hv => by simp at hv; rcases hv with rfl | rfl | rfl | rfl <;> trivial) hW hS ⟨by omega, by omega⟩ hq (fun r S2 L2 H locs hq hL2 hW hS => ?_)
  obtain ⟨rfl, hI⟩ := hq
  have e00 := (hL2 0 0 (by decide)).trans e00
  have e36 := (hL2 36 0 (by decide)).trans e36
  have e99 := (hL2 99 0 (by decide)).trans e99
  refine lv_icmp_eq (off := 606) (tgt := 1344) hx hb (by decide +kernel) rfl (fun _ => ?_) (fun q => absurd rfl q)
  refine W.widen (k := cells + 1) (n := slots + 160) (by omega) (by omega) ?_
  exact kk S2 L2 H locs hI e00 e36 e99 hW hS
end LAW
