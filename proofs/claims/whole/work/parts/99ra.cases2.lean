/-! the law's cases 15 .. 29 (written by law2.py) -/
section LAW
variable {p : Program} {l : Launch} {e : Env} {R : Room} {s : State} {m : MethodId} {args : Array Value} {below : List Frame} {meth : Method} {c : Code} {H : Heap} {locs : List Loc} {cells slots b Lw n B x0 y0 : Nat} {D : va_G} {L : xL} {S : xS} {Q : State → Prop} {ls : Array Slot} {xs : Nat → Int32}
set_option maxRecDepth 10000 in
theorem lc_15 (hx : p.tables.exec = Jvm.exec) (hb : c.code = code) (hml : c.maxLocals = 4) (hown : s.vm.findClass "MonsoonTradeLaw" = some m.cls) (hts : ∀ w ∈ xT, w.before args s = true) (hX : va_X b Lw xs s s.heap) (hbl : b < B) (hB : B ≤ s.heap.size) (hfr : 60 + 1 ≤ R.frames ∧ 40 * (60 + 1) ≤ R.locals) (hn : n ≤ 600) (h8 : 8 * n + 8 ≤ Lw) (hL : Lw ≤ 4096) (hc : cells + 1 ≤ R.cells) (hz : slots + 160 ≤ R.slots) (e00 : L 0 0 = x0) (e36 : L 36 0 = y0) (e99 : L 99 0 = 1) (hI : INV n S) (hW : xW s D B L S H) (hS : va_S (xA B) s.heap H locs) (hl : lv_has ls 4 [(3, .int (nI (8 * n))), (0, .ref b), (1, .ref x0), (2, .ref y0)])
    (kk : ∀ (S : xS) (L : xL) (H : Heap) (locs : List Loc), INV (n + 1) S → L 0 0 = x0 → L 36 0 = y0 → L 99 0 = 1 → xW s D B L S H → va_S (xA B) s.heap H locs → W p l e R s m args below meth c H locs (cells + 1) (slots + 160) Q (F0 m 1344 ls [])) : W p l e R s m args below meth c H locs cells slots Q (F0 m 743 ls []) := by
  refine lv_aload_n (k := 1) (i := 1) hx hb (by decide +kernel) rfl (lv_at hl 2 rfl) ?_
  refine lw_argC (k := 1) (kz := 1) (kv := 1) hx hb hX hbl hB hS hl (by decide) (by omega) hL (by decide +kernel) (by decide +kernel) (by decide +kernel) rfl (by decide +kernel) (by decide +kernel) ?_
  refine lw_argC (k := 2) (kz := 2) (kv := 2) hx hb hX hbl hB hS hl (by decide) (by omega) hL (by decide +kernel) (by decide +kernel) (by decide +kernel) rfl (by decide +kernel) (by decide +kernel) ?_
  refine lw_argC (k := 3) (kz := 3) (kv := 3) hx hb hX hbl hB hS hl (by decide) (by omega) hL (by decide +kernel) (by decide +kernel) (by decide +kernel) rfl (by decide +kernel) (by decide +kernel) ?_
  refine lw_argC (k := 4) (kz := 4) (kv := 4) hx hb hX hbl hB hS hl (by decide) (by omega) hL (by decide +kernel) (by decide +kernel) (by decide +kernel) rfl (by decide +kernel) (by decide +kernel) ?_
  refine rawVa (d := 60) (idx := 77) (mi2 := m_C_venture) (k := 0) (i := 0) (ci := 11) (av := [.inl (xs (8 * n + 1)), .inl (xs (8 * n + 2)), .inl (xs (8 * n + 3)), .inl (xs (8 * n + 4))]) (c' := 0) (z' := 0) (rest := []) e00 ⟨hx, hb, hml, hown, hts⟩ hl.1 hfr hB (by decide +kernel) (xmok_all (by decide)) (by decide) (xwd_mem (i := 869) (by decide +kernel)) rfl ⟨_, _, rfl⟩ (by decide +kernel : (parseMethodDescriptor (mt m_C_venture).1.desc).map (fun d => d.parameters.length) = some 4) (Nat.zero_le _) (show 0 < xcn L 0 from (show 0 < 1 from Nat.one_pos)) (fun v hv => by simp at hv; rcases hv with rfl | rfl | rfl | rfl <;> trivial) hW hS ⟨by omega, by omega⟩ (iv_venture hn hI) (fun r S1 L1 H locs hq hL1 hW hS => ?_)
  obtain ⟨v, rfl, hq⟩ := hq.out
  have e00 := (hL1 0 0 (by decide)).trans e00
  have e36 := (hL1 36 0 (by decide)).trans e36
  have e99 := (hL1 99 0 (by decide)).trans e99
  refine lv_aload_n (k := 2) (i := 2) hx hb (by decide +kernel) rfl (lv_at hl 3 rfl) ?_
  refine lw_argC (k := 1) (kz := 1) (kv := 1) hx hb hX hbl hB hS hl (by decide) (by omega) hL (by decide +kernel) (by decide +kernel) (by decide +kernel) rfl (by decide +kernel) (by decide +kernel) ?_
  refine lw_argC (k := 2) (kz := 2) (kv := 2) hx hb hX hbl hB hS hl (by decide) (by omega) hL (by decide +kernel) (by decide +kernel) (by decide +kernel) rfl (by decide +kernel) (by decide +kernel) ?_
  refine lw_argC (k := 3) (kz := 3) (kv := 3) hx hb hX hbl hB hS hl (by decide) (by omega) hL (by decide +kernel) (by decide +kernel) (by decide +kernel) rfl (by decide +kernel) (by decide +kernel) ?_
  refine lw_argC (k := 4) (kz := 4) (kv := 4) hx hb hX hbl hB hS hl (by decide) (by omega) hL (by decide +kernel) (by decide +kernel) (by decide +kernel) rfl (by decide +kernel) (by decide +kernel) ?_
  refine rawVa (d := 60) (idx := 80) (mi2 := m_M_venture) (k := 36) (i := 0) (ci := 12) (av := [.inl (xs (8 * n + 1)), .inl (xs (8 * n + 2)), .inl (xs (8 * n + 3)), .inl (xs (8 * n + 4))]) (c' := 0) (z' := 0) (rest := [.int v]) e36 ⟨hx, hb, hml, hown, hts⟩ hl.1 hfr hB (by decide +kernel) (xmok_all (by decide)) (by decide) (xwd_mem (i := 1199) (by decide +kernel)) rfl ⟨_, _, rfl⟩ (by decide +kernel : (parseMethodDescriptor (mt m_M_venture).1.desc).map (fun d => d.parameters.length) = some 4) (Nat.le_of_ble_eq_true rfl) (show 0 < xcn L1 36 by unfold xcn; rw [e99]; decide) (fun v hv => by simp at hv; rcases hv with rfl | rfl | rfl | rfl <;> trivial) hW hS ⟨by omega, by omega⟩ hq (fun r S2 L2 H locs hq hL2 hW hS => ?_)
  obtain ⟨rfl, hI⟩ := hq
  have e00 := (hL2 0 0 (by decide)).trans e00
  have e36 := (hL2 36 0 (by decide)).trans e36
  have e99 := (hL2 99 0 (by decide)).trans e99
  refine lv_icmp_eq (off := 553) (tgt := 1344) hx hb (by decide +kernel) rfl (fun _ => ?_) (fun q => absurd rfl q)
  refine W.widen (k := cells + 1) (n := slots + 160) (by omega) (by omega) ?_
  exact kk S2 L2 H locs hI e00 e36 e99 hW hS
set_option maxRecDepth 10000 in
theorem lc_16 (hx : p.tables.exec = Jvm.exec) (hb : c.code = code) (hml : c.maxLocals = 4) (hown : s.vm.findClass "MonsoonTradeLaw" = some m.cls) (hts : ∀ w ∈ xT, w.before args s = true) (hX : va_X b Lw xs s s.heap) (hbl : b < B) (hB : B ≤ s.heap.size) (hfr : 60 + 1 ≤ R.frames ∧ 40 * (60 + 1) ≤ R.locals) (hn : n ≤ 600) (h8 : 8 * n + 8 ≤ Lw) (hL : Lw ≤ 4096) (hc : cells + 1 ≤ R.cells) (hz : slots + 160 ≤ R.slots) (e00 : L 0 0 = x0) (e36 : L 36 0 = y0) (e99 : L 99 0 = 1) (hI : INV n S) (hW : xW s D B L S H) (hS : va_S (xA B) s.heap H locs) (hl : lv_has ls 4 [(3, .int (nI (8 * n))), (0, .ref b), (1, .ref x0), (2, .ref y0)])
    (kk : ∀ (S : xS) (L : xL) (H : Heap) (locs : List Loc), INV (n + 1) S → L 0 0 = x0 → L 36 0 = y0 → L 99 0 = 1 → xW s D B L S H → va_S (xA B) s.heap H locs → W p l e R s m args below meth c H locs (cells + 1) (slots + 160) Q (F0 m 1344 ls [])) : W p l e R s m args below meth c H locs cells slots Q (F0 m 796 ls []) := by
  refine lv_aload_n (k := 1) (i := 1) hx hb (by decide +kernel) rfl (lv_at hl 2 rfl) ?_
  refine lw_argC (k := 1) (kz := 1) (kv := 1) hx hb hX hbl hB hS hl (by decide) (by omega) hL (by decide +kernel) (by decide +kernel) (by decide +kernel) rfl (by decide +kernel) (by decide +kernel) ?_
  refine lw_argC (k := 2) (kz := 2) (kv := 2) hx hb hX hbl hB hS hl (by decide) (by omega) hL (by decide +kernel) (by decide +kernel) (by decide +kernel) rfl (by decide +kernel) (by decide +kernel) ?_
  refine rawVa (d := 60) (idx := 81) (mi2 := m_C_ventureTold) (k := 0) (i := 0) (ci := 11) (av := [.inl (xs (8 * n + 1)), .inl (xs (8 * n + 2))]) (c' := 0) (z' := 0) (rest := []) e00 ⟨hx, hb, hml, hown, hts⟩ hl.1 hfr hB (by decide +kernel) (xmok_all (by decide)) (by decide) (xwd_mem (i := 885) (by decide +kernel)) rfl ⟨_, _, rfl⟩ (by decide +kernel : (parseMethodDescriptor (mt m_C_ventureTold).1.desc).map (fun d => d.parameters.length) = some 2) (Nat.zero_le _) (show 0 < xcn L 0 from (show 0 < 1 from Nat.one_pos)) (fun v hv => by simp at hv; rcases hv with rfl | rfl <;> trivial) hW hS ⟨by omega, by omega⟩ (iv_ventureTold hn hI) (fun r S1 L1 H locs hq hL1 hW hS => ?_)
  obtain ⟨v, rfl, hq⟩ := hq.out
  have e00 := (hL1 0 0 (by decide)).trans e00
  have e36 := (hL1 36 0 (by decide)).trans e36
  have e99 := (hL1 99 0 (by decide)).trans e99
  refine lv_aload_n (k := 2) (i := 2) hx hb (by decide +kernel) rfl (lv_at hl 3 rfl) ?_
  refine lw_argC (k := 1) (kz := 1) (kv := 1) hx hb hX hbl hB hS hl (by decide) (by omega) hL (by decide +kernel) (by decide +kernel) (by decide +kernel) rfl (by decide +kernel) (by decide +kernel) ?_
  refine lw_argC (k := 2) (kz := 2) (kv := 2) hx hb hX hbl hB hS hl (by decide) (by omega) hL (by decide +kernel) (by decide +kernel) (by decide +kernel) rfl (by decide +kernel) (by decide +kernel) ?_
  refine rawVa (d := 60) (idx := 84) (mi2 := m_M_ventureTold) (k := 36) (i := 0) (ci := 12) (av := [.inl (xs (8 * n + 1)), .inl (xs (8 * n + 2))]) (c' := 0) (z' := 0) (rest := [.int v]) e36 ⟨hx, hb, hml, hown, hts⟩ hl.1 hfr hB (by decide +kernel) (xmok_all (by decide)) (by decide) (xwd_mem (i := 1204) (by decide +kernel)) rfl ⟨_, _, rfl⟩ (by decide +kernel : (parseMethodDescriptor (mt m_M_ventureTold).1.desc).map (fun d => d.parameters.length) = some 2) (Nat.le_of_ble_eq_true rfl) (show 0 < xcn L1 36 by unfold xcn; rw [e99]; decide) (fun v hv => by simp at hv; rcases hv with rfl | rfl <;> trivial) hW hS ⟨by omega, by omega⟩ hq (fun r S2 L2 H locs hq hL2 hW hS => ?_)
  obtain ⟨rfl, hI⟩ := hq
  have e00 := (hL2 0 0 (by decide)).trans e00
  have e36 := (hL2 36 0 (by decide)).trans e36
  have e99 := (hL2 99 0 (by decide)).trans e99
  refine lv_icmp_eq (off := 520) (tgt := 1344) hx hb (by decide +kernel) rfl (fun _ => ?_) (fun q => absurd rfl q)
  refine W.widen (k := cells + 1) (n := slots + 160) (by omega) (by omega) ?_
  exact kk S2 L2 H locs hI e00 e36 e99 hW hS
set_option maxRecDepth 10000 in
theorem lc_17 (hx : p.tables.exec = Jvm.exec) (hb : c.code = code) (hml : c.maxLocals = 4) (hown : s.vm.findClass "MonsoonTradeLaw" = some m.cls) (hts : ∀ w ∈ xT, w.before args s = true) (hX : va_X b Lw xs s s.heap) (hbl : b < B) (hB : B ≤ s.heap.size) (hfr : 60 + 1 ≤ R.frames ∧ 40 * (60 + 1) ≤ R.locals) (hn : n ≤ 600) (h8 : 8 * n + 8 ≤ Lw) (hL : Lw ≤ 4096) (hc : cells + 1 ≤ R.cells) (hz : slots + 160 ≤ R.slots) (e00 : L 0 0 = x0) (e36 : L 36 0 = y0) (e99 : L 99 0 = 1) (hI : INV n S) (hW : xW s D B L S H) (hS : va_S (xA B) s.heap H locs) (hl : lv_has ls 4 [(3, .int (nI (8 * n))), (0, .ref b), (1, .ref x0), (2, .ref y0)])
    (kk : ∀ (S : xS) (L : xL) (H : Heap) (locs : List Loc), INV (n + 1) S → L 0 0 = x0 → L 36 0 = y0 → L 99 0 = 1 → xW s D B L S H → va_S (xA B) s.heap H locs → W p l e R s m args below meth c H locs (cells + 1) (slots + 160) Q (F0 m 1344 ls [])) : W p l e R s m args below meth c H locs cells slots Q (F0 m 829 ls []) := by
  refine lv_aload_n (k := 1) (i := 1) hx hb (by decide +kernel) rfl (lv_at hl 2 rfl) ?_
  refine lw_argC (k := 1) (kz := 1) (kv := 1) hx hb hX hbl hB hS hl (by decide) (by omega) hL (by decide +kernel) (by decide +kernel) (by decide +kernel) rfl (by decide +kernel) (by decide +kernel) ?_
  refine lw_argC (k := 2) (kz := 2) (kv := 2) hx hb hX hbl hB hS hl (by decide) (by omega) hL (by decide +kernel) (by decide +kernel) (by decide +kernel) rfl (by decide +kernel) (by decide +kernel) ?_
  refine rawVa (d := 60) (idx := 85) (mi2 := m_C_on) (k := 0) (i := 0) (ci := 11) (av := [.inl (xs (8 * n + 1)), .inl (xs (8 * n + 2))]) (c' := 0) (z' := 0) (rest := []) e00 ⟨hx, hb, hml, hown, hts⟩ hl.1 hfr hB (by decide +kernel) (xmok_all (by decide)) (by decide) (xwd_mem (i := 893) (by decide +kernel)) rfl ⟨_, _, rfl⟩ (by decide +kernel : (parseMethodDescriptor (mt m_C_on).1.desc).map (fun d => d.parameters.length) = some 2) (Nat.zero_le _) (show 0 < xcn L 0 from (show 0 < 1 from Nat.one_pos)) (fun v hv => by simp at hv; rcases hv with rfl | rfl <;> trivial) hW hS ⟨by omega, by omega⟩ (iv_on hn hI) (fun r S1 L1 H locs hq hL1 hW hS => ?_)
  obtain ⟨v, rfl, hq⟩ := hq.out
  have e00 := (hL1 0 0 (by decide)).trans e00
  have e36 := (hL1 36 0 (by decide)).trans e36
  have e99 := (hL1 99 0 (by decide)).trans e99
  refine lv_aload_n (k := 2) (i := 2) hx hb (by decide +kernel) rfl (lv_at hl 3 rfl) ?_
  refine lw_argC (k := 1) (kz := 1) (kv := 1) hx hb hX hbl hB hS hl (by decide) (by omega) hL (by decide +kernel) (by decide +kernel) (by decide +kernel) rfl (by decide +kernel) (by decide +kernel) ?_
  refine lw_argC (k := 2) (kz := 2) (kv := 2) hx hb hX hbl hB hS hl (by decide) (by omega) hL (by decide +kernel) (by decide +kernel) (by decide +kernel) rfl (by decide +kernel) (by decide +kernel) ?_
  refine rawVa (d := 60) (idx := 88) (mi2 := m_M_on) (k := 36) (i := 0) (ci := 12) (av := [.inl (xs (8 * n + 1)), .inl (xs (8 * n + 2))]) (c' := 0) (z' := 0) (rest := [.int v]) e36 ⟨hx, hb, hml, hown, hts⟩ hl.1 hfr hB (by decide +kernel) (xmok_all (by decide)) (by decide) (xwd_mem (i := 1212) (by decide +kernel)) rfl ⟨_, _, rfl⟩ (by decide +kernel : (parseMethodDescriptor (mt m_M_on).1.desc).map (fun d => d.parameters.length) = some 2) (Nat.le_of_ble_eq_true rfl) (show 0 < xcn L1 36 by unfold xcn; rw [e99]; decide) (fun v hv => by simp at hv; rcases hv with rfl | rfl <;> trivial) hW hS ⟨by omega, by omega⟩ hq (fun r S2 L2 H locs hq hL2 hW hS => ?_)
  obtain ⟨rfl, hI⟩ := hq
  have e00 := (hL2 0 0 (by decide)).trans e00
  have e36 := (hL2 36 0 (by decide)).trans e36
  have e99 := (hL2 99 0 (by decide)).trans e99
  refine lv_icmp_eq (off := 487) (tgt := 1344) hx hb (by decide +kernel) rfl (fun _ => ?_) (fun q => absurd rfl q)
  refine W.widen (k := cells + 1) (n := slots + 160) (by omega) (by omega) ?_
  exact kk S2 L2 H locs hI e00 e36 e99 hW hS
set_option maxRecDepth 10000 in
theorem lc_18 (hx : p.tables.exec = Jvm.exec) (hb : c.code = code) (hml : c.maxLocals = 4) (hown : s.vm.findClass "MonsoonTradeLaw" = some m.cls) (hts : ∀ w ∈ xT, w.before args s = true) (hX : va_X b Lw xs s s.heap) (hbl : b < B) (hB : B ≤ s.heap.size) (hfr : 60 + 1 ≤ R.frames ∧ 40 * (60 + 1) ≤ R.locals) (hn : n ≤ 600) (h8 : 8 * n + 8 ≤ Lw) (hL : Lw ≤ 4096) (hc : cells + 1 ≤ R.cells) (hz : slots + 160 ≤ R.slots) (e00 : L 0 0 = x0) (e36 : L 36 0 = y0) (e99 : L 99 0 = 1) (hI : INV n S) (hW : xW s D B L S H) (hS : va_S (xA B) s.heap H locs) (hl : lv_has ls 4 [(3, .int (nI (8 * n))), (0, .ref b), (1, .ref x0), (2, .ref y0)])
    (kk : ∀ (S : xS) (L : xL) (H : Heap) (locs : List Loc), INV (n + 1) S → L 0 0 = x0 → L 36 0 = y0 → L 99 0 = 1 → xW s D B L S H → va_S (xA B) s.heap H locs → W p l e R s m args below meth c H locs (cells + 1) (slots + 160) Q (F0 m 1344 ls [])) : W p l e R s m args below meth c H locs cells slots Q (F0 m 862 ls []) := by
  refine lv_aload_n (k := 1) (i := 1) hx hb (by decide +kernel) rfl (lv_at hl 2 rfl) ?_
  refine lw_argC (k := 1) (kz := 1) (kv := 1) hx hb hX hbl hB hS hl (by decide) (by omega) hL (by decide +kernel) (by decide +kernel) (by decide +kernel) rfl (by decide +kernel) (by decide +kernel) ?_
  refine rawVa (d := 60) (idx := 89) (mi2 := m_C_begin) (k := 0) (i := 0) (ci := 11) (av := [.inl (xs (8 * n + 1))]) (c' := 0) (z' := 0) (rest := []) e00 ⟨hx, hb, hml, hown, hts⟩ hl.1 hfr hB (by decide +kernel) (xmok_all (by decide)) (by decide) (xwd_mem (i := 901) (by decide +kernel)) rfl ⟨_, _, rfl⟩ (by decide +kernel : (parseMethodDescriptor (mt m_C_begin).1.desc).map (fun d => d.parameters.length) = some 1) (Nat.zero_le _) (show 0 < xcn L 0 from (show 0 < 1 from Nat.one_pos)) (fun v hv => by simp at hv; subst hv; trivial) hW hS ⟨by omega, by omega⟩ (iv_begin hn hI) (fun r S1 L1 H locs hq hL1 hW hS => ?_)
  obtain ⟨v, rfl, hq⟩ := hq.out
  have e00 := (hL1 0 0 (by decide)).trans e00
  have e36 := (hL1 36 0 (by decide)).trans e36
  have e99 := (hL1 99 0 (by decide)).trans e99
  refine lv_aload_n (k := 2) (i := 2) hx hb (by decide +kernel) rfl (lv_at hl 3 rfl) ?_
  refine lw_argC (k := 1) (kz := 1) (kv := 1) hx hb hX hbl hB hS hl (by decide) (by omega) hL (by decide +kernel) (by decide +kernel) (by decide +kernel) rfl (by decide +kernel) (by decide +kernel) ?_
  refine rawVa (d := 60) (idx := 92) (mi2 := m_M_begin) (k := 36) (i := 0) (ci := 12) (av := [.inl (xs (8 * n + 1))]) (c' := 0) (z' := 0) (rest := [.int v]) e36 ⟨hx, hb, hml, hown, hts⟩ hl.1 hfr hB (by decide +kernel) (xmok_all (by decide)) (by decide) (xwd_mem (i := 1216) (by decide +kernel)) rfl ⟨_, _, rfl⟩ (by decide +kernel : (parseMethodDescriptor (mt m_M_begin).1.desc).map (fun d => d.parameters.length) = some 1) (Nat.le_of_ble_eq_true rfl) (show 0 < xcn L1 36 by unfold xcn; rw [e99]; decide) (fun v hv => by simp at hv; subst hv; trivial) hW hS ⟨by omega, by omega⟩ hq (fun r S2 L2 H locs hq hL2 hW hS => ?_)
  obtain ⟨rfl, hI⟩ := hq
  have e00 := (hL2 0 0 (by decide)).trans e00
  have e36 := (hL2 36 0 (by decide)).trans e36
  have e99 := (hL2 99 0 (by decide)).trans e99
  refine lv_icmp_eq (off := 464) (tgt := 1344) hx hb (by decide +kernel) rfl (fun _ => ?_) (fun q => absurd rfl q)
  refine W.widen (k := cells + 1) (n := slots + 160) (by omega) (by omega) ?_
  exact kk S2 L2 H locs hI e00 e36 e99 hW hS
set_option maxRecDepth 10000 in
theorem lc_19 (hx : p.tables.exec = Jvm.exec) (hb : c.code = code) (hml : c.maxLocals = 4) (hown : s.vm.findClass "MonsoonTradeLaw" = some m.cls) (hts : ∀ w ∈ xT, w.before args s = true) (hX : va_X b Lw xs s s.heap) (hbl : b < B) (hB : B ≤ s.heap.size) (hfr : 60 + 1 ≤ R.frames ∧ 40 * (60 + 1) ≤ R.locals) (hn : n ≤ 600) (h8 : 8 * n + 8 ≤ Lw) (hL : Lw ≤ 4096) (hc : cells + 1 ≤ R.cells) (hz : slots + 160 ≤ R.slots) (e00 : L 0 0 = x0) (e36 : L 36 0 = y0) (e99 : L 99 0 = 1) (hI : INV n S) (hW : xW s D B L S H) (hS : va_S (xA B) s.heap H locs) (hl : lv_has ls 4 [(3, .int (nI (8 * n))), (0, .ref b), (1, .ref x0), (2, .ref y0)])
    (kk : ∀ (S : xS) (L : xL) (H : Heap) (locs : List Loc), INV (n + 1) S → L 0 0 = x0 → L 36 0 = y0 → L 99 0 = 1 → xW s D B L S H → va_S (xA B) s.heap H locs → W p l e R s m args below meth c H locs (cells + 1) (slots + 160) Q (F0 m 1344 ls [])) : W p l e R s m args below meth c H locs cells slots Q (F0 m 885 ls []) := by
  refine lv_aload_n (k := 1) (i := 1) hx hb (by decide +kernel) rfl (lv_at hl 2 rfl) ?_
  refine lw_argC (k := 1) (kz := 1) (kv := 1) hx hb hX hbl hB hS hl (by decide) (by omega) hL (by decide +kernel) (by decide +kernel) (by decide +kernel) rfl (by decide +kernel) (by decide +kernel) ?_
  refine rawVa (d := 60) (idx := 93) (mi2 := m_C_end) (k := 0) (i := 0) (ci := 11) (av := [.inl (xs (8 * n + 1))]) (c' := 0) (z' := 0) (rest := []) e00 ⟨hx, hb, hml, hown, hts⟩ hl.1 hfr hB (by decide +kernel) (xmok_all (by decide)) (by decide) (xwd_mem (i := 905) (by decide +kernel)) rfl ⟨_, _, rfl⟩ (by decide +kernel : (parseMethodDescriptor (mt m_C_end).1.desc).map (fun d => d.parameters.length) = some 1) (Nat.zero_le _) (show 0 < xcn L 0 from (show 0 < 1 from Nat.one_pos)) (fun v hv => by simp at hv; subst hv; trivial) hW hS ⟨by omega, by omega⟩ (iv_end hn hI) (fun r S1 L1 H locs hq hL1 hW hS => ?_)
  obtain ⟨v, rfl, hq⟩ := hq.out
  have e00 := (hL1 0 0 (by decide)).trans e00
  have e36 := (hL1 36 0 (by decide)).trans e36
  have e99 := (hL1 99 0 (by decide)).trans e99
  refine lv_aload_n (k := 2) (i := 2) hx hb (by decide +kernel) rfl (lv_at hl 3 rfl) ?_
  refine lw_argC (k := 1) (kz := 1) (kv := 1) hx hb hX hbl hB hS hl (by decide) (by omega) hL (by decide +kernel) (by decide +kernel) (by decide +kernel) rfl (by decide +kernel) (by decide +kernel) ?_
  refine rawVa (d := 60) (idx := 96) (mi2 := m_M_end) (k := 36) (i := 0) (ci := 12) (av := [.inl (xs (8 * n + 1))]) (c' := 0) (z' := 0) (rest := [.int v]) e36 ⟨hx, hb, hml, hown, hts⟩ hl.1 hfr hB (by decide +kernel) (xmok_all (by decide)) (by decide) (xwd_mem (i := 1220) (by decide +kernel)) rfl ⟨_, _, rfl⟩ (by decide +kernel : (parseMethodDescriptor (mt m_M_end).1.desc).map (fun d => d.parameters.length) = some 1) (Nat.le_of_ble_eq_true rfl) (show 0 < xcn L1 36 by unfold xcn; rw [e99]; decide) (fun v hv => by simp at hv; subst hv; trivial) hW hS ⟨by omega, by omega⟩ hq (fun r S2 L2 H locs hq hL2 hW hS => ?_)
  obtain ⟨rfl, hI⟩ := hq
  have e00 := (hL2 0 0 (by decide)).trans e00
  have e36 := (hL2 36 0 (by decide)).trans e36
  have e99 := (hL2 99 0 (by decide)).trans e99
  refine lv_icmp_eq (off := 441) (tgt := 1344) hx hb (by decide +kernel) rfl (fun _ => ?_) (fun q => absurd rfl q)
  refine W.widen (k := cells + 1) (n := slots + 160) (by omega) (by omega) ?_
  exact kk S2 L2 H locs hI e00 e36 e99 hW hS
set_option maxRecDepth 10000 in
theorem lc_21 (hx : p.tables.exec = Jvm.exec) (hb : c.code = code) (hml : c.maxLocals = 4) (hown : s.vm.findClass "MonsoonTradeLaw" = some m.cls) (hts : ∀ w ∈ xT, w.before args s = true) (hX : va_X b Lw xs s s.heap) (hbl : b < B) (hB : B ≤ s.heap.size) (hfr : 60 + 1 ≤ R.frames ∧ 40 * (60 + 1) ≤ R.locals) (hn : n ≤ 600) (h8 : 8 * n + 8 ≤ Lw) (hL : Lw ≤ 4096) (hc : cells + 1 ≤ R.cells) (hz : slots + 160 ≤ R.slots) (e00 : L 0 0 = x0) (e36 : L 36 0 = y0) (e99 : L 99 0 = 1) (hI : INV n S) (hW : xW s D B L S H) (hS : va_S (xA B) s.heap H locs) (hl : lv_has ls 4 [(3, .int (nI (8 * n))), (0, .ref b), (1, .ref x0), (2, .ref y0)])
    (kk : ∀ (S : xS) (L : xL) (H : Heap) (locs : List Loc), INV (n + 1) S → L 0 0 = x0 → L 36 0 = y0 → L 99 0 = 1 → xW s D B L S H → va_S (xA B) s.heap H locs → W p l e R s m args below meth c H locs (cells + 1) (slots + 160) Q (F0 m 1344 ls [])) : W p l e R s m args below meth c H locs cells slots Q (F0 m 971 ls []) := by
  refine lv_aload_n (k := 1) (i := 1) hx hb (by decide +kernel) rfl (lv_at hl 2 rfl) ?_
  refine rawVa (d := 60) (idx := 104) (mi2 := m_C_text) (k := 0) (i := 0) (ci := 11) (av := []) (c' := 1) (z' := 160) (rest := []) e00 ⟨hx, hb, hml, hown, hts⟩ hl.1 hfr hB (by decide +kernel) (xmok_all (by decide)) (by decide) (xwd_mem (i := 972) (by decide +kernel)) rfl ⟨_, _, rfl⟩ (by decide +kernel : (parseMethodDescriptor (mt m_C_text).1.desc).map (fun d => d.parameters.length) = some 0) (Nat.zero_le _) (show 0 < xcn L 0 from (show 0 < 1 from Nat.one_pos)) (fun v hv => by cases hv) hW hS ⟨by omega, by omega⟩ (iv_text hn hI) (fun r S1 L1 H locs hq hL1 hW hS => ?_)
  obtain ⟨v, rfl, hq⟩ := hq.out
  have e00 := (hL1 0 0 (by decide)).trans e00
  have e36 := (hL1 36 0 (by decide)).trans e36
  have e99 := (hL1 99 0 (by decide)).trans e99
  refine lv_aload_n (k := 2) (i := 2) hx hb (by decide +kernel) rfl (lv_at hl 3 rfl) ?_
  refine rawVa (d := 60) (idx := 108) (mi2 := m_M_text) (k := 36) (i := 0) (ci := 12) (av := []) (c' := 0) (z' := 0) (rest := [.int v]) e36 ⟨hx, hb, hml, hown, hts⟩ hl.1 hfr hB (by decide +kernel) (xmok_all (by decide)) (by decide) (xwd_mem (i := 1449) (by decide +kernel)) rfl ⟨_, _, rfl⟩ (by decide +kernel : (parseMethodDescriptor (mt m_M_text).1.desc).map (fun d => d.parameters.length) = some 0) (Nat.le_of_ble_eq_true rfl) (show 0 < xcn L1 36 by unfold xcn; rw [e99]; decide) (fun v hv => by cases hv) hW hS ⟨by omega, by omega⟩ hq (fun r S2 L2 H locs hq hL2 hW hS => ?_)
  obtain ⟨rfl, hI⟩ := hq
  have e00 := (hL2 0 0 (by decide)).trans e00
  have e36 := (hL2 36 0 (by decide)).trans e36
  have e99 := (hL2 99 0 (by decide)).trans e99
  refine lv_icmp_eq (off := 365) (tgt := 1344) hx hb (by decide +kernel) rfl (fun _ => ?_) (fun q => absurd rfl q)
  refine W.widen (k := cells + 1) (n := slots + 160) (by omega) (by omega) ?_
  exact kk S2 L2 H locs hI e00 e36 e99 hW hS
set_option maxRecDepth 10000 in
theorem lc_22 (hx : p.tables.exec = Jvm.exec) (hb : c.code = code) (hml : c.maxLocals = 4) (hown : s.vm.findClass "MonsoonTradeLaw" = some m.cls) (hts : ∀ w ∈ xT, w.before args s = true) (hX : va_X b Lw xs s s.heap) (hbl : b < B) (hB : B ≤ s.heap.size) (hfr : 60 + 1 ≤ R.frames ∧ 40 * (60 + 1) ≤ R.locals) (hn : n ≤ 600) (h8 : 8 * n + 8 ≤ Lw) (hL : Lw ≤ 4096) (hc : cells + 1 ≤ R.cells) (hz : slots + 160 ≤ R.slots) (e00 : L 0 0 = x0) (e36 : L 36 0 = y0) (e99 : L 99 0 = 1) (hI : INV n S) (hW : xW s D B L S H) (hS : va_S (xA B) s.heap H locs) (hl : lv_has ls 4 [(3, .int (nI (8 * n))), (0, .ref b), (1, .ref x0), (2, .ref y0)])
    (kk : ∀ (S : xS) (L : xL) (H : Heap) (locs : List Loc), INV (n + 1) S → L 0 0 = x0 → L 36 0 = y0 → L 99 0 = 1 → xW s D B L S H → va_S (xA B) s.heap H locs → W p l e R s m args below meth c H locs (cells + 1) (slots + 160) Q (F0 m 1344 ls [])) : W p l e R s m args below meth c H locs cells slots Q (F0 m 984 ls []) := by
  refine lv_aload_n (k := 1) (i := 1) hx hb (by decide +kernel) rfl (lv_at hl 2 rfl) ?_
  refine lw_argC (k := 1) (kz := 1) (kv := 1) hx hb hX hbl hB hS hl (by decide) (by omega) hL (by decide +kernel) (by decide +kernel) (by decide +kernel) rfl (by decide +kernel) (by decide +kernel) ?_
  refine rawVa (d := 60) (idx := 109) (mi2 := m_C_force) (k := 0) (i := 0) (ci := 11) (av := [.inl (xs (8 * n + 1))]) (c' := 0) (z' := 0) (rest := []) e00 ⟨hx, hb, hml, hown, hts⟩ hl.1 hfr hB (by decide +kernel) (xmok_all (by decide)) (by decide) (xwd_mem (i := 976) (by decide +kernel)) rfl ⟨_, _, rfl⟩ (by decide +kernel : (parseMethodDescriptor (mt m_C_force).1.desc).map (fun d => d.parameters.length) = some 1) (Nat.zero_le _) (show 0 < xcn L 0 from (show 0 < 1 from Nat.one_pos)) (fun v hv => by simp at hv; subst hv; trivial) hW hS ⟨by omega, by omega⟩ (iv_force hn hI) (fun r S1 L1 H locs hq hL1 hW hS => ?_)
  obtain ⟨v, rfl, hq⟩ := hq.out
  have e00 := (hL1 0 0 (by decide)).trans e00
  have e36 := (hL1 36 0 (by decide)).trans e36
  have e99 := (hL1 99 0 (by decide)).trans e99
  refine lv_aload_n (k := 2) (i := 2) hx hb (by decide +kernel) rfl (lv_at hl 3 rfl) ?_
  refine lw_argC (k := 1) (kz := 1) (kv := 1) hx hb hX hbl hB hS hl (by decide) (by omega) hL (by decide +kernel) (by decide +kernel) (by decide +kernel) rfl (by decide +kernel) (by decide +kernel) ?_
  refine rawVa (d := 60) (idx := 112) (mi2 := m_M_force) (k := 36) (i := 0) (ci := 12) (av := [.inl (xs (8 * n + 1))]) (c' := 0) (z' := 0) (rest := [.int v]) e36 ⟨hx, hb, hml, hown, hts⟩ hl.1 hfr hB (by decide +kernel) (xmok_all (by decide)) (by decide) (xwd_mem (i := 1501) (by decide +kernel)) rfl ⟨_, _, rfl⟩ (by decide +kernel : (parseMethodDescriptor (mt m_M_force).1.desc).map (fun d => d.parameters.length) = some 1) (Nat.le_of_ble_eq_true rfl) (show 0 < xcn L1 36 by unfold xcn; rw [e99]; decide) (fun v hv => by simp at hv; subst hv; trivial) hW hS ⟨by omega, by omega⟩ hq (fun r S2 L2 H locs hq hL2 hW hS => ?_)
  obtain ⟨rfl, hI⟩ := hq
  have e00 := (hL2 0 0 (by decide)).trans e00
  have e36 := (hL2 36 0 (by decide)).trans e36
  have e99 := (hL2 99 0 (by decide)).trans e99
  refine lv_icmp_eq (off := 342) (tgt := 1344) hx hb (by decide +kernel) rfl (fun _ => ?_) (fun q => absurd rfl q)
  refine W.widen (k := cells + 1) (n := slots + 160) (by omega) (by omega) ?_
  exact kk S2 L2 H locs hI e00 e36 e99 hW hS
set_option maxRecDepth 10000 in
theorem lc_23 (hx : p.tables.exec = Jvm.exec) (hb : c.code = code) (hml : c.maxLocals = 4) (hown : s.vm.findClass "MonsoonTradeLaw" = some m.cls) (hts : ∀ w ∈ xT, w.before args s = true) (hX : va_X b Lw xs s s.heap) (hbl : b < B) (hB : B ≤ s.heap.size) (hfr : 60 + 1 ≤ R.frames ∧ 40 * (60 + 1) ≤ R.locals) (hn : n ≤ 600) (h8 : 8 * n + 8 ≤ Lw) (hL : Lw ≤ 4096) (hc : cells + 1 ≤ R.cells) (hz : slots + 160 ≤ R.slots) (e00 : L 0 0 = x0) (e36 : L 36 0 = y0) (e99 : L 99 0 = 1) (hI : INV n S) (hW : xW s D B L S H) (hS : va_S (xA B) s.heap H locs) (hl : lv_has ls 4 [(3, .int (nI (8 * n))), (0, .ref b), (1, .ref x0), (2, .ref y0)])
    (kk : ∀ (S : xS) (L : xL) (H : Heap) (locs : List Loc), INV (n + 1) S → L 0 0 = x0 → L 36 0 = y0 → L 99 0 = 1 → xW s D B L S H → va_S (xA B) s.heap H locs → W p l e R s m args below meth c H locs (cells + 1) (slots + 160) Q (F0 m 1344 ls [])) : W p l e R s m args below meth c H locs cells slots Q (F0 m 1007 ls []) := by
  refine lv_aload_n (k := 1) (i := 1) hx hb (by decide +kernel) rfl (lv_at hl 2 rfl) ?_
  refine lw_argC (k := 1) (kz := 1) (kv := 1) hx hb hX hbl hB hS hl (by decide) (by omega) hL (by decide +kernel) (by decide +kernel) (by decide +kernel) rfl (by decide +kernel) (by decide +kernel) ?_
  refine lw_argC (k := 2) (kz := 2) (kv := 2) hx hb hX hbl hB hS hl (by decide) (by omega) hL (by decide +kernel) (by decide +kernel) (by decide +kernel) rfl (by decide +kernel) (by decide +kernel) ?_
  refine lw_argC (k := 3) (kz := 3) (kv := 3) hx hb hX hbl hB hS hl (by decide) (by omega) hL (by decide +kernel) (by decide +kernel) (by decide +kernel) rfl (by decide +kernel) (by decide +kernel) ?_
  refine lw_argC (k := 4) (kz := 4) (kv := 4) hx hb hX hbl hB hS hl (by decide) (by omega) hL (by decide +kernel) (by decide +kernel) (by decide +kernel) rfl (by decide +kernel) (by decide +kernel) ?_
  refine lw_argC (k := 5) (kz := 5) (kv := 5) hx hb hX hbl hB hS hl (by decide) (by omega) hL (by decide +kernel) (by decide +kernel) (by decide +kernel) rfl (by decide +kernel) (by decide +kernel) ?_
  refine lw_argB (k := 6) (kz := 6) (kv := 6) hx hb hX hbl hB hS hl (by decide) (by omega) hL (by decide +kernel) (by decide +kernel) (by decide +kernel) rfl (by decide +kernel) (by decide +kernel) ?_
  refine lw_argB (k := 7) (kz := 7) (kv := 7) hx hb hX hbl hB hS hl (by decide) (by omega) hL (by decide +kernel) (by decide +kernel) (by decide +kernel) rfl (by decide +kernel) (by decide +kernel) ?_
  refine rawVa (d := 60) (idx := 113) (mi2 := m_C_says) (k := 0) (i := 0) (ci := 11) (av := [.inl (xs (8 * n + 1)), .inl (xs (8 * n + 2)), .inl (xs (8 * n + 3)), .inl (xs (8 * n + 4)), .inl (xs (8 * n + 5)), .inl (xs (8 * n + 6)), .inl (xs (8 * n + 7))]) (c' := 0) (z' := 0) (rest := []) e00 ⟨hx, hb, hml, hown, hts⟩ hl.1 hfr hB (by decide +kernel) (xmok_all (by decide)) (by decide) (xwd_mem (i := 984) (by decide +kernel)) rfl ⟨_, _, rfl⟩ (by decide +kernel : (parseMethodDescriptor (mt m_C_says).1.desc).map (fun d => d.parameters.length) = some 7) (Nat.zero_le _) (show 0 < xcn L 0 from (show 0 < 1 from Nat.one_pos)) (fun v hv => by simp at hv; rcases hv with rfl | rfl | rfl | rfl | rfl | rfl | rfl <;> trivial) hW hS ⟨by omega, by omega⟩ (iv_says hn hI) (fun r S1 L1 H locs hq hL1 hW hS => ?_)
  obtain ⟨v, rfl, hq⟩ := hq.out
  have e00 := (hL1 0 0 (by decide)).trans e00
  have e36 := (hL1 36 0 (by decide)).trans e36
  have e99 := (hL1 99 0 (by decide)).trans e99
  refine lv_aload_n (k := 2) (i := 2) hx hb (by decide +kernel) rfl (lv_at hl 3 rfl) ?_
  refine lw_argC (k := 1) (kz := 1) (kv := 1) hx hb hX hbl hB hS hl (by decide) (by omega) hL (by decide +kernel) (by decide +kernel) (by decide +kernel) rfl (by decide +kernel) (by decide +kernel) ?_
  refine lw_argC (k := 2) (kz := 2) (kv := 2) hx hb hX hbl hB hS hl (by decide) (by omega) hL (by decide +kernel) (by decide +kernel) (by decide +kernel) rfl (by decide +kernel) (by decide +kernel) ?_
  refine lw_argC (k := 3) (kz := 3) (kv := 3) hx hb hX hbl hB hS hl (by decide) (by omega) hL (by decide +kernel) (by decide +kernel) (by decide +kernel) rfl (by decide +kernel) (by decide +kernel) ?_
  refine lw_argC (k := 4) (kz := 4) (kv := 4) hx hb hX hbl hB hS hl (by decide) (by omega) hL (by decide +kernel) (by decide +kernel) (by decide +kernel) rfl (by decide +kernel) (by decide +kernel) ?_
  refine lw_argC (k := 5) (kz := 5) (kv := 5) hx hb hX hbl hB hS hl (by decide) (by omega) hL (by decide +kernel) (by decide +kernel) (by decide +kernel) rfl (by decide +kernel) (by decide +kernel) ?_
  refine lw_argB (k := 6) (kz := 6) (kv := 6) hx hb hX hbl hB hS hl (by decide) (by omega) hL (by decide +kernel) (by decide +kernel) (by decide +kernel) rfl (by decide +kernel) (by decide +kernel) ?_
  refine lw_argB (k := 7) (kz := 7) (kv := 7) hx hb hX hbl hB hS hl (by decide) (by omega) hL (by decide +kernel) (by decide +kernel) (by decide +kernel) rfl (by decide +kernel) (by decide +kernel) ?_
  refine rawVa (d := 60) (idx := 117) (mi2 := m_M_says) (k := 36) (i := 0) (ci := 12) (av := [.inl (xs (8 * n + 1)), .inl (xs (8 * n + 2)), .inl (xs (8 * n + 3)), .inl (xs (8 * n + 4)), .inl (xs (8 * n + 5)), .inl (xs (8 * n + 6)), .inl (xs (8 * n + 7))]) (c' := 0) (z' := 0) (rest := [.long v]) e36 ⟨hx, hb, hml, hown, hts⟩ hl.1 hfr hB (by decide +kernel) (xmok_all (by decide)) (by decide) (xwd_mem (i := 1505) (by decide +kernel)) rfl ⟨_, _, rfl⟩ (by decide +kernel : (parseMethodDescriptor (mt m_M_says).1.desc).map (fun d => d.parameters.length) = some 7) (Nat.le_of_ble_eq_true rfl) (show 0 < xcn L1 36 by unfold xcn; rw [e99]; decide) (fun v hv => by simp at hv; rcases hv with rfl | rfl | rfl | rfl | rfl | rfl | rfl <;> trivial) hW hS ⟨by omega, by omega⟩ hq (fun r S2 L2 H locs hq hL2 hW hS => ?_)
  obtain ⟨rfl, hI⟩ := hq
  have e00 := (hL2 0 0 (by decide)).trans e00
  have e36 := (hL2 36 0 (by decide)).trans e36
  have e99 := (hL2 99 0 (by decide)).trans e99
  refine W.lcmp hx hb (by decide +kernel) ?_
  rw [lg_cmp0]
  refine lv_if_eq (off := 254) (tgt := 1344) hx hb (by decide +kernel) rfl (fun _ => ?_) (fun q => absurd rfl q)
  refine W.widen (k := cells + 1) (n := slots + 160) (by omega) (by omega) ?_
  exact kk S2 L2 H locs hI e00 e36 e99 hW hS
set_option maxRecDepth 10000 in
theorem lc_24 (hx : p.tables.exec = Jvm.exec) (hb : c.code = code) (hml : c.maxLocals = 4) (hown : s.vm.findClass "MonsoonTradeLaw" = some m.cls) (hts : ∀ w ∈ xT, w.before args s = true) (hX : va_X b Lw xs s s.heap) (hbl : b < B) (hB : B ≤ s.heap.size) (hfr : 60 + 1 ≤ R.frames ∧ 40 * (60 + 1) ≤ R.locals) (hn : n ≤ 600) (h8 : 8 * n + 8 ≤ Lw) (hL : Lw ≤ 4096) (hc : cells + 1 ≤ R.cells) (hz : slots + 160 ≤ R.slots) (e00 : L 0 0 = x0) (e36 : L 36 0 = y0) (e99 : L 99 0 = 1) (hI : INV n S) (hW : xW s D B L S H) (hS : va_S (xA B) s.heap H locs) (hl : lv_has ls 4 [(3, .int (nI (8 * n))), (0, .ref b), (1, .ref x0), (2, .ref y0)])
    (kk : ∀ (S : xS) (L : xL) (H : Heap) (locs : List Loc), INV (n + 1) S → L 0 0 = x0 → L 36 0 = y0 → L 99 0 = 1 → xW s D B L S H → va_S (xA B) s.heap H locs → W p l e R s m args below meth c H locs (cells + 1) (slots + 160) Q (F0 m 1344 ls [])) : W p l e R s m args below meth c H locs cells slots Q (F0 m 1095 ls []) := by
  refine lv_aload_n (k := 1) (i := 1) hx hb (by decide +kernel) rfl (lv_at hl 2 rfl) ?_
  refine lw_argC (k := 1) (kz := 1) (kv := 1) hx hb hX hbl hB hS hl (by decide) (by omega) hL (by decide +kernel) (by decide +kernel) (by decide +kernel) rfl (by decide +kernel) (by decide +kernel) ?_
  refine lw_argC (k := 2) (kz := 2) (kv := 2) hx hb hX hbl hB hS hl (by decide) (by omega) hL (by decide +kernel) (by decide +kernel) (by decide +kernel) rfl (by decide +kernel) (by decide +kernel) ?_
  refine lw_argC (k := 3) (kz := 3) (kv := 3) hx hb hX hbl hB hS hl (by decide) (by omega) hL (by decide +kernel) (by decide +kernel) (by decide +kernel) rfl (by decide +kernel) (by decide +kernel) ?_
  refine lw_argC (k := 4) (kz := 4) (kv := 4) hx hb hX hbl hB hS hl (by decide) (by omega) hL (by decide +kernel) (by decide +kernel) (by decide +kernel) rfl (by decide +kernel) (by decide +kernel) ?_
  refine rawVa (d := 60) (idx := 118) (mi2 := m_C_order) (k := 0) (i := 0) (ci := 11) (av := [.inl (xs (8 * n + 1)), .inl (xs (8 * n + 2)), .inl (xs (8 * n + 3)), .inl (xs (8 * n + 4))]) (c' := 0) (z' := 0) (rest := []) e00 ⟨hx, hb, hml, hown, hts⟩ hl.1 hfr hB (by decide +kernel) (xmok_all (by decide)) (by decide) (xwd_mem (i := 991) (by decide +kernel)) rfl ⟨_, _, rfl⟩ (by decide +kernel : (parseMethodDescriptor (mt m_C_order).1.desc).map (fun d => d.parameters.length) = some 4) (Nat.zero_le _) (show 0 < xcn L 0 from (show 0 < 1 from Nat.one_pos)) (fun v hv => by simp at hv; rcases hv with rfl | rfl | rfl | rfl <;> trivial) hW hS ⟨by omega, by omega⟩ (iv_order hn hI) (fun r S1 L1 H locs hq hL1 hW hS => ?_)
  obtain ⟨v, rfl, hq⟩ := hq.out
  have e00 := (hL1 0 0 (by decide)).trans e00
  have e36 := (hL1 36 0 (by decide)).trans e36
  have e99 := (hL1 99 0 (by decide)).trans e99
  refine lv_aload_n (k := 2) (i := 2) hx hb (by decide +kernel) rfl (lv_at hl 3 rfl) ?_
  refine lw_argC (k := 1) (kz := 1) (kv := 1) hx hb hX hbl hB hS hl (by decide) (by omega) hL (by decide +kernel) (by decide +kernel) (by decide +kernel) rfl (by decide +kernel) (by decide +kernel) ?_
  refine lw_argC (k := 2) (kz := 2) (kv := 2) hx hb hX hbl hB hS hl (by decide) (by omega) hL (by decide +kernel) (by decide +kernel) (by decide +kernel) rfl (by decide +kernel) (by decide +kernel) ?_
  refine lw_argC (k := 3) (kz := 3) (kv := 3) hx hb hX hbl hB hS hl (by decide) (by omega) hL (by decide +kernel) (by decide +kernel) (by decide +kernel) rfl (by decide +kernel) (by decide +kernel) ?_
  refine lw_argC (k := 4) (kz := 4) (kv := 4) hx hb hX hbl hB hS hl (by decide) (by omega) hL (by decide +kernel) (by decide +kernel) (by decide +kernel) rfl (by decide +kernel) (by decide +kernel) ?_
  refine rawVa (d := 60) (idx := 122) (mi2 := m_M_order) (k := 36) (i := 0) (ci := 12) (av := [.inl (xs (8 * n + 1)), .inl (xs (8 * n + 2)), .inl (xs (8 * n + 3)), .inl (xs (8 * n + 4))]) (c' := 0) (z' := 0) (rest := [.long v]) e36 ⟨hx, hb, hml, hown, hts⟩ hl.1 hfr hB (by decide +kernel) (xmok_all (by decide)) (by decide) (xwd_mem (i := 1513) (by decide +kernel)) rfl ⟨_, _, rfl⟩ (by decide +kernel : (parseMethodDescriptor (mt m_M_order).1.desc).map (fun d => d.parameters.length) = some 4) (Nat.le_of_ble_eq_true rfl) (show 0 < xcn L1 36 by unfold xcn; rw [e99]; decide) (fun v hv => by simp at hv; rcases hv with rfl | rfl | rfl | rfl <;> trivial) hW hS ⟨by omega, by omega⟩ hq (fun r S2 L2 H locs hq hL2 hW hS => ?_)
  obtain ⟨rfl, hI⟩ := hq
  have e00 := (hL2 0 0 (by decide)).trans e00
  have e36 := (hL2 36 0 (by decide)).trans e36
  have e99 := (hL2 99 0 (by decide)).trans e99
  refine W.lcmp hx hb (by decide +kernel) ?_
  rw [lg_cmp0]
  refine lv_if_eq (off := 200) (tgt := 1344) hx hb (by decide +kernel) rfl (fun _ => ?_) (fun q => absurd rfl q)
  refine W.widen (k := cells + 1) (n := slots + 160) (by omega) (by omega) ?_
  exact kk S2 L2 H locs hI e00 e36 e99 hW hS
set_option maxRecDepth 10000 in
theorem lc_25 (hx : p.tables.exec = Jvm.exec) (hb : c.code = code) (hml : c.maxLocals = 4) (hown : s.vm.findClass "MonsoonTradeLaw" = some m.cls) (hts : ∀ w ∈ xT, w.before args s = true) (hX : va_X b Lw xs s s.heap) (hbl : b < B) (hB : B ≤ s.heap.size) (hfr : 60 + 1 ≤ R.frames ∧ 40 * (60 + 1) ≤ R.locals) (hn : n ≤ 600) (h8 : 8 * n + 8 ≤ Lw) (hL : Lw ≤ 4096) (hc : cells + 1 ≤ R.cells) (hz : slots + 160 ≤ R.slots) (e00 : L 0 0 = x0) (e36 : L 36 0 = y0) (e99 : L 99 0 = 1) (hI : INV n S) (hW : xW s D B L S H) (hS : va_S (xA B) s.heap H locs) (hl : lv_has ls 4 [(3, .int (nI (8 * n))), (0, .ref b), (1, .ref x0), (2, .ref y0)])
    (kk : ∀ (S : xS) (L : xL) (H : Heap) (locs : List Loc), INV (n + 1) S → L 0 0 = x0 → L 36 0 = y0 → L 99 0 = 1 → xW s D B L S H → va_S (xA B) s.heap H locs → W p l e R s m args below meth c H locs (cells + 1) (slots + 160) Q (F0 m 1344 ls [])) : W p l e R s m args below meth c H locs cells slots Q (F0 m 1149 ls []) := by
  refine lv_aload_n (k := 1) (i := 1) hx hb (by decide +kernel) rfl (lv_at hl 2 rfl) ?_
  refine lw_argC (k := 1) (kz := 1) (kv := 1) hx hb hX hbl hB hS hl (by decide) (by omega) hL (by decide +kernel) (by decide +kernel) (by decide +kernel) rfl (by decide +kernel) (by decide +kernel) ?_
  refine lw_argC (k := 2) (kz := 2) (kv := 2) hx hb hX hbl hB hS hl (by decide) (by omega) hL (by decide +kernel) (by decide +kernel) (by decide +kernel) rfl (by decide +kernel) (by decide +kernel) ?_
  refine lw_argC (k := 3) (kz := 3) (kv := 3) hx hb hX hbl hB hS hl (by decide) (by omega) hL (by decide +kernel) (by decide +kernel) (by decide +kernel) rfl (by decide +kernel) (by decide +kernel) ?_
  refine lw_argC (k := 4) (kz := 4) (kv := 4) hx hb hX hbl hB hS hl (by decide) (by omega) hL (by decide +kernel) (by decide +kernel) (by decide +kernel) rfl (by decide +kernel) (by decide +kernel) ?_
  refine rawVa (d := 60) (idx := 123) (mi2 := m_C_leg) (k := 0) (i := 0) (ci := 11) (av := [.inl (xs (8 * n + 1)), .inl (xs (8 * n + 2)), .inl (xs (8 * n + 3)), .inl (xs (8 * n + 4))]) (c' := 0) (z' := 0) (rest := []) e00 ⟨hx, hb, hml, hown, hts⟩ hl.1 hfr hB (by decide +kernel) (xmok_all (by decide)) (by decide) (xwd_mem (i := 1042) (by decide +kernel)) rfl ⟨_, _, rfl⟩ (by decide +kernel : (parseMethodDescriptor (mt m_C_leg).1.desc).map (fun d => d.parameters.length) = some 4) (Nat.zero_le _) (show 0 < xcn L 0 from (show 0 < 1 from Nat.one_pos)) (fun v hv => by simp at hv; rcases hv with rfl | rfl | rfl | rfl <;> trivial) hW hS ⟨by omega, by omega⟩ (iv_leg hn hI) (fun r S1 L1 H locs hq hL1 hW hS => ?_)
  obtain ⟨v, rfl, hq⟩ := hq.out
  have e00 := (hL1 0 0 (by decide)).trans e00
  have e36 := (hL1 36 0 (by decide)).trans e36
  have e99 := (hL1 99 0 (by decide)).trans e99
  refine lv_aload_n (k := 2) (i := 2) hx hb (by decide +kernel) rfl (lv_at hl 3 rfl) ?_
  refine lw_argC (k := 1) (kz := 1) (kv := 1) hx hb hX hbl hB hS hl (by decide) (by omega) hL (by decide +kernel) (by decide +kernel) (by decide +kernel) rfl (by decide +kernel) (by decide +kernel) ?_
  refine lw_argC (k := 2) (kz := 2) (kv := 2) hx hb hX hbl hB hS hl (by decide) (by omega) hL (by decide +kernel) (by decide +kernel) (by decide +kernel) rfl (by decide +kernel) (by decide +kernel) ?_
  refine lw_argC (k := 3) (kz := 3) (kv := 3) hx hb hX hbl hB hS hl (by decide) (by omega) hL (by decide +kernel) (by decide +kernel) (by decide +kernel) rfl (by decide +kernel) (by decide +kernel) ?_
  refine lw_argC (k := 4) (kz := 4) (kv := 4) hx hb hX hbl hB hS hl (by decide) (by omega) hL (by decide +kernel) (by decide +kernel) (by decide +kernel) rfl (by decide +kernel) (by decide +kernel) ?_
  refine rawVa (d := 60) (idx := 126) (mi2 := m_M_leg) (k := 36) (i := 0) (ci := 12) (av := [.inl (xs (8 * n + 1)), .inl (xs (8 * n + 2)), .inl (xs (8 * n + 3)), .inl (xs (8 * n + 4))]) (c' := 0) (z' := 0) (rest := [.int v]) e36 ⟨hx, hb, hml, hown, hts⟩ hl.1 hfr hB (by decide +kernel) (xmok_all (by decide)) (by decide) (xwd_mem (i := 1533) (by decide +kernel)) rfl ⟨_, _, rfl⟩ (by decide +kernel : (parseMethodDescriptor (mt m_M_leg).1.desc).map (fun d => d.parameters.length) = some 4) (Nat.le_of_ble_eq_true rfl) (show 0 < xcn L1 36 by unfold xcn; rw [e99]; decide) (fun v hv => by simp at hv; rcases hv with rfl | rfl | rfl | rfl <;> trivial) hW hS ⟨by omega, by omega⟩ hq (fun r S2 L2 H locs hq hL2 hW hS => ?_)
  obtain ⟨rfl, hI⟩ := hq
  have e00 := (hL2 0 0 (by decide)).trans e00
  have e36 := (hL2 36 0 (by decide)).trans e36
  have e99 := (hL2 99 0 (by decide)).trans e99
  refine lv_icmp_eq (off := 147) (tgt := 1344) hx hb (by decide +kernel) rfl (fun _ => ?_) (fun q => absurd rfl q)
  refine W.widen (k := cells + 1) (n := slots + 160) (by omega) (by omega) ?_
  exact kk S2 L2 H locs hI e00 e36 e99 hW hS
set_option maxRecDepth 10000 in
theorem lc_26 (hx : p.tables.exec = Jvm.exec) (hb : c.code = code) (hml : c.maxLocals = 4) (hown : s.vm.findClass "MonsoonTradeLaw" = some m.cls) (hts : ∀ w ∈ xT, w.before args s = true) (hX : va_X b Lw xs s s.heap) (hbl : b < B) (hB : B ≤ s.heap.size) (hfr : 60 + 1 ≤ R.frames ∧ 40 * (60 + 1) ≤ R.locals) (hn : n ≤ 600) (h8 : 8 * n + 8 ≤ Lw) (hL : Lw ≤ 4096) (hc : cells + 1 ≤ R.cells) (hz : slots + 160 ≤ R.slots) (e00 : L 0 0 = x0) (e36 : L 36 0 = y0) (e99 : L 99 0 = 1) (hI : INV n S) (hW : xW s D B L S H) (hS : va_S (xA B) s.heap H locs) (hl : lv_has ls 4 [(3, .int (nI (8 * n))), (0, .ref b), (1, .ref x0), (2, .ref y0)])
    (kk : ∀ (S : xS) (L : xL) (H : Heap) (locs : List Loc), INV (n + 1) S → L 0 0 = x0 → L 36 0 = y0 → L 99 0 = 1 → xW s D B L S H → va_S (xA B) s.heap H locs → W p l e R s m args below meth c H locs (cells + 1) (slots + 160) Q (F0 m 1344 ls [])) : W p l e R s m args below meth c H locs cells slots Q (F0 m 1202 ls []) := by
  refine lv_aload_n (k := 1) (i := 1) hx hb (by decide +kernel) rfl (lv_at hl 2 rfl) ?_
  refine lw_argC (k := 1) (kz := 1) (kv := 1) hx hb hX hbl hB hS hl (by decide) (by omega) hL (by decide +kernel) (by decide +kernel) (by decide +kernel) rfl (by decide +kernel) (by decide +kernel) ?_
  refine rawVa (d := 60) (idx := 127) (mi2 := m_C_count) (k := 0) (i := 0) (ci := 11) (av := [.inl (xs (8 * n + 1))]) (c' := 0) (z' := 0) (rest := []) e00 ⟨hx, hb, hml, hown, hts⟩ hl.1 hfr hB (by decide +kernel) (xmok_all (by decide)) (by decide) (xwd_mem (i := 1046) (by decide +kernel)) rfl ⟨_, _, rfl⟩ (by decide +kernel : (parseMethodDescriptor (mt m_C_count).1.desc).map (fun d => d.parameters.length) = some 1) (Nat.zero_le _) (show 0 < xcn L 0 from (show 0 < 1 from Nat.one_pos)) (fun v hv => by simp at hv; subst hv; trivial) hW hS ⟨by omega, by omega⟩ (iv_count hn hI) (fun r S1 L1 H locs hq hL1 hW hS => ?_)
  obtain ⟨v, rfl, hq⟩ := hq.out
  have e00 := (hL1 0 0 (by decide)).trans e00
  have e36 := (hL1 36 0 (by decide)).trans e36
  have e99 := (hL1 99 0 (by decide)).trans e99
  refine lv_aload_n (k := 2) (i := 2) hx hb (by decide +kernel) rfl (lv_at hl 3 rfl) ?_
  refine lw_argC (k := 1) (kz := 1) (kv := 1) hx hb hX hbl hB hS hl (by decide) (by omega) hL (by decide +kernel) (by decide +kernel) (by decide +kernel) rfl (by decide +kernel) (by decide +kernel) ?_
  refine rawVa (d := 60) (idx := 130) (mi2 := m_M_count) (k := 36) (i := 0) (ci := 12) (av := [.inl (xs (8 * n + 1))]) (c' := 0) (z' := 0) (rest := [.int v]) e36 ⟨hx, hb, hml, hown, hts⟩ hl.1 hfr hB (by decide +kernel) (xmok_all (by decide)) (by decide) (xwd_mem (i := 1537) (by decide +kernel)) rfl ⟨_, _, rfl⟩ (by decide +kernel : (parseMethodDescriptor (mt m_M_count).1.desc).map (fun d => d.parameters.length) = some 1) (Nat.le_of_ble_eq_true rfl) (show 0 < xcn L1 36 by unfold xcn; rw [e99]; decide) (fun v hv => by simp at hv; subst hv; trivial) hW hS ⟨by omega, by omega⟩ hq (fun r S2 L2 H locs hq hL2 hW hS => ?_)
  obtain ⟨rfl, hI⟩ := hq
  have e00 := (hL2 0 0 (by decide)).trans e00
  have e36 := (hL2 36 0 (by decide)).trans e36
  have e99 := (hL2 99 0 (by decide)).trans e99
  refine lv_icmp_eq (off := 124) (tgt := 1344) hx hb (by decide +kernel) rfl (fun _ => ?_) (fun q => absurd rfl q)
  refine W.widen (k := cells + 1) (n := slots + 160) (by omega) (by omega) ?_
  exact kk S2 L2 H locs hI e00 e36 e99 hW hS
set_option maxRecDepth 10000 in
theorem lc_27 (hx : p.tables.exec = Jvm.exec) (hb : c.code = code) (hml : c.maxLocals = 4) (hown : s.vm.findClass "MonsoonTradeLaw" = some m.cls) (hts : ∀ w ∈ xT, w.before args s = true) (hX : va_X b Lw xs s s.heap) (hbl : b < B) (hB : B ≤ s.heap.size) (hfr : 60 + 1 ≤ R.frames ∧ 40 * (60 + 1) ≤ R.locals) (hn : n ≤ 600) (h8 : 8 * n + 8 ≤ Lw) (hL : Lw ≤ 4096) (hc : cells + 1 ≤ R.cells) (hz : slots + 160 ≤ R.slots) (e00 : L 0 0 = x0) (e36 : L 36 0 = y0) (e99 : L 99 0 = 1) (hI : INV n S) (hW : xW s D B L S H) (hS : va_S (xA B) s.heap H locs) (hl : lv_has ls 4 [(3, .int (nI (8 * n))), (0, .ref b), (1, .ref x0), (2, .ref y0)])
    (kk : ∀ (S : xS) (L : xL) (H : Heap) (locs : List Loc), INV (n + 1) S → L 0 0 = x0 → L 36 0 = y0 → L 99 0 = 1 → xW s D B L S H → va_S (xA B) s.heap H locs → W p l e R s m args below meth c H locs (cells + 1) (slots + 160) Q (F0 m 1344 ls [])) : W p l e R s m args below meth c H locs cells slots Q (F0 m 1225 ls []) := by
  refine lv_aload_n (k := 1) (i := 1) hx hb (by decide +kernel) rfl (lv_at hl 2 rfl) ?_
  refine lw_argC (k := 1) (kz := 1) (kv := 1) hx hb hX hbl hB hS hl (by decide) (by omega) hL (by decide +kernel) (by decide +kernel) (by decide +kernel) rfl (by decide +kernel) (by decide +kernel) ?_
  refine lw_argC (k := 2) (kz := 2) (kv := 2) hx hb hX hbl hB hS hl (by decide) (by omega) hL (by decide +kernel) (by decide +kernel) (by decide +kernel) rfl (by decide +kernel) (by decide +kernel) ?_
  refine lw_argC (k := 3) (kz := 3) (kv := 3) hx hb hX hbl hB hS hl (by decide) (by omega) hL (by decide +kernel) (by decide +kernel) (by decide +kernel) rfl (by decide +kernel) (by decide +kernel) ?_
  refine rawVa (d := 60) (idx := 131) (mi2 := m_C_sheet) (k := 0) (i := 0) (ci := 11) (av := [.inl (xs (8 * n + 1)), .inl (xs (8 * n + 2)), .inl (xs (8 * n + 3))]) (c' := 0) (z' := 0) (rest := []) e00 ⟨hx, hb, hml, hown, hts⟩ hl.1 hfr hB (by decide +kernel) (xmok_all (by decide)) (by decide) (xwd_mem (i := 1058) (by decide +kernel)) rfl ⟨_, _, rfl⟩ (by decide +kernel : (parseMethodDescriptor (mt m_C_sheet).1.desc).map (fun d => d.parameters.length) = some 3) (Nat.zero_le _) (show 0 < xcn L 0 from (show 0 < 1 from Nat.one_pos)) (fun v hv => by simp at hv; rcases hv with rfl | rfl | rfl <;> trivial) hW hS ⟨by omega, by omega⟩ (iv_sheet hn hI) (fun r S1 L1 H locs hq hL1 hW hS => ?_)
  obtain ⟨v, rfl, hq⟩ := hq.out
  have e00 := (hL1 0 0 (by decide)).trans e00
  have e36 := (hL1 36 0 (by decide)).trans e36
  have e99 := (hL1 99 0 (by decide)).trans e99
  refine lv_aload_n (k := 2) (i := 2) hx hb (by decide +kernel) rfl (lv_at hl 3 rfl) ?_
  refine lw_argC (k := 1) (kz := 1) (kv := 1) hx hb hX hbl hB hS hl (by decide) (by omega) hL (by decide +kernel) (by decide +kernel) (by decide +kernel) rfl (by decide +kernel) (by decide +kernel) ?_
  refine lw_argC (k := 2) (kz := 2) (kv := 2) hx hb hX hbl hB hS hl (by decide) (by omega) hL (by decide +kernel) (by decide +kernel) (by decide +kernel) rfl (by decide +kernel) (by decide +kernel) ?_
  refine lw_argC (k := 3) (kz := 3) (kv := 3) hx hb hX hbl hB hS hl (by decide) (by omega) hL (by decide +kernel) (by decide +kernel) (by decide +kernel) rfl (by decide +kernel) (by decide +kernel) ?_
  refine rawVa (d := 60) (idx := 134) (mi2 := m_M_sheet) (k := 36) (i := 0) (ci := 12) (av := [.inl (xs (8 * n + 1)), .inl (xs (8 * n + 2)), .inl (xs (8 * n + 3))]) (c' := 0) (z' := 0) (rest := [.int v]) e36 ⟨hx, hb, hml, hown, hts⟩ hl.1 hfr hB (by decide +kernel) (xmok_all (by decide)) (by decide) (xwd_mem (i := 1541) (by decide +kernel)) rfl ⟨_, _, rfl⟩ (by decide +kernel : (parseMethodDescriptor (mt m_M_sheet).1.desc).map (fun d => d.parameters.length) = some 3) (Nat.le_of_ble_eq_true rfl) (show 0 < xcn L1 36 by unfold xcn; rw [e99]; decide) (fun v hv => by simp at hv; rcases hv with rfl | rfl | rfl <;> trivial) hW hS ⟨by omega, by omega⟩ hq (fun r S2 L2 H locs hq hL2 hW hS => ?_)
  obtain ⟨rfl, hI⟩ := hq
  have e00 := (hL2 0 0 (by decide)).trans e00
  have e36 := (hL2 36 0 (by decide)).trans e36
  have e99 := (hL2 99 0 (by decide)).trans e99
  refine lv_icmp_eq (off := 81) (tgt := 1344) hx hb (by decide +kernel) rfl (fun _ => ?_) (fun q => absurd rfl q)
  refine W.widen (k := cells + 1) (n := slots + 160) (by omega) (by omega) ?_
  exact kk S2 L2 H locs hI e00 e36 e99 hW hS
set_option maxRecDepth 10000 in
theorem lc_28 (hx : p.tables.exec = Jvm.exec) (hb : c.code = code) (hml : c.maxLocals = 4) (hown : s.vm.findClass "MonsoonTradeLaw" = some m.cls) (hts : ∀ w ∈ xT, w.before args s = true) (hX : va_X b Lw xs s s.heap) (hbl : b < B) (hB : B ≤ s.heap.size) (hfr : 60 + 1 ≤ R.frames ∧ 40 * (60 + 1) ≤ R.locals) (hn : n ≤ 600) (h8 : 8 * n + 8 ≤ Lw) (hL : Lw ≤ 4096) (hc : cells + 1 ≤ R.cells) (hz : slots + 160 ≤ R.slots) (e00 : L 0 0 = x0) (e36 : L 36 0 = y0) (e99 : L 99 0 = 1) (hI : INV n S) (hW : xW s D B L S H) (hS : va_S (xA B) s.heap H locs) (hl : lv_has ls 4 [(3, .int (nI (8 * n))), (0, .ref b), (1, .ref x0), (2, .ref y0)])
    (kk : ∀ (S : xS) (L : xL) (H : Heap) (locs : List Loc), INV (n + 1) S → L 0 0 = x0 → L 36 0 = y0 → L 99 0 = 1 → xW s D B L S H → va_S (xA B) s.heap H locs → W p l e R s m args below meth c H locs (cells + 1) (slots + 160) Q (F0 m 1344 ls [])) : W p l e R s m args below meth c H locs cells slots Q (F0 m 1268 ls []) := by
  refine lv_aload_n (k := 1) (i := 1) hx hb (by decide +kernel) rfl (lv_at hl 2 rfl) ?_
  refine lw_argC (k := 1) (kz := 1) (kv := 1) hx hb hX hbl hB hS hl (by decide) (by omega) hL (by decide +kernel) (by decide +kernel) (by decide +kernel) rfl (by decide +kernel) (by decide +kernel) ?_
  refine lw_argC (k := 2) (kz := 2) (kv := 2) hx hb hX hbl hB hS hl (by decide) (by omega) hL (by decide +kernel) (by decide +kernel) (by decide +kernel) rfl (by decide +kernel) (by decide +kernel) ?_
  refine lw_argC (k := 3) (kz := 3) (kv := 3) hx hb hX hbl hB hS hl (by decide) (by omega) hL (by decide +kernel) (by decide +kernel) (by decide +kernel) rfl (by decide +kernel) (by decide +kernel) ?_
  refine rawVa (d := 60) (idx := 135) (mi2 := m_C_cell) (k := 0) (i := 0) (ci := 11) (av := [.inl (xs (8 * n + 1)), .inl (xs (8 * n + 2)), .inl (xs (8 * n + 3))]) (c' := 0) (z' := 0) (rest := []) e00 ⟨hx, hb, hml, hown, hts⟩ hl.1 hfr hB (by decide +kernel) (xmok_all (by decide)) (by decide) (xwd_mem (i := 1067) (by decide +kernel)) rfl ⟨_, _, rfl⟩ (by decide +kernel : (parseMethodDescriptor (mt m_C_cell).1.desc).map (fun d => d.parameters.length) = some 3) (Nat.zero_le _) (show 0 < xcn L 0 from (show 0 < 1 from Nat.one_pos)) (fun v hv => by simp at hv; rcases hv with rfl | rfl | rfl <;> trivial) hW hS ⟨by omega, by omega⟩ (iv_cell hn hI) (fun r S1 L1 H locs hq hL1 hW hS => ?_)
  obtain ⟨v, rfl, hq⟩ := hq.out
  have e00 := (hL1 0 0 (by decide)).trans e00
  have e36 := (hL1 36 0 (by decide)).trans e36
  have e99 := (hL1 99 0 (by decide)).trans e99
  refine lv_aload_n (k := 2) (i := 2) hx hb (by decide +kernel) rfl (lv_at hl 3 rfl) ?_
  refine lw_argC (k := 1) (kz := 1) (kv := 1) hx hb hX hbl hB hS hl (by decide) (by omega) hL (by decide +kernel) (by decide +kernel) (by decide +kernel) rfl (by decide +kernel) (by decide +kernel) ?_
  refine lw_argC (k := 2) (kz := 2) (kv := 2) hx hb hX hbl hB hS hl (by decide) (by omega) hL (by decide +kernel) (by decide +kernel) (by decide +kernel) rfl (by decide +kernel) (by decide +kernel) ?_
  refine lw_argC (k := 3) (kz := 3) (kv := 3) hx hb hX hbl hB hS hl (by decide) (by omega) hL (by decide +kernel) (by decide +kernel) (by decide +kernel) rfl (by decide +kernel) (by decide +kernel) ?_
  refine rawVa (d := 60) (idx := 138) (mi2 := m_M_cell) (k := 36) (i := 0) (ci := 12) (av := [.inl (xs (8 * n + 1)), .inl (xs (8 * n + 2)), .inl (xs (8 * n + 3))]) (c' := 0) (z' := 0) (rest := [.int v]) e36 ⟨hx, hb, hml, hown, hts⟩ hl.1 hfr hB (by decide +kernel) (xmok_all (by decide)) (by decide) (xwd_mem (i := 1545) (by decide +kernel)) rfl ⟨_, _, rfl⟩ (by decide +kernel : (parseMethodDescriptor (mt m_M_cell).1.desc).map (fun d => d.parameters.length) = some 3) (Nat.le_of_ble_eq_true rfl) (show 0 < xcn L1 36 by unfold xcn; rw [e99]; decide) (fun v hv => by simp at hv; rcases hv with rfl | rfl | rfl <;> trivial) hW hS ⟨by omega, by omega⟩ hq (fun r S2 L2 H locs hq hL2 hW hS => ?_)
  obtain ⟨rfl, hI⟩ := hq
  have e00 := (hL2 0 0 (by decide)).trans e00
  have e36 := (hL2 36 0 (by decide)).trans e36
  have e99 := (hL2 99 0 (by decide)).trans e99
  refine lv_icmp_eq (off := 38) (tgt := 1344) hx hb (by decide +kernel) rfl (fun _ => ?_) (fun q => absurd rfl q)
  refine W.widen (k := cells + 1) (n := slots + 160) (by omega) (by omega) ?_
  exact kk S2 L2 H locs hI e00 e36 e99 hW hS
set_option maxRecDepth 10000 in
theorem lc_29 (hx : p.tables.exec = Jvm.exec) (hb : c.code = code) (hml : c.maxLocals = 4) (hown : s.vm.findClass "MonsoonTradeLaw" = some m.cls) (hts : ∀ w ∈ xT, w.before args s = true) (hX : va_X b Lw xs s s.heap) (hbl : b < B) (hB : B ≤ s.heap.size) (hfr : 60 + 1 ≤ R.frames ∧ 40 * (60 + 1) ≤ R.locals) (hn : n ≤ 600) (h8 : 8 * n + 8 ≤ Lw) (hL : Lw ≤ 4096) (hc : cells + 1 ≤ R.cells) (hz : slots + 160 ≤ R.slots) (e00 : L 0 0 = x0) (e36 : L 36 0 = y0) (e99 : L 99 0 = 1) (hI : INV n S) (hW : xW s D B L S H) (hS : va_S (xA B) s.heap H locs) (hl : lv_has ls 4 [(3, .int (nI (8 * n))), (0, .ref b), (1, .ref x0), (2, .ref y0)])
    (kk : ∀ (S : xS) (L : xL) (H : Heap) (locs : List Loc), INV (n + 1) S → L 0 0 = x0 → L 36 0 = y0 → L 99 0 = 1 → xW s D B L S H → va_S (xA B) s.heap H locs → W p l e R s m args below meth c H locs (cells + 1) (slots + 160) Q (F0 m 1344 ls [])) : W p l e R s m args below meth c H locs cells slots Q (F0 m 1311 ls []) := by
  refine lv_aload_n (k := 1) (i := 1) hx hb (by decide +kernel) rfl (lv_at hl 2 rfl) ?_
  refine lw_argC (k := 1) (kz := 1) (kv := 1) hx hb hX hbl hB hS hl (by decide) (by omega) hL (by decide +kernel) (by decide +kernel) (by decide +kernel) rfl (by decide +kernel) (by decide +kernel) ?_
  refine lw_argC (k := 2) (kz := 2) (kv := 2) hx hb hX hbl hB hS hl (by decide) (by omega) hL (by decide +kernel) (by decide +kernel) (by decide +kernel) rfl (by decide +kernel) (by decide +kernel) ?_
  refine rawVa (d := 60) (idx := 139) (mi2 := m_C_taken) (k := 0) (i := 0) (ci := 11) (av := [.inl (xs (8 * n + 1)), .inl (xs (8 * n + 2))]) (c' := 0) (z' := 0) (rest := []) e00 ⟨hx, hb, hml, hown, hts⟩ hl.1 hfr hB (by decide +kernel) (xmok_all (by decide)) (by decide) (xwd_mem (i := 1075) (by decide +kernel)) rfl ⟨_, _, rfl⟩ (by decide +kernel : (parseMethodDescriptor (mt m_C_taken).1.desc).map (fun d => d.parameters.length) = some 2) (Nat.zero_le _) (show 0 < xcn L 0 from (show 0 < 1 from Nat.one_pos)) (fun v hv => by simp at hv; rcases hv with rfl | rfl <;> trivial) hW hS ⟨by omega, by omega⟩ (iv_taken hn hI) (fun r S1 L1 H locs hq hL1 hW hS => ?_)
  obtain ⟨v, rfl, hq⟩ := hq.out
  have e00 := (hL1 0 0 (by decide)).trans e00
  have e36 := (hL1 36 0 (by decide)).trans e36
  have e99 := (hL1 99 0 (by decide)).trans e99
  refine lv_aload_n (k := 2) (i := 2) hx hb (by decide +kernel) rfl (lv_at hl 3 rfl) ?_
  refine lw_argC (k := 1) (kz := 1) (kv := 1) hx hb hX hbl hB hS hl (by decide) (by omega) hL (by decide +kernel) (by decide +kernel) (by decide +kernel) rfl (by decide +kernel) (by decide +kernel) ?_
  refine lw_argC (k := 2) (kz := 2) (kv := 2) hx hb hX hbl hB hS hl (by decide) (by omega) hL (by decide +kernel) (by decide +kernel) (by decide +kernel) rfl (by decide +kernel) (by decide +kernel) ?_
  refine rawVa (d := 60) (idx := 142) (mi2 := m_M_taken) (k := 36) (i := 0) (ci := 12) (av := [.inl (xs (8 * n + 1)), .inl (xs (8 * n + 2))]) (c' := 0) (z' := 0) (rest := [.int v]) e36 ⟨hx, hb, hml, hown, hts⟩ hl.1 hfr hB (by decide +kernel) (xmok_all (by decide)) (by decide) (xwd_mem (i := 1549) (by decide +kernel)) rfl ⟨_, _, rfl⟩ (by decide +kernel : (parseMethodDescriptor (mt m_M_taken).1.desc).map (fun d => d.parameters.length) = some 2) (Nat.le_of_ble_eq_true rfl) (show 0 < xcn L1 36 by unfold xcn; rw [e99]; decide) (fun v hv => by simp at hv; rcases hv with rfl | rfl <;> trivial) hW hS ⟨by omega, by omega⟩ hq (fun r S2 L2 H locs hq hL2 hW hS => ?_)
  obtain ⟨rfl, hI⟩ := hq
  have e00 := (hL2 0 0 (by decide)).trans e00
  have e36 := (hL2 36 0 (by decide)).trans e36
  have e99 := (hL2 99 0 (by decide)).trans e99
  refine lv_icmp_eq (off := 5) (tgt := 1344) hx hb (by decide +kernel) rfl (fun _ => ?_) (fun q => absurd rfl q)
  refine W.widen (k := cells + 1) (n := slots + 160) (by omega) (by omega) ?_
  exact kk S2 L2 H locs hI e00 e36 e99 hW hS
end LAW
