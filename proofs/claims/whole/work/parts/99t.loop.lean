/-! the law's loop (written by law3.py) -/
section LAWL
variable {p : Program} {l : Launch} {e : Env} {R : Room} {s : State} {m : MethodId} {args : Array Value} {below : List Frame} {meth : Method} {c : Code} {b Lw B x0 y0 : Nat} {D : va_G} {Q : State → Prop} {xs : Nat → Int32}
theorem lw_sub8 {n Lw : Nat} (hn : n ≤ 100000) (hL : Lw ≤ 4096) : (nI Lw - 8 < nI n) ↔ Lw < n + 8 := by
  have e8 : (nI Lw - 8).toInt = (Lw : Int) - 8 := by
    rw [Int32.toInt_sub, nI_toInt (show Lw < 2 ^ 31 by omega), show (8 : Int32).toInt = 8 from rfl]
    rw [Int.bmod_eq_of_le_mul_two] <;> omega
  rw [Int32.lt_iff_toInt_lt, e8, nI_toInt (show n < 2 ^ 31 by omega)]
  omega
set_option maxRecDepth 10000 in
theorem lw_loop (hx : p.tables.exec = Jvm.exec) (hb : c.code = code) (hml : c.maxLocals = 4) (hown : s.vm.findClass "MonsoonTradeLaw" = some m.cls) (hts : ∀ w ∈ xT, w.before args s = true) (hX : va_X b Lw xs s s.heap) (hbl : b < B) (hB : B ≤ s.heap.size) (hfr : 60 + 1 ≤ R.frames ∧ 40 * (60 + 1) ≤ R.locals) (hL : Lw ≤ 4096) {C Z : Nat} (hC : C ≤ R.cells) (hZ : Z ≤ R.slots)
    (hend : ∀ (H : Heap) (locs : List Loc) (ls : Array Slot) (cells slots : Nat), cells ≤ C → slots ≤ Z → va_S (xA B) s.heap H locs → lv_has ls 4 [(0, .ref b)] → W p l e R s m args below meth c H locs cells slots Q (F0 m 1350 ls [])) :
    ∀ k n, n + k = 513 → 8 * n ≤ Lw → ∀ (S : xS) (L : xL) (H : Heap) (locs : List Loc) (ls : Array Slot) (cells slots : Nat), cells + k ≤ C → slots + 160 * k ≤ Z → L 0 0 = x0 → L 36 0 = y0 → L 99 0 = 1 → INV n S → xW s D B L S H → va_S (xA B) s.heap H locs → lv_has ls 4 [(3, .int (nI (8 * n))), (0, .ref b), (1, .ref x0), (2, .ref y0)] → W p l e R s m args below meth c H locs cells slots Q (F0 m 18 ls []) := by
  have d18 : decode code 18 = .ok (.iload_n 3, 1) := by decide +kernel
  have d19 : decode code 19 = .ok (.aload_n 0, 1) := by decide +kernel
  have d20 : decode code 20 = .ok (.arraylength, 1) := by decide +kernel
  have d21 : decode code 21 = .ok (.bipush 8, 2) := by decide +kernel
  have d23 : decode code 23 = .ok (.isub, 1) := by decide +kernel
  have d24 : decode code 24 = .ok (.if_icmp .gt 1326, 3) := by decide +kernel
  have d27 : decode code 27 = .ok (.aload_n 0, 1) := by decide +kernel
  have d28 : decode code 28 = .ok (.iload_n 3, 1) := by decide +kernel
  have d29 : decode code 29 = .ok (.iaload, 1) := by decide +kernel
  have d30 : decode code 30 = .ok (.bipush 31, 2) := by decide +kernel
  have d32 : decode code 32 = .ok (.iand, 1) := by decide +kernel
  have d33 : decode code 33 = .ok (.tableswitch 1311 0 29 #[135, 168, 221, 254, 287, 340, 383, 426, 459, 492, 535, 578, 611, 634, 657, 710, 763, 796, 829, 852, 875, 938, 951, 974, 1062, 1116, 1169, 1192, 1235, 1278], 135) := by decide +kernel
  have d1344 : decode code 1344 = .ok (.iinc 3 8, 3) := by decide +kernel
  have d1347 : decode code 1347 = .ok (.goto (-1329), 3) := by decide +kernel
  obtain ⟨scr, h1, h2, h3, h4, h5⟩ := id hX
  intro k
  induction k with
  | zero => intro n hn h8; omega
  | succ k ih =>
    intro n hn h8 S L H locs ls cells slots hc hz e00 e36 e99 hI hW hS hl
    have hcell : H[b]? = some scr := (hS.2.1 b (by omega) (by show ¬ B ≤ b; omega)).trans h1
    refine lv_iload_n (k := 3) (i := 3) hx hb d18 rfl (lv_at hl 0 rfl) ?_
    refine lv_aload_n (k := 0) (i := 0) hx hb d19 rfl (lv_at hl 1 rfl) ?_
    refine W.alen (n := nI Lw) hx hb hcell h2 (by rw [h4]; rfl) rfl rfl d20 ?_
    refine lv_bipush (n := 8) (v := 8) hx hb d21 rfl ?_
    refine lv_isub hx hb d23 ?_
    refine lv_icmp_gt (off := 1326) (tgt := 1350) hx hb d24 rfl (fun _ => ?_) (fun q => ?_)
    · exact hend H locs ls cells slots (by omega) (by omega) hS (lv_sub hl [1] rfl)
    · have h9 : 8 * n + 8 ≤ Lw := by
        have := (not_congr (lw_sub8 (n := 8 * n) (by omega) hL)).mp q
        omega
      refine lv_aload_n (k := 0) (i := 0) hx hb d27 rfl (lv_at hl 1 rfl) ?_
      refine lv_iload_n (k := 3) (i := 3) hx hb d28 rfl (lv_at hl 0 rfl) ?_
      have ec : (nI (8 * n)).toNatClampNeg = 8 * n := nI_clamp (by omega)
      refine W.iald (v := .int (xs (8 * n))) hx hb hcell h2 h3 (by rw [h4, ec]; intro z; rcases z with z | z; exact nI_pos (by omega) z; omega) (by rw [ec]; exact h5 _ (by omega)) rfl rfl d29 ?_
      refine lv_bipush (n := 31) (v := 31) hx hb d30 rfl ?_
      refine lv_iand hx hb d32 ?_
      obtain ⟨j, hj, ej⟩ := pk_andE (xs (8 * n)) (m := 31) 5 (by decide)
      rw [ej]
      have fin : ∀ (S2 : xS) (L2 : xL) (H : Heap) (locs : List Loc), INV (n + 1) S2 → L2 0 0 = x0 → L2 36 0 = y0 → L2 99 0 = 1 → xW s D B L2 S2 H → va_S (xA B) s.heap H locs → W p l e R s m args below meth c H locs (cells + 1) (slots + 160) Q (F0 m 1344 ls []) := by
        intro S2 L2 H locs hI2 f00 f36 f99 hW2 hS2
        refine lv_iinc (k := 0) (v := nI (8 * (n + 1))) (nL := 4) hx hb d1344 hl rfl (by show nI (8 * n) + 8 = _; rw [show (8 : Int32) = nI 8 from rfl, nI_add]; congr 1) (by decide) rfl (fun ls hl => ?_)
        refine lv_goto (off := -1329) (tgt := 18) hx hb d1347 rfl ?_
        exact ih (n + 1) (by omega) (by omega) S2 L2 H locs ls (cells + 1) (slots + 160) (by omega) (by omega) f00 f36 f99 hI2 hW2 hS2 hl
      have out : j = 30 ∨ j = 31 → W p l e R s m args below meth c H locs cells slots Q (F0 m 33 ls [.int (nI j)]) := by
        intro hj
        refine lv_tableOut (tgt := 1344) hx hb d33 ?_ rfl ?_
        · rcases hj with rfl | rfl <;> decide
        · refine W.widen (k := cells + 1) (n := slots + 160) (by omega) (by omega) ?_
          obtain ⟨np, nd, nv, nt, nb, r, t, hN, hA, hB2, hrest⟩ := hI
          exact fin S L H locs ⟨np, nd, nv, nt, nb, r, t, hN, hA.succ, hB2.succ, hrest⟩ e00 e36 e99 hW hS
      have hj : j < 32 := hj
      match j, hj with
      | 0, _ => exact lv_tableIn (off := 135) (tgt := 168) hx hb d33 (by decide) (by decide) (by decide) rfl (lc_0 hx hb hml hown hts hX hbl hB hfr (by omega) h9 hL (by omega) (by omega) e00 e36 e99 hI hW hS hl fin)
      | 1, _ => exact lv_tableIn (off := 168) (tgt := 201) hx hb d33 (by decide) (by decide) (by decide) rfl (lc_1 hx hb hml hown hts hX hbl hB hfr (by omega) h9 hL (by omega) (by omega) e00 e36 e99 hI hW hS hl fin)
      | 2, _ => exact lv_tableIn (off := 221) (tgt := 254) hx hb d33 (by decide) (by decide) (by decide) rfl (lc_2 hx hb hml hown hts hX hbl hB hfr (by omega) h9 hL (by omega) (by omega) e00 e36 e99 hI hW hS hl fin)
      | 3, _ => exact lv_tableIn (off := 254) (tgt := 287) hx hb d33 (by decide) (by decide) (by decide) rfl (lc_3 hx hb hml hown hts hX hbl hB hfr (by omega) h9 hL (by omega) (by omega) e00 e36 e99 hI hW hS hl fin)
      | 4, _ => exact lv_tableIn (off := 287) (tgt := 320) hx hb d33 (by decide) (by decide) (by decide) rfl (lc_4 hx hb hml hown hts hX hbl hB hfr (by omega) h9 hL (by omega) (by omega) e00 e36 e99 hI hW hS hl fin)
      | 5, _ => exact lv_tableIn (off := 340) (tgt := 373) hx hb d33 (by decide) (by decide) (by decide) rfl (lc_5 hx hb hml hown hts hX hbl hB hfr (by omega) h9 hL (by omega) (by omega) e00 e36 e99 hI hW hS hl fin)
      | 6, _ => exact lv_tableIn (off := 383) (tgt := 416) hx hb d33 (by decide) (by decide) (by decide) rfl (lc_6 hx hb hml hown hts hX hbl hB hfr (by omega) h9 hL (by omega) (by omega) e00 e36 e99 hI hW hS hl fin)
      | 7, _ => exact lv_tableIn (off := 426) (tgt := 459) hx hb d33 (by decide) (by decide) (by decide) rfl (lc_7 hx hb hml hown hts hX hbl hB hfr (by omega) h9 hL (by omega) (by omega) e00 e36 e99 hI hW hS hl fin)
      | 8, _ => exact lv_tableIn (off := 459) (tgt := 492) hx hb d33 (by decide) (by decide) (by decide) rfl (lc_8 hx hb hml hown hts hX hbl hB hfr (by omega) h9 hL (by omega) (by omega) e00 e36 e99 hI hW hS hl fin)
      | 9, _ => exact lv_tableIn (off := 492) (tgt := 525) hx hb d33 (by decide) (by decide) (by decide) rfl (lc_9 hx hb hml hown hts hX hbl hB hfr (by omega) h9 hL (by omega) (by omega) e00 e36 e99 hI hW hS hl fin)
      | 10, _ => exact lv_tableIn (off := 535) (tgt := 568) hx hb d33 (by decide) (by decide) (by decide) rfl (lc_10 hx hb hml hown hts hX hbl hB hfr (by omega) h9 hL (by omega) (by omega) e00 e36 e99 hI hW hS hl fin)
      | 11, _ => exact lv_tableIn (off := 578) (tgt := 611) hx hb d33 (by decide) (by decide) (by decide) rfl (lc_11 hx hb hml hown hts hX hbl hB hfr (by omega) h9 hL (by omega) (by omega) e00 e36 e99 hI hW hS hl fin)
      | 12, _ => exact lv_tableIn (off := 611) (tgt := 644) hx hb d33 (by decide) (by decide) (by decide) rfl (lc_12 hx hb hml hown hts hX hbl hB hfr (by omega) h9 hL (by omega) (by omega) e00 e36 e99 hI hW hS hl fin)
      | 13, _ => exact lv_tableIn (off := 634) (tgt := 667) hx hb d33 (by decide) (by decide) (by decide) rfl (lc_13 hx hb hml hown hts hX hbl hB hfr (by omega) h9 hL (by omega) (by omega) e00 e36 e99 hI hW hS hl fin)
      | 14, _ => exact lv_tableIn (off := 657) (tgt := 690) hx hb d33 (by decide) (by decide) (by decide) rfl (lc_14 hx hb hml hown hts hX hbl hB hfr (by omega) h9 hL (by omega) (by omega) e00 e36 e99 hI hW hS hl fin)
      | 15, _ => exact lv_tableIn (off := 710) (tgt := 743) hx hb d33 (by decide) (by decide) (by decide) rfl (lc_15 hx hb hml hown hts hX hbl hB hfr (by omega) h9 hL (by omega) (by omega) e00 e36 e99 hI hW hS hl fin)
      | 16, _ => exact lv_tableIn (off := 763) (tgt := 796) hx hb d33 (by decide) (by decide) (by decide) rfl (lc_16 hx hb hml hown hts hX hbl hB hfr (by omega) h9 hL (by omega) (by omega) e00 e36 e99 hI hW hS hl fin)
      | 17, _ => exact lv_tableIn (off := 796) (tgt := 829) hx hb d33 (by decide) (by decide) (by decide) rfl (lc_17 hx hb hml hown hts hX hbl hB hfr (by omega) h9 hL (by omega) (by omega) e00 e36 e99 hI hW hS hl fin)
      | 18, _ => exact lv_tableIn (off := 829) (tgt := 862) hx hb d33 (by decide) (by decide) (by decide) rfl (lc_18 hx hb hml hown hts hX hbl hB hfr (by omega) h9 hL (by omega) (by omega) e00 e36 e99 hI hW hS hl fin)
      | 19, _ => exact lv_tableIn (off := 852) (tgt := 885) hx hb d33 (by decide) (by decide) (by decide) rfl (lc_19 hx hb hml hown hts hX hbl hB hfr (by omega) h9 hL (by omega) (by omega) e00 e36 e99 hI hW hS hl fin)
      | 20, _ => exact lv_tableIn (off := 875) (tgt := 908) hx hb d33 (by decide) (by decide) (by decide) rfl (lc_20 hx hb hml hown hts hX hbl hB hfr (by omega) h9 hL (by omega) (by omega) e00 e36 e99 hI hW hS hl fin)
      | 21, _ => exact lv_tableIn (off := 938) (tgt := 971) hx hb d33 (by decide) (by decide) (by decide) rfl (lc_21 hx hb hml hown hts hX hbl hB hfr (by omega) h9 hL (by omega) (by omega) e00 e36 e99 hI hW hS hl fin)
      | 22, _ => exact lv_tableIn (off := 951) (tgt := 984) hx hb d33 (by decide) (by decide) (by decide) rfl (lc_22 hx hb hml hown hts hX hbl hB hfr (by omega) h9 hL (by omega) (by omega) e00 e36 e99 hI hW hS hl fin)
      | 23, _ => exact lv_tableIn (off := 974) (tgt := 1007) hx hb d33 (by decide) (by decide) (by decide) rfl (lc_23 hx hb hml hown hts hX hbl hB hfr (by omega) h9 hL (by omega) (by omega) e00 e36 e99 hI hW hS hl fin)
      | 24, _ => exact lv_tableIn (off := 1062) (tgt := 1095) hx hb d33 (by decide) (by decide) (by decide) rfl (lc_24 hx hb hml hown hts hX hbl hB hfr (by omega) h9 hL (by omega) (by omega) e00 e36 e99 hI hW hS hl fin)
      | 25, _ => exact lv_tableIn (off := 1116) (tgt := 1149) hx hb d33 (by decide) (by decide) (by decide) rfl (lc_25 hx hb hml hown hts hX hbl hB hfr (by omega) h9 hL (by omega) (by omega) e00 e36 e99 hI hW hS hl fin)
      | 26, _ => exact lv_tableIn (off := 1169) (tgt := 1202) hx hb d33 (by decide) (by decide) (by decide) rfl (lc_26 hx hb hml hown hts hX hbl hB hfr (by omega) h9 hL (by omega) (by omega) e00 e36 e99 hI hW hS hl fin)
      | 27, _ => exact lv_tableIn (off := 1192) (tgt := 1225) hx hb d33 (by decide) (by decide) (by decide) rfl (lc_27 hx hb hml hown hts hX hbl hB hfr (by omega) h9 hL (by omega) (by omega) e00 e36 e99 hI hW hS hl fin)
      | 28, _ => exact lv_tableIn (off := 1235) (tgt := 1268) hx hb d33 (by decide) (by decide) (by decide) rfl (lc_28 hx hb hml hown hts hX hbl hB hfr (by omega) h9 hL (by omega) (by omega) e00 e36 e99 hI hW hS hl fin)
      | 29, _ => exact lv_tableIn (off := 1278) (tgt := 1311) hx hb d33 (by decide) (by decide) (by decide) rfl (lc_29 hx hb hml hown hts hX hbl hB hfr (by omega) h9 hL (by omega) (by omega) e00 e36 e99 hI hW hS hl fin)
      | 30, _ => exact out (Or.inl rfl)
      | 31, _ => exact out (Or.inr rfl)
      | j + 32, h => exact absurd h (by omega)
end LAWL
