/-! what the law starts from (written by law3.py) -/
abbrev sLen : List Nat := [42, 57, 8]
abbrev sByt : List (List Int32) := [[112, 97, 114, 116, 32, 112, 97, 114, 116, 115, 32, 59, 32, 102, 111, 111, 100, 32, 100, 97, 121, 115, 32, 42, 32, 109, 101, 110, 32, 59, 32, 108, 111, 97, 110, 32, 111, 119, 101, 100, 32, 59], [112, 97, 114, 116, 32, 102, 111, 111, 100, 32, 108, 111, 97, 110, 32, 111, 114, 32, 97, 110, 100, 32, 110, 111, 116, 32, 103, 97, 105, 110, 32, 100, 97, 121, 115, 32, 109, 101, 110, 32, 112, 97, 114, 116, 115, 32, 111, 119, 101, 100, 32, 109, 111, 110, 116, 104, 32], [40, 41, 59, 43, 45, 42, 60, 61]]
abbrev u34 : List Int32 := [-1, 0, 1, 0, 3, 2]
def L00 (t34 b : Nat) (adK adV : Nat → Nat) : xL := fun k i => bif Nat.beq k 34 then t34 else bif Nat.beq k 35 then b else bif Nat.beq k 75 then adK i else bif Nat.beq k 76 then adV i else 0
def S00 (Lw : Nat) (xs : Nat → Int32) : xS := (fun k i j => bif Nat.beq k 34 then u34.getD j 0 else bif Nat.beq k 35 then (bif Nat.beq j 65536 then nI Lw else xs j) else bif Nat.beq k 75 then 0 else bif Nat.beq k 76 then (bif Nat.beq j 65536 then nI (sLen.getD i 0) else (sByt.getD i []).getD j 0) else 0, fun _ _ _ => 0)
theorem va_T.cong {ty : FieldType} {t N M : Nat} {f g : Nat → Value} {A A2 : Nat → Prop} {U : State} {H : Heap} (h : va_T ty t N f A U H) (hN : N = M) (hg : ∀ j, j < N → f j = g j) (hA : ∀ q, A2 q → A q) : va_T ty t M g A2 U H := by
  obtain ⟨cell, a, b, c, d, e, f1, f2⟩ := h
  subst hN
  exact ⟨cell, a, b, c, d, e, fun j hj => by rw [← hg j hj]; exact f1 j hj, fun z => f2 (hA _ z)⟩
theorem n_beq {j : Nat} (h : j < 65536) : Nat.beq j 65536 = false := by
  cases z : Nat.beq j 65536 with
  | true => have := Nat.eq_of_beq_eq_true z; omega
  | false => rfl
theorem st_gStr (Lw : Nat) (xs : Nat → Int32) : gStr (S00 Lw xs) ∧ gFst (S00 Lw xs) ∧ IK (S00 Lw xs) := by
  have h1 : ∀ j : Fin 57, ((bif Nat.beq j.1 65536 then nI (sLen.getD 1 0) else (sByt.getD 1 []).getD j.1 0) : Int32) = nI (wchs.getD j.1 0) := by decide +kernel
  have h2 : ∀ j : Fin 8, ((bif Nat.beq j.1 65536 then nI (sLen.getD 2 0) else (sByt.getD 2 []).getD j.1 0) : Int32) = nI (sgs.getD j.1 0) := by decide +kernel
  have h0 : ∀ j : Fin 42, ((bif Nat.beq j.1 65536 then nI (sLen.getD 0 0) else (sByt.getD 0 []).getD j.1 0) : Int32) = fB j.1 := by decide +kernel
  exact ⟨⟨⟨rfl, rfl⟩, ⟨rfl, rfl⟩, fun j hj => h1 ⟨j, hj⟩, fun j hj => h2 ⟨j, hj⟩⟩, ⟨rfl, rfl, fun j hj => h0 ⟨j, hj⟩⟩, ⟨rfl, rfl, rfl, rfl, rfl, rfl⟩⟩
set_option maxRecDepth 100000 in
set_option maxHeartbeats 4000000 in
theorem st_RO {s : State} {b Lw : Nat} {xs : Nat → Int32} {D : va_G} (hgv : (Jvm.Cond.and given_1 narrow_1).before #[Value.ref b] s = true) (hts : ∀ w ∈ lw_tbl, w.before #[Value.ref b] s = true) (hX : va_X b Lw xs s s.heap) (hL : Lw ≤ 4096) : ∃ L0 : xL, xRO s D s.heap.size L0 (S00 Lw xs) s.heap ∧ xEX s s.heap.size L0 (S00 Lw xs) s.heap ∧ xST s L0 := by
  have hs := flat_of_before _ hgv
  have hA : ∀ a : Nat, a < s.heap.size → ¬ xA s.heap.size a := fun a h => by show ¬ s.heap.size ≤ a; omega
  obtain ⟨t34, ht34, hT34⟩ := va_Tof (tm := .static "MonsoonTrade" "UNDER" "[I") (ty := .int) (N := 6) (f := fun j => .int (u34.getD j 0)) (A := xA s.heap.size) (by decide) (hs _ (by decide +kernel)) (va_eqt (z := 6) (hs _ (by decide +kernel))) (fun j hj => by
    have h6 : ∀ j : Fin 6, Cond.eq (.elem (.static "MonsoonTrade" "UNDER" "[I") (.int (Int32.ofNat j.1))) (.int (u34.getD j.1 0)) ∈ flatC (Jvm.Cond.and given_1 narrow_1) := by decide +kernel
    exact va_eqt (hs _ (h6 ⟨j, hj⟩))) hA
  have q1 : ∀ i : Fin 3, Cond.exactly (.string (xsk i.1).1 (xsk i.1).2.1) "java/lang/String" ∈ flatC (Jvm.Cond.and given_1 narrow_1) := by decide +kernel
  have q2 : ∀ i : Fin 3, Cond.eq (.field (.string (xsk i.1).1 (xsk i.1).2.1) "java/lang/String" "coder" "B") (.int 0) ∈ flatC (Jvm.Cond.and given_1 narrow_1) := by decide +kernel
  have q3 : ∀ i : Fin 3, Cond.arrayOf (.field (.string (xsk i.1).1 (xsk i.1).2.1) "java/lang/String" "value" "[B") .byte ∈ flatC (Jvm.Cond.and given_1 narrow_1) := by decide +kernel
  have q4 : ∀ i : Fin 3, Cond.eq (.length (.field (.string (xsk i.1).1 (xsk i.1).2.1) "java/lang/String" "value" "[B")) (.int (Int32.ofNat (sLen.getD i.1 0))) ∈ flatC (Jvm.Cond.and given_1 narrow_1) := by decide +kernel
  have q5 : ∀ i : Fin 3, ∀ j : Fin 57, j.1 < sLen.getD i.1 0 → Cond.eq (.elem (.field (.string (xsk i.1).1 (xsk i.1).2.1) "java/lang/String" "value" "[B") (.int (Int32.ofNat j.1))) (.int ((sByt.getD i.1 []).getD j.1 0)) ∈ flatC (Jvm.Cond.and given_1 narrow_1) := by decide +kernel
  have q6 : ∀ i j : Fin 3, i.1 < j.1 → Cond.not (Cond.eq (.string (xsk i.1).1 (xsk i.1).2.1) (.string (xsk j.1).1 (xsk j.1).2.1)) ∈ flatC (Jvm.Cond.and given_1 narrow_1) := by decide +kernel
  have ql : ∀ i : Fin 3, sLen.getD i.1 0 ≤ 57 := by decide +kernel
  obtain ⟨adK, adV, hSt, hR⟩ := vk_Sof (args := #[Value.ref b]) (s := s) (N := 3) (tm := fun i => .string (xsk i).1 (xsk i).2.1) (len := sLen) (byt := sByt) (A := xA s.heap.size) (fun i hi => by have : sLen.getD i 0 ≤ 57 := ql ⟨i, hi⟩; omega) (fun i hi => hs _ (q1 ⟨i, hi⟩)) (fun i hi => hs _ (q2 ⟨i, hi⟩)) (fun i hi => hs _ (q3 ⟨i, hi⟩)) (fun i hi => hs _ (q4 ⟨i, hi⟩)) (fun i hi j hj => hs _ (q5 ⟨i, hi⟩ ⟨j, by have : sLen.getD i 0 ≤ 57 := ql ⟨i, hi⟩; omega⟩ hj)) (fun i j hi hj hij => by
    rcases Nat.lt_or_gt_of_ne hij with z | z
    · exact Or.inl (hs _ (q6 ⟨i, hi⟩ ⟨j, hj⟩ z))
    · exact Or.inr (hs _ (q6 ⟨j, hj⟩ ⟨i, hi⟩ z))) hA
  have lt_T : ∀ {ty : FieldType} {t N : Nat} {f : Nat → Value} {A : Nat → Prop}, va_T ty t N f A s s.heap → t < s.heap.size := fun h => by
    obtain ⟨cell, g, _⟩ := h
    exact (Array.getElem?_eq_some_iff.mp g).1
  have hI : ∀ (w : Cond) (i : Nat), lw_tbl[i]? = some w → w.before #[Value.ref b] s = true := fun w i h => hts w (List.mem_of_getElem? h)
  refine ⟨L00 t34 b adK adV, fun k i hr hi => ?_, ?_, ?_⟩
  · rcases xro_c hr with rfl | rfl | rfl | rfl
    · have hi : i < 1 := hi
      obtain rfl : i = 0 := by omega
      exact ⟨Or.inl ⟨rfl, va_T.narrow hT34 (fun _ h => h.elim)⟩, lt_T hT34⟩
    · have hi : i < 1 := hi
      obtain rfl : i = 0 := by omega
      obtain ⟨scr, h1, h2, h3, h4, h5⟩ := hX
      have hb := (Array.getElem?_eq_some_iff.mp h1).1
      have el : xlen (S00 Lw xs) 35 0 65536 = Lw := by
        show (nI Lw).toNatClampNeg = Lw
        exact nI_clamp (by omega)
      refine ⟨Or.inl ⟨rfl, ?_⟩, hb⟩
      show va_T .int b (xlen (S00 Lw xs) 35 0 65536) (xel (L00 t34 b adK adV) (S00 Lw xs) 35 0 0 .int) (fun _ => False) s s.heap
      rw [el]
      refine ⟨scr, h1, h2, h3, by omega, by rw [h4], fun j hj => ?_, fun z => z⟩
      rw [h5 j hj]
      show some (Value.int (xs j)) = some (Value.int (bif Nat.beq j 65536 then nI Lw else xs j))
      rw [n_beq (by omega)]; rfl
    · have hi : i < 3 := hi
      obtain ⟨cell, g, _⟩ := (hSt.1 i hi).1
      refine ⟨Or.inl ⟨rfl, ?_⟩, (Array.getElem?_eq_some_iff.mp g).1⟩
      show (s.heap[adK i]?).isSome = true
      rw [g]; rfl
    · have hi : i < 3 := hi
      have hT := (hSt.1 i hi).2.2.2
      have hl : sLen.getD i 0 ≤ 57 := ql ⟨i, hi⟩
      refine ⟨Or.inl ⟨rfl, ?_⟩, lt_T hT⟩
      refine va_T.cong (A := xA s.heap.size) hT ?_ (fun j hj => ?_) (fun _ h => h.elim)
      · show sLen.getD i 0 = (nI (sLen.getD i 0)).toNatClampNeg
        rw [nI_clamp (by omega)]
      · show Value.int ((sByt.getD i []).getD j 0) = Value.int (bif Nat.beq j 65536 then nI (sLen.getD i 0) else (sByt.getD i []).getD j 0)
        rw [n_beq (by omega)]; rfl
  · refine ⟨va_Zof (hI (.laysStatic "MonsoonTrade" "UNDER" "[I") 1084 (by decide +kernel)) (hI (.initialized "MonsoonTrade") 70 (by decide +kernel)) ht34 hA, va_Zof (hI (.laysStatic "java/lang/String" "COMPACT_STRINGS" "Z") 436 (by decide +kernel)) (hI (.initialized "java/lang/String") 83 (by decide +kernel)) (va_eqi (hs (.eq (.static "java/lang/String" "COMPACT_STRINGS" "Z") (.int 1)) (by decide +kernel))) hA, ?_, fun i hi => ⟨(hSt.1 i hi).1, (hSt.1 i hi).2.2.1, (hSt.1 i hi).2.1⟩⟩
    rcases va_Zqof (C := "jdk/internal/util/Preconditions") (n := "SIOOBE_FORMATTER") (d := "Ljava/util/function/BiFunction;") (A := xA s.heap.size) (hI (.laysStatic "jdk/internal/util/Preconditions" "SIOOBE_FORMATTER" "Ljava/util/function/BiFunction;") 452 (by decide +kernel)) (hI (.initialized "jdk/internal/util/Preconditions") 85 (by decide +kernel)) (hs (.isRef (.static "jdk/internal/util/Preconditions" "SIOOBE_FORMATTER" "Ljava/util/function/BiFunction;")) (by decide +kernel)) hA with h | ⟨t, h⟩
    · exact ⟨_, h, rfl⟩
    · exact ⟨_, h, rfl⟩
  · intro i hi
    have hr : ∀ i : Fin 3, lw_tbl[([422, 501, 513] : List Nat).getD i.1 0]? = some (.stringRef (xsk i.1).1 (xsk i.1).2.1 (xsk i.1).2.2) := by decide +kernel
    exact vk_R.of (hI _ _ (hr ⟨i, hi⟩)) (hR i hi)
theorem st_K {s : State} {args : Array Value} (hts : ∀ w ∈ xT, w.before args s = true) : ∃ D : va_G, va_K D classes [] s := by
  obtain ⟨c0, i0, k0⟩ := u_known (C := RX0) (T := TX0) (N := 9) (n := 9) hts (xlay (ci := 0) rfl) (hts _ (xwd_mem (i := 308) (by decide +kernel) : Cond.instantiable RX0 9 ∈ xT))
  obtain ⟨c1, i1, k1⟩ := u_known (C := RX1) (T := TX1) (N := 2) (n := 2) hts (xlay (ci := 1) rfl) (hts _ (xwd_mem (i := 114) (by decide +kernel) : Cond.instantiable RX1 2 ∈ xT))
  obtain ⟨c2, i2, k2⟩ := u_known (C := RX2) (T := TX2) (N := 12) (n := 12) hts (xlay (ci := 2) rfl) (hts _ (xwd_mem (i := 259) (by decide +kernel) : Cond.instantiable RX2 12 ∈ xT))
  obtain ⟨c3, i3, k3⟩ := u_known (C := RX3) (T := TX3) (N := 6) (n := 6) hts (xlay (ci := 3) rfl) (hts _ (xwd_mem (i := 108) (by decide +kernel) : Cond.instantiable RX3 6 ∈ xT))
  obtain ⟨c4, i4, k4⟩ := u_known (C := RX4) (T := TX4) (N := 6) (n := 6) hts (xlay (ci := 4) rfl) (hts _ (xwd_mem (i := 215) (by decide +kernel) : Cond.instantiable RX4 6 ∈ xT))
  obtain ⟨c5, i5, k5⟩ := u_known (C := RX5) (T := TX5) (N := 3) (n := 3) hts (xlay (ci := 5) rfl) (hts _ (xwd_mem (i := 243) (by decide +kernel) : Cond.instantiable RX5 3 ∈ xT))
  obtain ⟨c6, i6, k6⟩ := u_known (C := RX6) (T := TX6) (N := 3) (n := 3) hts (xlay (ci := 6) rfl) (hts _ (xwd_mem (i := 101) (by decide +kernel) : Cond.instantiable RX6 3 ∈ xT))
  obtain ⟨c7, i7, k7⟩ := u_known (C := RX7) (T := TX7) (N := 3) (n := 3) hts (xlay (ci := 7) rfl) (hts _ (xwd_mem (i := 405) (by decide +kernel) : Cond.instantiable RX7 3 ∈ xT))
  obtain ⟨c8, i8, k8⟩ := u_known (C := RX8) (T := TX8) (N := 2) (n := 2) hts (xlay (ci := 8) rfl) (hts _ (xwd_mem (i := 391) (by decide +kernel) : Cond.instantiable RX8 2 ∈ xT))
  obtain ⟨c9, i9, k9⟩ := u_known (C := RX9) (T := TX9) (N := 6) (n := 6) hts (xlay (ci := 9) rfl) (hts _ (xwd_mem (i := 185) (by decide +kernel) : Cond.instantiable RX9 6 ∈ xT))
  obtain ⟨c10, i10, k10⟩ := u_known (C := RX10) (T := TX10) (N := 8) (n := 8) hts (xlay (ci := 10) rfl) (hts _ (xwd_mem (i := 355) (by decide +kernel) : Cond.instantiable RX10 8 ∈ xT))
  obtain ⟨c11, i11, k11⟩ := u_known (C := RX11) (T := TX11) (N := 14) (n := 14) hts (xlay (ci := 11) rfl) (hts _ (xwd_mem (i := 93) (by decide +kernel) : Cond.instantiable RX11 14 ∈ xT))
  obtain ⟨c12, i12, k12⟩ := u_known (C := RX12) (T := TX12) (N := 59) (n := 59) hts (xlay (ci := 12) rfl) (hts _ (xwd_mem (i := 1100) (by decide +kernel) : Cond.instantiable RX12 59 ∈ xT))
  refine ⟨(fun k => ([c0, c1, c2, c3, c4, c5, c6, c7, c8, c9, c10, c11, c12] : List ClassId).getD k c0, fun k => ([i0, i1, i2, i3, i4, i5, i6, i7, i8, i9, i10, i11, i12] : List (Nat → Nat)).getD k i0), fun k q hq => ?_, fun k q h => by simp at h⟩
  have hk : k < 13 := (List.getElem?_eq_some_iff.mp hq).1
  match k, hk, hq with
  | 0, _, hq => cases hq; exact k0
  | 1, _, hq => cases hq; exact k1
  | 2, _, hq => cases hq; exact k2
  | 3, _, hq => cases hq; exact k3
  | 4, _, hq => cases hq; exact k4
  | 5, _, hq => cases hq; exact k5
  | 6, _, hq => cases hq; exact k6
  | 7, _, hq => cases hq; exact k7
  | 8, _, hq => cases hq; exact k8
  | 9, _, hq => cases hq; exact k9
  | 10, _, hq => cases hq; exact k10
  | 11, _, hq => cases hq; exact k11
  | 12, _, hq => cases hq; exact k12
  | k + 13, h, _ => exact absurd h (by omega)
