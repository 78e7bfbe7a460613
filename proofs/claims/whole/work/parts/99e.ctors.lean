/-! the constructors of the parts, by the kit's rows (written by ctor.py) -/
def w10I : List Cond := .code yX10_init cX10_init 1 none :: xT
def w10A (h0 : Nat) : va_W := [(h0, .inr (10, [.int 0, .int 0, .int 0, .int 0, .int 0, .int 0, .int 0, .int 0]))]
def w10B (Dg : va_G) (h0 : Nat) (u : List Nat × List ClassId) : va_W := [(h0, .inr (10, [.int 0, .int 0, .int 0, .int 0, .int 0, .int 0, .int 0, .int 0]))]
def w10K (Dg : va_G) (u : List Nat × List ClassId) : List (ClassId × FieldType) := []
def cAt10 (Dg : va_G) (A : Nat → Prop) (h0 : Nat) (u : List Nat × List ClassId) (t : State) : Prop := va_P Dg classes (w10B Dg h0 u) t.heap ∧ va_K Dg classes (w10K Dg u) t ∧ va_D A (w10B Dg h0 u)
set_option maxHeartbeats 4000000 in
theorem rf_Venture {d : Nat} {Dg : va_G} (l : Launch) (h0 sz : Nat) : Met l yX10_init w10I (xRm (d + 1) 0 0) (va_Pc [.ref h0] (fun U => U.heap.size = sz ∧ va_P Dg classes (w10A h0) U.heap ∧ va_K Dg classes [] U ∧ va_D (fun _ => True) (w10A h0))) (va_Qv (fun _ => True) (cAt10 Dg (va_A (w10A h0) sz) h0) (va_A (w10A h0) sz)) 0 0 (va_A (w10A h0) sz) := by
  refine Met.ofW (cc := cX10_init) (maxL := 1) (ret := none) (by decide) rfl ?_
  intro p e s m args below meth c s₁ B hml hv
  obtain ⟨rfl, hsz, hP, hK, hD0⟩ := hv
  have hx := B.exec
  have hb := B.bytes
  have hr := B.returns
  have hts0 := atoms_spec (ws := w10I) B.pre
  have hts : ∀ w ∈ xT, w.before _ s = true := fun w hw => hts0 w (List.mem_cons_of_mem _ hw)
  have hown : s.vm.findClass "MonsoonTrade$Venture" = some m.cls := findClass_of_methodNamed B.named
  have hin : meth.name = "<init>" := (name_of_methodNamed B.named B.method).1
  subst hsz
  have hD := hD0.self (sz := s.heap.size)
  generalize hAe : va_A (w10A h0) s.heap.size = A at hD ⊢
  have hA : ∀ q : Nat, s.heap.size ≤ q → A q := fun q h => by rw [← hAe]; exact Or.inr h
  have hS : va_S A s.heap s.heap [] := va_S.rf
  have hP : va_P Dg classes [(h0, .inr (10, [.int 0, .int 0, .int 0, .int 0, .int 0, .int 0, .int 0, .int 0]))] s.heap := hP
  have hD : va_D A [(h0, .inr (10, [.int 0, .int 0, .int 0, .int 0, .int 0, .int 0, .int 0, .int 0]))] := hD
  have hl := lv_entry ([.ref h0]) (n := 1) (Nat.le_of_ble_eq_true rfl)
  rw [lg_entry_eq]
  generalize (lg_sl ([.ref h0]) ++ List.replicate (1 - (lg_sl ([.ref h0])).length) Slot.unset).toArray = ls at hl ⊢
  have hl : lv_has ls 1 [(0, .ref h0)] := hl
  have hcl : classes[10]? = some ("MonsoonTrade$Venture", TX10, 8) := rfl
  have k98 : Cond.instanceMethod Lib.objectInit ∈ xT := xwd_mem (i := 98) (by decide +kernel)
  have k99 : Cond.code Lib.objectInit ⟨#[0xb1]⟩ 1 none ∈ xT := xwd_mem (i := 99) (by decide +kernel)
  have d0 : decode cX10_init 0 = .ok (.aload_n 0, 1) := by decide +kernel
  have d1 : decode cX10_init 1 = .ok (.invokespecial 3, 3) := by decide +kernel
  have kO : Cond.methodLink "MonsoonTrade$Venture" 3 Lib.objectInit ∈ xT := xwd_mem (i := 359) (by decide +kernel)
  have d4 : decode cX10_init 4 = .ok (.return_, 1) := by decide +kernel
  refine lv_aload_n (k := 0) (i := 0) hx hb d0 rfl (lv_at hl 0 rfl) ?_
  refine W.objInit hx hb hown (hts _ kO) (hts _ k98) (hts _ k99) rfl (by rw [hml]; exact hl.1) rfl d1 (by show 1 ≤ d + 1; omega) (by show 2 * 0 + 0 + 12 ≤ 40 * (d + 1); omega) ?_
  refine W.eq (g2 := F0 m 4 ls []) rfl ?_
  refine W.widen (k := 0) (n := 0) (Nat.le_of_ble_eq_true rfl) (Nat.le_of_ble_eq_true rfl) ?_
  exact W.vret hx hb hr (fun t ht hW => ⟨⟨([], []), rfl, trivial, by rw [ht]; exact hP, va_K.moved hW.alike hK, hD⟩, hS.F ht⟩) hS.2.2 d4 B.notSynchronized
def w7I : List Cond := .code yX7_init cX7_init 1 none :: xT
def w7A (h0 : Nat) : va_W := [(h0, .inr (7, [.null, .int 0, .int 0]))]
def w7B (Dg : va_G) (h0 : Nat) (u : List Nat × List ClassId) : va_W := [(h0, .inr (7, [.ref (u.1.getD 0 0), .int (-1), .int 0])), ((u.1.getD 0 0), .inl ((u.2.getD 0 (Dg.1 0)), 40, .inl fun _ => 0))]
def w7K (Dg : va_G) (u : List Nat × List ClassId) : List (ClassId × FieldType) := [((u.2.getD 0 (Dg.1 0)), .int)]
def cAt7 (Dg : va_G) (A : Nat → Prop) (h0 : Nat) (u : List Nat × List ClassId) (t : State) : Prop := va_P Dg classes (w7B Dg h0 u) t.heap ∧ va_K Dg classes (w7K Dg u) t ∧ va_D A (w7B Dg h0 u)
set_option maxHeartbeats 4000000 in
theorem rf_Sheet {d : Nat} {Dg : va_G} (l : Launch) (h0 sz : Nat) : Met l yX7_init w7I (xRm (d + 1) 1 40) (va_Pc [.ref h0] (fun U => U.heap.size = sz ∧ va_P Dg classes (w7A h0) U.heap ∧ va_K Dg classes [] U ∧ va_D (fun _ => True) (w7A h0))) (va_Qv (fun _ => True) (cAt7 Dg (va_A (w7A h0) sz) h0) (va_A (w7A h0) sz)) 1 40 (va_A (w7A h0) sz) := by
  refine Met.ofW (cc := cX7_init) (maxL := 1) (ret := none) (by decide) rfl ?_
  intro p e s m args below meth c s₁ B hml hv
  obtain ⟨rfl, hsz, hP, hK, hD0⟩ := hv
  have hx := B.exec
  have hb := B.bytes
  have hr := B.returns
  have hts0 := atoms_spec (ws := w7I) B.pre
  have hts : ∀ w ∈ xT, w.before _ s = true := fun w hw => hts0 w (List.mem_cons_of_mem _ hw)
  have hown : s.vm.findClass "MonsoonTrade$Sheet" = some m.cls := findClass_of_methodNamed B.named
  have hin : meth.name = "<init>" := (name_of_methodNamed B.named B.method).1
  subst hsz
  have hD := hD0.self (sz := s.heap.size)
  generalize hAe : va_A (w7A h0) s.heap.size = A at hD ⊢
  have hA : ∀ q : Nat, s.heap.size ≤ q → A q := fun q h => by rw [← hAe]; exact Or.inr h
  have hS : va_S A s.heap s.heap [] := va_S.rf
  have hP : va_P Dg classes [(h0, .inr (7, [.null, .int 0, .int 0]))] s.heap := hP
  have hD : va_D A [(h0, .inr (7, [.null, .int 0, .int 0]))] := hD
  have hl := lv_entry ([.ref h0]) (n := 1) (Nat.le_of_ble_eq_true rfl)
  rw [lg_entry_eq]
  generalize (lg_sl ([.ref h0]) ++ List.replicate (1 - (lg_sl ([.ref h0])).length) Slot.unset).toArray = ls at hl ⊢
  have hl : lv_has ls 1 [(0, .ref h0)] := hl
  have hcl : classes[7]? = some ("MonsoonTrade$Sheet", TX7, 3) := rfl
  have k98 : Cond.instanceMethod Lib.objectInit ∈ xT := xwd_mem (i := 98) (by decide +kernel)
  have k99 : Cond.code Lib.objectInit ⟨#[0xb1]⟩ 1 none ∈ xT := xwd_mem (i := 99) (by decide +kernel)
  have d0 : decode cX7_init 0 = .ok (.aload_n 0, 1) := by decide +kernel
  have d1 : decode cX7_init 1 = .ok (.invokespecial 3, 3) := by decide +kernel
  have kO : Cond.methodLink "MonsoonTrade$Sheet" 3 Lib.objectInit ∈ xT := xwd_mem (i := 409) (by decide +kernel)
  have d4 : decode cX7_init 4 = .ok (.aload_n 0, 1) := by decide +kernel
  have d5 : decode cX7_init 5 = .ok (.bipush 40, 2) := by decide +kernel
  have d7 : decode cX7_init 7 = .ok (.newarray .int, 2) := by decide +kernel
  have kA1 : Cond.arrayClass (newarray.typeOf .int) ∈ xT := xwd_mem (i := 134) (by decide +kernel)
  have d9 : decode cX7_init 9 = .ok (.putfield 9, 3) := by decide +kernel
  have kf9 : Cond.fieldLink "MonsoonTrade$Sheet" 9 "MonsoonTrade$Sheet" "cells" "[I" ∈ xT := xwd_mem (i := 410) (by decide +kernel)
  have d12 : decode cX7_init 12 = .ok (.aload_n 0, 1) := by decide +kernel
  have d13 : decode cX7_init 13 = .ok (.iconst (-1), 1) := by decide +kernel
  have d14 : decode cX7_init 14 = .ok (.putfield 15, 3) := by decide +kernel
  have kf14 : Cond.fieldLink "MonsoonTrade$Sheet" 15 "MonsoonTrade$Sheet" "sort" "I" ∈ xT := xwd_mem (i := 412) (by decide +kernel)
  have d17 : decode cX7_init 17 = .ok (.return_, 1) := by decide +kernel
  refine lv_aload_n (k := 0) (i := 0) hx hb d0 rfl (lv_at hl 0 rfl) ?_
  refine W.objInit hx hb hown (hts _ kO) (hts _ k98) (hts _ k99) rfl (by rw [hml]; exact hl.1) rfl d1 (by show 1 ≤ d + 1; omega) (by show 2 * 0 + 0 + 12 ≤ 40 * (d + 1); omega) ?_
  refine W.eq (g2 := F0 m 4 ls []) rfl ?_
  refine lv_aload_n (k := 0) (i := 0) hx hb d4 rfl (lv_at hl 0 rfl) ?_
  refine lv_bipush (n := 40) (v := 40) hx hb d5 rfl ?_
  refine va_newa (N' := 40) (a0 := (40, .inl fun _ => 0)) (ty := .int) hx hb (hts _ kA1) rfl hK hP hD hS hA (fun _ => rfl) (by decide) rfl (by decide) (Nat.le_of_ble_eq_true rfl) (Nat.le_of_ble_eq_true rfl) d7 (fun q1 c1 H hK hP hD hS => ?_)
  have hP : va_P Dg classes [(h0, .inr (7, [.null, .int 0, .int 0])), (q1, .inl (c1, 40, .inl fun _ => 0))] H := hP
  have hD : va_D A [(h0, .inr (7, [.null, .int 0, .int 0])), (q1, .inl (c1, 40, .inl fun _ => 0))] := hD
  have hK : va_K Dg classes [(c1, .int)] s := hK
  refine va_putF (ci := 7) (v := .ref q1) (ty := (.array .int)) (C := "MonsoonTrade$Sheet") (T := TX7) (N := 3) hx hb hts (xlay hcl) tyX7 tyX7_ok nmX7 hown hK hP hD hS 0 rfl rfl 0 (by decide) (hts _ kf9) (fun _ h9 => h9) rfl hin rfl (by decide +kernel) rfl rfl (Nat.le_of_ble_eq_true rfl) d9 (fun H locs hP hD hS => ?_)
  have hP : va_P Dg classes [(h0, .inr (7, [.ref q1, .int 0, .int 0])), (q1, .inl (c1, 40, .inl fun _ => 0))] H := hP
  have hD : va_D A [(h0, .inr (7, [.ref q1, .int 0, .int 0])), (q1, .inl (c1, 40, .inl fun _ => 0))] := hD
  refine lv_aload_n (k := 0) (i := 0) hx hb d12 rfl (lv_at hl 0 rfl) ?_
  refine lv_iconst (n := -1) (v := -1) hx hb d13 rfl ?_
  refine va_put (ci := 7) (v := .int (-1)) (ty := .int) (C := "MonsoonTrade$Sheet") (T := TX7) (N := 3) hx hb hts (xlay hcl) tyX7 tyX7_ok nmX7 hown hK hP hD hS 0 rfl rfl 1 (by decide) (hts _ kf14) (fun _ h9 => h9) rfl (by decide +kernel) rfl rfl (Nat.le_of_ble_eq_true rfl) d14 (fun H locs hP hD hS => ?_)
  have hP : va_P Dg classes [(h0, .inr (7, [.ref q1, .int (-1), .int 0])), (q1, .inl (c1, 40, .inl fun _ => 0))] H := hP
  have hD : va_D A [(h0, .inr (7, [.ref q1, .int (-1), .int 0])), (q1, .inl (c1, 40, .inl fun _ => 0))] := hD
  refine W.widen (k := 1) (n := 40) (Nat.le_of_ble_eq_true rfl) (Nat.le_of_ble_eq_true rfl) ?_
  exact W.vret hx hb hr (fun t ht hW => ⟨⟨([q1], [c1]), rfl, trivial, by rw [ht]; exact hP, va_K.moved hW.alike hK, hD⟩, hS.F ht⟩) hS.2.2 d17 B.notSynchronized
def w9I : List Cond := .code yX9_init cX9_init 1 none :: xT
def w9A (h0 : Nat) : va_W := [(h0, .inr (9, [.null, .int 0, .int 0, .int 0, .int 0, .int 0]))]
def w9B (Dg : va_G) (h0 : Nat) (u : List Nat × List ClassId) : va_W := [(h0, .inr (9, [.ref (u.1.getD 0 0), .int 0, .int 0, .int 0, .int 0, .int 0])), ((u.1.getD 0 0), .inl ((u.2.getD 0 (Dg.1 0)), 160, .inl fun _ => 0))]
def w9K (Dg : va_G) (u : List Nat × List ClassId) : List (ClassId × FieldType) := [((u.2.getD 0 (Dg.1 0)), .byte)]
def cAt9 (Dg : va_G) (A : Nat → Prop) (h0 : Nat) (u : List Nat × List ClassId) (t : State) : Prop := va_P Dg classes (w9B Dg h0 u) t.heap ∧ va_K Dg classes (w9K Dg u) t ∧ va_D A (w9B Dg h0 u)
set_option maxHeartbeats 4000000 in
theorem rf_Tokens {d : Nat} {Dg : va_G} (l : Launch) (h0 sz : Nat) : Met l yX9_init w9I (xRm (d + 1) 1 160) (va_Pc [.ref h0] (fun U => U.heap.size = sz ∧ va_P Dg classes (w9A h0) U.heap ∧ va_K Dg classes [] U ∧ va_D (fun _ => True) (w9A h0))) (va_Qv (fun _ => True) (cAt9 Dg (va_A (w9A h0) sz) h0) (va_A (w9A h0) sz)) 1 160 (va_A (w9A h0) sz) := by
  refine Met.ofW (cc := cX9_init) (maxL := 1) (ret := none) (by decide) rfl ?_
  intro p e s m args below meth c s₁ B hml hv
  obtain ⟨rfl, hsz, hP, hK, hD0⟩ := hv
  have hx := B.exec
  have hb := B.bytes
  have hr := B.returns
  have hts0 := atoms_spec (ws := w9I) B.pre
  have hts : ∀ w ∈ xT, w.before _ s = true := fun w hw => hts0 w (List.mem_cons_of_mem _ hw)
  have hown : s.vm.findClass "MonsoonTrade$Tokens" = some m.cls := findClass_of_methodNamed B.named
  have hin : meth.name = "<init>" := (name_of_methodNamed B.named B.method).1
  subst hsz
  have hD := hD0.self (sz := s.heap.size)
  generalize hAe : va_A (w9A h0) s.heap.size = A at hD ⊢
  have hA : ∀ q : Nat, s.heap.size ≤ q → A q := fun q h => by rw [← hAe]; exact Or.inr h
  have hS : va_S A s.heap s.heap [] := va_S.rf
  have hP : va_P Dg classes [(h0, .inr (9, [.null, .int 0, .int 0, .int 0, .int 0, .int 0]))] s.heap := hP
  have hD : va_D A [(h0, .inr (9, [.null, .int 0, .int 0, .int 0, .int 0, .int 0]))] := hD
  have hl := lv_entry ([.ref h0]) (n := 1) (Nat.le_of_ble_eq_true rfl)
  rw [lg_entry_eq]
  generalize (lg_sl ([.ref h0]) ++ List.replicate (1 - (lg_sl ([.ref h0])).length) Slot.unset).toArray = ls at hl ⊢
  have hl : lv_has ls 1 [(0, .ref h0)] := hl
  have hcl : classes[9]? = some ("MonsoonTrade$Tokens", TX9, 6) := rfl
  have k98 : Cond.instanceMethod Lib.objectInit ∈ xT := xwd_mem (i := 98) (by decide +kernel)
  have k99 : Cond.code Lib.objectInit ⟨#[0xb1]⟩ 1 none ∈ xT := xwd_mem (i := 99) (by decide +kernel)
  have d0 : decode cX9_init 0 = .ok (.aload_n 0, 1) := by decide +kernel
  have d1 : decode cX9_init 1 = .ok (.invokespecial 3, 3) := by decide +kernel
  have kO : Cond.methodLink "MonsoonTrade$Tokens" 3 Lib.objectInit ∈ xT := xwd_mem (i := 189) (by decide +kernel)
  have d4 : decode cX9_init 4 = .ok (.aload_n 0, 1) := by decide +kernel
  have d5 : decode cX9_init 5 = .ok (.sipush 160, 3) := by decide +kernel
  have d8 : decode cX9_init 8 = .ok (.newarray .byte, 2) := by decide +kernel
  have kA1 : Cond.arrayClass (newarray.typeOf .byte) ∈ xT := xwd_mem (i := 213) (by decide +kernel)
  have d10 : decode cX9_init 10 = .ok (.putfield 9, 3) := by decide +kernel
  have kf10 : Cond.fieldLink "MonsoonTrade$Tokens" 9 "MonsoonTrade$Tokens" "bytes" "[B" ∈ xT := xwd_mem (i := 190) (by decide +kernel)
  have d13 : decode cX9_init 13 = .ok (.return_, 1) := by decide +kernel
  refine lv_aload_n (k := 0) (i := 0) hx hb d0 rfl (lv_at hl 0 rfl) ?_
  refine W.objInit hx hb hown (hts _ kO) (hts _ k98) (hts _ k99) rfl (by rw [hml]; exact hl.1) rfl d1 (by show 1 ≤ d + 1; omega) (by show 2 * 0 + 0 + 12 ≤ 40 * (d + 1); omega) ?_
  refine W.eq (g2 := F0 m 4 ls []) rfl ?_
  refine lv_aload_n (k := 0) (i := 0) hx hb d4 rfl (lv_at hl 0 rfl) ?_
  refine lv_sipush (n := 160) (v := 160) hx hb d5 rfl ?_
  refine va_newa (N' := 160) (a0 := (160, .inl fun _ => 0)) (ty := .byte) hx hb (hts _ kA1) rfl hK hP hD hS hA (fun _ => rfl) (by decide) rfl (by decide) (Nat.le_of_ble_eq_true rfl) (Nat.le_of_ble_eq_true rfl) d8 (fun q1 c1 H hK hP hD hS => ?_)
  have hP : va_P Dg classes [(h0, .inr (9, [.null, .int 0, .int 0, .int 0, .int 0, .int 0])), (q1, .inl (c1, 160, .inl fun _ => 0))] H := hP
  have hD : va_D A [(h0, .inr (9, [.null, .int 0, .int 0, .int 0, .int 0, .int 0])), (q1, .inl (c1, 160, .inl fun _ => 0))] := hD
  have hK : va_K Dg classes [(c1, .byte)] s := hK
  refine va_putF (ci := 9) (v := .ref q1) (ty := (.array .byte)) (C := "MonsoonTrade$Tokens") (T := TX9) (N := 6) hx hb hts (xlay hcl) tyX9 tyX9_ok nmX9 hown hK hP hD hS 0 rfl rfl 0 (by decide) (hts _ kf10) (fun _ h9 => h9) rfl hin rfl (by decide +kernel) rfl rfl (Nat.le_of_ble_eq_true rfl) d10 (fun H locs hP hD hS => ?_)
  have hP : va_P Dg classes [(h0, .inr (9, [.ref q1, .int 0, .int 0, .int 0, .int 0, .int 0])), (q1, .inl (c1, 160, .inl fun _ => 0))] H := hP
  have hD : va_D A [(h0, .inr (9, [.ref q1, .int 0, .int 0, .int 0, .int 0, .int 0])), (q1, .inl (c1, 160, .inl fun _ => 0))] := hD
  refine W.widen (k := 1) (n := 160) (Nat.le_of_ble_eq_true rfl) (Nat.le_of_ble_eq_true rfl) ?_
  exact W.vret hx hb hr (fun t ht hW => ⟨⟨([q1], [c1]), rfl, trivial, by rw [ht]; exact hP, va_K.moved hW.alike hK, hD⟩, hS.F ht⟩) hS.2.2 d13 B.notSynchronized
def w4I : List Cond := .code yX4_init cX4_init 2 none :: xT
def w4A (h0 : Nat) : va_W := [(h0, .inr (4, [.null, .null, .null, .int 0, .int 0, .int 0]))]
def w4B (Dg : va_G) (h0 a1 : Nat) (u : List Nat × List ClassId) : va_W := [(h0, .inr (4, [.ref a1, .ref (u.1.getD 0 0), .ref (u.1.getD 1 0), .int 0, .int 0, .int 0])), ((u.1.getD 0 0), .inl ((u.2.getD 0 (Dg.1 0)), 160, .inl fun _ => 0)), ((u.1.getD 1 0), .inl ((u.2.getD 1 (Dg.1 0)), 3, .inl fun _ => 0))]
def w4K (Dg : va_G) (u : List Nat × List ClassId) : List (ClassId × FieldType) := [((u.2.getD 0 (Dg.1 0)), .int), ((u.2.getD 1 (Dg.1 0)), .int)]
def cAt4 (Dg : va_G) (A : Nat → Prop) (h0 a1 : Nat) (u : List Nat × List ClassId) (t : State) : Prop := va_P Dg classes (w4B Dg h0 a1 u) t.heap ∧ va_K Dg classes (w4K Dg u) t ∧ va_D A (w4B Dg h0 a1 u)
set_option maxHeartbeats 4000000 in
theorem rf_Reader {d : Nat} {Dg : va_G} (l : Launch) (h0 a1 sz : Nat) : Met l yX4_init w4I (xRm (d + 1) 2 163) (va_Pc [.ref h0, .ref a1] (fun U => U.heap.size = sz ∧ va_P Dg classes (w4A h0) U.heap ∧ va_K Dg classes [] U ∧ va_D (fun _ => True) (w4A h0))) (va_Qv (fun _ => True) (cAt4 Dg (va_A (w4A h0) sz) h0 a1) (va_A (w4A h0) sz)) 2 163 (va_A (w4A h0) sz) := by
  refine Met.ofW (cc := cX4_init) (maxL := 2) (ret := none) (by decide) rfl ?_
  intro p e s m args below meth c s₁ B hml hv
  obtain ⟨rfl, hsz, hP, hK, hD0⟩ := hv
  have hx := B.exec
  have hb := B.bytes
  have hr := B.returns
  have hts0 := atoms_spec (ws := w4I) B.pre
  have hts : ∀ w ∈ xT, w.before _ s = true := fun w hw => hts0 w (List.mem_cons_of_mem _ hw)
  have hown : s.vm.findClass "MonsoonTrade$Reader" = some m.cls := findClass_of_methodNamed B.named
  have hin : meth.name = "<init>" := (name_of_methodNamed B.named B.method).1
  subst hsz
  have hD := hD0.self (sz := s.heap.size)
  generalize hAe : va_A (w4A h0) s.heap.size = A at hD ⊢
  have hA : ∀ q : Nat, s.heap.size ≤ q → A q := fun q h => by rw [← hAe]; exact Or.inr h
  have hS : va_S A s.heap s.heap [] := va_S.rf
  have hP : va_P Dg classes [(h0, .inr (4, [.null, .null, .null, .int 0, .int 0, .int 0]))] s.heap := hP
  have hD : va_D A [(h0, .inr (4, [.null, .null, .null, .int 0, .int 0, .int 0]))] := hD
  have hl := lv_entry ([.ref h0, .ref a1]) (n := 2) (Nat.le_of_ble_eq_true rfl)
  rw [lg_entry_eq]
  generalize (lg_sl ([.ref h0, .ref a1]) ++ List.replicate (2 - (lg_sl ([.ref h0, .ref a1])).length) Slot.unset).toArray = ls at hl ⊢
  have hl : lv_has ls 2 [(0, .ref h0), (1, .ref a1)] := hl
  have hcl : classes[4]? = some ("MonsoonTrade$Reader", TX4, 6) := rfl
  have k98 : Cond.instanceMethod Lib.objectInit ∈ xT := xwd_mem (i := 98) (by decide +kernel)
  have k99 : Cond.code Lib.objectInit ⟨#[0xb1]⟩ 1 none ∈ xT := xwd_mem (i := 99) (by decide +kernel)
  have d0 : decode cX4_init 0 = .ok (.aload_n 0, 1) := by decide +kernel
  have d1 : decode cX4_init 1 = .ok (.invokespecial 3, 3) := by decide +kernel
  have kO : Cond.methodLink "MonsoonTrade$Reader" 3 Lib.objectInit ∈ xT := xwd_mem (i := 219) (by decide +kernel)
  have d4 : decode cX4_init 4 = .ok (.aload_n 0, 1) := by decide +kernel
  have d5 : decode cX4_init 5 = .ok (.sipush 160, 3) := by decide +kernel
  have d8 : decode cX4_init 8 = .ok (.newarray .int, 2) := by decide +kernel
  have kA1 : Cond.arrayClass (newarray.typeOf .int) ∈ xT := xwd_mem (i := 134) (by decide +kernel)
  have d10 : decode cX4_init 10 = .ok (.putfield 9, 3) := by decide +kernel
  have kf10 : Cond.fieldLink "MonsoonTrade$Reader" 9 "MonsoonTrade$Reader" "code" "[I" ∈ xT := xwd_mem (i := 221) (by decide +kernel)
  have d13 : decode cX4_init 13 = .ok (.aload_n 0, 1) := by decide +kernel
  have d14 : decode cX4_init 14 = .ok (.iconst (3), 1) := by decide +kernel
  have d15 : decode cX4_init 15 = .ok (.newarray .int, 2) := by decide +kernel
  have kA2 : Cond.arrayClass (newarray.typeOf .int) ∈ xT := xwd_mem (i := 134) (by decide +kernel)
  have d17 : decode cX4_init 17 = .ok (.putfield 15, 3) := by decide +kernel
  have kf17 : Cond.fieldLink "MonsoonTrade$Reader" 15 "MonsoonTrade$Reader" "ends" "[I" ∈ xT := xwd_mem (i := 223) (by decide +kernel)
  have d20 : decode cX4_init 20 = .ok (.aload_n 0, 1) := by decide +kernel
  have d21 : decode cX4_init 21 = .ok (.aload_n 1, 1) := by decide +kernel
  have d22 : decode cX4_init 22 = .ok (.putfield 18, 3) := by decide +kernel
  have kf22 : Cond.fieldLink "MonsoonTrade$Reader" 18 "MonsoonTrade$Reader" "tokens" "LMonsoonTrade$Tokens;" ∈ xT := xwd_mem (i := 220) (by decide +kernel)
  have d25 : decode cX4_init 25 = .ok (.return_, 1) := by decide +kernel
  refine lv_aload_n (k := 0) (i := 0) hx hb d0 rfl (lv_at hl 0 rfl) ?_
  refine W.objInit hx hb hown (hts _ kO) (hts _ k98) (hts _ k99) rfl (by rw [hml]; exact hl.1) rfl d1 (by show 1 ≤ d + 1; omega) (by show 2 * 0 + 0 + 12 ≤ 40 * (d + 1); omega) ?_
  refine W.eq (g2 := F0 m 4 ls []) rfl ?_
  refine lv_aload_n (k := 0) (i := 0) hx hb d4 rfl (lv_at hl 0 rfl) ?_
  refine lv_sipush (n := 160) (v := 160) hx hb d5 rfl ?_
  refine va_newa (N' := 160) (a0 := (160, .inl fun _ => 0)) (ty := .int) hx hb (hts _ kA1) rfl hK hP hD hS hA (fun _ => rfl) (by decide) rfl (by decide) (Nat.le_of_ble_eq_true rfl) (Nat.le_of_ble_eq_true rfl) d8 (fun q1 c1 H hK hP hD hS => ?_)
  have hP : va_P Dg classes [(h0, .inr (4, [.null, .null, .null, .int 0, .int 0, .int 0])), (q1, .inl (c1, 160, .inl fun _ => 0))] H := hP
  have hD : va_D A [(h0, .inr (4, [.null, .null, .null, .int 0, .int 0, .int 0])), (q1, .inl (c1, 160, .inl fun _ => 0))] := hD
  have hK : va_K Dg classes [(c1, .int)] s := hK
  refine va_putF (ci := 4) (v := .ref q1) (ty := (.array .int)) (C := "MonsoonTrade$Reader") (T := TX4) (N := 6) hx hb hts (xlay hcl) tyX4 tyX4_ok nmX4 hown hK hP hD hS 0 rfl rfl 1 (by decide) (hts _ kf10) (fun _ h9 => h9) rfl hin rfl (by decide +kernel) rfl rfl (Nat.le_of_ble_eq_true rfl) d10 (fun H locs hP hD hS => ?_)
  have hP : va_P Dg classes [(h0, .inr (4, [.null, .ref q1, .null, .int 0, .int 0, .int 0])), (q1, .inl (c1, 160, .inl fun _ => 0))] H := hP
  have hD : va_D A [(h0, .inr (4, [.null, .ref q1, .null, .int 0, .int 0, .int 0])), (q1, .inl (c1, 160, .inl fun _ => 0))] := hD
  refine lv_aload_n (k := 0) (i := 0) hx hb d13 rfl (lv_at hl 0 rfl) ?_
  refine lv_iconst (n := 3) (v := 3) hx hb d14 rfl ?_
  refine va_newa (N' := 3) (a0 := (3, .inl fun _ => 0)) (ty := .int) hx hb (hts _ kA2) rfl hK hP hD hS hA (fun _ => rfl) (by decide) rfl (by decide) (Nat.le_of_ble_eq_true rfl) (Nat.le_of_ble_eq_true rfl) d15 (fun q2 c2 H hK hP hD hS => ?_)
  have hP : va_P Dg classes [(h0, .inr (4, [.null, .ref q1, .null, .int 0, .int 0, .int 0])), (q1, .inl (c1, 160, .inl fun _ => 0)), (q2, .inl (c2, 3, .inl fun _ => 0))] H := hP
  have hD : va_D A [(h0, .inr (4, [.null, .ref q1, .null, .int 0, .int 0, .int 0])), (q1, .inl (c1, 160, .inl fun _ => 0)), (q2, .inl (c2, 3, .inl fun _ => 0))] := hD
  have hK : va_K Dg classes [(c1, .int), (c2, .int)] s := hK
  refine va_putF (ci := 4) (v := .ref q2) (ty := (.array .int)) (C := "MonsoonTrade$Reader") (T := TX4) (N := 6) hx hb hts (xlay hcl) tyX4 tyX4_ok nmX4 hown hK hP hD hS 0 rfl rfl 2 (by decide) (hts _ kf17) (fun _ h9 => h9) rfl hin rfl (by decide +kernel) rfl rfl (Nat.le_of_ble_eq_true rfl) d17 (fun H locs hP hD hS => ?_)
  have hP : va_P Dg classes [(h0, .inr (4, [.null, .ref q1, .ref q2, .int 0, .int 0, .int 0])), (q1, .inl (c1, 160, .inl fun _ => 0)), (q2, .inl (c2, 3, .inl fun _ => 0))] H := hP
  have hD : va_D A [(h0, .inr (4, [.null, .ref q1, .ref q2, .int 0, .int 0, .int 0])), (q1, .inl (c1, 160, .inl fun _ => 0)), (q2, .inl (c2, 3, .inl fun _ => 0))] := hD
  refine lv_aload_n (k := 0) (i := 0) hx hb d20 rfl (lv_at hl 0 rfl) ?_
  refine lv_aload_n (k := 1) (i := 1) hx hb d21 rfl (lv_at hl 1 rfl) ?_
  refine va_putF (ci := 4) (v := .ref a1) (ty := (.object "MonsoonTrade$Tokens")) (C := "MonsoonTrade$Reader") (T := TX4) (N := 6) hx hb hts (xlay hcl) tyX4 tyX4_ok nmX4 hown hK hP hD hS 0 rfl rfl 0 (by decide) (hts _ kf22) (fun _ h9 => h9) rfl hin rfl (by decide +kernel) rfl rfl (Nat.le_of_ble_eq_true rfl) d22 (fun H locs hP hD hS => ?_)
  have hP : va_P Dg classes [(h0, .inr (4, [.ref a1, .ref q1, .ref q2, .int 0, .int 0, .int 0])), (q1, .inl (c1, 160, .inl fun _ => 0)), (q2, .inl (c2, 3, .inl fun _ => 0))] H := hP
  have hD : va_D A [(h0, .inr (4, [.ref a1, .ref q1, .ref q2, .int 0, .int 0, .int 0])), (q1, .inl (c1, 160, .inl fun _ => 0)), (q2, .inl (c2, 3, .inl fun _ => 0))] := hD
  refine W.widen (k := 2) (n := 163) (Nat.le_of_ble_eq_true rfl) (Nat.le_of_ble_eq_true rfl) ?_
  exact W.vret hx hb hr (fun t ht hW => ⟨⟨([q1, q2], [c1, c2]), rfl, trivial, by rw [ht]; exact hP, va_K.moved hW.alike hK, hD⟩, hS.F ht⟩) hS.2.2 d25 B.notSynchronized
def w5I : List Cond := .code yX5_init cX5_init 1 none :: xT
def w5A (h0 : Nat) : va_W := [(h0, .inr (5, [.null, .null, .int 0]))]
def w5B (Dg : va_G) (h0 : Nat) (u : List Nat × List ClassId) : va_W := [(h0, .inr (5, [.ref (u.1.getD 0 0), .ref (u.1.getD 1 0), .int 0])), ((u.1.getD 0 0), .inl ((u.2.getD 0 (Dg.1 0)), 6, .inl fun _ => 0)), ((u.1.getD 1 0), .inl ((u.2.getD 1 (Dg.1 0)), 160, .inl fun _ => 0))]
def w5K (Dg : va_G) (u : List Nat × List ClassId) : List (ClassId × FieldType) := [((u.2.getD 0 (Dg.1 0)), .int), ((u.2.getD 1 (Dg.1 0)), .int)]
def cAt5 (Dg : va_G) (A : Nat → Prop) (h0 : Nat) (u : List Nat × List ClassId) (t : State) : Prop := va_P Dg classes (w5B Dg h0 u) t.heap ∧ va_K Dg classes (w5K Dg u) t ∧ va_D A (w5B Dg h0 u)
set_option maxHeartbeats 4000000 in
theorem rf_Reckoner {d : Nat} {Dg : va_G} (l : Launch) (h0 sz : Nat) : Met l yX5_init w5I (xRm (d + 1) 2 166) (va_Pc [.ref h0] (fun U => U.heap.size = sz ∧ va_P Dg classes (w5A h0) U.heap ∧ va_K Dg classes [] U ∧ va_D (fun _ => True) (w5A h0))) (va_Qv (fun _ => True) (cAt5 Dg (va_A (w5A h0) sz) h0) (va_A (w5A h0) sz)) 2 166 (va_A (w5A h0) sz) := by
  refine Met.ofW (cc := cX5_init) (maxL := 1) (ret := none) (by decide) rfl ?_
  intro p e s m args below meth c s₁ B hml hv
  obtain ⟨rfl, hsz, hP, hK, hD0⟩ := hv
  have hx := B.exec
  have hb := B.bytes
  have hr := B.returns
  have hts0 := atoms_spec (ws := w5I) B.pre
  have hts : ∀ w ∈ xT, w.before _ s = true := fun w hw => hts0 w (List.mem_cons_of_mem _ hw)
  have hown : s.vm.findClass "MonsoonTrade$Reckoner" = some m.cls := findClass_of_methodNamed B.named
  have hin : meth.name = "<init>" := (name_of_methodNamed B.named B.method).1
  subst hsz
  have hD := hD0.self (sz := s.heap.size)
  generalize hAe : va_A (w5A h0) s.heap.size = A at hD ⊢
  have hA : ∀ q : Nat, s.heap.size ≤ q → A q := fun q h => by rw [← hAe]; exact Or.inr h
  have hS : va_S A s.heap s.heap [] := va_S.rf
  have hP : va_P Dg classes [(h0, .inr (5, [.null, .null, .int 0]))] s.heap := hP
  have hD : va_D A [(h0, .inr (5, [.null, .null, .int 0]))] := hD
  have hl := lv_entry ([.ref h0]) (n := 1) (Nat.le_of_ble_eq_true rfl)
  rw [lg_entry_eq]
  generalize (lg_sl ([.ref h0]) ++ List.replicate (1 - (lg_sl ([.ref h0])).length) Slot.unset).toArray = ls at hl ⊢
  have hl : lv_has ls 1 [(0, .ref h0)] := hl
  have hcl : classes[5]? = some ("MonsoonTrade$Reckoner", TX5, 3) := rfl
  have k98 : Cond.instanceMethod Lib.objectInit ∈ xT := xwd_mem (i := 98) (by decide +kernel)
  have k99 : Cond.code Lib.objectInit ⟨#[0xb1]⟩ 1 none ∈ xT := xwd_mem (i := 99) (by decide +kernel)
  have d0 : decode cX5_init 0 = .ok (.aload_n 0, 1) := by decide +kernel
  have d1 : decode cX5_init 1 = .ok (.invokespecial 3, 3) := by decide +kernel
  have kO : Cond.methodLink "MonsoonTrade$Reckoner" 3 Lib.objectInit ∈ xT := xwd_mem (i := 247) (by decide +kernel)
  have d4 : decode cX5_init 4 = .ok (.aload_n 0, 1) := by decide +kernel
  have d5 : decode cX5_init 5 = .ok (.bipush 6, 2) := by decide +kernel
  have d7 : decode cX5_init 7 = .ok (.newarray .int, 2) := by decide +kernel
  have kA1 : Cond.arrayClass (newarray.typeOf .int) ∈ xT := xwd_mem (i := 134) (by decide +kernel)
  have d9 : decode cX5_init 9 = .ok (.putfield 11, 3) := by decide +kernel
  have kf9 : Cond.fieldLink "MonsoonTrade$Reckoner" 11 "MonsoonTrade$Reckoner" "values" "[I" ∈ xT := xwd_mem (i := 248) (by decide +kernel)
  have d12 : decode cX5_init 12 = .ok (.aload_n 0, 1) := by decide +kernel
  have d13 : decode cX5_init 13 = .ok (.sipush 160, 3) := by decide +kernel
  have d16 : decode cX5_init 16 = .ok (.newarray .int, 2) := by decide +kernel
  have kA2 : Cond.arrayClass (newarray.typeOf .int) ∈ xT := xwd_mem (i := 134) (by decide +kernel)
  have d18 : decode cX5_init 18 = .ok (.putfield 15, 3) := by decide +kernel
  have kf18 : Cond.fieldLink "MonsoonTrade$Reckoner" 15 "MonsoonTrade$Reckoner" "stack" "[I" ∈ xT := xwd_mem (i := 249) (by decide +kernel)
  have d21 : decode cX5_init 21 = .ok (.return_, 1) := by decide +kernel
  refine lv_aload_n (k := 0) (i := 0) hx hb d0 rfl (lv_at hl 0 rfl) ?_
  refine W.objInit hx hb hown (hts _ kO) (hts _ k98) (hts _ k99) rfl (by rw [hml]; exact hl.1) rfl d1 (by show 1 ≤ d + 1; omega) (by show 2 * 0 + 0 + 12 ≤ 40 * (d + 1); omega) ?_
  refine W.eq (g2 := F0 m 4 ls []) rfl ?_
  refine lv_aload_n (k := 0) (i := 0) hx hb d4 rfl (lv_at hl 0 rfl) ?_
  refine lv_bipush (n := 6) (v := 6) hx hb d5 rfl ?_
  refine va_newa (N' := 6) (a0 := (6, .inl fun _ => 0)) (ty := .int) hx hb (hts _ kA1) rfl hK hP hD hS hA (fun _ => rfl) (by decide) rfl (by decide) (Nat.le_of_ble_eq_true rfl) (Nat.le_of_ble_eq_true rfl) d7 (fun q1 c1 H hK hP hD hS => ?_)
  have hP : va_P Dg classes [(h0, .inr (5, [.null, .null, .int 0])), (q1, .inl (c1, 6, .inl fun _ => 0))] H := hP
  have hD : va_D A [(h0, .inr (5, [.null, .null, .int 0])), (q1, .inl (c1, 6, .inl fun _ => 0))] := hD
  have hK : va_K Dg classes [(c1, .int)] s := hK
  refine va_putF (ci := 5) (v := .ref q1) (ty := (.array .int)) (C := "MonsoonTrade$Reckoner") (T := TX5) (N := 3) hx hb hts (xlay hcl) tyX5 tyX5_ok nmX5 hown hK hP hD hS 0 rfl rfl 0 (by decide) (hts _ kf9) (fun _ h9 => h9) rfl hin rfl (by decide +kernel) rfl rfl (Nat.le_of_ble_eq_true rfl) d9 (fun H locs hP hD hS => ?_)
  have hP : va_P Dg classes [(h0, .inr (5, [.ref q1, .null, .int 0])), (q1, .inl (c1, 6, .inl fun _ => 0))] H := hP
  have hD : va_D A [(h0, .inr (5, [.ref q1, .null, .int 0])), (q1, .inl (c1, 6, .inl fun _ => 0))] := hD
  refine lv_aload_n (k := 0) (i := 0) hx hb d12 rfl (lv_at hl 0 rfl) ?_
  refine lv_sipush (n := 160) (v := 160) hx hb d13 rfl ?_
  refine va_newa (N' := 160) (a0 := (160, .inl fun _ => 0)) (ty := .int) hx hb (hts _ kA2) rfl hK hP hD hS hA (fun _ => rfl) (by decide) rfl (by decide) (Nat.le_of_ble_eq_true rfl) (Nat.le_of_ble_eq_true rfl) d16 (fun q2 c2 H hK hP hD hS => ?_)
  have hP : va_P Dg classes [(h0, .inr (5, [.ref q1, .null, .int 0])), (q1, .inl (c1, 6, .inl fun _ => 0)), (q2, .inl (c2, 160, .inl fun _ => 0))] H := hP
  have hD : va_D A [(h0, .inr (5, [.ref q1, .null, .int 0])), (q1, .inl (c1, 6, .inl fun _ => 0)), (q2, .inl (c2, 160, .inl fun _ => 0))] := hD
  have hK : va_K Dg classes [(c1, .int), (c2, .int)] s := hK
  refine va_putF (ci := 5) (v := .ref q2) (ty := (.array .int)) (C := "MonsoonTrade$Reckoner") (T := TX5) (N := 3) hx hb hts (xlay hcl) tyX5 tyX5_ok nmX5 hown hK hP hD hS 0 rfl rfl 1 (by decide) (hts _ kf18) (fun _ h9 => h9) rfl hin rfl (by decide +kernel) rfl rfl (Nat.le_of_ble_eq_true rfl) d18 (fun H locs hP hD hS => ?_)
  have hP : va_P Dg classes [(h0, .inr (5, [.ref q1, .ref q2, .int 0])), (q1, .inl (c1, 6, .inl fun _ => 0)), (q2, .inl (c2, 160, .inl fun _ => 0))] H := hP
  have hD : va_D A [(h0, .inr (5, [.ref q1, .ref q2, .int 0])), (q1, .inl (c1, 6, .inl fun _ => 0)), (q2, .inl (c2, 160, .inl fun _ => 0))] := hD
  refine W.widen (k := 2) (n := 166) (Nat.le_of_ble_eq_true rfl) (Nat.le_of_ble_eq_true rfl) ?_
  exact W.vret hx hb hr (fun t ht hW => ⟨⟨([q1, q2], [c1, c2]), rfl, trivial, by rw [ht]; exact hP, va_K.moved hW.alike hK, hD⟩, hS.F ht⟩) hS.2.2 d21 B.notSynchronized
def w8I : List Cond := .code yX8_init cX8_init 1 none :: xT
def w8A (h0 : Nat) : va_W := [(h0, .inr (8, [.null, .null]))]
def w8B (Dg : va_G) (h0 : Nat) (u : List Nat × List ClassId) : va_W := [(h0, .inr (8, [.ref (u.1.getD 0 0), .ref (u.1.getD 1 0)])), ((u.1.getD 0 0), .inl ((u.2.getD 0 (Dg.1 0)), 0, .inl fun _ => 0)), ((u.1.getD 1 0), .inl ((u.2.getD 1 (Dg.1 0)), 3, .inl fun _ => 0))]
def w8K (Dg : va_G) (u : List Nat × List ClassId) : List (ClassId × FieldType) := [((u.2.getD 0 (Dg.1 0)), .int), ((u.2.getD 1 (Dg.1 0)), .int)]
def cAt8 (Dg : va_G) (A : Nat → Prop) (h0 : Nat) (u : List Nat × List ClassId) (t : State) : Prop := va_P Dg classes (w8B Dg h0 u) t.heap ∧ va_K Dg classes (w8K Dg u) t ∧ va_D A (w8B Dg h0 u)
set_option maxHeartbeats 4000000 in
theorem rf_Text {d : Nat} {Dg : va_G} (l : Launch) (h0 sz : Nat) : Met l yX8_init w8I (xRm (d + 1) 2 3) (va_Pc [.ref h0] (fun U => U.heap.size = sz ∧ va_P Dg classes (w8A h0) U.heap ∧ va_K Dg classes [] U ∧ va_D (fun _ => True) (w8A h0))) (va_Qv (fun _ => True) (cAt8 Dg (va_A (w8A h0) sz) h0) (va_A (w8A h0) sz)) 2 3 (va_A (w8A h0) sz) := by
  refine Met.ofW (cc := cX8_init) (maxL := 1) (ret := none) (by decide) rfl ?_
  intro p e s m args below meth c s₁ B hml hv
  obtain ⟨rfl, hsz, hP, hK, hD0⟩ := hv
  have hx := B.exec
  have hb := B.bytes
  have hr := B.returns
  have hts0 := atoms_spec (ws := w8I) B.pre
  have hts : ∀ w ∈ xT, w.before _ s = true := fun w hw => hts0 w (List.mem_cons_of_mem _ hw)
  have hown : s.vm.findClass "MonsoonTrade$Text" = some m.cls := findClass_of_methodNamed B.named
  have hin : meth.name = "<init>" := (name_of_methodNamed B.named B.method).1
  subst hsz
  have hD := hD0.self (sz := s.heap.size)
  generalize hAe : va_A (w8A h0) s.heap.size = A at hD ⊢
  have hA : ∀ q : Nat, s.heap.size ≤ q → A q := fun q h => by rw [← hAe]; exact Or.inr h
  have hS : va_S A s.heap s.heap [] := va_S.rf
  have hP : va_P Dg classes [(h0, .inr (8, [.null, .null]))] s.heap := hP
  have hD : va_D A [(h0, .inr (8, [.null, .null]))] := hD
  have hl := lv_entry ([.ref h0]) (n := 1) (Nat.le_of_ble_eq_true rfl)
  rw [lg_entry_eq]
  generalize (lg_sl ([.ref h0]) ++ List.replicate (1 - (lg_sl ([.ref h0])).length) Slot.unset).toArray = ls at hl ⊢
  have hl : lv_has ls 1 [(0, .ref h0)] := hl
  have hcl : classes[8]? = some ("MonsoonTrade$Text", TX8, 2) := rfl
  have k98 : Cond.instanceMethod Lib.objectInit ∈ xT := xwd_mem (i := 98) (by decide +kernel)
  have k99 : Cond.code Lib.objectInit ⟨#[0xb1]⟩ 1 none ∈ xT := xwd_mem (i := 99) (by decide +kernel)
  have d0 : decode cX8_init 0 = .ok (.aload_n 0, 1) := by decide +kernel
  have d1 : decode cX8_init 1 = .ok (.invokespecial 3, 3) := by decide +kernel
  have kO : Cond.methodLink "MonsoonTrade$Text" 3 Lib.objectInit ∈ xT := xwd_mem (i := 395) (by decide +kernel)
  have d4 : decode cX8_init 4 = .ok (.aload_n 0, 1) := by decide +kernel
  have d5 : decode cX8_init 5 = .ok (.iconst (0), 1) := by decide +kernel
  have d6 : decode cX8_init 6 = .ok (.newarray .int, 2) := by decide +kernel
  have kA1 : Cond.arrayClass (newarray.typeOf .int) ∈ xT := xwd_mem (i := 134) (by decide +kernel)
  have d8 : decode cX8_init 8 = .ok (.putfield 9, 3) := by decide +kernel
  have kf8 : Cond.fieldLink "MonsoonTrade$Text" 9 "MonsoonTrade$Text" "code" "[I" ∈ xT := xwd_mem (i := 396) (by decide +kernel)
  have d11 : decode cX8_init 11 = .ok (.aload_n 0, 1) := by decide +kernel
  have d12 : decode cX8_init 12 = .ok (.iconst (3), 1) := by decide +kernel
  have d13 : decode cX8_init 13 = .ok (.newarray .int, 2) := by decide +kernel
  have kA2 : Cond.arrayClass (newarray.typeOf .int) ∈ xT := xwd_mem (i := 134) (by decide +kernel)
  have d15 : decode cX8_init 15 = .ok (.putfield 15, 3) := by decide +kernel
  have kf15 : Cond.fieldLink "MonsoonTrade$Text" 15 "MonsoonTrade$Text" "ends" "[I" ∈ xT := xwd_mem (i := 398) (by decide +kernel)
  have d18 : decode cX8_init 18 = .ok (.return_, 1) := by decide +kernel
  refine lv_aload_n (k := 0) (i := 0) hx hb d0 rfl (lv_at hl 0 rfl) ?_
  refine W.objInit hx hb hown (hts _ kO) (hts _ k98) (hts _ k99) rfl (by rw [hml]; exact hl.1) rfl d1 (by show 1 ≤ d + 1; omega) (by show 2 * 0 + 0 + 12 ≤ 40 * (d + 1); omega) ?_
  refine W.eq (g2 := F0 m 4 ls []) rfl ?_
  refine lv_aload_n (k := 0) (i := 0) hx hb d4 rfl (lv_at hl 0 rfl) ?_
  refine lv_iconst (n := 0) (v := 0) hx hb d5 rfl ?_
  refine va_newa (N' := 0) (a0 := (0, .inl fun _ => 0)) (ty := .int) hx hb (hts _ kA1) rfl hK hP hD hS hA (fun _ => rfl) (by decide) rfl (by decide) (Nat.le_of_ble_eq_true rfl) (Nat.le_of_ble_eq_true rfl) d6 (fun q1 c1 H hK hP hD hS => ?_)
  have hP : va_P Dg classes [(h0, .inr (8, [.null, .null])), (q1, .inl (c1, 0, .inl fun _ => 0))] H := hP
  have hD : va_D A [(h0, .inr (8, [.null, .null])), (q1, .inl (c1, 0, .inl fun _ => 0))] := hD
  have hK : va_K Dg classes [(c1, .int)] s := hK
  refine va_put (ci := 8) (v := .ref q1) (ty := (.array .int)) (C := "MonsoonTrade$Text") (T := TX8) (N := 2) hx hb hts (xlay hcl) tyX8 tyX8_ok nmX8 hown hK hP hD hS 0 rfl rfl 0 (by decide) (hts _ kf8) (fun _ h9 => h9) rfl (by decide +kernel) rfl rfl (Nat.le_of_ble_eq_true rfl) d8 (fun H locs hP hD hS => ?_)
  have hP : va_P Dg classes [(h0, .inr (8, [.ref q1, .null])), (q1, .inl (c1, 0, .inl fun _ => 0))] H := hP
  have hD : va_D A [(h0, .inr (8, [.ref q1, .null])), (q1, .inl (c1, 0, .inl fun _ => 0))] := hD
  refine lv_aload_n (k := 0) (i := 0) hx hb d11 rfl (lv_at hl 0 rfl) ?_
  refine lv_iconst (n := 3) (v := 3) hx hb d12 rfl ?_
  refine va_newa (N' := 3) (a0 := (3, .inl fun _ => 0)) (ty := .int) hx hb (hts _ kA2) rfl hK hP hD hS hA (fun _ => rfl) (by decide) rfl (by decide) (Nat.le_of_ble_eq_true rfl) (Nat.le_of_ble_eq_true rfl) d13 (fun q2 c2 H hK hP hD hS => ?_)
  have hP : va_P Dg classes [(h0, .inr (8, [.ref q1, .null])), (q1, .inl (c1, 0, .inl fun _ => 0)), (q2, .inl (c2, 3, .inl fun _ => 0))] H := hP
  have hD : va_D A [(h0, .inr (8, [.ref q1, .null])), (q1, .inl (c1, 0, .inl fun _ => 0)), (q2, .inl (c2, 3, .inl fun _ => 0))] := hD
  have hK : va_K Dg classes [(c1, .int), (c2, .int)] s := hK
  refine va_putF (ci := 8) (v := .ref q2) (ty := (.array .int)) (C := "MonsoonTrade$Text") (T := TX8) (N := 2) hx hb hts (xlay hcl) tyX8 tyX8_ok nmX8 hown hK hP hD hS 0 rfl rfl 1 (by decide) (hts _ kf15) (fun _ h9 => h9) rfl hin rfl (by decide +kernel) rfl rfl (Nat.le_of_ble_eq_true rfl) d15 (fun H locs hP hD hS => ?_)
  have hP : va_P Dg classes [(h0, .inr (8, [.ref q1, .ref q2])), (q1, .inl (c1, 0, .inl fun _ => 0)), (q2, .inl (c2, 3, .inl fun _ => 0))] H := hP
  have hD : va_D A [(h0, .inr (8, [.ref q1, .ref q2])), (q1, .inl (c1, 0, .inl fun _ => 0)), (q2, .inl (c2, 3, .inl fun _ => 0))] := hD
  refine W.widen (k := 2) (n := 3) (Nat.le_of_ble_eq_true rfl) (Nat.le_of_ble_eq_true rfl) ?_
  exact W.vret hx hb hr (fun t ht hW => ⟨⟨([q1, q2], [c1, c2]), rfl, trivial, by rw [ht]; exact hP, va_K.moved hW.alike hK, hD⟩, hS.F ht⟩) hS.2.2 d18 B.notSynchronized
def w3I : List Cond := .code yX3_init cX3_init 1 none :: xT
def w3A (h0 : Nat) : va_W := [(h0, .inr (3, [.int 0, .int 0, .null, .null, .null, .null]))]
def w3B (Dg : va_G) (h0 : Nat) (u : List Nat × List ClassId) : va_W := [(h0, .inr (3, [.int 0, .int 0, .ref (u.1.getD 0 0), .ref (u.1.getD 1 0), .ref (u.1.getD 2 0), .ref (u.1.getD 3 0)])), ((u.1.getD 0 0), .inl ((u.2.getD 0 (Dg.1 0)), 4, .inl fun _ => 0)), ((u.1.getD 1 0), .inl ((u.2.getD 1 (Dg.1 0)), 4, .inl fun _ => 0)), ((u.1.getD 2 0), .inl ((u.2.getD 2 (Dg.1 0)), 4, .inl fun _ => 0)), ((u.1.getD 3 0), .inr (1, [.ref (u.1.getD 4 0), .ref (u.1.getD 5 0)])), ((u.1.getD 4 0), .inl ((u.2.getD 3 (Dg.1 0)), 6, .inl fun _ => -1)), ((u.1.getD 5 0), .inl ((u.2.getD 4 (Dg.1 0)), 24, .inl fun _ => 0))]
def w3K (Dg : va_G) (u : List Nat × List ClassId) : List (ClassId × FieldType) := [((u.2.getD 0 (Dg.1 0)), .int), ((u.2.getD 1 (Dg.1 0)), .int), ((u.2.getD 2 (Dg.1 0)), .int), ((u.2.getD 3 (Dg.1 0)), .int), ((u.2.getD 4 (Dg.1 0)), .int)]
def cAt3 (Dg : va_G) (A : Nat → Prop) (h0 : Nat) (u : List Nat × List ClassId) (t : State) : Prop := va_P Dg classes (w3B Dg h0 u) t.heap ∧ va_K Dg classes (w3K Dg u) t ∧ va_D A (w3B Dg h0 u)
set_option maxHeartbeats 4000000 in
theorem rf_Port {d : Nat} {Dg : va_G} (l : Launch) (h0 sz : Nat) : Met l yX3_init w3I (xRm (d + 3) 6 44) (va_Pc [.ref h0] (fun U => U.heap.size = sz ∧ va_P Dg classes (w3A h0) U.heap ∧ va_K Dg classes [] U ∧ va_D (fun _ => True) (w3A h0))) (va_Qv (fun _ => True) (cAt3 Dg (va_A (w3A h0) sz) h0) (va_A (w3A h0) sz)) 6 44 (va_A (w3A h0) sz) := by
  refine Met.ofW (cc := cX3_init) (maxL := 1) (ret := none) (by decide) rfl ?_
  intro p e s m args below meth c s₁ B hml hv
  obtain ⟨rfl, hsz, hP, hK, hD0⟩ := hv
  have hx := B.exec
  have hb := B.bytes
  have hr := B.returns
  have hts0 := atoms_spec (ws := w3I) B.pre
  have hts : ∀ w ∈ xT, w.before _ s = true := fun w hw => hts0 w (List.mem_cons_of_mem _ hw)
  have hown : s.vm.findClass "MonsoonTrade$Port" = some m.cls := findClass_of_methodNamed B.named
  have hin : meth.name = "<init>" := (name_of_methodNamed B.named B.method).1
  subst hsz
  have hD := hD0.self (sz := s.heap.size)
  generalize hAe : va_A (w3A h0) s.heap.size = A at hD ⊢
  have hA : ∀ q : Nat, s.heap.size ≤ q → A q := fun q h => by rw [← hAe]; exact Or.inr h
  have hS : va_S A s.heap s.heap [] := va_S.rf
  have hP : va_P Dg classes [(h0, .inr (3, [.int 0, .int 0, .null, .null, .null, .null]))] s.heap := hP
  have hD : va_D A [(h0, .inr (3, [.int 0, .int 0, .null, .null, .null, .null]))] := hD
  have hl := lv_entry ([.ref h0]) (n := 1) (Nat.le_of_ble_eq_true rfl)
  rw [lg_entry_eq]
  generalize (lg_sl ([.ref h0]) ++ List.replicate (1 - (lg_sl ([.ref h0])).length) Slot.unset).toArray = ls at hl ⊢
  have hl : lv_has ls 1 [(0, .ref h0)] := hl
  have hcl : classes[3]? = some ("MonsoonTrade$Port", TX3, 6) := rfl
  have k98 : Cond.instanceMethod Lib.objectInit ∈ xT := xwd_mem (i := 98) (by decide +kernel)
  have k99 : Cond.code Lib.objectInit ⟨#[0xb1]⟩ 1 none ∈ xT := xwd_mem (i := 99) (by decide +kernel)
  have d0 : decode cX3_init 0 = .ok (.aload_n 0, 1) := by decide +kernel
  have d1 : decode cX3_init 1 = .ok (.invokespecial 3, 3) := by decide +kernel
  have kO : Cond.methodLink "MonsoonTrade$Port" 3 Lib.objectInit ∈ xT := xwd_mem (i := 112) (by decide +kernel)
  have d4 : decode cX3_init 4 = .ok (.aload_n 0, 1) := by decide +kernel
  have d5 : decode cX3_init 5 = .ok (.iconst (4), 1) := by decide +kernel
  have d6 : decode cX3_init 6 = .ok (.newarray .int, 2) := by decide +kernel
  have kA1 : Cond.arrayClass (newarray.typeOf .int) ∈ xT := xwd_mem (i := 134) (by decide +kernel)
  have d8 : decode cX3_init 8 = .ok (.putfield 9, 3) := by decide +kernel
  have kf8 : Cond.fieldLink "MonsoonTrade$Port" 9 "MonsoonTrade$Port" "base" "[I" ∈ xT := xwd_mem (i := 137) (by decide +kernel)
  have d11 : decode cX3_init 11 = .ok (.aload_n 0, 1) := by decide +kernel
  have d12 : decode cX3_init 12 = .ok (.iconst (4), 1) := by decide +kernel
  have d13 : decode cX3_init 13 = .ok (.newarray .int, 2) := by decide +kernel
  have kA2 : Cond.arrayClass (newarray.typeOf .int) ∈ xT := xwd_mem (i := 134) (by decide +kernel)
  have d15 : decode cX3_init 15 = .ok (.putfield 15, 3) := by decide +kernel
  have kf15 : Cond.fieldLink "MonsoonTrade$Port" 15 "MonsoonTrade$Port" "fall" "[I" ∈ xT := xwd_mem (i := 140) (by decide +kernel)
  have d18 : decode cX3_init 18 = .ok (.aload_n 0, 1) := by decide +kernel
  have d19 : decode cX3_init 19 = .ok (.iconst (4), 1) := by decide +kernel
  have d20 : decode cX3_init 20 = .ok (.newarray .int, 2) := by decide +kernel
  have kA3 : Cond.arrayClass (newarray.typeOf .int) ∈ xT := xwd_mem (i := 134) (by decide +kernel)
  have d22 : decode cX3_init 22 = .ok (.putfield 18, 3) := by decide +kernel
  have kf22 : Cond.fieldLink "MonsoonTrade$Port" 18 "MonsoonTrade$Port" "landed" "[I" ∈ xT := xwd_mem (i := 142) (by decide +kernel)
  have d25 : decode cX3_init 25 = .ok (.aload_n 0, 1) := by decide +kernel
  have d26 : decode cX3_init 26 = .ok (.new 21, 3) := by decide +kernel
  have kN : Cond.classLink "MonsoonTrade$Port" 21 "MonsoonTrade$News" ∈ xT := xwd_mem (i := 113) (by decide +kernel)
  have kN1 : Cond.instantiable "MonsoonTrade$News" 2 ∈ xT := xwd_mem (i := 114) (by decide +kernel)
  have kN2 : Cond.initialized "MonsoonTrade$News" ∈ xT := xwd_mem (i := 73) (by decide +kernel)
  have d29 : decode cX3_init 29 = .ok (.dup, 1) := by decide +kernel
  have d30 : decode cX3_init 30 = .ok (.invokespecial 23, 3) := by decide +kernel
  have kM : Cond.methodLink "MonsoonTrade$Port" 23 yX1_init ∈ xT := xwd_mem (i := 115) (by decide +kernel)
  have kM1 : Cond.instanceMethod yX1_init ∈ xT := xwd_mem (i := 116) (by decide +kernel)
  have kM2 : Cond.code yX1_init cX1_init 1 none ∈ xT := xwd_mem (i := 117) (by decide +kernel)
  have d33 : decode cX3_init 33 = .ok (.putfield 24, 3) := by decide +kernel
  have kf33 : Cond.fieldLink "MonsoonTrade$Port" 24 "MonsoonTrade$Port" "news" "LMonsoonTrade$News;" ∈ xT := xwd_mem (i := 144) (by decide +kernel)
  have d36 : decode cX3_init 36 = .ok (.return_, 1) := by decide +kernel
  refine lv_aload_n (k := 0) (i := 0) hx hb d0 rfl (lv_at hl 0 rfl) ?_
  refine W.objInit hx hb hown (hts _ kO) (hts _ k98) (hts _ k99) rfl (by rw [hml]; exact hl.1) rfl d1 (by show 1 ≤ d + 3; omega) (by show 2 * 0 + 0 + 12 ≤ 40 * (d + 3); omega) ?_
  refine W.eq (g2 := F0 m 4 ls []) rfl ?_
  refine lv_aload_n (k := 0) (i := 0) hx hb d4 rfl (lv_at hl 0 rfl) ?_
  refine lv_iconst (n := 4) (v := 4) hx hb d5 rfl ?_
  refine va_newa (N' := 4) (a0 := (4, .inl fun _ => 0)) (ty := .int) hx hb (hts _ kA1) rfl hK hP hD hS hA (fun _ => rfl) (by decide) rfl (by decide) (Nat.le_of_ble_eq_true rfl) (Nat.le_of_ble_eq_true rfl) d6 (fun q1 c1 H hK hP hD hS => ?_)
  have hP : va_P Dg classes [(h0, .inr (3, [.int 0, .int 0, .null, .null, .null, .null])), (q1, .inl (c1, 4, .inl fun _ => 0))] H := hP
  have hD : va_D A [(h0, .inr (3, [.int 0, .int 0, .null, .null, .null, .null])), (q1, .inl (c1, 4, .inl fun _ => 0))] := hD
  have hK : va_K Dg classes [(c1, .int)] s := hK
  refine va_putF (ci := 3) (v := .ref q1) (ty := (.array .int)) (C := "MonsoonTrade$Port") (T := TX3) (N := 6) hx hb hts (xlay hcl) tyX3 tyX3_ok nmX3 hown hK hP hD hS 0 rfl rfl 2 (by decide) (hts _ kf8) (fun _ h9 => h9) rfl hin rfl (by decide +kernel) rfl rfl (Nat.le_of_ble_eq_true rfl) d8 (fun H locs hP hD hS => ?_)
  have hP : va_P Dg classes [(h0, .inr (3, [.int 0, .int 0, .ref q1, .null, .null, .null])), (q1, .inl (c1, 4, .inl fun _ => 0))] H := hP
  have hD : va_D A [(h0, .inr (3, [.int 0, .int 0, .ref q1, .null, .null, .null])), (q1, .inl (c1, 4, .inl fun _ => 0))] := hD
  refine lv_aload_n (k := 0) (i := 0) hx hb d11 rfl (lv_at hl 0 rfl) ?_
  refine lv_iconst (n := 4) (v := 4) hx hb d12 rfl ?_
  refine va_newa (N' := 4) (a0 := (4, .inl fun _ => 0)) (ty := .int) hx hb (hts _ kA2) rfl hK hP hD hS hA (fun _ => rfl) (by decide) rfl (by decide) (Nat.le_of_ble_eq_true rfl) (Nat.le_of_ble_eq_true rfl) d13 (fun q2 c2 H hK hP hD hS => ?_)
  have hP : va_P Dg classes [(h0, .inr (3, [.int 0, .int 0, .ref q1, .null, .null, .null])), (q1, .inl (c1, 4, .inl fun _ => 0)), (q2, .inl (c2, 4, .inl fun _ => 0))] H := hP
  have hD : va_D A [(h0, .inr (3, [.int 0, .int 0, .ref q1, .null, .null, .null])), (q1, .inl (c1, 4, .inl fun _ => 0)), (q2, .inl (c2, 4, .inl fun _ => 0))] := hD
  have hK : va_K Dg classes [(c1, .int), (c2, .int)] s := hK
  refine va_putF (ci := 3) (v := .ref q2) (ty := (.array .int)) (C := "MonsoonTrade$Port") (T := TX3) (N := 6) hx hb hts (xlay hcl) tyX3 tyX3_ok nmX3 hown hK hP hD hS 0 rfl rfl 3 (by decide) (hts _ kf15) (fun _ h9 => h9) rfl hin rfl (by decide +kernel) rfl rfl (Nat.le_of_ble_eq_true rfl) d15 (fun H locs hP hD hS => ?_)
  have hP : va_P Dg classes [(h0, .inr (3, [.int 0, .int 0, .ref q1, .ref q2, .null, .null])), (q1, .inl (c1, 4, .inl fun _ => 0)), (q2, .inl (c2, 4, .inl fun _ => 0))] H := hP
  have hD : va_D A [(h0, .inr (3, [.int 0, .int 0, .ref q1, .ref q2, .null, .null])), (q1, .inl (c1, 4, .inl fun _ => 0)), (q2, .inl (c2, 4, .inl fun _ => 0))] := hD
  refine lv_aload_n (k := 0) (i := 0) hx hb d18 rfl (lv_at hl 0 rfl) ?_
  refine lv_iconst (n := 4) (v := 4) hx hb d19 rfl ?_
  refine va_newa (N' := 4) (a0 := (4, .inl fun _ => 0)) (ty := .int) hx hb (hts _ kA3) rfl hK hP hD hS hA (fun _ => rfl) (by decide) rfl (by decide) (Nat.le_of_ble_eq_true rfl) (Nat.le_of_ble_eq_true rfl) d20 (fun q3 c3 H hK hP hD hS => ?_)
  have hP : va_P Dg classes [(h0, .inr (3, [.int 0, .int 0, .ref q1, .ref q2, .null, .null])), (q1, .inl (c1, 4, .inl fun _ => 0)), (q2, .inl (c2, 4, .inl fun _ => 0)), (q3, .inl (c3, 4, .inl fun _ => 0))] H := hP
  have hD : va_D A [(h0, .inr (3, [.int 0, .int 0, .ref q1, .ref q2, .null, .null])), (q1, .inl (c1, 4, .inl fun _ => 0)), (q2, .inl (c2, 4, .inl fun _ => 0)), (q3, .inl (c3, 4, .inl fun _ => 0))] := hD
  have hK : va_K Dg classes [(c1, .int), (c2, .int), (c3, .int)] s := hK
  refine va_putF (ci := 3) (v := .ref q3) (ty := (.array .int)) (C := "MonsoonTrade$Port") (T := TX3) (N := 6) hx hb hts (xlay hcl) tyX3 tyX3_ok nmX3 hown hK hP hD hS 0 rfl rfl 4 (by decide) (hts _ kf22) (fun _ h9 => h9) rfl hin rfl (by decide +kernel) rfl rfl (Nat.le_of_ble_eq_true rfl) d22 (fun H locs hP hD hS => ?_)
  have hP : va_P Dg classes [(h0, .inr (3, [.int 0, .int 0, .ref q1, .ref q2, .ref q3, .null])), (q1, .inl (c1, 4, .inl fun _ => 0)), (q2, .inl (c2, 4, .inl fun _ => 0)), (q3, .inl (c3, 4, .inl fun _ => 0))] H := hP
  have hD : va_D A [(h0, .inr (3, [.int 0, .int 0, .ref q1, .ref q2, .ref q3, .null])), (q1, .inl (c1, 4, .inl fun _ => 0)), (q2, .inl (c2, 4, .inl fun _ => 0)), (q3, .inl (c3, 4, .inl fun _ => 0))] := hD
  refine lv_aload_n (k := 0) (i := 0) hx hb d25 rfl (lv_at hl 0 rfl) ?_
  refine va_new (ci := 1) (fs := [.null, .null]) (C := "MonsoonTrade$News") (T := TX1) (N := 2) hx hb hts (xlay (ci := 1) rfl) tyX1 tyX1_ok hown (hts _ kN) (hts _ kN1) (hts _ kN2) hK hP hD hS hA rfl (fun j hj => by rcases (show j = 0 ∨ j = 1 by omega) with rfl | rfl <;> rfl) (Nat.le_of_ble_eq_true rfl) (Nat.le_of_ble_eq_true rfl) d26 (fun qn H hP hD hS => ?_)
  have hP : va_P Dg classes [(h0, .inr (3, [.int 0, .int 0, .ref q1, .ref q2, .ref q3, .null])), (q1, .inl (c1, 4, .inl fun _ => 0)), (q2, .inl (c2, 4, .inl fun _ => 0)), (q3, .inl (c3, 4, .inl fun _ => 0)), (qn, .inr (1, [.null, .null]))] H := hP
  have hD : va_D A [(h0, .inr (3, [.int 0, .int 0, .ref q1, .ref q2, .ref q3, .null])), (q1, .inl (c1, 4, .inl fun _ => 0)), (q2, .inl (c2, 4, .inl fun _ => 0)), (q3, .inl (c3, 4, .inl fun _ => 0)), (qn, .inr (1, [.null, .null]))] := hD
  refine lv_dup hx hb d29 rfl ?_
  have hPc := hP.sub (ws' := nwsA qn) [4] rfl
  have hDc := hD.sub (ws' := nwsA qn) [4] (by decide) rfl
  have hKc := hK.sub (tys' := []) [] rfl
  have hFc := va_free (wc := nwsA qn) hD hS hA [4] rfl
  refine va_callv (va_runI (As := []) (rest := [.ref qn, .ref h0]) ⟨hx, hb, hml, hown, hts⟩ (rf_news (d := d) (Dg := Dg) l qn H.size) (cwI 0 hts (xgoodI kM2) rfl rfl rfl (hts _ kN2) (hts _ kM) (hts _ kM1) rfl (by decide +kernel) (by show d + 2 + 1 ≤ d + 3 ∧ 8 + (1 + 11) + 40 * (d + 2) ≤ 40 * (d + 3); omega)) ⟨fun a U g mk q => by obtain ⟨q0, q1, qP, qK, qD⟩ := q; exact ⟨q0, q1, qP, va_K.moved (u := U) (U := U.calling g mk a) (Vm.Alike.refl U.vm) qK, qD⟩, fun U hU hW => ⟨rfl, by rw [hU], by rw [hU]; exact hPc, va_K.moved hW.alike hKc, hDc.weaken (fun _ _ _ _ => trivial)⟩⟩ rfl rfl hl.1 rfl (lv_room (Nat.le_of_ble_eq_true rfl)) d30 ⟨Nat.le_of_ble_eq_true rfl, Nat.le_of_ble_eq_true rfl⟩) hS (fun q _ h => hFc q h) hFc (fun u t H1 locs ht hvm hw hB hz1 hk1 hS => ?_)
  obtain ⟨qa, qb, ca, cb⟩ := u
  obtain ⟨hP1, hK1, hD1⟩ := hB
  rw [ht] at hP1
  have hK1 := va_K.moved hvm.symm hK1
  obtain ⟨hP, hD⟩ := va_join (wr := [(h0, .inr (3, [.int 0, .int 0, .ref q1, .ref q2, .ref q3, .null])), (q1, .inl (c1, 4, .inl fun _ => 0)), (q2, .inl (c2, 4, .inl fun _ => 0)), (q3, .inl (c3, 4, .inl fun _ => 0))]) (w1 := nwsB qn (qa, qb, ca, cb)) hP hD [4] [0, 1, 2, 3] rfl rfl (by decide) (by decide) hk1 hFc hP1 hD1
  have hK := (hK.sub (tys' := [(c1, .int), (c2, .int), (c3, .int)]) [0, 1, 2] rfl).app hK1
  generalize H1 = H at hP hS ⊢
  have hP : va_P Dg classes [(h0, .inr (3, [.int 0, .int 0, .ref q1, .ref q2, .ref q3, .null])), (q1, .inl (c1, 4, .inl fun _ => 0)), (q2, .inl (c2, 4, .inl fun _ => 0)), (q3, .inl (c3, 4, .inl fun _ => 0)), (qn, .inr (1, [.ref qa, .ref qb])), (qa, .inl (ca, 6, .inl fun _ => -1)), (qb, .inl (cb, 24, .inl fun _ => 0))] H := hP
  have hD : va_D A [(h0, .inr (3, [.int 0, .int 0, .ref q1, .ref q2, .ref q3, .null])), (q1, .inl (c1, 4, .inl fun _ => 0)), (q2, .inl (c2, 4, .inl fun _ => 0)), (q3, .inl (c3, 4, .inl fun _ => 0)), (qn, .inr (1, [.ref qa, .ref qb])), (qa, .inl (ca, 6, .inl fun _ => -1)), (qb, .inl (cb, 24, .inl fun _ => 0))] := hD
  have hK : va_K Dg classes [(c1, .int), (c2, .int), (c3, .int), (ca, .int), (cb, .int)] s := hK
  refine va_putF (ci := 3) (v := .ref qn) (ty := (.object "MonsoonTrade$News")) (C := "MonsoonTrade$Port") (T := TX3) (N := 6) hx hb hts (xlay hcl) tyX3 tyX3_ok nmX3 hown hK hP hD hS 0 rfl rfl 5 (by decide) (hts _ kf33) (fun _ h9 => h9) rfl hin rfl (by decide +kernel) rfl rfl (Nat.le_of_ble_eq_true rfl) d33 (fun H locs hP hD hS => ?_)
  have hP : va_P Dg classes [(h0, .inr (3, [.int 0, .int 0, .ref q1, .ref q2, .ref q3, .ref qn])), (q1, .inl (c1, 4, .inl fun _ => 0)), (q2, .inl (c2, 4, .inl fun _ => 0)), (q3, .inl (c3, 4, .inl fun _ => 0)), (qn, .inr (1, [.ref qa, .ref qb])), (qa, .inl (ca, 6, .inl fun _ => -1)), (qb, .inl (cb, 24, .inl fun _ => 0))] H := hP
  have hD : va_D A [(h0, .inr (3, [.int 0, .int 0, .ref q1, .ref q2, .ref q3, .ref qn])), (q1, .inl (c1, 4, .inl fun _ => 0)), (q2, .inl (c2, 4, .inl fun _ => 0)), (q3, .inl (c3, 4, .inl fun _ => 0)), (qn, .inr (1, [.ref qa, .ref qb])), (qa, .inl (ca, 6, .inl fun _ => -1)), (qb, .inl (cb, 24, .inl fun _ => 0))] := hD
  refine W.widen (k := 6) (n := 44) (Nat.le_of_ble_eq_true rfl) (Nat.le_of_ble_eq_true rfl) ?_
  exact W.vret hx hb hr (fun t ht hW => ⟨⟨([q1, q2, q3, qn, qa, qb], [c1, c2, c3, ca, cb]), rfl, trivial, by rw [ht]; exact hP, va_K.moved hW.alike hK, hD⟩, hS.F ht⟩) hS.2.2 d36 B.notSynchronized
def w0I : List Cond := .code yX0_init cX0_init 1 none :: xT
def w0A (h0 : Nat) : va_W := [(h0, .inr (0, [.int 0, .int 0, .int 0, .int 0, .int 0, .null, .int 0, .int 0, .null]))]
def w0B (Dg : va_G) (h0 : Nat) (u : List Nat × List ClassId) : va_W := [(h0, .inr (0, [.int (-1), .int (-1), .int 0, .int 0, .int 0, .ref (u.1.getD 0 0), .int (-1), .int 0, .ref (u.1.getD 1 0)])), ((u.1.getD 0 0), .inl ((u.2.getD 0 (Dg.1 0)), 4, .inl fun _ => 0)), ((u.1.getD 1 0), .inr (1, [.ref (u.1.getD 2 0), .ref (u.1.getD 3 0)])), ((u.1.getD 2 0), .inl ((u.2.getD 1 (Dg.1 0)), 6, .inl fun _ => -1)), ((u.1.getD 3 0), .inl ((u.2.getD 2 (Dg.1 0)), 24, .inl fun _ => 0))]
def w0K (Dg : va_G) (u : List Nat × List ClassId) : List (ClassId × FieldType) := [((u.2.getD 0 (Dg.1 0)), .int), ((u.2.getD 1 (Dg.1 0)), .int), ((u.2.getD 2 (Dg.1 0)), .int)]
def cAt0 (Dg : va_G) (A : Nat → Prop) (h0 : Nat) (u : List Nat × List ClassId) (t : State) : Prop := va_P Dg classes (w0B Dg h0 u) t.heap ∧ va_K Dg classes (w0K Dg u) t ∧ va_D A (w0B Dg h0 u)
set_option maxHeartbeats 4000000 in
theorem rf_Dhow {d : Nat} {Dg : va_G} (l : Launch) (h0 sz : Nat) : Met l yX0_init w0I (xRm (d + 3) 4 36) (va_Pc [.ref h0] (fun U => U.heap.size = sz ∧ va_P Dg classes (w0A h0) U.heap ∧ va_K Dg classes [] U ∧ va_D (fun _ => True) (w0A h0))) (va_Qv (fun _ => True) (cAt0 Dg (va_A (w0A h0) sz) h0) (va_A (w0A h0) sz)) 4 36 (va_A (w0A h0) sz) := by
  refine Met.ofW (cc := cX0_init) (maxL := 1) (ret := none) (by decide) rfl ?_
  intro p e s m args below meth c s₁ B hml hv
  obtain ⟨rfl, hsz, hP, hK, hD0⟩ := hv
  have hx := B.exec
  have hb := B.bytes
  have hr := B.returns
  have hts0 := atoms_spec (ws := w0I) B.pre
  have hts : ∀ w ∈ xT, w.before _ s = true := fun w hw => hts0 w (List.mem_cons_of_mem _ hw)
  have hown : s.vm.findClass "MonsoonTrade$Dhow" = some m.cls := findClass_of_methodNamed B.named
  have hin : meth.name = "<init>" := (name_of_methodNamed B.named B.method).1
  subst hsz
  have hD := hD0.self (sz := s.heap.size)
  generalize hAe : va_A (w0A h0) s.heap.size = A at hD ⊢
  have hA : ∀ q : Nat, s.heap.size ≤ q → A q := fun q h => by rw [← hAe]; exact Or.inr h
  have hS : va_S A s.heap s.heap [] := va_S.rf
  have hP : va_P Dg classes [(h0, .inr (0, [.int 0, .int 0, .int 0, .int 0, .int 0, .null, .int 0, .int 0, .null]))] s.heap := hP
  have hD : va_D A [(h0, .inr (0, [.int 0, .int 0, .int 0, .int 0, .int 0, .null, .int 0, .int 0, .null]))] := hD
  have hl := lv_entry ([.ref h0]) (n := 1) (Nat.le_of_ble_eq_true rfl)
  rw [lg_entry_eq]
  generalize (lg_sl ([.ref h0]) ++ List.replicate (1 - (lg_sl ([.ref h0])).length) Slot.unset).toArray = ls at hl ⊢
  have hl : lv_has ls 1 [(0, .ref h0)] := hl
  have hcl : classes[0]? = some ("MonsoonTrade$Dhow", TX0, 9) := rfl
  have k98 : Cond.instanceMethod Lib.objectInit ∈ xT := xwd_mem (i := 98) (by decide +kernel)
  have k99 : Cond.code Lib.objectInit ⟨#[0xb1]⟩ 1 none ∈ xT := xwd_mem (i := 99) (by decide +kernel)
  have d0 : decode cX0_init 0 = .ok (.aload_n 0, 1) := by decide +kernel
  have d1 : decode cX0_init 1 = .ok (.invokespecial 3, 3) := by decide +kernel
  have kO : Cond.methodLink "MonsoonTrade$Dhow" 3 Lib.objectInit ∈ xT := xwd_mem (i := 312) (by decide +kernel)
  have d4 : decode cX0_init 4 = .ok (.aload_n 0, 1) := by decide +kernel
  have d5 : decode cX0_init 5 = .ok (.iconst (-1), 1) := by decide +kernel
  have d6 : decode cX0_init 6 = .ok (.putfield 9, 3) := by decide +kernel
  have kf6 : Cond.fieldLink "MonsoonTrade$Dhow" 9 "MonsoonTrade$Dhow" "port" "I" ∈ xT := xwd_mem (i := 315) (by decide +kernel)
  have d9 : decode cX0_init 9 = .ok (.aload_n 0, 1) := by decide +kernel
  have d10 : decode cX0_init 10 = .ok (.iconst (-1), 1) := by decide +kernel
  have d11 : decode cX0_init 11 = .ok (.putfield 15, 3) := by decide +kernel
  have kf11 : Cond.fieldLink "MonsoonTrade$Dhow" 15 "MonsoonTrade$Dhow" "comes" "I" ∈ xT := xwd_mem (i := 318) (by decide +kernel)
  have d14 : decode cX0_init 14 = .ok (.aload_n 0, 1) := by decide +kernel
  have d15 : decode cX0_init 15 = .ok (.iconst (4), 1) := by decide +kernel
  have d16 : decode cX0_init 16 = .ok (.newarray .int, 2) := by decide +kernel
  have kA1 : Cond.arrayClass (newarray.typeOf .int) ∈ xT := xwd_mem (i := 134) (by decide +kernel)
  have d18 : decode cX0_init 18 = .ok (.putfield 18, 3) := by decide +kernel
  have kf18 : Cond.fieldLink "MonsoonTrade$Dhow" 18 "MonsoonTrade$Dhow" "goods" "[I" ∈ xT := xwd_mem (i := 327) (by decide +kernel)
  have d21 : decode cX0_init 21 = .ok (.aload_n 0, 1) := by decide +kernel
  have d22 : decode cX0_init 22 = .ok (.iconst (-1), 1) := by decide +kernel
  have d23 : decode cX0_init 23 = .ok (.putfield 22, 3) := by decide +kernel
  have kf23 : Cond.fieldLink "MonsoonTrade$Dhow" 22 "MonsoonTrade$Dhow" "stake" "I" ∈ xT := xwd_mem (i := 330) (by decide +kernel)
  have d26 : decode cX0_init 26 = .ok (.aload_n 0, 1) := by decide +kernel
  have d27 : decode cX0_init 27 = .ok (.new 25, 3) := by decide +kernel
  have kN : Cond.classLink "MonsoonTrade$Dhow" 25 "MonsoonTrade$News" ∈ xT := xwd_mem (i := 313) (by decide +kernel)
  have kN1 : Cond.instantiable "MonsoonTrade$News" 2 ∈ xT := xwd_mem (i := 114) (by decide +kernel)
  have kN2 : Cond.initialized "MonsoonTrade$News" ∈ xT := xwd_mem (i := 73) (by decide +kernel)
  have d30 : decode cX0_init 30 = .ok (.dup, 1) := by decide +kernel
  have d31 : decode cX0_init 31 = .ok (.invokespecial 27, 3) := by decide +kernel
  have kM : Cond.methodLink "MonsoonTrade$Dhow" 27 yX1_init ∈ xT := xwd_mem (i := 314) (by decide +kernel)
  have kM1 : Cond.instanceMethod yX1_init ∈ xT := xwd_mem (i := 116) (by decide +kernel)
  have kM2 : Cond.code yX1_init cX1_init 1 none ∈ xT := xwd_mem (i := 117) (by decide +kernel)
  have d34 : decode cX0_init 34 = .ok (.putfield 28, 3) := by decide +kernel
  have kf34 : Cond.fieldLink "MonsoonTrade$Dhow" 28 "MonsoonTrade$Dhow" "news" "LMonsoonTrade$News;" ∈ xT := xwd_mem (i := 333) (by decide +kernel)
  have d37 : decode cX0_init 37 = .ok (.return_, 1) := by decide +kernel
  refine lv_aload_n (k := 0) (i := 0) hx hb d0 rfl (lv_at hl 0 rfl) ?_
  refine W.objInit hx hb hown (hts _ kO) (hts _ k98) (hts _ k99) rfl (by rw [hml]; exact hl.1) rfl d1 (by show 1 ≤ d + 3; omega) (by show 2 * 0 + 0 + 12 ≤ 40 * (d + 3); omega) ?_
  refine W.eq (g2 := F0 m 4 ls []) rfl ?_
  refine lv_aload_n (k := 0) (i := 0) hx hb d4 rfl (lv_at hl 0 rfl) ?_
  refine lv_iconst (n := -1) (v := -1) hx hb d5 rfl ?_
  refine va_put (ci := 0) (v := .int (-1)) (ty := .int) (C := "MonsoonTrade$Dhow") (T := TX0) (N := 9) hx hb hts (xlay hcl) tyX0 tyX0_ok nmX0 hown hK hP hD hS 0 rfl rfl 0 (by decide) (hts _ kf6) (fun _ h9 => h9) rfl (by decide +kernel) rfl rfl (Nat.le_of_ble_eq_true rfl) d6 (fun H locs hP hD hS => ?_)
  have hP : va_P Dg classes [(h0, .inr (0, [.int (-1), .int 0, .int 0, .int 0, .int 0, .null, .int 0, .int 0, .null]))] H := hP
  have hD : va_D A [(h0, .inr (0, [.int (-1), .int 0, .int 0, .int 0, .int 0, .null, .int 0, .int 0, .null]))] := hD
  refine lv_aload_n (k := 0) (i := 0) hx hb d9 rfl (lv_at hl 0 rfl) ?_
  refine lv_iconst (n := -1) (v := -1) hx hb d10 rfl ?_
  refine va_put (ci := 0) (v := .int (-1)) (ty := .int) (C := "MonsoonTrade$Dhow") (T := TX0) (N := 9) hx hb hts (xlay hcl) tyX0 tyX0_ok nmX0 hown hK hP hD hS 0 rfl rfl 1 (by decide) (hts _ kf11) (fun _ h9 => h9) rfl (by decide +kernel) rfl rfl (Nat.le_of_ble_eq_true rfl) d11 (fun H locs hP hD hS => ?_)
  have hP : va_P Dg classes [(h0, .inr (0, [.int (-1), .int (-1), .int 0, .int 0, .int 0, .null, .int 0, .int 0, .null]))] H := hP
  have hD : va_D A [(h0, .inr (0, [.int (-1), .int (-1), .int 0, .int 0, .int 0, .null, .int 0, .int 0, .null]))] := hD
  refine lv_aload_n (k := 0) (i := 0) hx hb d14 rfl (lv_at hl 0 rfl) ?_
  refine lv_iconst (n := 4) (v := 4) hx hb d15 rfl ?_
  refine va_newa (N' := 4) (a0 := (4, .inl fun _ => 0)) (ty := .int) hx hb (hts _ kA1) rfl hK hP hD hS hA (fun _ => rfl) (by decide) rfl (by decide) (Nat.le_of_ble_eq_true rfl) (Nat.le_of_ble_eq_true rfl) d16 (fun q1 c1 H hK hP hD hS => ?_)
  have hP : va_P Dg classes [(h0, .inr (0, [.int (-1), .int (-1), .int 0, .int 0, .int 0, .null, .int 0, .int 0, .null])), (q1, .inl (c1, 4, .inl fun _ => 0))] H := hP
  have hD : va_D A [(h0, .inr (0, [.int (-1), .int (-1), .int 0, .int 0, .int 0, .null, .int 0, .int 0, .null])), (q1, .inl (c1, 4, .inl fun _ => 0))] := hD
  have hK : va_K Dg classes [(c1, .int)] s := hK
  refine va_putF (ci := 0) (v := .ref q1) (ty := (.array .int)) (C := "MonsoonTrade$Dhow") (T := TX0) (N := 9) hx hb hts (xlay hcl) tyX0 tyX0_ok nmX0 hown hK hP hD hS 0 rfl rfl 5 (by decide) (hts _ kf18) (fun _ h9 => h9) rfl hin rfl (by decide +kernel) rfl rfl (Nat.le_of_ble_eq_true rfl) d18 (fun H locs hP hD hS => ?_)
  have hP : va_P Dg classes [(h0, .inr (0, [.int (-1), .int (-1), .int 0, .int 0, .int 0, .ref q1, .int 0, .int 0, .null])), (q1, .inl (c1, 4, .inl fun _ => 0))] H := hP
  have hD : va_D A [(h0, .inr (0, [.int (-1), .int (-1), .int 0, .int 0, .int 0, .ref q1, .int 0, .int 0, .null])), (q1, .inl (c1, 4, .inl fun _ => 0))] := hD
  refine lv_aload_n (k := 0) (i := 0) hx hb d21 rfl (lv_at hl 0 rfl) ?_
  refine lv_iconst (n := -1) (v := -1) hx hb d22 rfl ?_
  refine va_put (ci := 0) (v := .int (-1)) (ty := .int) (C := "MonsoonTrade$Dhow") (T := TX0) (N := 9) hx hb hts (xlay hcl) tyX0 tyX0_ok nmX0 hown hK hP hD hS 0 rfl rfl 6 (by decide) (hts _ kf23) (fun _ h9 => h9) rfl (by decide +kernel) rfl rfl (Nat.le_of_ble_eq_true rfl) d23 (fun H locs hP hD hS => ?_)
  have hP : va_P Dg classes [(h0, .inr (0, [.int (-1), .int (-1), .int 0, .int 0, .int 0, .ref q1, .int (-1), .int 0, .null])), (q1, .inl (c1, 4, .inl fun _ => 0))] H := hP
  have hD : va_D A [(h0, .inr (0, [.int (-1), .int (-1), .int 0, .int 0, .int 0, .ref q1, .int (-1), .int 0, .null])), (q1, .inl (c1, 4, .inl fun _ => 0))] := hD
  refine lv_aload_n (k := 0) (i := 0) hx hb d26 rfl (lv_at hl 0 rfl) ?_
  refine va_new (ci := 1) (fs := [.null, .null]) (C := "MonsoonTrade$News") (T := TX1) (N := 2) hx hb hts (xlay (ci := 1) rfl) tyX1 tyX1_ok hown (hts _ kN) (hts _ kN1) (hts _ kN2) hK hP hD hS hA rfl (fun j hj => by rcases (show j = 0 ∨ j = 1 by omega) with rfl | rfl <;> rfl) (Nat.le_of_ble_eq_true rfl) (Nat.le_of_ble_eq_true rfl) d27 (fun qn H hP hD hS => ?_)
  have hP : va_P Dg classes [(h0, .inr (0, [.int (-1), .int (-1), .int 0, .int 0, .int 0, .ref q1, .int (-1), .int 0, .null])), (q1, .inl (c1, 4, .inl fun _ => 0)), (qn, .inr (1, [.null, .null]))] H := hP
  have hD : va_D A [(h0, .inr (0, [.int (-1), .int (-1), .int 0, .int 0, .int 0, .ref q1, .int (-1), .int 0, .null])), (q1, .inl (c1, 4, .inl fun _ => 0)), (qn, .inr (1, [.null, .null]))] := hD
  refine lv_dup hx hb d30 rfl ?_
  have hPc := hP.sub (ws' := nwsA qn) [2] rfl
  have hDc := hD.sub (ws' := nwsA qn) [2] (by decide) rfl
  have hKc := hK.sub (tys' := []) [] rfl
  have hFc := va_free (wc := nwsA qn) hD hS hA [2] rfl
  refine va_callv (va_runI (As := []) (rest := [.ref qn, .ref h0]) ⟨hx, hb, hml, hown, hts⟩ (rf_news (d := d) (Dg := Dg) l qn H.size) (cwI 0 hts (xgoodI kM2) rfl rfl rfl (hts _ kN2) (hts _ kM) (hts _ kM1) rfl (by decide +kernel) (by show d + 2 + 1 ≤ d + 3 ∧ 8 + (1 + 11) + 40 * (d + 2) ≤ 40 * (d + 3); omega)) ⟨fun a U g mk q => by obtain ⟨q0, q1, qP, qK, qD⟩ := q; exact ⟨q0, q1, qP, va_K.moved (u := U) (U := U.calling g mk a) (Vm.Alike.refl U.vm) qK, qD⟩, fun U hU hW => ⟨rfl, by rw [hU], by rw [hU]; exact hPc, va_K.moved hW.alike hKc, hDc.weaken (fun _ _ _ _ => trivial)⟩⟩ rfl rfl hl.1 rfl (lv_room (Nat.le_of_ble_eq_true rfl)) d31 ⟨Nat.le_of_ble_eq_true rfl, Nat.le_of_ble_eq_true rfl⟩) hS (fun q _ h => hFc q h) hFc (fun u t H1 locs ht hvm hw hB hz1 hk1 hS => ?_)
  obtain ⟨qa, qb, ca, cb⟩ := u
  obtain ⟨hP1, hK1, hD1⟩ := hB
  rw [ht] at hP1
  have hK1 := va_K.moved hvm.symm hK1
  obtain ⟨hP, hD⟩ := va_join (wr := [(h0, .inr (0, [.int (-1), .int (-1), .int 0, .int 0, .int 0, .ref q1, .int (-1), .int 0, .null])), (q1, .inl (c1, 4, .inl fun _ => 0))]) (w1 := nwsB qn (qa, qb, ca, cb)) hP hD [2] [0, 1] rfl rfl (by decide) (by decide) hk1 hFc hP1 hD1
  have hK := (hK.sub (tys' := [(c1, .int)]) [0] rfl).app hK1
  generalize H1 = H at hP hS ⊢
  have hP : va_P Dg classes [(h0, .inr (0, [.int (-1), .int (-1), .int 0, .int 0, .int 0, .ref q1, .int (-1), .int 0, .null])), (q1, .inl (c1, 4, .inl fun _ => 0)), (qn, .inr (1, [.ref qa, .ref qb])), (qa, .inl (ca, 6, .inl fun _ => -1)), (qb, .inl (cb, 24, .inl fun _ => 0))] H := hP
  have hD : va_D A [(h0, .inr (0, [.int (-1), .int (-1), .int 0, .int 0, .int 0, .ref q1, .int (-1), .int 0, .null])), (q1, .inl (c1, 4, .inl fun _ => 0)), (qn, .inr (1, [.ref qa, .ref qb])), (qa, .inl (ca, 6, .inl fun _ => -1)), (qb, .inl (cb, 24, .inl fun _ => 0))] := hD
  have hK : va_K Dg classes [(c1, .int), (ca, .int), (cb, .int)] s := hK
  refine va_putF (ci := 0) (v := .ref qn) (ty := (.object "MonsoonTrade$News")) (C := "MonsoonTrade$Dhow") (T := TX0) (N := 9) hx hb hts (xlay hcl) tyX0 tyX0_ok nmX0 hown hK hP hD hS 0 rfl rfl 8 (by decide) (hts _ kf34) (fun _ h9 => h9) rfl hin rfl (by decide +kernel) rfl rfl (Nat.le_of_ble_eq_true rfl) d34 (fun H locs hP hD hS => ?_)
  have hP : va_P Dg classes [(h0, .inr (0, [.int (-1), .int (-1), .int 0, .int 0, .int 0, .ref q1, .int (-1), .int 0, .ref qn])), (q1, .inl (c1, 4, .inl fun _ => 0)), (qn, .inr (1, [.ref qa, .ref qb])), (qa, .inl (ca, 6, .inl fun _ => -1)), (qb, .inl (cb, 24, .inl fun _ => 0))] H := hP
  have hD : va_D A [(h0, .inr (0, [.int (-1), .int (-1), .int 0, .int 0, .int 0, .ref q1, .int (-1), .int 0, .ref qn])), (q1, .inl (c1, 4, .inl fun _ => 0)), (qn, .inr (1, [.ref qa, .ref qb])), (qa, .inl (ca, 6, .inl fun _ => -1)), (qb, .inl (cb, 24, .inl fun _ => 0))] := hD
  refine W.widen (k := 4) (n := 36) (Nat.le_of_ble_eq_true rfl) (Nat.le_of_ble_eq_true rfl) ?_
  exact W.vret hx hb hr (fun t ht hW => ⟨⟨([q1, qn, qa, qb], [c1, ca, cb]), rfl, trivial, by rw [ht]; exact hP, va_K.moved hW.alike hK, hD⟩, hS.F ht⟩) hS.2.2 d37 B.notSynchronized
def w2I : List Cond := .code yX2_init cX2_init 2 none :: xT
def w2A (h0 : Nat) : va_W := [(h0, .inr (2, [.null, .null, .null, .null, .int 0, .int 0, .int 0, .int 0, .int 0, .int 0, .int 0, .int 0]))]
def w2B (Dg : va_G) (h0 a1 : Nat) (u : List Nat × List ClassId) : va_W := [(h0, .inr (2, [.ref a1, .ref (u.1.getD 0 0), .ref (u.1.getD 3 0), .ref (u.1.getD 4 0), .int 0, .int 0, .int 0, .int 0, .int 0, .int 0, .int 0, .int 0])), ((u.1.getD 0 0), .inr (1, [.ref (u.1.getD 1 0), .ref (u.1.getD 2 0)])), ((u.1.getD 1 0), .inl ((u.2.getD 0 (Dg.1 0)), 6, .inl fun _ => -1)), ((u.1.getD 2 0), .inl ((u.2.getD 1 (Dg.1 0)), 24, .inl fun _ => 0)), ((u.1.getD 3 0), .inl ((u.2.getD 2 (Dg.1 0)), 3, .inl fun _ => 0)), ((u.1.getD 4 0), .inl ((u.2.getD 3 (Dg.1 0)), 3, .inl fun _ => 0))]
def w2K (Dg : va_G) (u : List Nat × List ClassId) : List (ClassId × FieldType) := [((u.2.getD 0 (Dg.1 0)), .int), ((u.2.getD 1 (Dg.1 0)), .int), ((u.2.getD 2 (Dg.1 0)), .int), ((u.2.getD 3 (Dg.1 0)), .int)]
def cAt2 (Dg : va_G) (A : Nat → Prop) (h0 a1 : Nat) (u : List Nat × List ClassId) (t : State) : Prop := va_P Dg classes (w2B Dg h0 a1 u) t.heap ∧ va_K Dg classes (w2K Dg u) t ∧ va_D A (w2B Dg h0 a1 u)
set_option maxHeartbeats 4000000 in
theorem rf_Planner {d : Nat} {Dg : va_G} (l : Launch) (h0 a1 sz : Nat) : Met l yX2_init w2I (xRm (d + 3) 5 38) (va_Pc [.ref h0, .ref a1] (fun U => U.heap.size = sz ∧ va_P Dg classes (w2A h0) U.heap ∧ va_K Dg classes [] U ∧ va_D (fun _ => True) (w2A h0))) (va_Qv (fun _ => True) (cAt2 Dg (va_A (w2A h0) sz) h0 a1) (va_A (w2A h0) sz)) 5 38 (va_A (w2A h0) sz) := by
  refine Met.ofW (cc := cX2_init) (maxL := 2) (ret := none) (by decide) rfl ?_
  intro p e s m args below meth c s₁ B hml hv
  obtain ⟨rfl, hsz, hP, hK, hD0⟩ := hv
  have hx := B.exec
  have hb := B.bytes
  have hr := B.returns
  have hts0 := atoms_spec (ws := w2I) B.pre
  have hts : ∀ w ∈ xT, w.before _ s = true := fun w hw => hts0 w (List.mem_cons_of_mem _ hw)
  have hown : s.vm.findClass "MonsoonTrade$Planner" = some m.cls := findClass_of_methodNamed B.named
  have hin : meth.name = "<init>" := (name_of_methodNamed B.named B.method).1
  subst hsz
  have hD := hD0.self (sz := s.heap.size)
  generalize hAe : va_A (w2A h0) s.heap.size = A at hD ⊢
  have hA : ∀ q : Nat, s.heap.size ≤ q → A q := fun q h => by rw [← hAe]; exact Or.inr h
  have hS : va_S A s.heap s.heap [] := va_S.rf
  have hP : va_P Dg classes [(h0, .inr (2, [.null, .null, .null, .null, .int 0, .int 0, .int 0, .int 0, .int 0, .int 0, .int 0, .int 0]))] s.heap := hP
  have hD : va_D A [(h0, .inr (2, [.null, .null, .null, .null, .int 0, .int 0, .int 0, .int 0, .int 0, .int 0, .int 0, .int 0]))] := hD
  have hl := lv_entry ([.ref h0, .ref a1]) (n := 2) (Nat.le_of_ble_eq_true rfl)
  rw [lg_entry_eq]
  generalize (lg_sl ([.ref h0, .ref a1]) ++ List.replicate (2 - (lg_sl ([.ref h0, .ref a1])).length) Slot.unset).toArray = ls at hl ⊢
  have hl : lv_has ls 2 [(0, .ref h0), (1, .ref a1)] := hl
  have hcl : classes[2]? = some ("MonsoonTrade$Planner", TX2, 12) := rfl
  have k98 : Cond.instanceMethod Lib.objectInit ∈ xT := xwd_mem (i := 98) (by decide +kernel)
  have k99 : Cond.code Lib.objectInit ⟨#[0xb1]⟩ 1 none ∈ xT := xwd_mem (i := 99) (by decide +kernel)
  have d0 : decode cX2_init 0 = .ok (.aload_n 0, 1) := by decide +kernel
  have d1 : decode cX2_init 1 = .ok (.invokespecial 3, 3) := by decide +kernel
  have kO : Cond.methodLink "MonsoonTrade$Planner" 3 Lib.objectInit ∈ xT := xwd_mem (i := 263) (by decide +kernel)
  have d4 : decode cX2_init 4 = .ok (.aload_n 0, 1) := by decide +kernel
  have d5 : decode cX2_init 5 = .ok (.new 9, 3) := by decide +kernel
  have kN : Cond.classLink "MonsoonTrade$Planner" 9 "MonsoonTrade$News" ∈ xT := xwd_mem (i := 264) (by decide +kernel)
  have kN1 : Cond.instantiable "MonsoonTrade$News" 2 ∈ xT := xwd_mem (i := 114) (by decide +kernel)
  have kN2 : Cond.initialized "MonsoonTrade$News" ∈ xT := xwd_mem (i := 73) (by decide +kernel)
  have d8 : decode cX2_init 8 = .ok (.dup, 1) := by decide +kernel
  have d9 : decode cX2_init 9 = .ok (.invokespecial 11, 3) := by decide +kernel
  have kM : Cond.methodLink "MonsoonTrade$Planner" 11 yX1_init ∈ xT := xwd_mem (i := 265) (by decide +kernel)
  have kM1 : Cond.instanceMethod yX1_init ∈ xT := xwd_mem (i := 116) (by decide +kernel)
  have kM2 : Cond.code yX1_init cX1_init 1 none ∈ xT := xwd_mem (i := 117) (by decide +kernel)
  have d12 : decode cX2_init 12 = .ok (.putfield 12, 3) := by decide +kernel
  have kf12 : Cond.fieldLink "MonsoonTrade$Planner" 12 "MonsoonTrade$Planner" "news" "LMonsoonTrade$News;" ∈ xT := xwd_mem (i := 267) (by decide +kernel)
  have d15 : decode cX2_init 15 = .ok (.aload_n 0, 1) := by decide +kernel
  have d16 : decode cX2_init 16 = .ok (.iconst (3), 1) := by decide +kernel
  have d17 : decode cX2_init 17 = .ok (.newarray .int, 2) := by decide +kernel
  have kA1 : Cond.arrayClass (newarray.typeOf .int) ∈ xT := xwd_mem (i := 134) (by decide +kernel)
  have d19 : decode cX2_init 19 = .ok (.putfield 18, 3) := by decide +kernel
  have kf19 : Cond.fieldLink "MonsoonTrade$Planner" 18 "MonsoonTrade$Planner" "goods" "[I" ∈ xT := xwd_mem (i := 268) (by decide +kernel)
  have d22 : decode cX2_init 22 = .ok (.aload_n 0, 1) := by decide +kernel
  have d23 : decode cX2_init 23 = .ok (.iconst (3), 1) := by decide +kernel
  have d24 : decode cX2_init 24 = .ok (.newarray .int, 2) := by decide +kernel
  have kA2 : Cond.arrayClass (newarray.typeOf .int) ∈ xT := xwd_mem (i := 134) (by decide +kernel)
  have d26 : decode cX2_init 26 = .ok (.putfield 22, 3) := by decide +kernel
  have kf26 : Cond.fieldLink "MonsoonTrade$Planner" 22 "MonsoonTrade$Planner" "stops" "[I" ∈ xT := xwd_mem (i := 270) (by decide +kernel)
  have d29 : decode cX2_init 29 = .ok (.aload_n 0, 1) := by decide +kernel
  have d30 : decode cX2_init 30 = .ok (.aload_n 1, 1) := by decide +kernel
  have d31 : decode cX2_init 31 = .ok (.putfield 25, 3) := by decide +kernel
  have kf31 : Cond.fieldLink "MonsoonTrade$Planner" 25 "MonsoonTrade$Planner" "sea" "LMonsoonTrade$Sea;" ∈ xT := xwd_mem (i := 266) (by decide +kernel)
  have d34 : decode cX2_init 34 = .ok (.return_, 1) := by decide +kernel
  refine lv_aload_n (k := 0) (i := 0) hx hb d0 rfl (lv_at hl 0 rfl) ?_
  refine W.objInit hx hb hown (hts _ kO) (hts _ k98) (hts _ k99) rfl (by rw [hml]; exact hl.1) rfl d1 (by show 1 ≤ d + 3; omega) (by show 2 * 0 + 0 + 12 ≤ 40 * (d + 3); omega) ?_
  refine W.eq (g2 := F0 m 4 ls []) rfl ?_
  refine lv_aload_n (k := 0) (i := 0) hx hb d4 rfl (lv_at hl 0 rfl) ?_
  refine va_new (ci := 1) (fs := [.null, .null]) (C := "MonsoonTrade$News") (T := TX1) (N := 2) hx hb hts (xlay (ci := 1) rfl) tyX1 tyX1_ok hown (hts _ kN) (hts _ kN1) (hts _ kN2) hK hP hD hS hA rfl (fun j hj => by rcases (show j = 0 ∨ j = 1 by omega) with rfl | rfl <;> rfl) (Nat.le_of_ble_eq_true rfl) (Nat.le_of_ble_eq_true rfl) d5 (fun qn H hP hD hS => ?_)
  have hP : va_P Dg classes [(h0, .inr (2, [.null, .null, .null, .null, .int 0, .int 0, .int 0, .int 0, .int 0, .int 0, .int 0, .int 0])), (qn, .inr (1, [.null, .null]))] H := hP
  have hD : va_D A [(h0, .inr (2, [.null, .null, .null, .null, .int 0, .int 0, .int 0, .int 0, .int 0, .int 0, .int 0, .int 0])), (qn, .inr (1, [.null, .null]))] := hD
  refine lv_dup hx hb d8 rfl ?_
  have hPc := hP.sub (ws' := nwsA qn) [1] rfl
  have hDc := hD.sub (ws' := nwsA qn) [1] (by decide) rfl
  have hKc := hK.sub (tys' := []) [] rfl
  have hFc := va_free (wc := nwsA qn) hD hS hA [1] rfl
  refine va_callv (va_runI (As := []) (rest := [.ref qn, .ref h0]) ⟨hx, hb, hml, hown, hts⟩ (rf_news (d := d) (Dg := Dg) l qn H.size) (cwI 0 hts (xgoodI kM2) rfl rfl rfl (hts _ kN2) (hts _ kM) (hts _ kM1) rfl (by decide +kernel) (by show d + 2 + 1 ≤ d + 3 ∧ 8 + (1 + 11) + 40 * (d + 2) ≤ 40 * (d + 3); omega)) ⟨fun a U g mk q => by obtain ⟨q0, q1, qP, qK, qD⟩ := q; exact ⟨q0, q1, qP, va_K.moved (u := U) (U := U.calling g mk a) (Vm.Alike.refl U.vm) qK, qD⟩, fun U hU hW => ⟨rfl, by rw [hU], by rw [hU]; exact hPc, va_K.moved hW.alike hKc, hDc.weaken (fun _ _ _ _ => trivial)⟩⟩ rfl rfl hl.1 rfl (lv_room (Nat.le_of_ble_eq_true rfl)) d9 ⟨Nat.le_of_ble_eq_true rfl, Nat.le_of_ble_eq_true rfl⟩) hS (fun q _ h => hFc q h) hFc (fun u t H1 locs ht hvm hw hB hz1 hk1 hS => ?_)
  obtain ⟨qa, qb, ca, cb⟩ := u
  obtain ⟨hP1, hK1, hD1⟩ := hB
  rw [ht] at hP1
  have hK1 := va_K.moved hvm.symm hK1
  obtain ⟨hP, hD⟩ := va_join (wr := [(h0, .inr (2, [.null, .null, .null, .null, .int 0, .int 0, .int 0, .int 0, .int 0, .int 0, .int 0, .int 0]))]) (w1 := nwsB qn (qa, qb, ca, cb)) hP hD [1] [0] rfl rfl (by decide) (by decide) hk1 hFc hP1 hD1
  have hK := (hK.sub (tys' := []) [] rfl).app hK1
  generalize H1 = H at hP hS ⊢
  have hP : va_P Dg classes [(h0, .inr (2, [.null, .null, .null, .null, .int 0, .int 0, .int 0, .int 0, .int 0, .int 0, .int 0, .int 0])), (qn, .inr (1, [.ref qa, .ref qb])), (qa, .inl (ca, 6, .inl fun _ => -1)), (qb, .inl (cb, 24, .inl fun _ => 0))] H := hP
  have hD : va_D A [(h0, .inr (2, [.null, .null, .null, .null, .int 0, .int 0, .int 0, .int 0, .int 0, .int 0, .int 0, .int 0])), (qn, .inr (1, [.ref qa, .ref qb])), (qa, .inl (ca, 6, .inl fun _ => -1)), (qb, .inl (cb, 24, .inl fun _ => 0))] := hD
  have hK : va_K Dg classes [(ca, .int), (cb, .int)] s := hK
  refine va_putF (ci := 2) (v := .ref qn) (ty := (.object "MonsoonTrade$News")) (C := "MonsoonTrade$Planner") (T := TX2) (N := 12) hx hb hts (xlay hcl) tyX2 tyX2_ok nmX2 hown hK hP hD hS 0 rfl rfl 1 (by decide) (hts _ kf12) (fun _ h9 => h9) rfl hin rfl (by decide +kernel) rfl rfl (Nat.le_of_ble_eq_true rfl) d12 (fun H locs hP hD hS => ?_)
  have hP : va_P Dg classes [(h0, .inr (2, [.null, .ref qn, .null, .null, .int 0, .int 0, .int 0, .int 0, .int 0, .int 0, .int 0, .int 0])), (qn, .inr (1, [.ref qa, .ref qb])), (qa, .inl (ca, 6, .inl fun _ => -1)), (qb, .inl (cb, 24, .inl fun _ => 0))] H := hP
  have hD : va_D A [(h0, .inr (2, [.null, .ref qn, .null, .null, .int 0, .int 0, .int 0, .int 0, .int 0, .int 0, .int 0, .int 0])), (qn, .inr (1, [.ref qa, .ref qb])), (qa, .inl (ca, 6, .inl fun _ => -1)), (qb, .inl (cb, 24, .inl fun _ => 0))] := hD
  refine lv_aload_n (k := 0) (i := 0) hx hb d15 rfl (lv_at hl 0 rfl) ?_
  refine lv_iconst (n := 3) (v := 3) hx hb d16 rfl ?_
  refine va_newa (N' := 3) (a0 := (3, .inl fun _ => 0)) (ty := .int) hx hb (hts _ kA1) rfl hK hP hD hS hA (fun _ => rfl) (by decide) rfl (by decide) (Nat.le_of_ble_eq_true rfl) (Nat.le_of_ble_eq_true rfl) d17 (fun q1 c1 H hK hP hD hS => ?_)
  have hP : va_P Dg classes [(h0, .inr (2, [.null, .ref qn, .null, .null, .int 0, .int 0, .int 0, .int 0, .int 0, .int 0, .int 0, .int 0])), (qn, .inr (1, [.ref qa, .ref qb])), (qa, .inl (ca, 6, .inl fun _ => -1)), (qb, .inl (cb, 24, .inl fun _ => 0)), (q1, .inl (c1, 3, .inl fun _ => 0))] H := hP
  have hD : va_D A [(h0, .inr (2, [.null, .ref qn, .null, .null, .int 0, .int 0, .int 0, .int 0, .int 0, .int 0, .int 0, .int 0])), (qn, .inr (1, [.ref qa, .ref qb])), (qa, .inl (ca, 6, .inl fun _ => -1)), (qb, .inl (cb, 24, .inl fun _ => 0)), (q1, .inl (c1, 3, .inl fun _ => 0))] := hD
  have hK : va_K Dg classes [(ca, .int), (cb, .int), (c1, .int)] s := hK
  refine va_putF (ci := 2) (v := .ref q1) (ty := (.array .int)) (C := "MonsoonTrade$Planner") (T := TX2) (N := 12) hx hb hts (xlay hcl) tyX2 tyX2_ok nmX2 hown hK hP hD hS 0 rfl rfl 2 (by decide) (hts _ kf19) (fun _ h9 => h9) rfl hin rfl (by decide +kernel) rfl rfl (Nat.le_of_ble_eq_true rfl) d19 (fun H locs hP hD hS => ?_)
  have hP : va_P Dg classes [(h0, .inr (2, [.null, .ref qn, .ref q1, .null, .int 0, .int 0, .int 0, .int 0, .int 0, .int 0, .int 0, .int 0])), (qn, .inr (1, [.ref qa, .ref qb])), (qa, .inl (ca, 6, .inl fun _ => -1)), (qb, .inl (cb, 24, .inl fun _ => 0)), (q1, .inl (c1, 3, .inl fun _ => 0))] H := hP
  have hD : va_D A [(h0, .inr (2, [.null, .ref qn, .ref q1, .null, .int 0, .int 0, .int 0, .int 0, .int 0, .int 0, .int 0, .int 0])), (qn, .inr (1, [.ref qa, .ref qb])), (qa, .inl (ca, 6, .inl fun _ => -1)), (qb, .inl (cb, 24, .inl fun _ => 0)), (q1, .inl (c1, 3, .inl fun _ => 0))] := hD
  refine lv_aload_n (k := 0) (i := 0) hx hb d22 rfl (lv_at hl 0 rfl) ?_
  refine lv_iconst (n := 3) (v := 3) hx hb d23 rfl ?_
  refine va_newa (N' := 3) (a0 := (3, .inl fun _ => 0)) (ty := .int) hx hb (hts _ kA2) rfl hK hP hD hS hA (fun _ => rfl) (by decide) rfl (by decide) (Nat.le_of_ble_eq_true rfl) (Nat.le_of_ble_eq_true rfl) d24 (fun q2 c2 H hK hP hD hS => ?_)
  have hP : va_P Dg classes [(h0, .inr (2, [.null, .ref qn, .ref q1, .null, .int 0, .int 0, .int 0, .int 0, .int 0, .int 0, .int 0, .int 0])), (qn, .inr (1, [.ref qa, .ref qb])), (qa, .inl (ca, 6, .inl fun _ => -1)), (qb, .inl (cb, 24, .inl fun _ => 0)), (q1, .inl (c1, 3, .inl fun _ => 0)), (q2, .inl (c2, 3, .inl fun _ => 0))] H := hP
  have hD : va_D A [(h0, .inr (2, [.null, .ref qn, .ref q1, .null, .int 0, .int 0, .int 0, .int 0, .int 0, .int 0, .int 0, .int 0])), (qn, .inr (1, [.ref qa, .ref qb])), (qa, .inl (ca, 6, .inl fun _ => -1)), (qb, .inl (cb, 24, .inl fun _ => 0)), (q1, .inl (c1, 3, .inl fun _ => 0)), (q2, .inl (c2, 3, .inl fun _ => 0))] := hD
  have hK : va_K Dg classes [(ca, .int), (cb, .int), (c1, .int), (c2, .int)] s := hK
  refine va_putF (ci := 2) (v := .ref q2) (ty := (.array .int)) (C := "MonsoonTrade$Planner") (T := TX2) (N := 12) hx hb hts (xlay hcl) tyX2 tyX2_ok nmX2 hown hK hP hD hS 0 rfl rfl 3 (by decide) (hts _ kf26) (fun _ h9 => h9) rfl hin rfl (by decide +kernel) rfl rfl (Nat.le_of_ble_eq_true rfl) d26 (fun H locs hP hD hS => ?_)
  have hP : va_P Dg classes [(h0, .inr (2, [.null, .ref qn, .ref q1, .ref q2, .int 0, .int 0, .int 0, .int 0, .int 0, .int 0, .int 0, .int 0])), (qn, .inr (1, [.ref qa, .ref qb])), (qa, .inl (ca, 6, .inl fun _ => -1)), (qb, .inl (cb, 24, .inl fun _ => 0)), (q1, .inl (c1, 3, .inl fun _ => 0)), (q2, .inl (c2, 3, .inl fun _ => 0))] H := hP
  have hD : va_D A [(h0, .inr (2, [.null, .ref qn, .ref q1, .ref q2, .int 0, .int 0, .int 0, .int 0, .int 0, .int 0, .int 0, .int 0])), (qn, .inr (1, [.ref qa, .ref qb])), (qa, .inl (ca, 6, .inl fun _ => -1)), (qb, .inl (cb, 24, .inl fun _ => 0)), (q1, .inl (c1, 3, .inl fun _ => 0)), (q2, .inl (c2, 3, .inl fun _ => 0))] := hD
  refine lv_aload_n (k := 0) (i := 0) hx hb d29 rfl (lv_at hl 0 rfl) ?_
  refine lv_aload_n (k := 1) (i := 1) hx hb d30 rfl (lv_at hl 1 rfl) ?_
  refine va_putF (ci := 2) (v := .ref a1) (ty := (.object "MonsoonTrade$Sea")) (C := "MonsoonTrade$Planner") (T := TX2) (N := 12) hx hb hts (xlay hcl) tyX2 tyX2_ok nmX2 hown hK hP hD hS 0 rfl rfl 0 (by decide) (hts _ kf31) (fun _ h9 => h9) rfl hin rfl (by decide +kernel) rfl rfl (Nat.le_of_ble_eq_true rfl) d31 (fun H locs hP hD hS => ?_)
  have hP : va_P Dg classes [(h0, .inr (2, [.ref a1, .ref qn, .ref q1, .ref q2, .int 0, .int 0, .int 0, .int 0, .int 0, .int 0, .int 0, .int 0])), (qn, .inr (1, [.ref qa, .ref qb])), (qa, .inl (ca, 6, .inl fun _ => -1)), (qb, .inl (cb, 24, .inl fun _ => 0)), (q1, .inl (c1, 3, .inl fun _ => 0)), (q2, .inl (c2, 3, .inl fun _ => 0))] H := hP
  have hD : va_D A [(h0, .inr (2, [.ref a1, .ref qn, .ref q1, .ref q2, .int 0, .int 0, .int 0, .int 0, .int 0, .int 0, .int 0, .int 0])), (qn, .inr (1, [.ref qa, .ref qb])), (qa, .inl (ca, 6, .inl fun _ => -1)), (qb, .inl (cb, 24, .inl fun _ => 0)), (q1, .inl (c1, 3, .inl fun _ => 0)), (q2, .inl (c2, 3, .inl fun _ => 0))] := hD
  refine W.widen (k := 5) (n := 38) (Nat.le_of_ble_eq_true rfl) (Nat.le_of_ble_eq_true rfl) ?_
  exact W.vret hx hb hr (fun t ht hW => ⟨⟨([qn, qa, qb, q1, q2], [ca, cb, c1, c2]), rfl, trivial, by rw [ht]; exact hP, va_K.moved hW.alike hK, hD⟩, hS.F ht⟩) hS.2.2 d34 B.notSynchronized
