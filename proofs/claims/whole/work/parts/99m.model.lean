/-! the model's constructor: its arrays (written by ctor7.py) -/
theorem mo_new {Dg : va_G} {p : Program} {l : Launch} {e : Env} {R : Room} {s : State} {m : MethodId} {args : Array Value} {below : List Frame} {meth : Method} {c : Code} {H : Heap} {ls : Array Slot} {locs : List Loc} {m0 : Nat} {A : Nat → Prop} {Q : State → Prop} {cells slots : Nat} {fs : List Value} {pl : va_W} {tl : List (ClassId × FieldType)} (hx : p.tables.exec = Jvm.exec) (hb : c.code = cX12_init) (hts : ∀ w ∈ xT, w.before args s = true) (hA : ∀ q : Nat, s.heap.size ≤ q → A q) {atype : ArrayType} {ty : FieldType} {n : Int32} {N' pc : Nat} {a0 : vp_A} {rest : List Value} (hP : va_P Dg classes ((m0, .inr (12, fs)) :: pl) H) (hD : va_D A ((m0, .inr (12, fs)) :: pl)) (hK : va_K Dg classes tl s) (hS : va_S A s.heap H locs) (harr : Cond.arrayClass (newarray.typeOf atype) ∈ xT) (hty : newarray.typeOf atype = ty) (ha : ∀ cA : ClassId, vp_cell cA a0 = arrV cA N' (fun _ => defaultValue ty)) (hn : ¬ n < 0) (hN : n.toNatClampNeg = N') (hbytes : N' * componentBytes ty ≤ 536870912) (hcells : cells + 1 ≤ R.cells) (hslots : slots + N' ≤ R.slots) (hdg : decode cX12_init pc = .ok (.newarray atype, 2))
    (kk : ∀ (q : Nat) (cA : ClassId) (H : Heap), va_P Dg classes ((m0, .inr (12, fs)) :: (q, .inl (cA, a0)) :: pl) H → va_D A ((m0, .inr (12, fs)) :: (q, .inl (cA, a0)) :: pl) → va_K Dg classes ((cA, ty) :: tl) s → va_S A s.heap H locs → W p l e R s m args below meth c H locs (cells + 1) (slots + N') Q (F0 m (pc + 2) ls (.ref q :: rest))) :
    W p l e R s m args below meth c H locs cells slots Q (F0 m pc ls (.int n :: rest)) := by
  refine va_newa (N' := N') (a0 := a0) (ty := ty) hx hb (hts _ harr) hty hK hP hD hS hA ha hn hN hbytes hcells hslots hdg (fun q cA H hK hP hD hS => ?_)
  exact kk q cA H (vP_perm hP (List.Perm.cons _ List.perm_append_comm)) (vD_perm hD (List.Perm.cons _ List.perm_append_comm)) (vK_perm hK List.perm_append_comm) hS
theorem mo_put {Dg : va_G} {p : Program} {l : Launch} {e : Env} {R : Room} {s : State} {m : MethodId} {args : Array Value} {below : List Frame} {meth : Method} {c : Code} {H : Heap} {ls : Array Slot} {locs : List Loc} {m0 : Nat} {A : Nat → Prop} {Q : State → Prop} {cells slots : Nat} {fs : List Value} {pl : va_W} {tl : List (ClassId × FieldType)} (hx : p.tables.exec = Jvm.exec) (hb : c.code = cX12_init) (hts : ∀ w ∈ xT, w.before args s = true) (hown : s.vm.findClass "MonsoonTradeModel" = some m.cls) (hin : meth.name = "<init>") {b q pc idx : Nat} {ty : FieldType} {rest : List Value} (hP : va_P Dg classes ((m0, .inr (12, fs)) :: pl) H) (hD : va_D A ((m0, .inr (12, fs)) :: pl)) (hK : va_K Dg classes tl s) (hS : va_S A s.heap H locs) (hbN : b < 59) (hw : Cond.fieldLink "MonsoonTradeModel" idx (TX12 b).1 (TX12 b).2.1 (TX12 b).2.2.1 ∈ xT) (hfin : (TX12 b).2.2.2 = true) (hdecl : (TX12 b).1 = "MonsoonTradeModel") (hty : parseFieldDescriptor (TX12 b).2.2.1 = some ty) (hn : narrow ty (.ref q) = .ref q) (hfit : fits ty (.ref q) = true) (hlen : fs.length = 59) (hdg : decode cX12_init pc = .ok (.putfield idx, 3))
    (kk : ∀ (H : Heap) (locs : List Loc), va_P Dg classes ((m0, .inr (12, fs.set b (.ref q))) :: pl) H → va_D A ((m0, .inr (12, fs.set b (.ref q))) :: pl) → va_S A s.heap H locs → (fs.set b (.ref q)).length = 59 → W p l e R s m args below meth c H locs cells slots Q (F0 m (pc + 3) ls rest)) :
    W p l e R s m args below meth c H locs cells slots Q (F0 m pc ls (.ref q :: .ref m0 :: rest)) := by
  have hcl : classes[12]? = some ("MonsoonTradeModel", TX12, 59) := rfl
  refine va_putF (ci := 12) (v := .ref q) (ty := ty) (C := "MonsoonTradeModel") (T := TX12) (N := 59) hx hb hts (xlay hcl) tyX12 tyX12_ok nmX12 hown hK hP hD hS 0 rfl hcl b hbN (hts _ hw) (fun _ h9 => h9) hfin hin hdecl hty hn hfit (by rw [hlen]; exact hbN) hdg (fun H locs hP hD hS => kk H locs hP hD hS (by rw [List.length_set]; exact hlen))
theorem mo_ist {Dg : va_G} {p : Program} {l : Launch} {e : Env} {R : Room} {s : State} {m : MethodId} {args : Array Value} {below : List Frame} {meth : Method} {c : Code} {H : Heap} {ls : Array Slot} {locs : List Loc} {m0 : Nat} {A : Nat → Prop} {Q : State → Prop} {cells slots : Nat} {fs : List Value} {pl : va_W} {tl : List (ClassId × FieldType)} (hx : p.tables.exec = Jvm.exec) (hb : c.code = cX12_init) (hts : ∀ w ∈ xT, w.before args s = true) {q pc : Nat} {cA : ClassId} {n : Nat} {f : Nat → Int32} {i x : Int32} {rest : List Value} (hP : va_P Dg classes ((m0, .inr (12, fs)) :: (q, .inl (cA, n, .inl f)) :: pl) H) (hD : va_D A ((m0, .inr (12, fs)) :: (q, .inl (cA, n, .inl f)) :: pl)) (hK : va_K Dg classes ((cA, .int) :: tl) s) (hS : va_S A s.heap H locs) (hin : vp_in i n) (hdg : decode cX12_init pc = .ok (.iastore, 1))
    (kk : ∀ (H : Heap) (locs : List Loc), va_P Dg classes ((m0, .inr (12, fs)) :: (q, .inl (cA, n, .inl (upd f i.toNatClampNeg x))) :: pl) H → va_D A ((m0, .inr (12, fs)) :: (q, .inl (cA, n, .inl (upd f i.toNatClampNeg x))) :: pl) → va_S A s.heap H locs → W p l e R s m args below meth c H locs cells slots Q (F0 m (pc + 1) ls rest)) :
    W p l e R s m args below meth c H locs cells slots Q (F0 m pc ls (.int x :: .int i :: .ref q :: rest)) := by
  refine va_iast hx hb hK hP hD hS 1 0 (f := f) rfl rfl hin hdg (fun H locs hP hD hS => kk H locs hP hD hS)
theorem mo_cst {Dg : va_G} {p : Program} {l : Launch} {e : Env} {R : Room} {s : State} {m : MethodId} {args : Array Value} {below : List Frame} {meth : Method} {c : Code} {H : Heap} {ls : Array Slot} {locs : List Loc} {m0 : Nat} {A : Nat → Prop} {Q : State → Prop} {cells slots : Nat} {fs : List Value} {pl : va_W} {tl : List (ClassId × FieldType)} (hx : p.tables.exec = Jvm.exec) (hb : c.code = cX12_init) (hts : ∀ w ∈ xT, w.before args s = true) {q pc : Nat} {cA : ClassId} {n : Nat} {f : Nat → Int32} {i x : Int32} {rest : List Value} (hP : va_P Dg classes ((m0, .inr (12, fs)) :: (q, .inl (cA, n, .inl f)) :: pl) H) (hD : va_D A ((m0, .inr (12, fs)) :: (q, .inl (cA, n, .inl f)) :: pl)) (hK : va_K Dg classes ((cA, .char) :: tl) s) (hS : va_S A s.heap H locs) (hin : vp_in i n) (hdg : decode cX12_init pc = .ok (.castore, 1))
    (kk : ∀ (H : Heap) (locs : List Loc), va_P Dg classes ((m0, .inr (12, fs)) :: (q, .inl (cA, n, .inl (upd f i.toNatClampNeg (vp_nar .char x)))) :: pl) H → va_D A ((m0, .inr (12, fs)) :: (q, .inl (cA, n, .inl (upd f i.toNatClampNeg (vp_nar .char x)))) :: pl) → va_S A s.heap H locs → W p l e R s m args below meth c H locs cells slots Q (F0 m (pc + 1) ls rest)) :
    W p l e R s m args below meth c H locs cells slots Q (F0 m pc ls (.int x :: .int i :: .ref q :: rest)) := by
  refine va_cast hx hb hK hP hD hS 1 0 (f := f) rfl rfl hin hdg (fun H locs hP hD hS => kk H locs hP hD hS)
set_option maxRecDepth 20000 in
set_option maxHeartbeats 4000000 in
theorem mo_a {Dg : va_G} {p : Program} {l : Launch} {e : Env} {R : Room} {s : State} {m : MethodId} {args : Array Value} {below : List Frame} {meth : Method} {c : Code} {H : Heap} {ls : Array Slot} {locs : List Loc} {m0 : Nat} {A : Nat → Prop} {Q : State → Prop} {cells slots : Nat} {fs : List Value} {pl : va_W} {tl : List (ClassId × FieldType)} (hx : p.tables.exec = Jvm.exec) (hb : c.code = cX12_init) (hts : ∀ w ∈ xT, w.before args s = true) (hown : s.vm.findClass "MonsoonTradeModel" = some m.cls) (hin : meth.name = "<init>") (hA : ∀ q : Nat, s.heap.size ≤ q → A q) (hlen : fs.length = 59) {lv : List (Nat × Value)} {nL : Nat} (hl : lv_has ls nL ((0, .ref m0) :: lv)) (hP : va_P Dg classes ((m0, .inr (12, fs)) :: pl) H) (hD : va_D A ((m0, .inr (12, fs)) :: pl)) (hK : va_K Dg classes tl s) (hS : va_S A s.heap H locs) (hc : cells + 28 ≤ R.cells) (hz : slots + 6506 ≤ R.slots)
    (kk : ∀ (q37 : Nat) (c37 : ClassId) (q38 : Nat) (c38 : ClassId) (q39 : Nat) (c39 : ClassId) (q40 : Nat) (c40 : ClassId) (q41 : Nat) (c41 : ClassId) (q42 : Nat) (c42 : ClassId) (q43 : Nat) (c43 : ClassId) (q44 : Nat) (c44 : ClassId) (q45 : Nat) (c45 : ClassId) (q46 : Nat) (c46 : ClassId) (q47 : Nat) (c47 : ClassId) (q48 : Nat) (c48 : ClassId) (q49 : Nat) (c49 : ClassId) (q50 : Nat) (c50 : ClassId) (q51 : Nat) (c51 : ClassId) (q52 : Nat) (c52 : ClassId) (q53 : Nat) (c53 : ClassId) (q54 : Nat) (c54 : ClassId) (q55 : Nat) (c55 : ClassId) (q56 : Nat) (c56 : ClassId) (q57 : Nat) (c57 : ClassId) (q58 : Nat) (c58 : ClassId) (q59 : Nat) (c59 : ClassId) (q60 : Nat) (c60 : ClassId) (q61 : Nat) (c61 : ClassId) (q62 : Nat) (c62 : ClassId) (q63 : Nat) (c63 : ClassId) (q64 : Nat) (c64 : ClassId) (H : Heap) (locs : List Loc), va_P Dg classes ((m0, .inr (12, ((((((((((((((((((((((((((((fs.set 2 (.ref q37)).set 3 (.ref q38)).set 4 (.ref q39)).set 5 (.ref q40)).set 6 (.ref q41)).set 7 (.ref q42)).set 9 (.ref q43)).set 10 (.ref q44)).set 11 (.ref q45)).set 12 (.ref q46)).set 13 (.ref q47)).set 14 (.ref q48)).set 15 (.ref q49)).set 16 (.ref q50)).set 17 (.ref q51)).set 18 (.ref q52)).set 20 (.ref q53)).set 21 (.ref q54)).set 22 (.ref q55)).set 23 (.ref q56)).set 24 (.ref q57)).set 25 (.ref q58)).set 26 (.ref q59)).set 30 (.ref q60)).set 31 (.ref q61)).set 35 (.ref q62)).set 36 (.ref q63)).set 37 (.ref q64)))) :: (q64, .inl (c64, 2880, .inl fun _ => 0)) :: (q63, .inl (c63, 2880, .inl fun _ => 0)) :: (q62, .inl (c62, 18, .inl fun _ => 0)) :: (q61, .inl (c61, 160, .inl fun _ => 0)) :: (q60, .inl (c60, 16, .inr (.inl fun _ => 0))) :: (q59, .inl (c59, 16, .inl fun _ => 0)) :: (q58, .inl (c58, 16, .inl fun _ => 0)) :: (q57, .inl (c57, 16, .inl fun _ => 0)) :: (q56, .inl (c56, 16, .inl fun _ => 0)) :: (q55, .inl (c55, 16, .inl fun _ => 0)) :: (q54, .inl (c54, 16, .inl fun _ => 0)) :: (q53, .inl (c53, 16, .inl fun _ => 0)) :: (q52, .inl (c52, 240, .inl fun _ => 0)) :: (q51, .inl (c51, 60, .inl fun _ => 0)) :: (q50, .inl (c50, 16, .inl fun _ => 0)) :: (q49, .inl (c49, 4, .inl fun _ => 0)) :: (q48, .inl (c48, 4, .inl fun _ => 0)) :: (q47, .inl (c47, 4, .inl fun _ => 0)) :: (q46, .inl (c46, 4, .inl fun _ => 0)) :: (q45, .inl (c45, 4, .inl fun _ => 0)) :: (q44, .inl (c44, 4, .inl fun _ => 0)) :: (q43, .inl (c43, 4, .inl fun _ => 0)) :: (q42, .inl (c42, 12, .inl fun _ => 0)) :: (q41, .inl (c41, 24, .inl fun _ => 0)) :: (q40, .inl (c40, 24, .inl fun _ => 0)) :: (q39, .inl (c39, 24, .inl fun _ => 0)) :: (q38, .inl (c38, 6, .inl fun _ => 0)) :: (q37, .inl (c37, 6, .inl fun _ => 0)) :: pl) H → va_D A ((m0, .inr (12, ((((((((((((((((((((((((((((fs.set 2 (.ref q37)).set 3 (.ref q38)).set 4 (.ref q39)).set 5 (.ref q40)).set 6 (.ref q41)).set 7 (.ref q42)).set 9 (.ref q43)).set 10 (.ref q44)).set 11 (.ref q45)).set 12 (.ref q46)).set 13 (.ref q47)).set 14 (.ref q48)).set 15 (.ref q49)).set 16 (.ref q50)).set 17 (.ref q51)).set 18 (.ref q52)).set 20 (.ref q53)).set 21 (.ref q54)).set 22 (.ref q55)).set 23 (.ref q56)).set 24 (.ref q57)).set 25 (.ref q58)).set 26 (.ref q59)).set 30 (.ref q60)).set 31 (.ref q61)).set 35 (.ref q62)).set 36 (.ref q63)).set 37 (.ref q64)))) :: (q64, .inl (c64, 2880, .inl fun _ => 0)) :: (q63, .inl (c63, 2880, .inl fun _ => 0)) :: (q62, .inl (c62, 18, .inl fun _ => 0)) :: (q61, .inl (c61, 160, .inl fun _ => 0)) :: (q60, .inl (c60, 16, .inr (.inl fun _ => 0))) :: (q59, .inl (c59, 16, .inl fun _ => 0)) :: (q58, .inl (c58, 16, .inl fun _ => 0)) :: (q57, .inl (c57, 16, .inl fun _ => 0)) :: (q56, .inl (c56, 16, .inl fun _ => 0)) :: (q55, .inl (c55, 16, .inl fun _ => 0)) :: (q54, .inl (c54, 16, .inl fun _ => 0)) :: (q53, .inl (c53, 16, .inl fun _ => 0)) :: (q52, .inl (c52, 240, .inl fun _ => 0)) :: (q51, .inl (c51, 60, .inl fun _ => 0)) :: (q50, .inl (c50, 16, .inl fun _ => 0)) :: (q49, .inl (c49, 4, .inl fun _ => 0)) :: (q48, .inl (c48, 4, .inl fun _ => 0)) :: (q47, .inl (c47, 4, .inl fun _ => 0)) :: (q46, .inl (c46, 4, .inl fun _ => 0)) :: (q45, .inl (c45, 4, .inl fun _ => 0)) :: (q44, .inl (c44, 4, .inl fun _ => 0)) :: (q43, .inl (c43, 4, .inl fun _ => 0)) :: (q42, .inl (c42, 12, .inl fun _ => 0)) :: (q41, .inl (c41, 24, .inl fun _ => 0)) :: (q40, .inl (c40, 24, .inl fun _ => 0)) :: (q39, .inl (c39, 24, .inl fun _ => 0)) :: (q38, .inl (c38, 6, .inl fun _ => 0)) :: (q37, .inl (c37, 6, .inl fun _ => 0)) :: pl) → va_K Dg classes ((c64, .int) :: (c63, .int) :: (c62, .int) :: (c61, .byte) :: (c60, .long) :: (c59, .int) :: (c58, .boolean) :: (c57, .int) :: (c56, .int) :: (c55, .int) :: (c54, .int) :: (c53, .int) :: (c52, .int) :: (c51, .int) :: (c50, .int) :: (c49, .boolean) :: (c48, .int) :: (c47, .int) :: (c46, .int) :: (c45, .int) :: (c44, .int) :: (c43, .int) :: (c42, .int) :: (c41, .int) :: (c40, .int) :: (c39, .int) :: (c38, .int) :: (c37, .int) :: tl) s → va_S A s.heap H locs → (((((((((((((((((((((((((((((fs.set 2 (.ref q37)).set 3 (.ref q38)).set 4 (.ref q39)).set 5 (.ref q40)).set 6 (.ref q41)).set 7 (.ref q42)).set 9 (.ref q43)).set 10 (.ref q44)).set 11 (.ref q45)).set 12 (.ref q46)).set 13 (.ref q47)).set 14 (.ref q48)).set 15 (.ref q49)).set 16 (.ref q50)).set 17 (.ref q51)).set 18 (.ref q52)).set 20 (.ref q53)).set 21 (.ref q54)).set 22 (.ref q55)).set 23 (.ref q56)).set 24 (.ref q57)).set 25 (.ref q58)).set 26 (.ref q59)).set 30 (.ref q60)).set 31 (.ref q61)).set 35 (.ref q62)).set 36 (.ref q63)).set 37 (.ref q64))).length = 59 → W p l e R s m args below meth c H locs (cells + 28) (slots + 6506) Q (F0 m 225 ls [])) :
    W p l e R s m args below meth c H locs cells slots Q (F0 m 4 ls []) := by
  have d4 : decode cX12_init 4 = .ok (.aload_n 0, 1) := by decide +kernel
  have d5 : decode cX12_init 5 = .ok (.bipush 6, 2) := by decide +kernel
  have d7 : decode cX12_init 7 = .ok (.newarray .int, 2) := by decide +kernel
  have d9 : decode cX12_init 9 = .ok (.putfield 28, 3) := by decide +kernel
  have d12 : decode cX12_init 12 = .ok (.aload_n 0, 1) := by decide +kernel
  have d13 : decode cX12_init 13 = .ok (.bipush 6, 2) := by decide +kernel
  have d15 : decode cX12_init 15 = .ok (.newarray .int, 2) := by decide +kernel
  have d17 : decode cX12_init 17 = .ok (.putfield 31, 3) := by decide +kernel
  have d20 : decode cX12_init 20 = .ok (.aload_n 0, 1) := by decide +kernel
  have d21 : decode cX12_init 21 = .ok (.bipush 24, 2) := by decide +kernel
  have d23 : decode cX12_init 23 = .ok (.newarray .int, 2) := by decide +kernel
  have d25 : decode cX12_init 25 = .ok (.putfield 16, 3) := by decide +kernel
  have d28 : decode cX12_init 28 = .ok (.aload_n 0, 1) := by decide +kernel
  have d29 : decode cX12_init 29 = .ok (.bipush 24, 2) := by decide +kernel
  have d31 : decode cX12_init 31 = .ok (.newarray .int, 2) := by decide +kernel
  have d33 : decode cX12_init 33 = .ok (.putfield 20, 3) := by decide +kernel
  have d36 : decode cX12_init 36 = .ok (.aload_n 0, 1) := by decide +kernel
  have d37 : decode cX12_init 37 = .ok (.bipush 24, 2) := by decide +kernel
  have d39 : decode cX12_init 39 = .ok (.newarray .int, 2) := by decide +kernel
  have d41 : decode cX12_init 41 = .ok (.putfield 23, 3) := by decide +kernel
  have d44 : decode cX12_init 44 = .ok (.aload_n 0, 1) := by decide +kernel
  have d45 : decode cX12_init 45 = .ok (.bipush 12, 2) := by decide +kernel
  have d47 : decode cX12_init 47 = .ok (.newarray .int, 2) := by decide +kernel
  have d49 : decode cX12_init 49 = .ok (.putfield 53, 3) := by decide +kernel
  have d52 : decode cX12_init 52 = .ok (.aload_n 0, 1) := by decide +kernel
  have d53 : decode cX12_init 53 = .ok (.iconst 4, 1) := by decide +kernel
  have d54 : decode cX12_init 54 = .ok (.newarray .int, 2) := by decide +kernel
  have d56 : decode cX12_init 56 = .ok (.putfield 82, 3) := by decide +kernel
  have d59 : decode cX12_init 59 = .ok (.aload_n 0, 1) := by decide +kernel
  have d60 : decode cX12_init 60 = .ok (.iconst 4, 1) := by decide +kernel
  have d61 : decode cX12_init 61 = .ok (.newarray .int, 2) := by decide +kernel
  have d63 : decode cX12_init 63 = .ok (.putfield 100, 3) := by decide +kernel
  have d66 : decode cX12_init 66 = .ok (.aload_n 0, 1) := by decide +kernel
  have d67 : decode cX12_init 67 = .ok (.iconst 4, 1) := by decide +kernel
  have d68 : decode cX12_init 68 = .ok (.newarray .int, 2) := by decide +kernel
  have d70 : decode cX12_init 70 = .ok (.putfield 105, 3) := by decide +kernel
  have d73 : decode cX12_init 73 = .ok (.aload_n 0, 1) := by decide +kernel
  have d74 : decode cX12_init 74 = .ok (.iconst 4, 1) := by decide +kernel
  have d75 : decode cX12_init 75 = .ok (.newarray .int, 2) := by decide +kernel
  have d77 : decode cX12_init 77 = .ok (.putfield 108, 3) := by decide +kernel
  have d80 : decode cX12_init 80 = .ok (.aload_n 0, 1) := by decide +kernel
  have d81 : decode cX12_init 81 = .ok (.iconst 4, 1) := by decide +kernel
  have d82 : decode cX12_init 82 = .ok (.newarray .int, 2) := by decide +kernel
  have d84 : decode cX12_init 84 = .ok (.putfield 111, 3) := by decide +kernel
  have d87 : decode cX12_init 87 = .ok (.aload_n 0, 1) := by decide +kernel
  have d88 : decode cX12_init 88 = .ok (.iconst 4, 1) := by decide +kernel
  have d89 : decode cX12_init 89 = .ok (.newarray .int, 2) := by decide +kernel
  have d91 : decode cX12_init 91 = .ok (.putfield 160, 3) := by decide +kernel
  have d94 : decode cX12_init 94 = .ok (.aload_n 0, 1) := by decide +kernel
  have d95 : decode cX12_init 95 = .ok (.iconst 4, 1) := by decide +kernel
  have d96 : decode cX12_init 96 = .ok (.newarray .boolean, 2) := by decide +kernel
  have d98 : decode cX12_init 98 = .ok (.putfield 96, 3) := by decide +kernel
  have d101 : decode cX12_init 101 = .ok (.aload_n 0, 1) := by decide +kernel
  have d102 : decode cX12_init 102 = .ok (.bipush 16, 2) := by decide +kernel
  have d104 : decode cX12_init 104 = .ok (.newarray .int, 2) := by decide +kernel
  have d106 : decode cX12_init 106 = .ok (.putfield 93, 3) := by decide +kernel
  have d109 : decode cX12_init 109 = .ok (.aload_n 0, 1) := by decide +kernel
  have d110 : decode cX12_init 110 = .ok (.bipush 60, 2) := by decide +kernel
  have d112 : decode cX12_init 112 = .ok (.newarray .int, 2) := by decide +kernel
  have d114 : decode cX12_init 114 = .ok (.putfield 73, 3) := by decide +kernel
  have d117 : decode cX12_init 117 = .ok (.aload_n 0, 1) := by decide +kernel
  have d118 : decode cX12_init 118 = .ok (.sipush 240, 3) := by decide +kernel
  have d121 : decode cX12_init 121 = .ok (.newarray .int, 2) := by decide +kernel
  have d123 : decode cX12_init 123 = .ok (.putfield 79, 3) := by decide +kernel
  have d126 : decode cX12_init 126 = .ok (.aload_n 0, 1) := by decide +kernel
  have d127 : decode cX12_init 127 = .ok (.bipush 16, 2) := by decide +kernel
  have d129 : decode cX12_init 129 = .ok (.newarray .int, 2) := by decide +kernel
  have d131 : decode cX12_init 131 = .ok (.putfield 138, 3) := by decide +kernel
  have d134 : decode cX12_init 134 = .ok (.aload_n 0, 1) := by decide +kernel
  have d135 : decode cX12_init 135 = .ok (.bipush 16, 2) := by decide +kernel
  have d137 : decode cX12_init 137 = .ok (.newarray .int, 2) := by decide +kernel
  have d139 : decode cX12_init 139 = .ok (.putfield 132, 3) := by decide +kernel
  have d142 : decode cX12_init 142 = .ok (.aload_n 0, 1) := by decide +kernel
  have d143 : decode cX12_init 143 = .ok (.bipush 16, 2) := by decide +kernel
  have d145 : decode cX12_init 145 = .ok (.newarray .int, 2) := by decide +kernel
  have d147 : decode cX12_init 147 = .ok (.putfield 145, 3) := by decide +kernel
  have d150 : decode cX12_init 150 = .ok (.aload_n 0, 1) := by decide +kernel
  have d151 : decode cX12_init 151 = .ok (.bipush 16, 2) := by decide +kernel
  have d153 : decode cX12_init 153 = .ok (.newarray .int, 2) := by decide +kernel
  have d155 : decode cX12_init 155 = .ok (.putfield 148, 3) := by decide +kernel
  have d158 : decode cX12_init 158 = .ok (.aload_n 0, 1) := by decide +kernel
  have d159 : decode cX12_init 159 = .ok (.bipush 16, 2) := by decide +kernel
  have d161 : decode cX12_init 161 = .ok (.newarray .int, 2) := by decide +kernel
  have d163 : decode cX12_init 163 = .ok (.putfield 151, 3) := by decide +kernel
  have d166 : decode cX12_init 166 = .ok (.aload_n 0, 1) := by decide +kernel
  have d167 : decode cX12_init 167 = .ok (.bipush 16, 2) := by decide +kernel
  have d169 : decode cX12_init 169 = .ok (.newarray .boolean, 2) := by decide +kernel
  have d171 : decode cX12_init 171 = .ok (.putfield 135, 3) := by decide +kernel
  have d174 : decode cX12_init 174 = .ok (.aload_n 0, 1) := by decide +kernel
  have d175 : decode cX12_init 175 = .ok (.bipush 16, 2) := by decide +kernel
  have d177 : decode cX12_init 177 = .ok (.newarray .int, 2) := by decide +kernel
  have d179 : decode cX12_init 179 = .ok (.putfield 157, 3) := by decide +kernel
  have d182 : decode cX12_init 182 = .ok (.aload_n 0, 1) := by decide +kernel
  have d183 : decode cX12_init 183 = .ok (.bipush 16, 2) := by decide +kernel
  have d185 : decode cX12_init 185 = .ok (.newarray .long, 2) := by decide +kernel
  have d187 : decode cX12_init 187 = .ok (.putfield 191, 3) := by decide +kernel
  have d190 : decode cX12_init 190 = .ok (.aload_n 0, 1) := by decide +kernel
  have d191 : decode cX12_init 191 = .ok (.sipush 160, 3) := by decide +kernel
  have d194 : decode cX12_init 194 = .ok (.newarray .byte, 2) := by decide +kernel
  have d196 : decode cX12_init 196 = .ok (.putfield 212, 3) := by decide +kernel
  have d199 : decode cX12_init 199 = .ok (.aload_n 0, 1) := by decide +kernel
  have d200 : decode cX12_init 200 = .ok (.bipush 18, 2) := by decide +kernel
  have d202 : decode cX12_init 202 = .ok (.newarray .int, 2) := by decide +kernel
  have d204 : decode cX12_init 204 = .ok (.putfield 216, 3) := by decide +kernel
  have d207 : decode cX12_init 207 = .ok (.aload_n 0, 1) := by decide +kernel
  have d208 : decode cX12_init 208 = .ok (.sipush 2880, 3) := by decide +kernel
  have d211 : decode cX12_init 211 = .ok (.newarray .int, 2) := by decide +kernel
  have d213 : decode cX12_init 213 = .ok (.putfield 219, 3) := by decide +kernel
  have d216 : decode cX12_init 216 = .ok (.aload_n 0, 1) := by decide +kernel
  have d217 : decode cX12_init 217 = .ok (.sipush 2880, 3) := by decide +kernel
  have d220 : decode cX12_init 220 = .ok (.newarray .int, 2) := by decide +kernel
  have d222 : decode cX12_init 222 = .ok (.putfield 222, 3) := by decide +kernel
  refine lv_aload_n (k := 0) (i := 0) hx hb d4 rfl (lv_at hl 0 rfl) ?_
  refine lv_bipush (n := 6) (v := 6) hx hb d5 rfl ?_
  refine mo_new (N' := 6) (ty := .int) (a0 := (6, .inl fun _ => 0)) hx hb hts hA hP hD hK hS (xwd_mem (i := 134) (by decide +kernel)) rfl (fun _ => rfl) (by decide) rfl (by decide) (by omega) (by omega) d7 (fun q37 c37 H hP hD hK hS => ?_)
  refine mo_put (b := 2) (ty := .array .int) hx hb hts hown hin hP hD hK hS (by decide) (xwd_mem (i := 1265) (by decide +kernel)) rfl rfl (by decide +kernel) rfl rfl hlen d9 (fun H locs hP hD hS hlen => ?_)
  refine lv_aload_n (k := 0) (i := 0) hx hb d12 rfl (lv_at hl 0 rfl) ?_
  refine lv_bipush (n := 6) (v := 6) hx hb d13 rfl ?_
  refine mo_new (N' := 6) (ty := .int) (a0 := (6, .inl fun _ => 0)) hx hb hts hA hP hD hK hS (xwd_mem (i := 134) (by decide +kernel)) rfl (fun _ => rfl) (by decide) rfl (by decide) (by omega) (by omega) d15 (fun q38 c38 H hP hD hK hS => ?_)
  refine mo_put (b := 3) (ty := .array .int) hx hb hts hown hin hP hD hK hS (by decide) (xwd_mem (i := 1266) (by decide +kernel)) rfl rfl (by decide +kernel) rfl rfl hlen d17 (fun H locs hP hD hS hlen => ?_)
  refine lv_aload_n (k := 0) (i := 0) hx hb d20 rfl (lv_at hl 0 rfl) ?_
  refine lv_bipush (n := 24) (v := 24) hx hb d21 rfl ?_
  refine mo_new (N' := 24) (ty := .int) (a0 := (24, .inl fun _ => 0)) hx hb hts hA hP hD hK hS (xwd_mem (i := 134) (by decide +kernel)) rfl (fun _ => rfl) (by decide) rfl (by decide) (by omega) (by omega) d23 (fun q39 c39 H hP hD hK hS => ?_)
  refine mo_put (b := 4) (ty := .array .int) hx hb hts hown hin hP hD hK hS (by decide) (xwd_mem (i := 1267) (by decide +kernel)) rfl rfl (by decide +kernel) rfl rfl hlen d25 (fun H locs hP hD hS hlen => ?_)
  refine lv_aload_n (k := 0) (i := 0) hx hb d28 rfl (lv_at hl 0 rfl) ?_
  refine lv_bipush (n := 24) (v := 24) hx hb d29 rfl ?_
  refine mo_new (N' := 24) (ty := .int) (a0 := (24, .inl fun _ => 0)) hx hb hts hA hP hD hK hS (xwd_mem (i := 134) (by decide +kernel)) rfl (fun _ => rfl) (by decide) rfl (by decide) (by omega) (by omega) d31 (fun q40 c40 H hP hD hK hS => ?_)
  refine mo_put (b := 5) (ty := .array .int) hx hb hts hown hin hP hD hK hS (by decide) (xwd_mem (i := 1268) (by decide +kernel)) rfl rfl (by decide +kernel) rfl rfl hlen d33 (fun H locs hP hD hS hlen => ?_)
  refine lv_aload_n (k := 0) (i := 0) hx hb d36 rfl (lv_at hl 0 rfl) ?_
  refine lv_bipush (n := 24) (v := 24) hx hb d37 rfl ?_
  refine mo_new (N' := 24) (ty := .int) (a0 := (24, .inl fun _ => 0)) hx hb hts hA hP hD hK hS (xwd_mem (i := 134) (by decide +kernel)) rfl (fun _ => rfl) (by decide) rfl (by decide) (by omega) (by omega) d39 (fun q41 c41 H hP hD hK hS => ?_)
  refine mo_put (b := 6) (ty := .array .int) hx hb hts hown hin hP hD hK hS (by decide) (xwd_mem (i := 1269) (by decide +kernel)) rfl rfl (by decide +kernel) rfl rfl hlen d41 (fun H locs hP hD hS hlen => ?_)
  refine lv_aload_n (k := 0) (i := 0) hx hb d44 rfl (lv_at hl 0 rfl) ?_
  refine lv_bipush (n := 12) (v := 12) hx hb d45 rfl ?_
  refine mo_new (N' := 12) (ty := .int) (a0 := (12, .inl fun _ => 0)) hx hb hts hA hP hD hK hS (xwd_mem (i := 134) (by decide +kernel)) rfl (fun _ => rfl) (by decide) rfl (by decide) (by omega) (by omega) d47 (fun q42 c42 H hP hD hK hS => ?_)
  refine mo_put (b := 7) (ty := .array .int) hx hb hts hown hin hP hD hK hS (by decide) (xwd_mem (i := 1270) (by decide +kernel)) rfl rfl (by decide +kernel) rfl rfl hlen d49 (fun H locs hP hD hS hlen => ?_)
  refine lv_aload_n (k := 0) (i := 0) hx hb d52 rfl (lv_at hl 0 rfl) ?_
  refine lv_iconst (n := 4) (v := 4) hx hb d53 rfl ?_
  refine mo_new (N' := 4) (ty := .int) (a0 := (4, .inl fun _ => 0)) hx hb hts hA hP hD hK hS (xwd_mem (i := 134) (by decide +kernel)) rfl (fun _ => rfl) (by decide) rfl (by decide) (by omega) (by omega) d54 (fun q43 c43 H hP hD hK hS => ?_)
  refine mo_put (b := 9) (ty := .array .int) hx hb hts hown hin hP hD hK hS (by decide) (xwd_mem (i := 1272) (by decide +kernel)) rfl rfl (by decide +kernel) rfl rfl hlen d56 (fun H locs hP hD hS hlen => ?_)
  refine lv_aload_n (k := 0) (i := 0) hx hb d59 rfl (lv_at hl 0 rfl) ?_
  refine lv_iconst (n := 4) (v := 4) hx hb d60 rfl ?_
  refine mo_new (N' := 4) (ty := .int) (a0 := (4, .inl fun _ => 0)) hx hb hts hA hP hD hK hS (xwd_mem (i := 134) (by decide +kernel)) rfl (fun _ => rfl) (by decide) rfl (by decide) (by omega) (by omega) d61 (fun q44 c44 H hP hD hK hS => ?_)
  refine mo_put (b := 10) (ty := .array .int) hx hb hts hown hin hP hD hK hS (by decide) (xwd_mem (i := 1273) (by decide +kernel)) rfl rfl (by decide +kernel) rfl rfl hlen d63 (fun H locs hP hD hS hlen => ?_)
  refine lv_aload_n (k := 0) (i := 0) hx hb d66 rfl (lv_at hl 0 rfl) ?_
  refine lv_iconst (n := 4) (v := 4) hx hb d67 rfl ?_
  refine mo_new (N' := 4) (ty := .int) (a0 := (4, .inl fun _ => 0)) hx hb hts hA hP hD hK hS (xwd_mem (i := 134) (by decide +kernel)) rfl (fun _ => rfl) (by decide) rfl (by decide) (by omega) (by omega) d68 (fun q45 c45 H hP hD hK hS => ?_)
  refine mo_put (b := 11) (ty := .array .int) hx hb hts hown hin hP hD hK hS (by decide) (xwd_mem (i := 1274) (by decide +kernel)) rfl rfl (by decide +kernel) rfl rfl hlen d70 (fun H locs hP hD hS hlen => ?_)
  refine lv_aload_n (k := 0) (i := 0) hx hb d73 rfl (lv_at hl 0 rfl) ?_
  refine lv_iconst (n := 4) (v := 4) hx hb d74 rfl ?_
  refine mo_new (N' := 4) (ty := .int) (a0 := (4, .inl fun _ => 0)) hx hb hts hA hP hD hK hS (xwd_mem (i := 134) (by decide +kernel)) rfl (fun _ => rfl) (by decide) rfl (by decide) (by omega) (by omega) d75 (fun q46 c46 H hP hD hK hS => ?_)
  refine mo_put (b := 12) (ty := .array .int) hx hb hts hown hin hP hD hK hS (by decide) (xwd_mem (i := 1275) (by decide +kernel)) rfl rfl (by decide +kernel) rfl rfl hlen d77 (fun H locs hP hD hS hlen => ?_)
  refine lv_aload_n (k := 0) (i := 0) hx hb d80 rfl (lv_at hl 0 rfl) ?_
  refine lv_iconst (n := 4) (v := 4) hx hb d81 rfl ?_
  refine mo_new (N' := 4) (ty := .int) (a0 := (4, .inl fun _ => 0)) hx hb hts hA hP hD hK hS (xwd_mem (i := 134) (by decide +kernel)) rfl (fun _ => rfl) (by decide) rfl (by decide) (by omega) (by omega) d82 (fun q47 c47 H hP hD hK hS => ?_)
  refine mo_put (b := 13) (ty := .array .int) hx hb hts hown hin hP hD hK hS (by decide) (xwd_mem (i := 1276) (by decide +kernel)) rfl rfl (by decide +kernel) rfl rfl hlen d84 (fun H locs hP hD hS hlen => ?_)
  refine lv_aload_n (k := 0) (i := 0) hx hb d87 rfl (lv_at hl 0 rfl) ?_
  refine lv_iconst (n := 4) (v := 4) hx hb d88 rfl ?_
  refine mo_new (N' := 4) (ty := .int) (a0 := (4, .inl fun _ => 0)) hx hb hts hA hP hD hK hS (xwd_mem (i := 134) (by decide +kernel)) rfl (fun _ => rfl) (by decide) rfl (by decide) (by omega) (by omega) d89 (fun q48 c48 H hP hD hK hS => ?_)
  refine mo_put (b := 14) (ty := .array .int) hx hb hts hown hin hP hD hK hS (by decide) (xwd_mem (i := 1277) (by decide +kernel)) rfl rfl (by decide +kernel) rfl rfl hlen d91 (fun H locs hP hD hS hlen => ?_)
  refine lv_aload_n (k := 0) (i := 0) hx hb d94 rfl (lv_at hl 0 rfl) ?_
  refine lv_iconst (n := 4) (v := 4) hx hb d95 rfl ?_
  refine mo_new (N' := 4) (ty := .boolean) (a0 := (4, .inl fun _ => 0)) hx hb hts hA hP hD hK hS (xwd_mem (i := 1441) (by decide +kernel)) rfl (fun _ => rfl) (by decide) rfl (by decide) (by omega) (by omega) d96 (fun q49 c49 H hP hD hK hS => ?_)
  refine mo_put (b := 15) (ty := .array .boolean) hx hb hts hown hin hP hD hK hS (by decide) (xwd_mem (i := 1278) (by decide +kernel)) rfl rfl (by decide +kernel) rfl rfl hlen d98 (fun H locs hP hD hS hlen => ?_)
  refine lv_aload_n (k := 0) (i := 0) hx hb d101 rfl (lv_at hl 0 rfl) ?_
  refine lv_bipush (n := 16) (v := 16) hx hb d102 rfl ?_
  refine mo_new (N' := 16) (ty := .int) (a0 := (16, .inl fun _ => 0)) hx hb hts hA hP hD hK hS (xwd_mem (i := 134) (by decide +kernel)) rfl (fun _ => rfl) (by decide) rfl (by decide) (by omega) (by omega) d104 (fun q50 c50 H hP hD hK hS => ?_)
  refine mo_put (b := 16) (ty := .array .int) hx hb hts hown hin hP hD hK hS (by decide) (xwd_mem (i := 1279) (by decide +kernel)) rfl rfl (by decide +kernel) rfl rfl hlen d106 (fun H locs hP hD hS hlen => ?_)
  refine lv_aload_n (k := 0) (i := 0) hx hb d109 rfl (lv_at hl 0 rfl) ?_
  refine lv_bipush (n := 60) (v := 60) hx hb d110 rfl ?_
  refine mo_new (N' := 60) (ty := .int) (a0 := (60, .inl fun _ => 0)) hx hb hts hA hP hD hK hS (xwd_mem (i := 134) (by decide +kernel)) rfl (fun _ => rfl) (by decide) rfl (by decide) (by omega) (by omega) d112 (fun q51 c51 H hP hD hK hS => ?_)
  refine mo_put (b := 17) (ty := .array .int) hx hb hts hown hin hP hD hK hS (by decide) (xwd_mem (i := 1280) (by decide +kernel)) rfl rfl (by decide +kernel) rfl rfl hlen d114 (fun H locs hP hD hS hlen => ?_)
  refine lv_aload_n (k := 0) (i := 0) hx hb d117 rfl (lv_at hl 0 rfl) ?_
  refine lv_sipush (n := 240) (v := 240) hx hb d118 rfl ?_
  refine mo_new (N' := 240) (ty := .int) (a0 := (240, .inl fun _ => 0)) hx hb hts hA hP hD hK hS (xwd_mem (i := 134) (by decide +kernel)) rfl (fun _ => rfl) (by decide) rfl (by decide) (by omega) (by omega) d121 (fun q52 c52 H hP hD hK hS => ?_)
  refine mo_put (b := 18) (ty := .array .int) hx hb hts hown hin hP hD hK hS (by decide) (xwd_mem (i := 1281) (by decide +kernel)) rfl rfl (by decide +kernel) rfl rfl hlen d123 (fun H locs hP hD hS hlen => ?_)
  refine lv_aload_n (k := 0) (i := 0) hx hb d126 rfl (lv_at hl 0 rfl) ?_
  refine lv_bipush (n := 16) (v := 16) hx hb d127 rfl ?_
  refine mo_new (N' := 16) (ty := .int) (a0 := (16, .inl fun _ => 0)) hx hb hts hA hP hD hK hS (xwd_mem (i := 134) (by decide +kernel)) rfl (fun _ => rfl) (by decide) rfl (by decide) (by omega) (by omega) d129 (fun q53 c53 H hP hD hK hS => ?_)
  refine mo_put (b := 20) (ty := .array .int) hx hb hts hown hin hP hD hK hS (by decide) (xwd_mem (i := 1283) (by decide +kernel)) rfl rfl (by decide +kernel) rfl rfl hlen d131 (fun H locs hP hD hS hlen => ?_)
  refine lv_aload_n (k := 0) (i := 0) hx hb d134 rfl (lv_at hl 0 rfl) ?_
  refine lv_bipush (n := 16) (v := 16) hx hb d135 rfl ?_
  refine mo_new (N' := 16) (ty := .int) (a0 := (16, .inl fun _ => 0)) hx hb hts hA hP hD hK hS (xwd_mem (i := 134) (by decide +kernel)) rfl (fun _ => rfl) (by decide) rfl (by decide) (by omega) (by omega) d137 (fun q54 c54 H hP hD hK hS => ?_)
  refine mo_put (b := 21) (ty := .array .int) hx hb hts hown hin hP hD hK hS (by decide) (xwd_mem (i := 1284) (by decide +kernel)) rfl rfl (by decide +kernel) rfl rfl hlen d139 (fun H locs hP hD hS hlen => ?_)
  refine lv_aload_n (k := 0) (i := 0) hx hb d142 rfl (lv_at hl 0 rfl) ?_
  refine lv_bipush (n := 16) (v := 16) hx hb d143 rfl ?_
  refine mo_new (N' := 16) (ty := .int) (a0 := (16, .inl fun _ => 0)) hx hb hts hA hP hD hK hS (xwd_mem (i := 134) (by decide +kernel)) rfl (fun _ => rfl) (by decide) rfl (by decide) (by omega) (by omega) d145 (fun q55 c55 H hP hD hK hS => ?_)
  refine mo_put (b := 22) (ty := .array .int) hx hb hts hown hin hP hD hK hS (by decide) (xwd_mem (i := 1285) (by decide +kernel)) rfl rfl (by decide +kernel) rfl rfl hlen d147 (fun H locs hP hD hS hlen => ?_)
  refine lv_aload_n (k := 0) (i := 0) hx hb d150 rfl (lv_at hl 0 rfl) ?_
  refine lv_bipush (n := 16) (v := 16) hx hb d151 rfl ?_
  refine mo_new (N' := 16) (ty := .int) (a0 := (16, .inl fun _ => 0)) hx hb hts hA hP hD hK hS (xwd_mem (i := 134) (by decide +kernel)) rfl (fun _ => rfl) (by decide) rfl (by decide) (by omega) (by omega) d153 (fun q56 c56 H hP hD hK hS => ?_)
  refine mo_put (b := 23) (ty := .array .int) hx hb hts hown hin hP hD hK hS (by decide) (xwd_mem (i := 1286) (by decide +kernel)) rfl rfl (by decide +kernel) rfl rfl hlen d155 (fun H locs hP hD hS hlen => ?_)
  refine lv_aload_n (k := 0) (i := 0) hx hb d158 rfl (lv_at hl 0 rfl) ?_
  refine lv_bipush (n := 16) (v := 16) hx hb d159 rfl ?_
  refine mo_new (N' := 16) (ty := .int) (a0 := (16, .inl fun _ => 0)) hx hb hts hA hP hD hK hS (xwd_mem (i := 134) (by decide +kernel)) rfl (fun _ => rfl) (by decide) rfl (by decide) (by omega) (by omega) d161 (fun q57 c57 H hP hD hK hS => ?_)
  refine mo_put (b := 24) (ty := .array .int) hx hb hts hown hin hP hD hK hS (by decide) (xwd_mem (i := 1287) (by decide +kernel)) rfl rfl (by decide +kernel) rfl rfl hlen d163 (fun H locs hP hD hS hlen => ?_)
  refine lv_aload_n (k := 0) (i := 0) hx hb d166 rfl (lv_at hl 0 rfl) ?_
  refine lv_bipush (n := 16) (v := 16) hx hb d167 rfl ?_
  refine mo_new (N' := 16) (ty := .boolean) (a0 := (16, .inl fun _ => 0)) hx hb hts hA hP hD hK hS (xwd_mem (i := 1441) (by decide +kernel)) rfl (fun _ => rfl) (by decide) rfl (by decide) (by omega) (by omega) d169 (fun q58 c58 H hP hD hK hS => ?_)
  refine mo_put (b := 25) (ty := .array .boolean) hx hb hts hown hin hP hD hK hS (by decide) (xwd_mem (i := 1288) (by decide +kernel)) rfl rfl (by decide +kernel) rfl rfl hlen d171 (fun H locs hP hD hS hlen => ?_)
  refine lv_aload_n (k := 0) (i := 0) hx hb d174 rfl (lv_at hl 0 rfl) ?_
  refine lv_bipush (n := 16) (v := 16) hx hb d175 rfl ?_
  refine mo_new (N' := 16) (ty := .int) (a0 := (16, .inl fun _ => 0)) hx hb hts hA hP hD hK hS (xwd_mem (i := 134) (by decide +kernel)) rfl (fun _ => rfl) (by decide) rfl (by decide) (by omega) (by omega) d177 (fun q59 c59 H hP hD hK hS => ?_)
  refine mo_put (b := 26) (ty := .array .int) hx hb hts hown hin hP hD hK hS (by decide) (xwd_mem (i := 1289) (by decide +kernel)) rfl rfl (by decide +kernel) rfl rfl hlen d179 (fun H locs hP hD hS hlen => ?_)
  refine lv_aload_n (k := 0) (i := 0) hx hb d182 rfl (lv_at hl 0 rfl) ?_
  refine lv_bipush (n := 16) (v := 16) hx hb d183 rfl ?_
  refine mo_new (N' := 16) (ty := .long) (a0 := (16, .inr (.inl fun _ => 0))) hx hb hts hA hP hD hK hS (xwd_mem (i := 1442) (by decide +kernel)) rfl (fun _ => rfl) (by decide) rfl (by decide) (by omega) (by omega) d185 (fun q60 c60 H hP hD hK hS => ?_)
  refine mo_put (b := 30) (ty := .array .long) hx hb hts hown hin hP hD hK hS (by decide) (xwd_mem (i := 1293) (by decide +kernel)) rfl rfl (by decide +kernel) rfl rfl hlen d187 (fun H locs hP hD hS hlen => ?_)
  refine lv_aload_n (k := 0) (i := 0) hx hb d190 rfl (lv_at hl 0 rfl) ?_
  refine lv_sipush (n := 160) (v := 160) hx hb d191 rfl ?_
  refine mo_new (N' := 160) (ty := .byte) (a0 := (160, .inl fun _ => 0)) hx hb hts hA hP hD hK hS (xwd_mem (i := 213) (by decide +kernel)) rfl (fun _ => rfl) (by decide) rfl (by decide) (by omega) (by omega) d194 (fun q61 c61 H hP hD hK hS => ?_)
  refine mo_put (b := 31) (ty := .array .byte) hx hb hts hown hin hP hD hK hS (by decide) (xwd_mem (i := 1294) (by decide +kernel)) rfl rfl (by decide +kernel) rfl rfl hlen d196 (fun H locs hP hD hS hlen => ?_)
  refine lv_aload_n (k := 0) (i := 0) hx hb d199 rfl (lv_at hl 0 rfl) ?_
  refine lv_bipush (n := 18) (v := 18) hx hb d200 rfl ?_
  refine mo_new (N' := 18) (ty := .int) (a0 := (18, .inl fun _ => 0)) hx hb hts hA hP hD hK hS (xwd_mem (i := 134) (by decide +kernel)) rfl (fun _ => rfl) (by decide) rfl (by decide) (by omega) (by omega) d202 (fun q62 c62 H hP hD hK hS => ?_)
  refine mo_put (b := 35) (ty := .array .int) hx hb hts hown hin hP hD hK hS (by decide) (xwd_mem (i := 1298) (by decide +kernel)) rfl rfl (by decide +kernel) rfl rfl hlen d204 (fun H locs hP hD hS hlen => ?_)
  refine lv_aload_n (k := 0) (i := 0) hx hb d207 rfl (lv_at hl 0 rfl) ?_
  refine lv_sipush (n := 2880) (v := 2880) hx hb d208 rfl ?_
  refine mo_new (N' := 2880) (ty := .int) (a0 := (2880, .inl fun _ => 0)) hx hb hts hA hP hD hK hS (xwd_mem (i := 134) (by decide +kernel)) rfl (fun _ => rfl) (by decide) rfl (by decide) (by omega) (by omega) d211 (fun q63 c63 H hP hD hK hS => ?_)
  refine mo_put (b := 36) (ty := .array .int) hx hb hts hown hin hP hD hK hS (by decide) (xwd_mem (i := 1299) (by decide +kernel)) rfl rfl (by decide +kernel) rfl rfl hlen d213 (fun H locs hP hD hS hlen => ?_)
  refine lv_aload_n (k := 0) (i := 0) hx hb d216 rfl (lv_at hl 0 rfl) ?_
  refine lv_sipush (n := 2880) (v := 2880) hx hb d217 rfl ?_
  refine mo_new (N' := 2880) (ty := .int) (a0 := (2880, .inl fun _ => 0)) hx hb hts hA hP hD hK hS (xwd_mem (i := 134) (by decide +kernel)) rfl (fun _ => rfl) (by decide) rfl (by decide) (by omega) (by omega) d220 (fun q64 c64 H hP hD hK hS => ?_)
  refine mo_put (b := 37) (ty := .array .int) hx hb hts hown hin hP hD hK hS (by decide) (xwd_mem (i := 1300) (by decide +kernel)) rfl rfl (by decide +kernel) rfl rfl hlen d222 (fun H locs hP hD hS hlen => ?_)
  exact kk q37 c37 q38 c38 q39 c39 q40 c40 q41 c41 q42 c42 q43 c43 q44 c44 q45 c45 q46 c46 q47 c47 q48 c48 q49 c49 q50 c50 q51 c51 q52 c52 q53 c53 q54 c54 q55 c55 q56 c56 q57 c57 q58 c58 q59 c59 q60 c60 q61 c61 q62 c62 q63 c63 q64 c64  H locs  hP hD hK hS hlen
set_option maxRecDepth 20000 in
set_option maxHeartbeats 4000000 in
theorem mo_b {Dg : va_G} {p : Program} {l : Launch} {e : Env} {R : Room} {s : State} {m : MethodId} {args : Array Value} {below : List Frame} {meth : Method} {c : Code} {H : Heap} {ls : Array Slot} {locs : List Loc} {m0 : Nat} {A : Nat → Prop} {Q : State → Prop} {cells slots : Nat} {fs : List Value} {pl : va_W} {tl : List (ClassId × FieldType)} (hx : p.tables.exec = Jvm.exec) (hb : c.code = cX12_init) (hts : ∀ w ∈ xT, w.before args s = true) (hown : s.vm.findClass "MonsoonTradeModel" = some m.cls) (hin : meth.name = "<init>") (hA : ∀ q : Nat, s.heap.size ≤ q → A q) (hlen : fs.length = 59) {lv : List (Nat × Value)} {nL : Nat} (hl : lv_has ls nL ((0, .ref m0) :: lv)) (hP : va_P Dg classes ((m0, .inr (12, fs)) :: pl) H) (hD : va_D A ((m0, .inr (12, fs)) :: pl)) (hK : va_K Dg classes tl s) (hS : va_S A s.heap H locs) (hc : cells + 1 ≤ R.cells) (hz : slots + 45 ≤ R.slots)
    (kk : ∀ (q65 : Nat) (c65 : ClassId) (f65 : Nat → Int32) (H : Heap) (locs : List Loc), (∀ j, j < 45 → f65 j = nI (gMl.getD j 0)) → va_P Dg classes ((m0, .inr (12, (fs.set 38 (.ref q65)))) :: (q65, .inl (c65, 45, .inl f65)) :: pl) H → va_D A ((m0, .inr (12, (fs.set 38 (.ref q65)))) :: (q65, .inl (c65, 45, .inl f65)) :: pl) → va_K Dg classes ((c65, .char) :: tl) s → va_S A s.heap H locs → ((fs.set 38 (.ref q65))).length = 59 → W p l e R s m args below meth c H locs (cells + 1) (slots + 45) Q (F0 m 497 ls [])) :
    W p l e R s m args below meth c H locs cells slots Q (F0 m 225 ls []) := by
  have d225 : decode cX12_init 225 = .ok (.aload_n 0, 1) := by decide +kernel
  have d226 : decode cX12_init 226 = .ok (.bipush 45, 2) := by decide +kernel
  have d228 : decode cX12_init 228 = .ok (.newarray .char, 2) := by decide +kernel
  have d230 : decode cX12_init 230 = .ok (.dup, 1) := by decide +kernel
  have d231 : decode cX12_init 231 = .ok (.iconst 0, 1) := by decide +kernel
  have d232 : decode cX12_init 232 = .ok (.bipush 103, 2) := by decide +kernel
  have d234 : decode cX12_init 234 = .ok (.castore, 1) := by decide +kernel
  have d235 : decode cX12_init 235 = .ok (.dup, 1) := by decide +kernel
  have d236 : decode cX12_init 236 = .ok (.iconst 1, 1) := by decide +kernel
  have d237 : decode cX12_init 237 = .ok (.bipush 97, 2) := by decide +kernel
  have d239 : decode cX12_init 239 = .ok (.castore, 1) := by decide +kernel
  have d240 : decode cX12_init 240 = .ok (.dup, 1) := by decide +kernel
  have d241 : decode cX12_init 241 = .ok (.iconst 2, 1) := by decide +kernel
  have d242 : decode cX12_init 242 = .ok (.bipush 105, 2) := by decide +kernel
  have d244 : decode cX12_init 244 = .ok (.castore, 1) := by decide +kernel
  have d245 : decode cX12_init 245 = .ok (.dup, 1) := by decide +kernel
  have d246 : decode cX12_init 246 = .ok (.iconst 3, 1) := by decide +kernel
  have d247 : decode cX12_init 247 = .ok (.bipush 110, 2) := by decide +kernel
  have d249 : decode cX12_init 249 = .ok (.castore, 1) := by decide +kernel
  have d250 : decode cX12_init 250 = .ok (.dup, 1) := by decide +kernel
  have d251 : decode cX12_init 251 = .ok (.iconst 4, 1) := by decide +kernel
  have d252 : decode cX12_init 252 = .ok (.bipush 100, 2) := by decide +kernel
  have d254 : decode cX12_init 254 = .ok (.castore, 1) := by decide +kernel
  have d255 : decode cX12_init 255 = .ok (.dup, 1) := by decide +kernel
  have d256 : decode cX12_init 256 = .ok (.iconst 5, 1) := by decide +kernel
  have d257 : decode cX12_init 257 = .ok (.bipush 97, 2) := by decide +kernel
  have d259 : decode cX12_init 259 = .ok (.castore, 1) := by decide +kernel
  have d260 : decode cX12_init 260 = .ok (.dup, 1) := by decide +kernel
  have d261 : decode cX12_init 261 = .ok (.bipush 6, 2) := by decide +kernel
  have d263 : decode cX12_init 263 = .ok (.bipush 121, 2) := by decide +kernel
  have d265 : decode cX12_init 265 = .ok (.castore, 1) := by decide +kernel
  have d266 : decode cX12_init 266 = .ok (.dup, 1) := by decide +kernel
  have d267 : decode cX12_init 267 = .ok (.bipush 7, 2) := by decide +kernel
  have d269 : decode cX12_init 269 = .ok (.bipush 115, 2) := by decide +kernel
  have d271 : decode cX12_init 271 = .ok (.castore, 1) := by decide +kernel
  have d272 : decode cX12_init 272 = .ok (.dup, 1) := by decide +kernel
  have d273 : decode cX12_init 273 = .ok (.bipush 8, 2) := by decide +kernel
  have d275 : decode cX12_init 275 = .ok (.bipush 109, 2) := by decide +kernel
  have d277 : decode cX12_init 277 = .ok (.castore, 1) := by decide +kernel
  have d278 : decode cX12_init 278 = .ok (.dup, 1) := by decide +kernel
  have d279 : decode cX12_init 279 = .ok (.bipush 9, 2) := by decide +kernel
  have d281 : decode cX12_init 281 = .ok (.bipush 101, 2) := by decide +kernel
  have d283 : decode cX12_init 283 = .ok (.castore, 1) := by decide +kernel
  have d284 : decode cX12_init 284 = .ok (.dup, 1) := by decide +kernel
  have d285 : decode cX12_init 285 = .ok (.bipush 10, 2) := by decide +kernel
  have d287 : decode cX12_init 287 = .ok (.bipush 110, 2) := by decide +kernel
  have d289 : decode cX12_init 289 = .ok (.castore, 1) := by decide +kernel
  have d290 : decode cX12_init 290 = .ok (.dup, 1) := by decide +kernel
  have d291 : decode cX12_init 291 = .ok (.bipush 11, 2) := by decide +kernel
  have d293 : decode cX12_init 293 = .ok (.bipush 112, 2) := by decide +kernel
  have d295 : decode cX12_init 295 = .ok (.castore, 1) := by decide +kernel
  have d296 : decode cX12_init 296 = .ok (.dup, 1) := by decide +kernel
  have d297 : decode cX12_init 297 = .ok (.bipush 12, 2) := by decide +kernel
  have d299 : decode cX12_init 299 = .ok (.bipush 97, 2) := by decide +kernel
  have d301 : decode cX12_init 301 = .ok (.castore, 1) := by decide +kernel
  have d302 : decode cX12_init 302 = .ok (.dup, 1) := by decide +kernel
  have d303 : decode cX12_init 303 = .ok (.bipush 13, 2) := by decide +kernel
  have d305 : decode cX12_init 305 = .ok (.bipush 114, 2) := by decide +kernel
  have d307 : decode cX12_init 307 = .ok (.castore, 1) := by decide +kernel
  have d308 : decode cX12_init 308 = .ok (.dup, 1) := by decide +kernel
  have d309 : decode cX12_init 309 = .ok (.bipush 14, 2) := by decide +kernel
  have d311 : decode cX12_init 311 = .ok (.bipush 116, 2) := by decide +kernel
  have d313 : decode cX12_init 313 = .ok (.castore, 1) := by decide +kernel
  have d314 : decode cX12_init 314 = .ok (.dup, 1) := by decide +kernel
  have d315 : decode cX12_init 315 = .ok (.bipush 15, 2) := by decide +kernel
  have d317 : decode cX12_init 317 = .ok (.bipush 115, 2) := by decide +kernel
  have d319 : decode cX12_init 319 = .ok (.castore, 1) := by decide +kernel
  have d320 : decode cX12_init 320 = .ok (.dup, 1) := by decide +kernel
  have d321 : decode cX12_init 321 = .ok (.bipush 16, 2) := by decide +kernel
  have d323 : decode cX12_init 323 = .ok (.bipush 111, 2) := by decide +kernel
  have d325 : decode cX12_init 325 = .ok (.castore, 1) := by decide +kernel
  have d326 : decode cX12_init 326 = .ok (.dup, 1) := by decide +kernel
  have d327 : decode cX12_init 327 = .ok (.bipush 17, 2) := by decide +kernel
  have d329 : decode cX12_init 329 = .ok (.bipush 119, 2) := by decide +kernel
  have d331 : decode cX12_init 331 = .ok (.castore, 1) := by decide +kernel
  have d332 : decode cX12_init 332 = .ok (.dup, 1) := by decide +kernel
  have d333 : decode cX12_init 333 = .ok (.bipush 18, 2) := by decide +kernel
  have d335 : decode cX12_init 335 = .ok (.bipush 101, 2) := by decide +kernel
  have d337 : decode cX12_init 337 = .ok (.castore, 1) := by decide +kernel
  have d338 : decode cX12_init 338 = .ok (.dup, 1) := by decide +kernel
  have d339 : decode cX12_init 339 = .ok (.bipush 19, 2) := by decide +kernel
  have d341 : decode cX12_init 341 = .ok (.bipush 100, 2) := by decide +kernel
  have d343 : decode cX12_init 343 = .ok (.castore, 1) := by decide +kernel
  have d344 : decode cX12_init 344 = .ok (.dup, 1) := by decide +kernel
  have d345 : decode cX12_init 345 = .ok (.bipush 20, 2) := by decide +kernel
  have d347 : decode cX12_init 347 = .ok (.bipush 109, 2) := by decide +kernel
  have d349 : decode cX12_init 349 = .ok (.castore, 1) := by decide +kernel
  have d350 : decode cX12_init 350 = .ok (.dup, 1) := by decide +kernel
  have d351 : decode cX12_init 351 = .ok (.bipush 21, 2) := by decide +kernel
  have d353 : decode cX12_init 353 = .ok (.bipush 111, 2) := by decide +kernel
  have d355 : decode cX12_init 355 = .ok (.castore, 1) := by decide +kernel
  have d356 : decode cX12_init 356 = .ok (.dup, 1) := by decide +kernel
  have d357 : decode cX12_init 357 = .ok (.bipush 22, 2) := by decide +kernel
  have d359 : decode cX12_init 359 = .ok (.bipush 110, 2) := by decide +kernel
  have d361 : decode cX12_init 361 = .ok (.castore, 1) := by decide +kernel
  have d362 : decode cX12_init 362 = .ok (.dup, 1) := by decide +kernel
  have d363 : decode cX12_init 363 = .ok (.bipush 23, 2) := by decide +kernel
  have d365 : decode cX12_init 365 = .ok (.bipush 116, 2) := by decide +kernel
  have d367 : decode cX12_init 367 = .ok (.castore, 1) := by decide +kernel
  have d368 : decode cX12_init 368 = .ok (.dup, 1) := by decide +kernel
  have d369 : decode cX12_init 369 = .ok (.bipush 24, 2) := by decide +kernel
  have d371 : decode cX12_init 371 = .ok (.bipush 104, 2) := by decide +kernel
  have d373 : decode cX12_init 373 = .ok (.castore, 1) := by decide +kernel
  have d374 : decode cX12_init 374 = .ok (.dup, 1) := by decide +kernel
  have d375 : decode cX12_init 375 = .ok (.bipush 25, 2) := by decide +kernel
  have d377 : decode cX12_init 377 = .ok (.bipush 112, 2) := by decide +kernel
  have d379 : decode cX12_init 379 = .ok (.castore, 1) := by decide +kernel
  have d380 : decode cX12_init 380 = .ok (.dup, 1) := by decide +kernel
  have d381 : decode cX12_init 381 = .ok (.bipush 26, 2) := by decide +kernel
  have d383 : decode cX12_init 383 = .ok (.bipush 97, 2) := by decide +kernel
  have d385 : decode cX12_init 385 = .ok (.castore, 1) := by decide +kernel
  have d386 : decode cX12_init 386 = .ok (.dup, 1) := by decide +kernel
  have d387 : decode cX12_init 387 = .ok (.bipush 27, 2) := by decide +kernel
  have d389 : decode cX12_init 389 = .ok (.bipush 114, 2) := by decide +kernel
  have d391 : decode cX12_init 391 = .ok (.castore, 1) := by decide +kernel
  have d392 : decode cX12_init 392 = .ok (.dup, 1) := by decide +kernel
  have d393 : decode cX12_init 393 = .ok (.bipush 28, 2) := by decide +kernel
  have d395 : decode cX12_init 395 = .ok (.bipush 116, 2) := by decide +kernel
  have d397 : decode cX12_init 397 = .ok (.castore, 1) := by decide +kernel
  have d398 : decode cX12_init 398 = .ok (.dup, 1) := by decide +kernel
  have d399 : decode cX12_init 399 = .ok (.bipush 29, 2) := by decide +kernel
  have d401 : decode cX12_init 401 = .ok (.bipush 102, 2) := by decide +kernel
  have d403 : decode cX12_init 403 = .ok (.castore, 1) := by decide +kernel
  have d404 : decode cX12_init 404 = .ok (.dup, 1) := by decide +kernel
  have d405 : decode cX12_init 405 = .ok (.bipush 30, 2) := by decide +kernel
  have d407 : decode cX12_init 407 = .ok (.bipush 111, 2) := by decide +kernel
  have d409 : decode cX12_init 409 = .ok (.castore, 1) := by decide +kernel
  have d410 : decode cX12_init 410 = .ok (.dup, 1) := by decide +kernel
  have d411 : decode cX12_init 411 = .ok (.bipush 31, 2) := by decide +kernel
  have d413 : decode cX12_init 413 = .ok (.bipush 111, 2) := by decide +kernel
  have d415 : decode cX12_init 415 = .ok (.castore, 1) := by decide +kernel
  have d416 : decode cX12_init 416 = .ok (.dup, 1) := by decide +kernel
  have d417 : decode cX12_init 417 = .ok (.bipush 32, 2) := by decide +kernel
  have d419 : decode cX12_init 419 = .ok (.bipush 100, 2) := by decide +kernel
  have d421 : decode cX12_init 421 = .ok (.castore, 1) := by decide +kernel
  have d422 : decode cX12_init 422 = .ok (.dup, 1) := by decide +kernel
  have d423 : decode cX12_init 423 = .ok (.bipush 33, 2) := by decide +kernel
  have d425 : decode cX12_init 425 = .ok (.bipush 108, 2) := by decide +kernel
  have d427 : decode cX12_init 427 = .ok (.castore, 1) := by decide +kernel
  have d428 : decode cX12_init 428 = .ok (.dup, 1) := by decide +kernel
  have d429 : decode cX12_init 429 = .ok (.bipush 34, 2) := by decide +kernel
  have d431 : decode cX12_init 431 = .ok (.bipush 111, 2) := by decide +kernel
  have d433 : decode cX12_init 433 = .ok (.castore, 1) := by decide +kernel
  have d434 : decode cX12_init 434 = .ok (.dup, 1) := by decide +kernel
  have d435 : decode cX12_init 435 = .ok (.bipush 35, 2) := by decide +kernel
  have d437 : decode cX12_init 437 = .ok (.bipush 97, 2) := by decide +kernel
  have d439 : decode cX12_init 439 = .ok (.castore, 1) := by decide +kernel
  have d440 : decode cX12_init 440 = .ok (.dup, 1) := by decide +kernel
  have d441 : decode cX12_init 441 = .ok (.bipush 36, 2) := by decide +kernel
  have d443 : decode cX12_init 443 = .ok (.bipush 110, 2) := by decide +kernel
  have d445 : decode cX12_init 445 = .ok (.castore, 1) := by decide +kernel
  have d446 : decode cX12_init 446 = .ok (.dup, 1) := by decide +kernel
  have d447 : decode cX12_init 447 = .ok (.bipush 37, 2) := by decide +kernel
  have d449 : decode cX12_init 449 = .ok (.bipush 111, 2) := by decide +kernel
  have d451 : decode cX12_init 451 = .ok (.castore, 1) := by decide +kernel
  have d452 : decode cX12_init 452 = .ok (.dup, 1) := by decide +kernel
  have d453 : decode cX12_init 453 = .ok (.bipush 38, 2) := by decide +kernel
  have d455 : decode cX12_init 455 = .ok (.bipush 114, 2) := by decide +kernel
  have d457 : decode cX12_init 457 = .ok (.castore, 1) := by decide +kernel
  have d458 : decode cX12_init 458 = .ok (.dup, 1) := by decide +kernel
  have d459 : decode cX12_init 459 = .ok (.bipush 39, 2) := by decide +kernel
  have d461 : decode cX12_init 461 = .ok (.bipush 97, 2) := by decide +kernel
  have d463 : decode cX12_init 463 = .ok (.castore, 1) := by decide +kernel
  have d464 : decode cX12_init 464 = .ok (.dup, 1) := by decide +kernel
  have d465 : decode cX12_init 465 = .ok (.bipush 40, 2) := by decide +kernel
  have d467 : decode cX12_init 467 = .ok (.bipush 110, 2) := by decide +kernel
  have d469 : decode cX12_init 469 = .ok (.castore, 1) := by decide +kernel
  have d470 : decode cX12_init 470 = .ok (.dup, 1) := by decide +kernel
  have d471 : decode cX12_init 471 = .ok (.bipush 41, 2) := by decide +kernel
  have d473 : decode cX12_init 473 = .ok (.bipush 100, 2) := by decide +kernel
  have d475 : decode cX12_init 475 = .ok (.castore, 1) := by decide +kernel
  have d476 : decode cX12_init 476 = .ok (.dup, 1) := by decide +kernel
  have d477 : decode cX12_init 477 = .ok (.bipush 42, 2) := by decide +kernel
  have d479 : decode cX12_init 479 = .ok (.bipush 110, 2) := by decide +kernel
  have d481 : decode cX12_init 481 = .ok (.castore, 1) := by decide +kernel
  have d482 : decode cX12_init 482 = .ok (.dup, 1) := by decide +kernel
  have d483 : decode cX12_init 483 = .ok (.bipush 43, 2) := by decide +kernel
  have d485 : decode cX12_init 485 = .ok (.bipush 111, 2) := by decide +kernel
  have d487 : decode cX12_init 487 = .ok (.castore, 1) := by decide +kernel
  have d488 : decode cX12_init 488 = .ok (.dup, 1) := by decide +kernel
  have d489 : decode cX12_init 489 = .ok (.bipush 44, 2) := by decide +kernel
  have d491 : decode cX12_init 491 = .ok (.bipush 116, 2) := by decide +kernel
  have d493 : decode cX12_init 493 = .ok (.castore, 1) := by decide +kernel
  have d494 : decode cX12_init 494 = .ok (.putfield 225, 3) := by decide +kernel
  refine lv_aload_n (k := 0) (i := 0) hx hb d225 rfl (lv_at hl 0 rfl) ?_
  refine lv_bipush (n := 45) (v := 45) hx hb d226 rfl ?_
  refine mo_new (N' := 45) (ty := .char) (a0 := (45, .inl fun _ => 0)) hx hb hts hA hP hD hK hS (xwd_mem (i := 1443) (by decide +kernel)) rfl (fun _ => rfl) (by decide) rfl (by decide) (by omega) (by omega) d228 (fun q65 c65 H hP hD hK hS => ?_)
  refine lv_dup hx hb d230 rfl ?_
  refine lv_iconst (n := 0) (v := 0) hx hb d231 rfl ?_
  refine lv_bipush (n := 103) (v := 103) hx hb d232 rfl ?_
  refine mo_cst (i := 0) hx hb hts hP hD hK hS (show ¬ ((0 : Int32) < 0 ∨ 45 ≤ (0 : Int32).toNatClampNeg) by decide) d234 (fun H locs hP hD hS => ?_)
  refine lv_dup hx hb d235 rfl ?_
  refine lv_iconst (n := 1) (v := 1) hx hb d236 rfl ?_
  refine lv_bipush (n := 97) (v := 97) hx hb d237 rfl ?_
  refine mo_cst (i := 1) hx hb hts hP hD hK hS (show ¬ ((1 : Int32) < 0 ∨ 45 ≤ (1 : Int32).toNatClampNeg) by decide) d239 (fun H locs hP hD hS => ?_)
  refine lv_dup hx hb d240 rfl ?_
  refine lv_iconst (n := 2) (v := 2) hx hb d241 rfl ?_
  refine lv_bipush (n := 105) (v := 105) hx hb d242 rfl ?_
  refine mo_cst (i := 2) hx hb hts hP hD hK hS (show ¬ ((2 : Int32) < 0 ∨ 45 ≤ (2 : Int32).toNatClampNeg) by decide) d244 (fun H locs hP hD hS => ?_)
  refine lv_dup hx hb d245 rfl ?_
  refine lv_iconst (n := 3) (v := 3) hx hb d246 rfl ?_
  refine lv_bipush (n := 110) (v := 110) hx hb d247 rfl ?_
  refine mo_cst (i := 3) hx hb hts hP hD hK hS (show ¬ ((3 : Int32) < 0 ∨ 45 ≤ (3 : Int32).toNatClampNeg) by decide) d249 (fun H locs hP hD hS => ?_)
  refine lv_dup hx hb d250 rfl ?_
  refine lv_iconst (n := 4) (v := 4) hx hb d251 rfl ?_
  refine lv_bipush (n := 100) (v := 100) hx hb d252 rfl ?_
  refine mo_cst (i := 4) hx hb hts hP hD hK hS (show ¬ ((4 : Int32) < 0 ∨ 45 ≤ (4 : Int32).toNatClampNeg) by decide) d254 (fun H locs hP hD hS => ?_)
  refine lv_dup hx hb d255 rfl ?_
  refine lv_iconst (n := 5) (v := 5) hx hb d256 rfl ?_
  refine lv_bipush (n := 97) (v := 97) hx hb d257 rfl ?_
  refine mo_cst (i := 5) hx hb hts hP hD hK hS (show ¬ ((5 : Int32) < 0 ∨ 45 ≤ (5 : Int32).toNatClampNeg) by decide) d259 (fun H locs hP hD hS => ?_)
  refine lv_dup hx hb d260 rfl ?_
  refine lv_bipush (n := 6) (v := 6) hx hb d261 rfl ?_
  refine lv_bipush (n := 121) (v := 121) hx hb d263 rfl ?_
  refine mo_cst (i := 6) hx hb hts hP hD hK hS (show ¬ ((6 : Int32) < 0 ∨ 45 ≤ (6 : Int32).toNatClampNeg) by decide) d265 (fun H locs hP hD hS => ?_)
  refine lv_dup hx hb d266 rfl ?_
  refine lv_bipush (n := 7) (v := 7) hx hb d267 rfl ?_
  refine lv_bipush (n := 115) (v := 115) hx hb d269 rfl ?_
  refine mo_cst (i := 7) hx hb hts hP hD hK hS (show ¬ ((7 : Int32) < 0 ∨ 45 ≤ (7 : Int32).toNatClampNeg) by decide) d271 (fun H locs hP hD hS => ?_)
  refine lv_dup hx hb d272 rfl ?_
  refine lv_bipush (n := 8) (v := 8) hx hb d273 rfl ?_
  refine lv_bipush (n := 109) (v := 109) hx hb d275 rfl ?_
  refine mo_cst (i := 8) hx hb hts hP hD hK hS (show ¬ ((8 : Int32) < 0 ∨ 45 ≤ (8 : Int32).toNatClampNeg) by decide) d277 (fun H locs hP hD hS => ?_)
  refine lv_dup hx hb d278 rfl ?_
  refine lv_bipush (n := 9) (v := 9) hx hb d279 rfl ?_
  refine lv_bipush (n := 101) (v := 101) hx hb d281 rfl ?_
  refine mo_cst (i := 9) hx hb hts hP hD hK hS (show ¬ ((9 : Int32) < 0 ∨ 45 ≤ (9 : Int32).toNatClampNeg) by decide) d283 (fun H locs hP hD hS => ?_)
  refine lv_dup hx hb d284 rfl ?_
  refine lv_bipush (n := 10) (v := 10) hx hb d285 rfl ?_
  refine lv_bipush (n := 110) (v := 110) hx hb d287 rfl ?_
  refine mo_cst (i := 10) hx hb hts hP hD hK hS (show ¬ ((10 : Int32) < 0 ∨ 45 ≤ (10 : Int32).toNatClampNeg) by decide) d289 (fun H locs hP hD hS => ?_)
  refine lv_dup hx hb d290 rfl ?_
  refine lv_bipush (n := 11) (v := 11) hx hb d291 rfl ?_
  refine lv_bipush (n := 112) (v := 112) hx hb d293 rfl ?_
  refine mo_cst (i := 11) hx hb hts hP hD hK hS (show ¬ ((11 : Int32) < 0 ∨ 45 ≤ (11 : Int32).toNatClampNeg) by decide) d295 (fun H locs hP hD hS => ?_)
  refine lv_dup hx hb d296 rfl ?_
  refine lv_bipush (n := 12) (v := 12) hx hb d297 rfl ?_
  refine lv_bipush (n := 97) (v := 97) hx hb d299 rfl ?_
  refine mo_cst (i := 12) hx hb hts hP hD hK hS (show ¬ ((12 : Int32) < 0 ∨ 45 ≤ (12 : Int32).toNatClampNeg) by decide) d301 (fun H locs hP hD hS => ?_)
  refine lv_dup hx hb d302 rfl ?_
  refine lv_bipush (n := 13) (v := 13) hx hb d303 rfl ?_
  refine lv_bipush (n := 114) (v := 114) hx hb d305 rfl ?_
  refine mo_cst (i := 13) hx hb hts hP hD hK hS (show ¬ ((13 : Int32) < 0 ∨ 45 ≤ (13 : Int32).toNatClampNeg) by decide) d307 (fun H locs hP hD hS => ?_)
  refine lv_dup hx hb d308 rfl ?_
  refine lv_bipush (n := 14) (v := 14) hx hb d309 rfl ?_
  refine lv_bipush (n := 116) (v := 116) hx hb d311 rfl ?_
  refine mo_cst (i := 14) hx hb hts hP hD hK hS (show ¬ ((14 : Int32) < 0 ∨ 45 ≤ (14 : Int32).toNatClampNeg) by decide) d313 (fun H locs hP hD hS => ?_)
  refine lv_dup hx hb d314 rfl ?_
  refine lv_bipush (n := 15) (v := 15) hx hb d315 rfl ?_
  refine lv_bipush (n := 115) (v := 115) hx hb d317 rfl ?_
  refine mo_cst (i := 15) hx hb hts hP hD hK hS (show ¬ ((15 : Int32) < 0 ∨ 45 ≤ (15 : Int32).toNatClampNeg) by decide) d319 (fun H locs hP hD hS => ?_)
  refine lv_dup hx hb d320 rfl ?_
  refine lv_bipush (n := 16) (v := 16) hx hb d321 rfl ?_
  refine lv_bipush (n := 111) (v := 111) hx hb d323 rfl ?_
  refine mo_cst (i := 16) hx hb hts hP hD hK hS (show ¬ ((16 : Int32) < 0 ∨ 45 ≤ (16 : Int32).toNatClampNeg) by decide) d325 (fun H locs hP hD hS => ?_)
  refine lv_dup hx hb d326 rfl ?_
  refine lv_bipush (n := 17) (v := 17) hx hb d327 rfl ?_
  refine lv_bipush (n := 119) (v := 119) hx hb d329 rfl ?_
  refine mo_cst (i := 17) hx hb hts hP hD hK hS (show ¬ ((17 : Int32) < 0 ∨ 45 ≤ (17 : Int32).toNatClampNeg) by decide) d331 (fun H locs hP hD hS => ?_)
  refine lv_dup hx hb d332 rfl ?_
  refine lv_bipush (n := 18) (v := 18) hx hb d333 rfl ?_
  refine lv_bipush (n := 101) (v := 101) hx hb d335 rfl ?_
  refine mo_cst (i := 18) hx hb hts hP hD hK hS (show ¬ ((18 : Int32) < 0 ∨ 45 ≤ (18 : Int32).toNatClampNeg) by decide) d337 (fun H locs hP hD hS => ?_)
  refine lv_dup hx hb d338 rfl ?_
  refine lv_bipush (n := 19) (v := 19) hx hb d339 rfl ?_
  refine lv_bipush (n := 100) (v := 100) hx hb d341 rfl ?_
  refine mo_cst (i := 19) hx hb hts hP hD hK hS (show ¬ ((19 : Int32) < 0 ∨ 45 ≤ (19 : Int32).toNatClampNeg) by decide) d343 (fun H locs hP hD hS => ?_)
  refine lv_dup hx hb d344 rfl ?_
  refine lv_bipush (n := 20) (v := 20) hx hb d345 rfl ?_
  refine lv_bipush (n := 109) (v := 109) hx hb d347 rfl ?_
  refine mo_cst (i := 20) hx hb hts hP hD hK hS (show ¬ ((20 : Int32) < 0 ∨ 45 ≤ (20 : Int32).toNatClampNeg) by decide) d349 (fun H locs hP hD hS => ?_)
  refine lv_dup hx hb d350 rfl ?_
  refine lv_bipush (n := 21) (v := 21) hx hb d351 rfl ?_
  refine lv_bipush (n := 111) (v := 111) hx hb d353 rfl ?_
  refine mo_cst (i := 21) hx hb hts hP hD hK hS (show ¬ ((21 : Int32) < 0 ∨ 45 ≤ (21 : Int32).toNatClampNeg) by decide) d355 (fun H locs hP hD hS => ?_)
  refine lv_dup hx hb d356 rfl ?_
  refine lv_bipush (n := 22) (v := 22) hx hb d357 rfl ?_
  refine lv_bipush (n := 110) (v := 110) hx hb d359 rfl ?_
  refine mo_cst (i := 22) hx hb hts hP hD hK hS (show ¬ ((22 : Int32) < 0 ∨ 45 ≤ (22 : Int32).toNatClampNeg) by decide) d361 (fun H locs hP hD hS => ?_)
  refine lv_dup hx hb d362 rfl ?_
  refine lv_bipush (n := 23) (v := 23) hx hb d363 rfl ?_
  refine lv_bipush (n := 116) (v := 116) hx hb d365 rfl ?_
  refine mo_cst (i := 23) hx hb hts hP hD hK hS (show ¬ ((23 : Int32) < 0 ∨ 45 ≤ (23 : Int32).toNatClampNeg) by decide) d367 (fun H locs hP hD hS => ?_)
  refine lv_dup hx hb d368 rfl ?_
  refine lv_bipush (n := 24) (v := 24) hx hb d369 rfl ?_
  refine lv_bipush (n := 104) (v := 104) hx hb d371 rfl ?_
  refine mo_cst (i := 24) hx hb hts hP hD hK hS (show ¬ ((24 : Int32) < 0 ∨ 45 ≤ (24 : Int32).toNatClampNeg) by decide) d373 (fun H locs hP hD hS => ?_)
  refine lv_dup hx hb d374 rfl ?_
  refine lv_bipush (n := 25) (v := 25) hx hb d375 rfl ?_
  refine lv_bipush (n := 112) (v := 112) hx hb d377 rfl ?_
  refine mo_cst (i := 25) hx hb hts hP hD hK hS (show ¬ ((25 : Int32) < 0 ∨ 45 ≤ (25 : Int32).toNatClampNeg) by decide) d379 (fun H locs hP hD hS => ?_)
  refine lv_dup hx hb d380 rfl ?_
  refine lv_bipush (n := 26) (v := 26) hx hb d381 rfl ?_
  refine lv_bipush (n := 97) (v := 97) hx hb d383 rfl ?_
  refine mo_cst (i := 26) hx hb hts hP hD hK hS (show ¬ ((26 : Int32) < 0 ∨ 45 ≤ (26 : Int32).toNatClampNeg) by decide) d385 (fun H locs hP hD hS => ?_)
  refine lv_dup hx hb d386 rfl ?_
  refine lv_bipush (n := 27) (v := 27) hx hb d387 rfl ?_
  refine lv_bipush (n := 114) (v := 114) hx hb d389 rfl ?_
  refine mo_cst (i := 27) hx hb hts hP hD hK hS (show ¬ ((27 : Int32) < 0 ∨ 45 ≤ (27 : Int32).toNatClampNeg) by decide) d391 (fun H locs hP hD hS => ?_)
  refine lv_dup hx hb d392 rfl ?_
  refine lv_bipush (n := 28) (v := 28) hx hb d393 rfl ?_
  refine lv_bipush (n := 116) (v := 116) hx hb d395 rfl ?_
  refine mo_cst (i := 28) hx hb hts hP hD hK hS (show ¬ ((28 : Int32) < 0 ∨ 45 ≤ (28 : Int32).toNatClampNeg) by decide) d397 (fun H locs hP hD hS => ?_)
  refine lv_dup hx hb d398 rfl ?_
  refine lv_bipush (n := 29) (v := 29) hx hb d399 rfl ?_
  refine lv_bipush (n := 102) (v := 102) hx hb d401 rfl ?_
  refine mo_cst (i := 29) hx hb hts hP hD hK hS (show ¬ ((29 : Int32) < 0 ∨ 45 ≤ (29 : Int32).toNatClampNeg) by decide) d403 (fun H locs hP hD hS => ?_)
  refine lv_dup hx hb d404 rfl ?_
  refine lv_bipush (n := 30) (v := 30) hx hb d405 rfl ?_
  refine lv_bipush (n := 111) (v := 111) hx hb d407 rfl ?_
  refine mo_cst (i := 30) hx hb hts hP hD hK hS (show ¬ ((30 : Int32) < 0 ∨ 45 ≤ (30 : Int32).toNatClampNeg) by decide) d409 (fun H locs hP hD hS => ?_)
  refine lv_dup hx hb d410 rfl ?_
  refine lv_bipush (n := 31) (v := 31) hx hb d411 rfl ?_
  refine lv_bipush (n := 111) (v := 111) hx hb d413 rfl ?_
  refine mo_cst (i := 31) hx hb hts hP hD hK hS (show ¬ ((31 : Int32) < 0 ∨ 45 ≤ (31 : Int32).toNatClampNeg) by decide) d415 (fun H locs hP hD hS => ?_)
  refine lv_dup hx hb d416 rfl ?_
  refine lv_bipush (n := 32) (v := 32) hx hb d417 rfl ?_
  refine lv_bipush (n := 100) (v := 100) hx hb d419 rfl ?_
  refine mo_cst (i := 32) hx hb hts hP hD hK hS (show ¬ ((32 : Int32) < 0 ∨ 45 ≤ (32 : Int32).toNatClampNeg) by decide) d421 (fun H locs hP hD hS => ?_)
  refine lv_dup hx hb d422 rfl ?_
  refine lv_bipush (n := 33) (v := 33) hx hb d423 rfl ?_
  refine lv_bipush (n := 108) (v := 108) hx hb d425 rfl ?_
  refine mo_cst (i := 33) hx hb hts hP hD hK hS (show ¬ ((33 : Int32) < 0 ∨ 45 ≤ (33 : Int32).toNatClampNeg) by decide) d427 (fun H locs hP hD hS => ?_)
  refine lv_dup hx hb d428 rfl ?_
  refine lv_bipush (n := 34) (v := 34) hx hb d429 rfl ?_
  refine lv_bipush (n := 111) (v := 111) hx hb d431 rfl ?_
  refine mo_cst (i := 34) hx hb hts hP hD hK hS (show ¬ ((34 : Int32) < 0 ∨ 45 ≤ (34 : Int32).toNatClampNeg) by decide) d433 (fun H locs hP hD hS => ?_)
  refine lv_dup hx hb d434 rfl ?_
  refine lv_bipush (n := 35) (v := 35) hx hb d435 rfl ?_
  refine lv_bipush (n := 97) (v := 97) hx hb d437 rfl ?_
  refine mo_cst (i := 35) hx hb hts hP hD hK hS (show ¬ ((35 : Int32) < 0 ∨ 45 ≤ (35 : Int32).toNatClampNeg) by decide) d439 (fun H locs hP hD hS => ?_)
  refine lv_dup hx hb d440 rfl ?_
  refine lv_bipush (n := 36) (v := 36) hx hb d441 rfl ?_
  refine lv_bipush (n := 110) (v := 110) hx hb d443 rfl ?_
  refine mo_cst (i := 36) hx hb hts hP hD hK hS (show ¬ ((36 : Int32) < 0 ∨ 45 ≤ (36 : Int32).toNatClampNeg) by decide) d445 (fun H locs hP hD hS => ?_)
  refine lv_dup hx hb d446 rfl ?_
  refine lv_bipush (n := 37) (v := 37) hx hb d447 rfl ?_
  refine lv_bipush (n := 111) (v := 111) hx hb d449 rfl ?_
  refine mo_cst (i := 37) hx hb hts hP hD hK hS (show ¬ ((37 : Int32) < 0 ∨ 45 ≤ (37 : Int32).toNatClampNeg) by decide) d451 (fun H locs hP hD hS => ?_)
  refine lv_dup hx hb d452 rfl ?_
  refine lv_bipush (n := 38) (v := 38) hx hb d453 rfl ?_
  refine lv_bipush (n := 114) (v := 114) hx hb d455 rfl ?_
  refine mo_cst (i := 38) hx hb hts hP hD hK hS (show ¬ ((38 : Int32) < 0 ∨ 45 ≤ (38 : Int32).toNatClampNeg) by decide) d457 (fun H locs hP hD hS => ?_)
  refine lv_dup hx hb d458 rfl ?_
  refine lv_bipush (n := 39) (v := 39) hx hb d459 rfl ?_
  refine lv_bipush (n := 97) (v := 97) hx hb d461 rfl ?_
  refine mo_cst (i := 39) hx hb hts hP hD hK hS (show ¬ ((39 : Int32) < 0 ∨ 45 ≤ (39 : Int32).toNatClampNeg) by decide) d463 (fun H locs hP hD hS => ?_)
  refine lv_dup hx hb d464 rfl ?_
  refine lv_bipush (n := 40) (v := 40) hx hb d465 rfl ?_
  refine lv_bipush (n := 110) (v := 110) hx hb d467 rfl ?_
  refine mo_cst (i := 40) hx hb hts hP hD hK hS (show ¬ ((40 : Int32) < 0 ∨ 45 ≤ (40 : Int32).toNatClampNeg) by decide) d469 (fun H locs hP hD hS => ?_)
  refine lv_dup hx hb d470 rfl ?_
  refine lv_bipush (n := 41) (v := 41) hx hb d471 rfl ?_
  refine lv_bipush (n := 100) (v := 100) hx hb d473 rfl ?_
  refine mo_cst (i := 41) hx hb hts hP hD hK hS (show ¬ ((41 : Int32) < 0 ∨ 45 ≤ (41 : Int32).toNatClampNeg) by decide) d475 (fun H locs hP hD hS => ?_)
  refine lv_dup hx hb d476 rfl ?_
  refine lv_bipush (n := 42) (v := 42) hx hb d477 rfl ?_
  refine lv_bipush (n := 110) (v := 110) hx hb d479 rfl ?_
  refine mo_cst (i := 42) hx hb hts hP hD hK hS (show ¬ ((42 : Int32) < 0 ∨ 45 ≤ (42 : Int32).toNatClampNeg) by decide) d481 (fun H locs hP hD hS => ?_)
  refine lv_dup hx hb d482 rfl ?_
  refine lv_bipush (n := 43) (v := 43) hx hb d483 rfl ?_
  refine lv_bipush (n := 111) (v := 111) hx hb d485 rfl ?_
  refine mo_cst (i := 43) hx hb hts hP hD hK hS (show ¬ ((43 : Int32) < 0 ∨ 45 ≤ (43 : Int32).toNatClampNeg) by decide) d487 (fun H locs hP hD hS => ?_)
  refine lv_dup hx hb d488 rfl ?_
  refine lv_bipush (n := 44) (v := 44) hx hb d489 rfl ?_
  refine lv_bipush (n := 116) (v := 116) hx hb d491 rfl ?_
  refine mo_cst (i := 44) hx hb hts hP hD hK hS (show ¬ ((44 : Int32) < 0 ∨ 45 ≤ (44 : Int32).toNatClampNeg) by decide) d493 (fun H locs hP hD hS => ?_)
  refine mo_put (b := 38) (ty := .array .char) hx hb hts hown hin hP hD hK hS (by decide) (xwd_mem (i := 1301) (by decide +kernel)) rfl rfl (by decide +kernel) rfl rfl hlen d494 (fun H locs hP hD hS hlen => ?_)
  exact kk q65 c65 _ H locs (by have h9 : ∀ j : Fin 45, _ = _ := (by decide +kernel : ∀ j : Fin 45, (upd (upd (upd (upd (upd (upd (upd (upd (upd (upd (upd (upd (upd (upd (upd (upd (upd (upd (upd (upd (upd (upd (upd (upd (upd (upd (upd (upd (upd (upd (upd (upd (upd (upd (upd (upd (upd (upd (upd (upd (upd (upd (upd (upd (upd (fun _ => 0) (0 : Int32).toNatClampNeg (vp_nar .char 103)) (1 : Int32).toNatClampNeg (vp_nar .char 97)) (2 : Int32).toNatClampNeg (vp_nar .char 105)) (3 : Int32).toNatClampNeg (vp_nar .char 110)) (4 : Int32).toNatClampNeg (vp_nar .char 100)) (5 : Int32).toNatClampNeg (vp_nar .char 97)) (6 : Int32).toNatClampNeg (vp_nar .char 121)) (7 : Int32).toNatClampNeg (vp_nar .char 115)) (8 : Int32).toNatClampNeg (vp_nar .char 109)) (9 : Int32).toNatClampNeg (vp_nar .char 101)) (10 : Int32).toNatClampNeg (vp_nar .char 110)) (11 : Int32).toNatClampNeg (vp_nar .char 112)) (12 : Int32).toNatClampNeg (vp_nar .char 97)) (13 : Int32).toNatClampNeg (vp_nar .char 114)) (14 : Int32).toNatClampNeg (vp_nar .char 116)) (15 : Int32).toNatClampNeg (vp_nar .char 115)) (16 : Int32).toNatClampNeg (vp_nar .char 111)) (17 : Int32).toNatClampNeg (vp_nar .char 119)) (18 : Int32).toNatClampNeg (vp_nar .char 101)) (19 : Int32).toNatClampNeg (vp_nar .char 100)) (20 : Int32).toNatClampNeg (vp_nar .char 109)) (21 : Int32).toNatClampNeg (vp_nar .char 111)) (22 : Int32).toNatClampNeg (vp_nar .char 110)) (23 : Int32).toNatClampNeg (vp_nar .char 116)) (24 : Int32).toNatClampNeg (vp_nar .char 104)) (25 : Int32).toNatClampNeg (vp_nar .char 112)) (26 : Int32).toNatClampNeg (vp_nar .char 97)) (27 : Int32).toNatClampNeg (vp_nar .char 114)) (28 : Int32).toNatClampNeg (vp_nar .char 116)) (29 : Int32).toNatClampNeg (vp_nar .char 102)) (30 : Int32).toNatClampNeg (vp_nar .char 111)) (31 : Int32).toNatClampNeg (vp_nar .char 111)) (32 : Int32).toNatClampNeg (vp_nar .char 100)) (33 : Int32).toNatClampNeg (vp_nar .char 108)) (34 : Int32).toNatClampNeg (vp_nar .char 111)) (35 : Int32).toNatClampNeg (vp_nar .char 97)) (36 : Int32).toNatClampNeg (vp_nar .char 110)) (37 : Int32).toNatClampNeg (vp_nar .char 111)) (38 : Int32).toNatClampNeg (vp_nar .char 114)) (39 : Int32).toNatClampNeg (vp_nar .char 97)) (40 : Int32).toNatClampNeg (vp_nar .char 110)) (41 : Int32).toNatClampNeg (vp_nar .char 100)) (42 : Int32).toNatClampNeg (vp_nar .char 110)) (43 : Int32).toNatClampNeg (vp_nar .char 111)) (44 : Int32).toNatClampNeg (vp_nar .char 116)) j.1 = nI (gMl.getD j.1 0)); exact fun j hj => h9 ⟨j, hj⟩) hP hD hK hS hlen
set_option maxRecDepth 20000 in
set_option maxHeartbeats 4000000 in
theorem mo_c {Dg : va_G} {p : Program} {l : Launch} {e : Env} {R : Room} {s : State} {m : MethodId} {args : Array Value} {below : List Frame} {meth : Method} {c : Code} {H : Heap} {ls : Array Slot} {locs : List Loc} {m0 : Nat} {A : Nat → Prop} {Q : State → Prop} {cells slots : Nat} {fs : List Value} {pl : va_W} {tl : List (ClassId × FieldType)} (hx : p.tables.exec = Jvm.exec) (hb : c.code = cX12_init) (hts : ∀ w ∈ xT, w.before args s = true) (hown : s.vm.findClass "MonsoonTradeModel" = some m.cls) (hin : meth.name = "<init>") (hA : ∀ q : Nat, s.heap.size ≤ q → A q) (hlen : fs.length = 59) {lv : List (Nat × Value)} {nL : Nat} (hl : lv_has ls nL ((0, .ref m0) :: lv)) (hP : va_P Dg classes ((m0, .inr (12, fs)) :: pl) H) (hD : va_D A ((m0, .inr (12, fs)) :: pl)) (hK : va_K Dg classes tl s) (hS : va_S A s.heap H locs) (hc : cells + 1 ≤ R.cells) (hz : slots + 12 ≤ R.slots)
    (kk : ∀ (q66 : Nat) (c66 : ClassId) (f66 : Nat → Int32) (H : Heap) (locs : List Loc), (∀ j, j < 12 → f66 j = nI (gBg.getD j 0)) → va_P Dg classes ((m0, .inr (12, (fs.set 39 (.ref q66)))) :: (q66, .inl (c66, 12, .inl f66)) :: pl) H → va_D A ((m0, .inr (12, (fs.set 39 (.ref q66)))) :: (q66, .inl (c66, 12, .inl f66)) :: pl) → va_K Dg classes ((c66, .int) :: tl) s → va_S A s.heap H locs → ((fs.set 39 (.ref q66))).length = 59 → W p l e R s m args below meth c H locs (cells + 1) (slots + 12) Q (F0 m 569 ls [])) :
    W p l e R s m args below meth c H locs cells slots Q (F0 m 497 ls []) := by
  have d497 : decode cX12_init 497 = .ok (.aload_n 0, 1) := by decide +kernel
  have d498 : decode cX12_init 498 = .ok (.bipush 12, 2) := by decide +kernel
  have d500 : decode cX12_init 500 = .ok (.newarray .int, 2) := by decide +kernel
  have d502 : decode cX12_init 502 = .ok (.dup, 1) := by decide +kernel
  have d503 : decode cX12_init 503 = .ok (.iconst 0, 1) := by decide +kernel
  have d504 : decode cX12_init 504 = .ok (.iconst 0, 1) := by decide +kernel
  have d505 : decode cX12_init 505 = .ok (.iastore, 1) := by decide +kernel
  have d506 : decode cX12_init 506 = .ok (.dup, 1) := by decide +kernel
  have d507 : decode cX12_init 507 = .ok (.iconst 1, 1) := by decide +kernel
  have d508 : decode cX12_init 508 = .ok (.iconst 4, 1) := by decide +kernel
  have d509 : decode cX12_init 509 = .ok (.iastore, 1) := by decide +kernel
  have d510 : decode cX12_init 510 = .ok (.dup, 1) := by decide +kernel
  have d511 : decode cX12_init 511 = .ok (.iconst 2, 1) := by decide +kernel
  have d512 : decode cX12_init 512 = .ok (.bipush 8, 2) := by decide +kernel
  have d514 : decode cX12_init 514 = .ok (.iastore, 1) := by decide +kernel
  have d515 : decode cX12_init 515 = .ok (.dup, 1) := by decide +kernel
  have d516 : decode cX12_init 516 = .ok (.iconst 3, 1) := by decide +kernel
  have d517 : decode cX12_init 517 = .ok (.bipush 11, 2) := by decide +kernel
  have d519 : decode cX12_init 519 = .ok (.iastore, 1) := by decide +kernel
  have d520 : decode cX12_init 520 = .ok (.dup, 1) := by decide +kernel
  have d521 : decode cX12_init 521 = .ok (.iconst 4, 1) := by decide +kernel
  have d522 : decode cX12_init 522 = .ok (.bipush 16, 2) := by decide +kernel
  have d524 : decode cX12_init 524 = .ok (.iastore, 1) := by decide +kernel
  have d525 : decode cX12_init 525 = .ok (.dup, 1) := by decide +kernel
  have d526 : decode cX12_init 526 = .ok (.iconst 5, 1) := by decide +kernel
  have d527 : decode cX12_init 527 = .ok (.bipush 20, 2) := by decide +kernel
  have d529 : decode cX12_init 529 = .ok (.iastore, 1) := by decide +kernel
  have d530 : decode cX12_init 530 = .ok (.dup, 1) := by decide +kernel
  have d531 : decode cX12_init 531 = .ok (.bipush 6, 2) := by decide +kernel
  have d533 : decode cX12_init 533 = .ok (.bipush 25, 2) := by decide +kernel
  have d535 : decode cX12_init 535 = .ok (.iastore, 1) := by decide +kernel
  have d536 : decode cX12_init 536 = .ok (.dup, 1) := by decide +kernel
  have d537 : decode cX12_init 537 = .ok (.bipush 7, 2) := by decide +kernel
  have d539 : decode cX12_init 539 = .ok (.bipush 29, 2) := by decide +kernel
  have d541 : decode cX12_init 541 = .ok (.iastore, 1) := by decide +kernel
  have d542 : decode cX12_init 542 = .ok (.dup, 1) := by decide +kernel
  have d543 : decode cX12_init 543 = .ok (.bipush 8, 2) := by decide +kernel
  have d545 : decode cX12_init 545 = .ok (.bipush 33, 2) := by decide +kernel
  have d547 : decode cX12_init 547 = .ok (.iastore, 1) := by decide +kernel
  have d548 : decode cX12_init 548 = .ok (.dup, 1) := by decide +kernel
  have d549 : decode cX12_init 549 = .ok (.bipush 9, 2) := by decide +kernel
  have d551 : decode cX12_init 551 = .ok (.bipush 37, 2) := by decide +kernel
  have d553 : decode cX12_init 553 = .ok (.iastore, 1) := by decide +kernel
  have d554 : decode cX12_init 554 = .ok (.dup, 1) := by decide +kernel
  have d555 : decode cX12_init 555 = .ok (.bipush 10, 2) := by decide +kernel
  have d557 : decode cX12_init 557 = .ok (.bipush 39, 2) := by decide +kernel
  have d559 : decode cX12_init 559 = .ok (.iastore, 1) := by decide +kernel
  have d560 : decode cX12_init 560 = .ok (.dup, 1) := by decide +kernel
  have d561 : decode cX12_init 561 = .ok (.bipush 11, 2) := by decide +kernel
  have d563 : decode cX12_init 563 = .ok (.bipush 42, 2) := by decide +kernel
  have d565 : decode cX12_init 565 = .ok (.iastore, 1) := by decide +kernel
  have d566 : decode cX12_init 566 = .ok (.putfield 229, 3) := by decide +kernel
  refine lv_aload_n (k := 0) (i := 0) hx hb d497 rfl (lv_at hl 0 rfl) ?_
  refine lv_bipush (n := 12) (v := 12) hx hb d498 rfl ?_
  refine mo_new (N' := 12) (ty := .int) (a0 := (12, .inl fun _ => 0)) hx hb hts hA hP hD hK hS (xwd_mem (i := 134) (by decide +kernel)) rfl (fun _ => rfl) (by decide) rfl (by decide) (by omega) (by omega) d500 (fun q66 c66 H hP hD hK hS => ?_)
  refine lv_dup hx hb d502 rfl ?_
  refine lv_iconst (n := 0) (v := 0) hx hb d503 rfl ?_
  refine lv_iconst (n := 0) (v := 0) hx hb d504 rfl ?_
  refine mo_ist (i := 0) hx hb hts hP hD hK hS (show ¬ ((0 : Int32) < 0 ∨ 12 ≤ (0 : Int32).toNatClampNeg) by decide) d505 (fun H locs hP hD hS => ?_)
  refine lv_dup hx hb d506 rfl ?_
  refine lv_iconst (n := 1) (v := 1) hx hb d507 rfl ?_
  refine lv_iconst (n := 4) (v := 4) hx hb d508 rfl ?_
  refine mo_ist (i := 1) hx hb hts hP hD hK hS (show ¬ ((1 : Int32) < 0 ∨ 12 ≤ (1 : Int32).toNatClampNeg) by decide) d509 (fun H locs hP hD hS => ?_)
  refine lv_dup hx hb d510 rfl ?_
  refine lv_iconst (n := 2) (v := 2) hx hb d511 rfl ?_
  refine lv_bipush (n := 8) (v := 8) hx hb d512 rfl ?_
  refine mo_ist (i := 2) hx hb hts hP hD hK hS (show ¬ ((2 : Int32) < 0 ∨ 12 ≤ (2 : Int32).toNatClampNeg) by decide) d514 (fun H locs hP hD hS => ?_)
  refine lv_dup hx hb d515 rfl ?_
  refine lv_iconst (n := 3) (v := 3) hx hb d516 rfl ?_
  refine lv_bipush (n := 11) (v := 11) hx hb d517 rfl ?_
  refine mo_ist (i := 3) hx hb hts hP hD hK hS (show ¬ ((3 : Int32) < 0 ∨ 12 ≤ (3 : Int32).toNatClampNeg) by decide) d519 (fun H locs hP hD hS => ?_)
  refine lv_dup hx hb d520 rfl ?_
  refine lv_iconst (n := 4) (v := 4) hx hb d521 rfl ?_
  refine lv_bipush (n := 16) (v := 16) hx hb d522 rfl ?_
  refine mo_ist (i := 4) hx hb hts hP hD hK hS (show ¬ ((4 : Int32) < 0 ∨ 12 ≤ (4 : Int32).toNatClampNeg) by decide) d524 (fun H locs hP hD hS => ?_)
  refine lv_dup hx hb d525 rfl ?_
  refine lv_iconst (n := 5) (v := 5) hx hb d526 rfl ?_
  refine lv_bipush (n := 20) (v := 20) hx hb d527 rfl ?_
  refine mo_ist (i := 5) hx hb hts hP hD hK hS (show ¬ ((5 : Int32) < 0 ∨ 12 ≤ (5 : Int32).toNatClampNeg) by decide) d529 (fun H locs hP hD hS => ?_)
  refine lv_dup hx hb d530 rfl ?_
  refine lv_bipush (n := 6) (v := 6) hx hb d531 rfl ?_
  refine lv_bipush (n := 25) (v := 25) hx hb d533 rfl ?_
  refine mo_ist (i := 6) hx hb hts hP hD hK hS (show ¬ ((6 : Int32) < 0 ∨ 12 ≤ (6 : Int32).toNatClampNeg) by decide) d535 (fun H locs hP hD hS => ?_)
  refine lv_dup hx hb d536 rfl ?_
  refine lv_bipush (n := 7) (v := 7) hx hb d537 rfl ?_
  refine lv_bipush (n := 29) (v := 29) hx hb d539 rfl ?_
  refine mo_ist (i := 7) hx hb hts hP hD hK hS (show ¬ ((7 : Int32) < 0 ∨ 12 ≤ (7 : Int32).toNatClampNeg) by decide) d541 (fun H locs hP hD hS => ?_)
  refine lv_dup hx hb d542 rfl ?_
  refine lv_bipush (n := 8) (v := 8) hx hb d543 rfl ?_
  refine lv_bipush (n := 33) (v := 33) hx hb d545 rfl ?_
  refine mo_ist (i := 8) hx hb hts hP hD hK hS (show ¬ ((8 : Int32) < 0 ∨ 12 ≤ (8 : Int32).toNatClampNeg) by decide) d547 (fun H locs hP hD hS => ?_)
  refine lv_dup hx hb d548 rfl ?_
  refine lv_bipush (n := 9) (v := 9) hx hb d549 rfl ?_
  refine lv_bipush (n := 37) (v := 37) hx hb d551 rfl ?_
  refine mo_ist (i := 9) hx hb hts hP hD hK hS (show ¬ ((9 : Int32) < 0 ∨ 12 ≤ (9 : Int32).toNatClampNeg) by decide) d553 (fun H locs hP hD hS => ?_)
  refine lv_dup hx hb d554 rfl ?_
  refine lv_bipush (n := 10) (v := 10) hx hb d555 rfl ?_
  refine lv_bipush (n := 39) (v := 39) hx hb d557 rfl ?_
  refine mo_ist (i := 10) hx hb hts hP hD hK hS (show ¬ ((10 : Int32) < 0 ∨ 12 ≤ (10 : Int32).toNatClampNeg) by decide) d559 (fun H locs hP hD hS => ?_)
  refine lv_dup hx hb d560 rfl ?_
  refine lv_bipush (n := 11) (v := 11) hx hb d561 rfl ?_
  refine lv_bipush (n := 42) (v := 42) hx hb d563 rfl ?_
  refine mo_ist (i := 11) hx hb hts hP hD hK hS (show ¬ ((11 : Int32) < 0 ∨ 12 ≤ (11 : Int32).toNatClampNeg) by decide) d565 (fun H locs hP hD hS => ?_)
  refine mo_put (b := 39) (ty := .array .int) hx hb hts hown hin hP hD hK hS (by decide) (xwd_mem (i := 1302) (by decide +kernel)) rfl rfl (by decide +kernel) rfl rfl hlen d566 (fun H locs hP hD hS hlen => ?_)
  exact kk q66 c66 _ H locs (by have h9 : ∀ j : Fin 12, _ = _ := (by decide +kernel : ∀ j : Fin 12, (upd (upd (upd (upd (upd (upd (upd (upd (upd (upd (upd (upd (fun _ => 0) (0 : Int32).toNatClampNeg (0)) (1 : Int32).toNatClampNeg (4)) (2 : Int32).toNatClampNeg (8)) (3 : Int32).toNatClampNeg (11)) (4 : Int32).toNatClampNeg (16)) (5 : Int32).toNatClampNeg (20)) (6 : Int32).toNatClampNeg (25)) (7 : Int32).toNatClampNeg (29)) (8 : Int32).toNatClampNeg (33)) (9 : Int32).toNatClampNeg (37)) (10 : Int32).toNatClampNeg (39)) (11 : Int32).toNatClampNeg (42)) j.1 = nI (gBg.getD j.1 0)); exact fun j hj => h9 ⟨j, hj⟩) hP hD hK hS hlen
set_option maxRecDepth 20000 in
set_option maxHeartbeats 4000000 in
theorem mo_d {Dg : va_G} {p : Program} {l : Launch} {e : Env} {R : Room} {s : State} {m : MethodId} {args : Array Value} {below : List Frame} {meth : Method} {c : Code} {H : Heap} {ls : Array Slot} {locs : List Loc} {m0 : Nat} {A : Nat → Prop} {Q : State → Prop} {cells slots : Nat} {fs : List Value} {pl : va_W} {tl : List (ClassId × FieldType)} (hx : p.tables.exec = Jvm.exec) (hb : c.code = cX12_init) (hts : ∀ w ∈ xT, w.before args s = true) (hown : s.vm.findClass "MonsoonTradeModel" = some m.cls) (hin : meth.name = "<init>") (hA : ∀ q : Nat, s.heap.size ≤ q → A q) (hlen : fs.length = 59) {lv : List (Nat × Value)} {nL : Nat} (hl : lv_has ls nL ((0, .ref m0) :: lv)) (hP : va_P Dg classes ((m0, .inr (12, fs)) :: pl) H) (hD : va_D A ((m0, .inr (12, fs)) :: pl)) (hK : va_K Dg classes tl s) (hS : va_S A s.heap H locs) (hc : cells + 1 ≤ R.cells) (hz : slots + 12 ≤ R.slots)
    (kk : ∀ (q67 : Nat) (c67 : ClassId) (f67 : Nat → Int32) (H : Heap) (locs : List Loc), (∀ j, j < 12 → f67 j = nI (gLw (gCm.getD j 0))) → va_P Dg classes ((m0, .inr (12, (fs.set 40 (.ref q67)))) :: (q67, .inl (c67, 12, .inl f67)) :: pl) H → va_D A ((m0, .inr (12, (fs.set 40 (.ref q67)))) :: (q67, .inl (c67, 12, .inl f67)) :: pl) → va_K Dg classes ((c67, .int) :: tl) s → va_S A s.heap H locs → ((fs.set 40 (.ref q67))).length = 59 → W p l e R s m args below meth c H locs (cells + 1) (slots + 12) Q (F0 m 631 ls [])) :
    W p l e R s m args below meth c H locs cells slots Q (F0 m 569 ls []) := by
  have d569 : decode cX12_init 569 = .ok (.aload_n 0, 1) := by decide +kernel
  have d570 : decode cX12_init 570 = .ok (.bipush 12, 2) := by decide +kernel
  have d572 : decode cX12_init 572 = .ok (.newarray .int, 2) := by decide +kernel
  have d574 : decode cX12_init 574 = .ok (.dup, 1) := by decide +kernel
  have d575 : decode cX12_init 575 = .ok (.iconst 0, 1) := by decide +kernel
  have d576 : decode cX12_init 576 = .ok (.iconst 4, 1) := by decide +kernel
  have d577 : decode cX12_init 577 = .ok (.iastore, 1) := by decide +kernel
  have d578 : decode cX12_init 578 = .ok (.dup, 1) := by decide +kernel
  have d579 : decode cX12_init 579 = .ok (.iconst 1, 1) := by decide +kernel
  have d580 : decode cX12_init 580 = .ok (.iconst 4, 1) := by decide +kernel
  have d581 : decode cX12_init 581 = .ok (.iastore, 1) := by decide +kernel
  have d582 : decode cX12_init 582 = .ok (.dup, 1) := by decide +kernel
  have d583 : decode cX12_init 583 = .ok (.iconst 2, 1) := by decide +kernel
  have d584 : decode cX12_init 584 = .ok (.iconst 3, 1) := by decide +kernel
  have d585 : decode cX12_init 585 = .ok (.iastore, 1) := by decide +kernel
  have d586 : decode cX12_init 586 = .ok (.dup, 1) := by decide +kernel
  have d587 : decode cX12_init 587 = .ok (.iconst 3, 1) := by decide +kernel
  have d588 : decode cX12_init 588 = .ok (.iconst 5, 1) := by decide +kernel
  have d589 : decode cX12_init 589 = .ok (.iastore, 1) := by decide +kernel
  have d590 : decode cX12_init 590 = .ok (.dup, 1) := by decide +kernel
  have d591 : decode cX12_init 591 = .ok (.iconst 4, 1) := by decide +kernel
  have d592 : decode cX12_init 592 = .ok (.iconst 4, 1) := by decide +kernel
  have d593 : decode cX12_init 593 = .ok (.iastore, 1) := by decide +kernel
  have d594 : decode cX12_init 594 = .ok (.dup, 1) := by decide +kernel
  have d595 : decode cX12_init 595 = .ok (.iconst 5, 1) := by decide +kernel
  have d596 : decode cX12_init 596 = .ok (.iconst 5, 1) := by decide +kernel
  have d597 : decode cX12_init 597 = .ok (.iastore, 1) := by decide +kernel
  have d598 : decode cX12_init 598 = .ok (.dup, 1) := by decide +kernel
  have d599 : decode cX12_init 599 = .ok (.bipush 6, 2) := by decide +kernel
  have d601 : decode cX12_init 601 = .ok (.iconst 4, 1) := by decide +kernel
  have d602 : decode cX12_init 602 = .ok (.iastore, 1) := by decide +kernel
  have d603 : decode cX12_init 603 = .ok (.dup, 1) := by decide +kernel
  have d604 : decode cX12_init 604 = .ok (.bipush 7, 2) := by decide +kernel
  have d606 : decode cX12_init 606 = .ok (.iconst 4, 1) := by decide +kernel
  have d607 : decode cX12_init 607 = .ok (.iastore, 1) := by decide +kernel
  have d608 : decode cX12_init 608 = .ok (.dup, 1) := by decide +kernel
  have d609 : decode cX12_init 609 = .ok (.bipush 8, 2) := by decide +kernel
  have d611 : decode cX12_init 611 = .ok (.iconst 4, 1) := by decide +kernel
  have d612 : decode cX12_init 612 = .ok (.iastore, 1) := by decide +kernel
  have d613 : decode cX12_init 613 = .ok (.dup, 1) := by decide +kernel
  have d614 : decode cX12_init 614 = .ok (.bipush 9, 2) := by decide +kernel
  have d616 : decode cX12_init 616 = .ok (.iconst 2, 1) := by decide +kernel
  have d617 : decode cX12_init 617 = .ok (.iastore, 1) := by decide +kernel
  have d618 : decode cX12_init 618 = .ok (.dup, 1) := by decide +kernel
  have d619 : decode cX12_init 619 = .ok (.bipush 10, 2) := by decide +kernel
  have d621 : decode cX12_init 621 = .ok (.iconst 3, 1) := by decide +kernel
  have d622 : decode cX12_init 622 = .ok (.iastore, 1) := by decide +kernel
  have d623 : decode cX12_init 623 = .ok (.dup, 1) := by decide +kernel
  have d624 : decode cX12_init 624 = .ok (.bipush 11, 2) := by decide +kernel
  have d626 : decode cX12_init 626 = .ok (.iconst 3, 1) := by decide +kernel
  have d627 : decode cX12_init 627 = .ok (.iastore, 1) := by decide +kernel
  have d628 : decode cX12_init 628 = .ok (.putfield 232, 3) := by decide +kernel
  refine lv_aload_n (k := 0) (i := 0) hx hb d569 rfl (lv_at hl 0 rfl) ?_
  refine lv_bipush (n := 12) (v := 12) hx hb d570 rfl ?_
  refine mo_new (N' := 12) (ty := .int) (a0 := (12, .inl fun _ => 0)) hx hb hts hA hP hD hK hS (xwd_mem (i := 134) (by decide +kernel)) rfl (fun _ => rfl) (by decide) rfl (by decide) (by omega) (by omega) d572 (fun q67 c67 H hP hD hK hS => ?_)
  refine lv_dup hx hb d574 rfl ?_
  refine lv_iconst (n := 0) (v := 0) hx hb d575 rfl ?_
  refine lv_iconst (n := 4) (v := 4) hx hb d576 rfl ?_
  refine mo_ist (i := 0) hx hb hts hP hD hK hS (show ¬ ((0 : Int32) < 0 ∨ 12 ≤ (0 : Int32).toNatClampNeg) by decide) d577 (fun H locs hP hD hS => ?_)
  refine lv_dup hx hb d578 rfl ?_
  refine lv_iconst (n := 1) (v := 1) hx hb d579 rfl ?_
  refine lv_iconst (n := 4) (v := 4) hx hb d580 rfl ?_
  refine mo_ist (i := 1) hx hb hts hP hD hK hS (show ¬ ((1 : Int32) < 0 ∨ 12 ≤ (1 : Int32).toNatClampNeg) by decide) d581 (fun H locs hP hD hS => ?_)
  refine lv_dup hx hb d582 rfl ?_
  refine lv_iconst (n := 2) (v := 2) hx hb d583 rfl ?_
  refine lv_iconst (n := 3) (v := 3) hx hb d584 rfl ?_
  refine mo_ist (i := 2) hx hb hts hP hD hK hS (show ¬ ((2 : Int32) < 0 ∨ 12 ≤ (2 : Int32).toNatClampNeg) by decide) d585 (fun H locs hP hD hS => ?_)
  refine lv_dup hx hb d586 rfl ?_
  refine lv_iconst (n := 3) (v := 3) hx hb d587 rfl ?_
  refine lv_iconst (n := 5) (v := 5) hx hb d588 rfl ?_
  refine mo_ist (i := 3) hx hb hts hP hD hK hS (show ¬ ((3 : Int32) < 0 ∨ 12 ≤ (3 : Int32).toNatClampNeg) by decide) d589 (fun H locs hP hD hS => ?_)
  refine lv_dup hx hb d590 rfl ?_
  refine lv_iconst (n := 4) (v := 4) hx hb d591 rfl ?_
  refine lv_iconst (n := 4) (v := 4) hx hb d592 rfl ?_
  refine mo_ist (i := 4) hx hb hts hP hD hK hS (show ¬ ((4 : Int32) < 0 ∨ 12 ≤ (4 : Int32).toNatClampNeg) by decide) d593 (fun H locs hP hD hS => ?_)
  refine lv_dup hx hb d594 rfl ?_
  refine lv_iconst (n := 5) (v := 5) hx hb d595 rfl ?_
  refine lv_iconst (n := 5) (v := 5) hx hb d596 rfl ?_
  refine mo_ist (i := 5) hx hb hts hP hD hK hS (show ¬ ((5 : Int32) < 0 ∨ 12 ≤ (5 : Int32).toNatClampNeg) by decide) d597 (fun H locs hP hD hS => ?_)
  refine lv_dup hx hb d598 rfl ?_
  refine lv_bipush (n := 6) (v := 6) hx hb d599 rfl ?_
  refine lv_iconst (n := 4) (v := 4) hx hb d601 rfl ?_
  refine mo_ist (i := 6) hx hb hts hP hD hK hS (show ¬ ((6 : Int32) < 0 ∨ 12 ≤ (6 : Int32).toNatClampNeg) by decide) d602 (fun H locs hP hD hS => ?_)
  refine lv_dup hx hb d603 rfl ?_
  refine lv_bipush (n := 7) (v := 7) hx hb d604 rfl ?_
  refine lv_iconst (n := 4) (v := 4) hx hb d606 rfl ?_
  refine mo_ist (i := 7) hx hb hts hP hD hK hS (show ¬ ((7 : Int32) < 0 ∨ 12 ≤ (7 : Int32).toNatClampNeg) by decide) d607 (fun H locs hP hD hS => ?_)
  refine lv_dup hx hb d608 rfl ?_
  refine lv_bipush (n := 8) (v := 8) hx hb d609 rfl ?_
  refine lv_iconst (n := 4) (v := 4) hx hb d611 rfl ?_
  refine mo_ist (i := 8) hx hb hts hP hD hK hS (show ¬ ((8 : Int32) < 0 ∨ 12 ≤ (8 : Int32).toNatClampNeg) by decide) d612 (fun H locs hP hD hS => ?_)
  refine lv_dup hx hb d613 rfl ?_
  refine lv_bipush (n := 9) (v := 9) hx hb d614 rfl ?_
  refine lv_iconst (n := 2) (v := 2) hx hb d616 rfl ?_
  refine mo_ist (i := 9) hx hb hts hP hD hK hS (show ¬ ((9 : Int32) < 0 ∨ 12 ≤ (9 : Int32).toNatClampNeg) by decide) d617 (fun H locs hP hD hS => ?_)
  refine lv_dup hx hb d618 rfl ?_
  refine lv_bipush (n := 10) (v := 10) hx hb d619 rfl ?_
  refine lv_iconst (n := 3) (v := 3) hx hb d621 rfl ?_
  refine mo_ist (i := 10) hx hb hts hP hD hK hS (show ¬ ((10 : Int32) < 0 ∨ 12 ≤ (10 : Int32).toNatClampNeg) by decide) d622 (fun H locs hP hD hS => ?_)
  refine lv_dup hx hb d623 rfl ?_
  refine lv_bipush (n := 11) (v := 11) hx hb d624 rfl ?_
  refine lv_iconst (n := 3) (v := 3) hx hb d626 rfl ?_
  refine mo_ist (i := 11) hx hb hts hP hD hK hS (show ¬ ((11 : Int32) < 0 ∨ 12 ≤ (11 : Int32).toNatClampNeg) by decide) d627 (fun H locs hP hD hS => ?_)
  refine mo_put (b := 40) (ty := .array .int) hx hb hts hown hin hP hD hK hS (by decide) (xwd_mem (i := 1303) (by decide +kernel)) rfl rfl (by decide +kernel) rfl rfl hlen d628 (fun H locs hP hD hS hlen => ?_)
  exact kk q67 c67 _ H locs (by have h9 : ∀ j : Fin 12, _ = _ := (by decide +kernel : ∀ j : Fin 12, (upd (upd (upd (upd (upd (upd (upd (upd (upd (upd (upd (upd (fun _ => 0) (0 : Int32).toNatClampNeg (4)) (1 : Int32).toNatClampNeg (4)) (2 : Int32).toNatClampNeg (3)) (3 : Int32).toNatClampNeg (5)) (4 : Int32).toNatClampNeg (4)) (5 : Int32).toNatClampNeg (5)) (6 : Int32).toNatClampNeg (4)) (7 : Int32).toNatClampNeg (4)) (8 : Int32).toNatClampNeg (4)) (9 : Int32).toNatClampNeg (2)) (10 : Int32).toNatClampNeg (3)) (11 : Int32).toNatClampNeg (3)) j.1 = nI (gLw (gCm.getD j.1 0))); exact fun j hj => h9 ⟨j, hj⟩) hP hD hK hS hlen
set_option maxRecDepth 20000 in
set_option maxHeartbeats 4000000 in
theorem mo_e {Dg : va_G} {p : Program} {l : Launch} {e : Env} {R : Room} {s : State} {m : MethodId} {args : Array Value} {below : List Frame} {meth : Method} {c : Code} {H : Heap} {ls : Array Slot} {locs : List Loc} {m0 : Nat} {A : Nat → Prop} {Q : State → Prop} {cells slots : Nat} {fs : List Value} {pl : va_W} {tl : List (ClassId × FieldType)} (hx : p.tables.exec = Jvm.exec) (hb : c.code = cX12_init) (hts : ∀ w ∈ xT, w.before args s = true) (hown : s.vm.findClass "MonsoonTradeModel" = some m.cls) (hin : meth.name = "<init>") (hA : ∀ q : Nat, s.heap.size ≤ q → A q) (hlen : fs.length = 59) {lv : List (Nat × Value)} {nL : Nat} (hl : lv_has ls nL ((0, .ref m0) :: lv)) (hP : va_P Dg classes ((m0, .inr (12, fs)) :: pl) H) (hD : va_D A ((m0, .inr (12, fs)) :: pl)) (hK : va_K Dg classes tl s) (hS : va_S A s.heap H locs) (hc : cells + 4 ≤ R.cells) (hz : slots + 430 ≤ R.slots)
    (kk : ∀ (q68 : Nat) (c68 : ClassId) (q69 : Nat) (c69 : ClassId) (q70 : Nat) (c70 : ClassId) (q71 : Nat) (c71 : ClassId) (H : Heap) (locs : List Loc), va_P Dg classes ((m0, .inr (12, ((((fs.set 45 (.ref q68)).set 47 (.ref q69)).set 48 (.ref q70)).set 49 (.ref q71)))) :: (q71, .inl (c71, 24, .inl fun _ => 0)) :: (q70, .inl (c70, 6, .inl fun _ => 0)) :: (q69, .inl (c69, 200, .inl fun _ => 0)) :: (q68, .inl (c68, 200, .inl fun _ => 0)) :: pl) H → va_D A ((m0, .inr (12, ((((fs.set 45 (.ref q68)).set 47 (.ref q69)).set 48 (.ref q70)).set 49 (.ref q71)))) :: (q71, .inl (c71, 24, .inl fun _ => 0)) :: (q70, .inl (c70, 6, .inl fun _ => 0)) :: (q69, .inl (c69, 200, .inl fun _ => 0)) :: (q68, .inl (c68, 200, .inl fun _ => 0)) :: pl) → va_K Dg classes ((c71, .int) :: (c70, .boolean) :: (c69, .int) :: (c68, .int) :: tl) s → va_S A s.heap H locs → (((((fs.set 45 (.ref q68)).set 47 (.ref q69)).set 48 (.ref q70)).set 49 (.ref q71))).length = 59 → W p l e R s m args below meth c H locs (cells + 4) (slots + 430) Q (F0 m 665 ls [])) :
    W p l e R s m args below meth c H locs cells slots Q (F0 m 631 ls []) := by
  have d631 : decode cX12_init 631 = .ok (.aload_n 0, 1) := by decide +kernel
  have d632 : decode cX12_init 632 = .ok (.sipush 200, 3) := by decide +kernel
  have d635 : decode cX12_init 635 = .ok (.newarray .int, 2) := by decide +kernel
  have d637 : decode cX12_init 637 = .ok (.putfield 235, 3) := by decide +kernel
  have d640 : decode cX12_init 640 = .ok (.aload_n 0, 1) := by decide +kernel
  have d641 : decode cX12_init 641 = .ok (.sipush 200, 3) := by decide +kernel
  have d644 : decode cX12_init 644 = .ok (.newarray .int, 2) := by decide +kernel
  have d646 : decode cX12_init 646 = .ok (.putfield 238, 3) := by decide +kernel
  have d649 : decode cX12_init 649 = .ok (.aload_n 0, 1) := by decide +kernel
  have d650 : decode cX12_init 650 = .ok (.bipush 6, 2) := by decide +kernel
  have d652 : decode cX12_init 652 = .ok (.newarray .boolean, 2) := by decide +kernel
  have d654 : decode cX12_init 654 = .ok (.putfield 241, 3) := by decide +kernel
  have d657 : decode cX12_init 657 = .ok (.aload_n 0, 1) := by decide +kernel
  have d658 : decode cX12_init 658 = .ok (.bipush 24, 2) := by decide +kernel
  have d660 : decode cX12_init 660 = .ok (.newarray .int, 2) := by decide +kernel
  have d662 : decode cX12_init 662 = .ok (.putfield 244, 3) := by decide +kernel
  refine lv_aload_n (k := 0) (i := 0) hx hb d631 rfl (lv_at hl 0 rfl) ?_
  refine lv_sipush (n := 200) (v := 200) hx hb d632 rfl ?_
  refine mo_new (N' := 200) (ty := .int) (a0 := (200, .inl fun _ => 0)) hx hb hts hA hP hD hK hS (xwd_mem (i := 134) (by decide +kernel)) rfl (fun _ => rfl) (by decide) rfl (by decide) (by omega) (by omega) d635 (fun q68 c68 H hP hD hK hS => ?_)
  refine mo_put (b := 45) (ty := .array .int) hx hb hts hown hin hP hD hK hS (by decide) (xwd_mem (i := 1308) (by decide +kernel)) rfl rfl (by decide +kernel) rfl rfl hlen d637 (fun H locs hP hD hS hlen => ?_)
  refine lv_aload_n (k := 0) (i := 0) hx hb d640 rfl (lv_at hl 0 rfl) ?_
  refine lv_sipush (n := 200) (v := 200) hx hb d641 rfl ?_
  refine mo_new (N' := 200) (ty := .int) (a0 := (200, .inl fun _ => 0)) hx hb hts hA hP hD hK hS (xwd_mem (i := 134) (by decide +kernel)) rfl (fun _ => rfl) (by decide) rfl (by decide) (by omega) (by omega) d644 (fun q69 c69 H hP hD hK hS => ?_)
  refine mo_put (b := 47) (ty := .array .int) hx hb hts hown hin hP hD hK hS (by decide) (xwd_mem (i := 1310) (by decide +kernel)) rfl rfl (by decide +kernel) rfl rfl hlen d646 (fun H locs hP hD hS hlen => ?_)
  refine lv_aload_n (k := 0) (i := 0) hx hb d649 rfl (lv_at hl 0 rfl) ?_
  refine lv_bipush (n := 6) (v := 6) hx hb d650 rfl ?_
  refine mo_new (N' := 6) (ty := .boolean) (a0 := (6, .inl fun _ => 0)) hx hb hts hA hP hD hK hS (xwd_mem (i := 1441) (by decide +kernel)) rfl (fun _ => rfl) (by decide) rfl (by decide) (by omega) (by omega) d652 (fun q70 c70 H hP hD hK hS => ?_)
  refine mo_put (b := 48) (ty := .array .boolean) hx hb hts hown hin hP hD hK hS (by decide) (xwd_mem (i := 1311) (by decide +kernel)) rfl rfl (by decide +kernel) rfl rfl hlen d654 (fun H locs hP hD hS hlen => ?_)
  refine lv_aload_n (k := 0) (i := 0) hx hb d657 rfl (lv_at hl 0 rfl) ?_
  refine lv_bipush (n := 24) (v := 24) hx hb d658 rfl ?_
  refine mo_new (N' := 24) (ty := .int) (a0 := (24, .inl fun _ => 0)) hx hb hts hA hP hD hK hS (xwd_mem (i := 134) (by decide +kernel)) rfl (fun _ => rfl) (by decide) rfl (by decide) (by omega) (by omega) d660 (fun q71 c71 H hP hD hK hS => ?_)
  refine mo_put (b := 49) (ty := .array .int) hx hb hts hown hin hP hD hK hS (by decide) (xwd_mem (i := 1312) (by decide +kernel)) rfl rfl (by decide +kernel) rfl rfl hlen d662 (fun H locs hP hD hS hlen => ?_)
  exact kk q68 c68 q69 c69 q70 c70 q71 c71  H locs  hP hD hK hS hlen
set_option maxRecDepth 20000 in
set_option maxHeartbeats 4000000 in
theorem mo_f {Dg : va_G} {p : Program} {l : Launch} {e : Env} {R : Room} {s : State} {m : MethodId} {args : Array Value} {below : List Frame} {meth : Method} {c : Code} {H : Heap} {ls : Array Slot} {locs : List Loc} {m0 : Nat} {A : Nat → Prop} {Q : State → Prop} {cells slots : Nat} {fs : List Value} {pl : va_W} {tl : List (ClassId × FieldType)} (hx : p.tables.exec = Jvm.exec) (hb : c.code = cX12_init) (hts : ∀ w ∈ xT, w.before args s = true) (hown : s.vm.findClass "MonsoonTradeModel" = some m.cls) (hin : meth.name = "<init>") (hA : ∀ q : Nat, s.heap.size ≤ q → A q) (hlen : fs.length = 59) {lv : List (Nat × Value)} {nL : Nat} (hl : lv_has ls nL ((0, .ref m0) :: lv)) (hP : va_P Dg classes ((m0, .inr (12, fs)) :: pl) H) (hD : va_D A ((m0, .inr (12, fs)) :: pl)) (hK : va_K Dg classes tl s) (hS : va_S A s.heap H locs) (hc : cells + 1 ≤ R.cells) (hz : slots + 4 ≤ R.slots)
    (kk : ∀ (q72 : Nat) (c72 : ClassId) (f72 : Nat → Int32) (H : Heap) (locs : List Loc), (∀ j, j < 4 → f72 j = -1) → va_P Dg classes ((m0, .inr (12, (fs.set 56 (.ref q72)))) :: (q72, .inl (c72, 4, .inl f72)) :: pl) H → va_D A ((m0, .inr (12, (fs.set 56 (.ref q72)))) :: (q72, .inl (c72, 4, .inl f72)) :: pl) → va_K Dg classes ((c72, .int) :: tl) s → va_S A s.heap H locs → ((fs.set 56 (.ref q72))).length = 59 → W p l e R s m args below meth c H locs (cells + 1) (slots + 4) Q (F0 m 688 ls [])) :
    W p l e R s m args below meth c H locs cells slots Q (F0 m 665 ls []) := by
  have d665 : decode cX12_init 665 = .ok (.aload_n 0, 1) := by decide +kernel
  have d666 : decode cX12_init 666 = .ok (.iconst 4, 1) := by decide +kernel
  have d667 : decode cX12_init 667 = .ok (.newarray .int, 2) := by decide +kernel
  have d669 : decode cX12_init 669 = .ok (.dup, 1) := by decide +kernel
  have d670 : decode cX12_init 670 = .ok (.iconst 0, 1) := by decide +kernel
  have d671 : decode cX12_init 671 = .ok (.iconst (-1), 1) := by decide +kernel
  have d672 : decode cX12_init 672 = .ok (.iastore, 1) := by decide +kernel
  have d673 : decode cX12_init 673 = .ok (.dup, 1) := by decide +kernel
  have d674 : decode cX12_init 674 = .ok (.iconst 1, 1) := by decide +kernel
  have d675 : decode cX12_init 675 = .ok (.iconst (-1), 1) := by decide +kernel
  have d676 : decode cX12_init 676 = .ok (.iastore, 1) := by decide +kernel
  have d677 : decode cX12_init 677 = .ok (.dup, 1) := by decide +kernel
  have d678 : decode cX12_init 678 = .ok (.iconst 2, 1) := by decide +kernel
  have d679 : decode cX12_init 679 = .ok (.iconst (-1), 1) := by decide +kernel
  have d680 : decode cX12_init 680 = .ok (.iastore, 1) := by decide +kernel
  have d681 : decode cX12_init 681 = .ok (.dup, 1) := by decide +kernel
  have d682 : decode cX12_init 682 = .ok (.iconst 3, 1) := by decide +kernel
  have d683 : decode cX12_init 683 = .ok (.iconst (-1), 1) := by decide +kernel
  have d684 : decode cX12_init 684 = .ok (.iastore, 1) := by decide +kernel
  have d685 : decode cX12_init 685 = .ok (.putfield 58, 3) := by decide +kernel
  refine lv_aload_n (k := 0) (i := 0) hx hb d665 rfl (lv_at hl 0 rfl) ?_
  refine lv_iconst (n := 4) (v := 4) hx hb d666 rfl ?_
  refine mo_new (N' := 4) (ty := .int) (a0 := (4, .inl fun _ => 0)) hx hb hts hA hP hD hK hS (xwd_mem (i := 134) (by decide +kernel)) rfl (fun _ => rfl) (by decide) rfl (by decide) (by omega) (by omega) d667 (fun q72 c72 H hP hD hK hS => ?_)
  refine lv_dup hx hb d669 rfl ?_
  refine lv_iconst (n := 0) (v := 0) hx hb d670 rfl ?_
  refine lv_iconst (n := (-1)) (v := (-1)) hx hb d671 rfl ?_
  refine mo_ist (i := 0) hx hb hts hP hD hK hS (show ¬ ((0 : Int32) < 0 ∨ 4 ≤ (0 : Int32).toNatClampNeg) by decide) d672 (fun H locs hP hD hS => ?_)
  refine lv_dup hx hb d673 rfl ?_
  refine lv_iconst (n := 1) (v := 1) hx hb d674 rfl ?_
  refine lv_iconst (n := (-1)) (v := (-1)) hx hb d675 rfl ?_
  refine mo_ist (i := 1) hx hb hts hP hD hK hS (show ¬ ((1 : Int32) < 0 ∨ 4 ≤ (1 : Int32).toNatClampNeg) by decide) d676 (fun H locs hP hD hS => ?_)
  refine lv_dup hx hb d677 rfl ?_
  refine lv_iconst (n := 2) (v := 2) hx hb d678 rfl ?_
  refine lv_iconst (n := (-1)) (v := (-1)) hx hb d679 rfl ?_
  refine mo_ist (i := 2) hx hb hts hP hD hK hS (show ¬ ((2 : Int32) < 0 ∨ 4 ≤ (2 : Int32).toNatClampNeg) by decide) d680 (fun H locs hP hD hS => ?_)
  refine lv_dup hx hb d681 rfl ?_
  refine lv_iconst (n := 3) (v := 3) hx hb d682 rfl ?_
  refine lv_iconst (n := (-1)) (v := (-1)) hx hb d683 rfl ?_
  refine mo_ist (i := 3) hx hb hts hP hD hK hS (show ¬ ((3 : Int32) < 0 ∨ 4 ≤ (3 : Int32).toNatClampNeg) by decide) d684 (fun H locs hP hD hS => ?_)
  refine mo_put (b := 56) (ty := .array .int) hx hb hts hown hin hP hD hK hS (by decide) (xwd_mem (i := 1319) (by decide +kernel)) rfl rfl (by decide +kernel) rfl rfl hlen d685 (fun H locs hP hD hS hlen => ?_)
  exact kk q72 c72 _ H locs (by have h9 : ∀ j : Fin 4, _ = _ := (by decide +kernel : ∀ j : Fin 4, (upd (upd (upd (upd (fun _ => 0) (0 : Int32).toNatClampNeg (-1)) (1 : Int32).toNatClampNeg (-1)) (2 : Int32).toNatClampNeg (-1)) (3 : Int32).toNatClampNeg (-1)) j.1 = -1); exact fun j hj => h9 ⟨j, hj⟩) hP hD hK hS hlen
set_option maxRecDepth 20000 in
set_option maxHeartbeats 4000000 in
theorem mo_g {Dg : va_G} {p : Program} {l : Launch} {e : Env} {R : Room} {s : State} {m : MethodId} {args : Array Value} {below : List Frame} {meth : Method} {c : Code} {H : Heap} {ls : Array Slot} {locs : List Loc} {m0 : Nat} {A : Nat → Prop} {Q : State → Prop} {cells slots : Nat} {fs : List Value} {pl : va_W} {tl : List (ClassId × FieldType)} (hx : p.tables.exec = Jvm.exec) (hb : c.code = cX12_init) (hts : ∀ w ∈ xT, w.before args s = true) (hown : s.vm.findClass "MonsoonTradeModel" = some m.cls) (hin : meth.name = "<init>") (hA : ∀ q : Nat, s.heap.size ≤ q → A q) (hlen : fs.length = 59) {lv : List (Nat × Value)} {nL : Nat} (hl : lv_has ls nL ((0, .ref m0) :: lv)) (hP : va_P Dg classes ((m0, .inr (12, fs)) :: pl) H) (hD : va_D A ((m0, .inr (12, fs)) :: pl)) (hK : va_K Dg classes tl s) (hS : va_S A s.heap H locs) (hc : cells + 2 ≤ R.cells) (hz : slots + 164 ≤ R.slots)
    (kk : ∀ (q73 : Nat) (c73 : ClassId) (q74 : Nat) (c74 : ClassId) (H : Heap) (locs : List Loc), va_P Dg classes ((m0, .inr (12, ((fs.set 57 (.ref q73)).set 58 (.ref q74)))) :: (q74, .inl (c74, 160, .inl fun _ => 0)) :: (q73, .inl (c73, 4, .inl fun _ => 0)) :: pl) H → va_D A ((m0, .inr (12, ((fs.set 57 (.ref q73)).set 58 (.ref q74)))) :: (q74, .inl (c74, 160, .inl fun _ => 0)) :: (q73, .inl (c73, 4, .inl fun _ => 0)) :: pl) → va_K Dg classes ((c74, .int) :: (c73, .int) :: tl) s → va_S A s.heap H locs → (((fs.set 57 (.ref q73)).set 58 (.ref q74))).length = 59 → W p l e R s m args below meth c H locs (cells + 2) (slots + 164) Q (F0 m 704 ls [])) :
    W p l e R s m args below meth c H locs cells slots Q (F0 m 688 ls []) := by
  have d688 : decode cX12_init 688 = .ok (.aload_n 0, 1) := by decide +kernel
  have d689 : decode cX12_init 689 = .ok (.iconst 4, 1) := by decide +kernel
  have d690 : decode cX12_init 690 = .ok (.newarray .int, 2) := by decide +kernel
  have d692 : decode cX12_init 692 = .ok (.putfield 61, 3) := by decide +kernel
  have d695 : decode cX12_init 695 = .ok (.aload_n 0, 1) := by decide +kernel
  have d696 : decode cX12_init 696 = .ok (.sipush 160, 3) := by decide +kernel
  have d699 : decode cX12_init 699 = .ok (.newarray .int, 2) := by decide +kernel
  have d701 : decode cX12_init 701 = .ok (.putfield 64, 3) := by decide +kernel
  refine lv_aload_n (k := 0) (i := 0) hx hb d688 rfl (lv_at hl 0 rfl) ?_
  refine lv_iconst (n := 4) (v := 4) hx hb d689 rfl ?_
  refine mo_new (N' := 4) (ty := .int) (a0 := (4, .inl fun _ => 0)) hx hb hts hA hP hD hK hS (xwd_mem (i := 134) (by decide +kernel)) rfl (fun _ => rfl) (by decide) rfl (by decide) (by omega) (by omega) d690 (fun q73 c73 H hP hD hK hS => ?_)
  refine mo_put (b := 57) (ty := .array .int) hx hb hts hown hin hP hD hK hS (by decide) (xwd_mem (i := 1320) (by decide +kernel)) rfl rfl (by decide +kernel) rfl rfl hlen d692 (fun H locs hP hD hS hlen => ?_)
  refine lv_aload_n (k := 0) (i := 0) hx hb d695 rfl (lv_at hl 0 rfl) ?_
  refine lv_sipush (n := 160) (v := 160) hx hb d696 rfl ?_
  refine mo_new (N' := 160) (ty := .int) (a0 := (160, .inl fun _ => 0)) hx hb hts hA hP hD hK hS (xwd_mem (i := 134) (by decide +kernel)) rfl (fun _ => rfl) (by decide) rfl (by decide) (by omega) (by omega) d699 (fun q74 c74 H hP hD hK hS => ?_)
  refine mo_put (b := 58) (ty := .array .int) hx hb hts hown hin hP hD hK hS (by decide) (xwd_mem (i := 1321) (by decide +kernel)) rfl rfl (by decide +kernel) rfl rfl hlen d701 (fun H locs hP hD hS hlen => ?_)
  exact kk q73 c73 q74 c74  H locs  hP hD hK hS hlen
