section XR
variable {d c z mi pc : Nat} {lv : List (Option xV)} {st : List xV} {S : xS} {Q : Option xV → xS → Prop}
theorem vs_iconst {n : Int} {v : Int32} (hd : decode (xby mi) pc = .ok (.iconst n, 1)) (hv : Int32.ofInt n = v) (h : V d c z mi (pc + 1) lv (.inl (v) :: st) S Q) : V d c z mi pc lv (st) S Q := by
  intro p l e R s m args below meth c0 H locs ls cells slots mc ms D B L0 L C hc hz hRc hRs hB hL hW hS hlv hst hl
  exact lv_iconst C.1 C.2.1 hd hv (h p l e R s m args below meth c0 H locs ls cells slots mc ms D B L0 L C hc hz hRc hRs hB hL hW hS hlv (by simpa [xok] using hst) hl)
theorem vs_bipush {n : Int} {v : Int32} (hd : decode (xby mi) pc = .ok (.bipush n, 2)) (hv : (Int8.ofInt n).toInt32 = v) (h : V d c z mi (pc + 2) lv (.inl (v) :: st) S Q) : V d c z mi pc lv (st) S Q := by
  intro p l e R s m args below meth c0 H locs ls cells slots mc ms D B L0 L C hc hz hRc hRs hB hL hW hS hlv hst hl
  exact lv_bipush C.1 C.2.1 hd hv (h p l e R s m args below meth c0 H locs ls cells slots mc ms D B L0 L C hc hz hRc hRs hB hL hW hS hlv (by simpa [xok] using hst) hl)
theorem vs_sipush {n : Int} {v : Int32} (hd : decode (xby mi) pc = .ok (.sipush n, 3)) (hv : (Int16.ofInt n).toInt32 = v) (h : V d c z mi (pc + 3) lv (.inl (v) :: st) S Q) : V d c z mi pc lv (st) S Q := by
  intro p l e R s m args below meth c0 H locs ls cells slots mc ms D B L0 L C hc hz hRc hRs hB hL hW hS hlv hst hl
  exact lv_sipush C.1 C.2.1 hd hv (h p l e R s m args below meth c0 H locs ls cells slots mc ms D B L0 L C hc hz hRc hRs hB hL hW hS hlv (by simpa [xok] using hst) hl)
theorem vs_lconst {n : Fin 2} {v : Int64} (hd : decode (xby mi) pc = .ok (.lconst n, 1)) (hv : Int64.ofNat (n : Nat) = v) (h : V d c z mi (pc + 1) lv (.inr (.inl (v)) :: st) S Q) : V d c z mi pc lv (st) S Q := by
  intro p l e R s m args below meth c0 H locs ls cells slots mc ms D B L0 L C hc hz hRc hRs hB hL hW hS hlv hst hl
  exact lv_lconst C.1 C.2.1 hd hv (h p l e R s m args below meth c0 H locs ls cells slots mc ms D B L0 L C hc hz hRc hRs hB hL hW hS hlv (by simpa [xok] using hst) hl)
theorem vs_iadd {x y : Int32} (hd : decode (xby mi) pc = .ok (.iadd, 1)) (h : V d c z mi (pc + 1) lv (.inl (x + y) :: st) S Q) : V d c z mi pc lv (.inl y :: .inl x :: st) S Q := by
  intro p l e R s m args below meth c0 H locs ls cells slots mc ms D B L0 L C hc hz hRc hRs hB hL hW hS hlv hst hl
  exact lv_iadd C.1 C.2.1 hd (h p l e R s m args below meth c0 H locs ls cells slots mc ms D B L0 L C hc hz hRc hRs hB hL hW hS hlv (by simpa [xok] using hst) hl)
theorem vs_isub {x y : Int32} (hd : decode (xby mi) pc = .ok (.isub, 1)) (h : V d c z mi (pc + 1) lv (.inl (x - y) :: st) S Q) : V d c z mi pc lv (.inl y :: .inl x :: st) S Q := by
  intro p l e R s m args below meth c0 H locs ls cells slots mc ms D B L0 L C hc hz hRc hRs hB hL hW hS hlv hst hl
  exact lv_isub C.1 C.2.1 hd (h p l e R s m args below meth c0 H locs ls cells slots mc ms D B L0 L C hc hz hRc hRs hB hL hW hS hlv (by simpa [xok] using hst) hl)
theorem vs_imul {x y : Int32} (hd : decode (xby mi) pc = .ok (.imul, 1)) (h : V d c z mi (pc + 1) lv (.inl (x * y) :: st) S Q) : V d c z mi pc lv (.inl y :: .inl x :: st) S Q := by
  intro p l e R s m args below meth c0 H locs ls cells slots mc ms D B L0 L C hc hz hRc hRs hB hL hW hS hlv hst hl
  exact lv_imul C.1 C.2.1 hd (h p l e R s m args below meth c0 H locs ls cells slots mc ms D B L0 L C hc hz hRc hRs hB hL hW hS hlv (by simpa [xok] using hst) hl)
theorem vs_iand {x y : Int32} (hd : decode (xby mi) pc = .ok (.iand, 1)) (h : V d c z mi (pc + 1) lv (.inl (x &&& y) :: st) S Q) : V d c z mi pc lv (.inl y :: .inl x :: st) S Q := by
  intro p l e R s m args below meth c0 H locs ls cells slots mc ms D B L0 L C hc hz hRc hRs hB hL hW hS hlv hst hl
  exact lv_iand C.1 C.2.1 hd (h p l e R s m args below meth c0 H locs ls cells slots mc ms D B L0 L C hc hz hRc hRs hB hL hW hS hlv (by simpa [xok] using hst) hl)
theorem vs_ishr {x y : Int32} (hd : decode (xby mi) pc = .ok (.ishr, 1)) (h : V d c z mi (pc + 1) lv (.inl (x >>> (y &&& 31)) :: st) S Q) : V d c z mi pc lv (.inl y :: .inl x :: st) S Q := by
  intro p l e R s m args below meth c0 H locs ls cells slots mc ms D B L0 L C hc hz hRc hRs hB hL hW hS hlv hst hl
  exact lv_ishr C.1 C.2.1 hd (h p l e R s m args below meth c0 H locs ls cells slots mc ms D B L0 L C hc hz hRc hRs hB hL hW hS hlv (by simpa [xok] using hst) hl)
theorem vs_idiv {x y : Int32} (hd : decode (xby mi) pc = .ok (.idiv, 1)) (hne : ¬ y = 0) (h : V d c z mi (pc + 1) lv (.inl (x / y) :: st) S Q) : V d c z mi pc lv (.inl y :: .inl x :: st) S Q := by
  intro p l e R s m args below meth c0 H locs ls cells slots mc ms D B L0 L C hc hz hRc hRs hB hL hW hS hlv hst hl
  exact lv_idiv C.1 C.2.1 hd hne (h p l e R s m args below meth c0 H locs ls cells slots mc ms D B L0 L C hc hz hRc hRs hB hL hW hS hlv (by simpa [xok] using hst) hl)
theorem vs_irem {x y : Int32} (hd : decode (xby mi) pc = .ok (.irem, 1)) (hne : ¬ y = 0) (h : V d c z mi (pc + 1) lv (.inl (x - x / y * y) :: st) S Q) : V d c z mi pc lv (.inl y :: .inl x :: st) S Q := by
  intro p l e R s m args below meth c0 H locs ls cells slots mc ms D B L0 L C hc hz hRc hRs hB hL hW hS hlv hst hl
  exact lv_irem C.1 C.2.1 hd hne (h p l e R s m args below meth c0 H locs ls cells slots mc ms D B L0 L C hc hz hRc hRs hB hL hW hS hlv (by simpa [xok] using hst) hl)
theorem vs_ineg {x : Int32} (hd : decode (xby mi) pc = .ok (.ineg, 1)) (h : V d c z mi (pc + 1) lv (.inl (-x) :: st) S Q) : V d c z mi pc lv (.inl x :: st) S Q := by
  intro p l e R s m args below meth c0 H locs ls cells slots mc ms D B L0 L C hc hz hRc hRs hB hL hW hS hlv hst hl
  exact lv_ineg C.1 C.2.1 hd (h p l e R s m args below meth c0 H locs ls cells slots mc ms D B L0 L C hc hz hRc hRs hB hL hW hS hlv (by simpa [xok] using hst) hl)
theorem vs_ladd {x y : Int64} (hd : decode (xby mi) pc = .ok (.ladd, 1)) (h : V d c z mi (pc + 1) lv (.inr (.inl (x + y)) :: st) S Q) : V d c z mi pc lv (.inr (.inl y) :: .inr (.inl x) :: st) S Q := by
  intro p l e R s m args below meth c0 H locs ls cells slots mc ms D B L0 L C hc hz hRc hRs hB hL hW hS hlv hst hl
  exact lv_ladd C.1 C.2.1 hd (h p l e R s m args below meth c0 H locs ls cells slots mc ms D B L0 L C hc hz hRc hRs hB hL hW hS hlv (by simpa [xok] using hst) hl)
theorem vs_lsub {x y : Int64} (hd : decode (xby mi) pc = .ok (.lsub, 1)) (h : V d c z mi (pc + 1) lv (.inr (.inl (x - y)) :: st) S Q) : V d c z mi pc lv (.inr (.inl y) :: .inr (.inl x) :: st) S Q := by
  intro p l e R s m args below meth c0 H locs ls cells slots mc ms D B L0 L C hc hz hRc hRs hB hL hW hS hlv hst hl
  exact lv_lsub C.1 C.2.1 hd (h p l e R s m args below meth c0 H locs ls cells slots mc ms D B L0 L C hc hz hRc hRs hB hL hW hS hlv (by simpa [xok] using hst) hl)
theorem vs_lmul {x y : Int64} (hd : decode (xby mi) pc = .ok (.lmul, 1)) (h : V d c z mi (pc + 1) lv (.inr (.inl (x * y)) :: st) S Q) : V d c z mi pc lv (.inr (.inl y) :: .inr (.inl x) :: st) S Q := by
  intro p l e R s m args below meth c0 H locs ls cells slots mc ms D B L0 L C hc hz hRc hRs hB hL hW hS hlv hst hl
  exact lv_lmul C.1 C.2.1 hd (h p l e R s m args below meth c0 H locs ls cells slots mc ms D B L0 L C hc hz hRc hRs hB hL hW hS hlv (by simpa [xok] using hst) hl)
theorem vs_land {x y : Int64} (hd : decode (xby mi) pc = .ok (.land, 1)) (h : V d c z mi (pc + 1) lv (.inr (.inl (x &&& y)) :: st) S Q) : V d c z mi pc lv (.inr (.inl y) :: .inr (.inl x) :: st) S Q := by
  intro p l e R s m args below meth c0 H locs ls cells slots mc ms D B L0 L C hc hz hRc hRs hB hL hW hS hlv hst hl
  exact lv_land C.1 C.2.1 hd (h p l e R s m args below meth c0 H locs ls cells slots mc ms D B L0 L C hc hz hRc hRs hB hL hW hS hlv (by simpa [xok] using hst) hl)
theorem vs_lor {x y : Int64} (hd : decode (xby mi) pc = .ok (.lor, 1)) (h : V d c z mi (pc + 1) lv (.inr (.inl (x ||| y)) :: st) S Q) : V d c z mi pc lv (.inr (.inl y) :: .inr (.inl x) :: st) S Q := by
  intro p l e R s m args below meth c0 H locs ls cells slots mc ms D B L0 L C hc hz hRc hRs hB hL hW hS hlv hst hl
  exact lv_lor C.1 C.2.1 hd (h p l e R s m args below meth c0 H locs ls cells slots mc ms D B L0 L C hc hz hRc hRs hB hL hW hS hlv (by simpa [xok] using hst) hl)
theorem vs_ldiv {x y : Int64} (hd : decode (xby mi) pc = .ok (.ldiv, 1)) (hne : ¬ y = 0) (h : V d c z mi (pc + 1) lv (.inr (.inl (x / y)) :: st) S Q) : V d c z mi pc lv (.inr (.inl y) :: .inr (.inl x) :: st) S Q := by
  intro p l e R s m args below meth c0 H locs ls cells slots mc ms D B L0 L C hc hz hRc hRs hB hL hW hS hlv hst hl
  exact lv_ldiv C.1 C.2.1 hd hne (h p l e R s m args below meth c0 H locs ls cells slots mc ms D B L0 L C hc hz hRc hRs hB hL hW hS hlv (by simpa [xok] using hst) hl)
theorem vs_lcmp {x y : Int64} (hd : decode (xby mi) pc = .ok (.lcmp, 1)) (h : V d c z mi (pc + 1) lv (.inl (lg_cmp x y) :: st) S Q) : V d c z mi pc lv (.inr (.inl y) :: .inr (.inl x) :: st) S Q := by
  intro p l e R s m args below meth c0 H locs ls cells slots mc ms D B L0 L C hc hz hRc hRs hB hL hW hS hlv hst hl
  exact W.lcmp C.1 C.2.1 hd (h p l e R s m args below meth c0 H locs ls cells slots mc ms D B L0 L C hc hz hRc hRs hB hL hW hS hlv (by simpa [xok] using hst) hl)
theorem vs_lshl {x : Int64} {y : Int32} (hd : decode (xby mi) pc = .ok (.lshl, 1)) (h : V d c z mi (pc + 1) lv (.inr (.inl (x <<< (y.toInt64 &&& 63))) :: st) S Q) : V d c z mi pc lv (.inl y :: .inr (.inl x) :: st) S Q := by
  intro p l e R s m args below meth c0 H locs ls cells slots mc ms D B L0 L C hc hz hRc hRs hB hL hW hS hlv hst hl
  exact lv_lshl C.1 C.2.1 hd rfl (h p l e R s m args below meth c0 H locs ls cells slots mc ms D B L0 L C hc hz hRc hRs hB hL hW hS hlv (by simpa [xok] using hst) hl)
theorem vs_lshr {x : Int64} {y : Int32} (hd : decode (xby mi) pc = .ok (.lshr, 1)) (h : V d c z mi (pc + 1) lv (.inr (.inl (x >>> (y.toInt64 &&& 63))) :: st) S Q) : V d c z mi pc lv (.inl y :: .inr (.inl x) :: st) S Q := by
  intro p l e R s m args below meth c0 H locs ls cells slots mc ms D B L0 L C hc hz hRc hRs hB hL hW hS hlv hst hl
  exact lv_lshr C.1 C.2.1 hd rfl (h p l e R s m args below meth c0 H locs ls cells slots mc ms D B L0 L C hc hz hRc hRs hB hL hW hS hlv (by simpa [xok] using hst) hl)
theorem vs_i2l {x : Int32} (hd : decode (xby mi) pc = .ok (.i2l, 1)) (h : V d c z mi (pc + 1) lv (.inr (.inl (x.toInt64)) :: st) S Q) : V d c z mi pc lv (.inl x :: st) S Q := by
  intro p l e R s m args below meth c0 H locs ls cells slots mc ms D B L0 L C hc hz hRc hRs hB hL hW hS hlv hst hl
  exact lv_i2l C.1 C.2.1 hd rfl (h p l e R s m args below meth c0 H locs ls cells slots mc ms D B L0 L C hc hz hRc hRs hB hL hW hS hlv (by simpa [xok] using hst) hl)
theorem vs_l2i {x : Int64} (hd : decode (xby mi) pc = .ok (.l2i, 1)) (h : V d c z mi (pc + 1) lv (.inl (x.toInt32) :: st) S Q) : V d c z mi pc lv (.inr (.inl x) :: st) S Q := by
  intro p l e R s m args below meth c0 H locs ls cells slots mc ms D B L0 L C hc hz hRc hRs hB hL hW hS hlv hst hl
  exact lv_l2i C.1 C.2.1 hd rfl (h p l e R s m args below meth c0 H locs ls cells slots mc ms D B L0 L C hc hz hRc hRs hB hL hW hS hlv (by simpa [xok] using hst) hl)
theorem vs_i2b {x : Int32} (hd : decode (xby mi) pc = .ok (.i2b, 1)) (h : V d c z mi (pc + 1) lv (.inl (x.toInt8.toInt32) :: st) S Q) : V d c z mi pc lv (.inl x :: st) S Q := by
  intro p l e R s m args below meth c0 H locs ls cells slots mc ms D B L0 L C hc hz hRc hRs hB hL hW hS hlv hst hl
  exact lv_i2b C.1 C.2.1 hd rfl (h p l e R s m args below meth c0 H locs ls cells slots mc ms D B L0 L C hc hz hRc hRs hB hL hW hS hlv (by simpa [xok] using hst) hl)
theorem vs_i2s {x : Int32} (hd : decode (xby mi) pc = .ok (.i2s, 1)) (h : V d c z mi (pc + 1) lv (.inl (x.toInt16.toInt32) :: st) S Q) : V d c z mi pc lv (.inl x :: st) S Q := by
  intro p l e R s m args below meth c0 H locs ls cells slots mc ms D B L0 L C hc hz hRc hRs hB hL hW hS hlv hst hl
  exact lv_i2s C.1 C.2.1 hd rfl (h p l e R s m args below meth c0 H locs ls cells slots mc ms D B L0 L C hc hz hRc hRs hB hL hW hS hlv (by simpa [xok] using hst) hl)
theorem vs_i2c {x : Int32} (hd : decode (xby mi) pc = .ok (.i2c, 1)) (h : V d c z mi (pc + 1) lv (.inl ((x.toUInt32 % 65536).toInt32) :: st) S Q) : V d c z mi pc lv (.inl x :: st) S Q := by
  intro p l e R s m args below meth c0 H locs ls cells slots mc ms D B L0 L C hc hz hRc hRs hB hL hW hS hlv hst hl
  exact lv_i2c C.1 C.2.1 hd rfl (h p l e R s m args below meth c0 H locs ls cells slots mc ms D B L0 L C hc hz hRc hRs hB hL hW hS hlv (by simpa [xok] using hst) hl)
theorem xc1 {L : xL} {v : xV} (h : xlong (some v) = false) : (xcv L v).category = 1 := by
  rcases v with x | x | q
  · rfl
  · cases h
  · rfl
theorem vs_dup {v : xV} (hd : decode (xby mi) pc = .ok (.dup, 1)) (hv : xlong (some v) = false) (h : V d c z mi (pc + 1) lv (v :: v :: st) S Q) : V d c z mi pc lv (v :: st) S Q := by
  intro p l e R s m args below meth c0 H locs ls cells slots mc ms D B L0 L C hc hz hRc hRs hB hL hW hS hlv hst hl
  exact lv_dup C.1 C.2.1 hd (xc1 hv) (h p l e R s m args below meth c0 H locs ls cells slots mc ms D B L0 L C hc hz hRc hRs hB hL hW hS hlv (fun u hu => by rcases List.mem_cons.mp hu with e | hu; exact hst u (by rw [e]; exact List.mem_cons_self); exact hst u hu) hl)
theorem vs_dup2 {v u : xV} (hd : decode (xby mi) pc = .ok (.dup2, 1)) (hv : xlong (some v) = false) (hu : xlong (some u) = false) (h : V d c z mi (pc + 1) lv (v :: u :: v :: u :: st) S Q) : V d c z mi pc lv (v :: u :: st) S Q := by
  intro p l e R s m args below meth c0 H locs ls cells slots mc ms D B L0 L C hc hz hRc hRs hB hL hW hS hlv hst hl
  exact lv_dup2_11 C.1 C.2.1 hd (xc1 hv) (xc1 hu) (h p l e R s m args below meth c0 H locs ls cells slots mc ms D B L0 L C hc hz hRc hRs hB hL hW hS hlv (fun w hw => by simp only [List.mem_cons] at hw hst; rcases hw with e | e | e; exact hst w (Or.inl e); exact hst w (Or.inr (Or.inl e)); exact hst w e) hl)
theorem vs_pop {v : xV} (hd : decode (xby mi) pc = .ok (.pop, 1)) (hv : xlong (some v) = false) (h : V d c z mi (pc + 1) lv st S Q) : V d c z mi pc lv (v :: st) S Q := by
  intro p l e R s m args below meth c0 H locs ls cells slots mc ms D B L0 L C hc hz hRc hRs hB hL hW hS hlv hst hl
  exact lv_pop C.1 C.2.1 hd (xc1 hv) (h p l e R s m args below meth c0 H locs ls cells slots mc ms D B L0 L C hc hz hRc hRs hB hL hW hS hlv (fun u hu => hst u (List.mem_cons_of_mem _ hu)) hl)
theorem xat {L : xL} {ls : Array Slot} {n i : Nat} {v : xV} (hl : lv_has ls n (xal L 0 lv)) (hg : xget lv i = some v) : ls[i]? = some (.val (xcv L v)) := hl.2.2 (i, xcv L v) (by simpa using xget_mem (L := L) 0 hg)
theorem vs_iload_n {k : Fin 4} {x : Int32} (hd : decode (xby mi) pc = .ok (.iload_n k, 1)) (hg : xget lv (k : Nat) = some (.inl x)) (h : V d c z mi (pc + 1) lv (.inl x :: st) S Q) : V d c z mi pc lv st S Q := by
  intro p l e R s m args below meth c0 H locs ls cells slots mc ms D B L0 L C hc hz hRc hRs hB hL hW hS hlv hst hl
  exact lv_iload_n C.1 C.2.1 hd rfl (xat hl hg) (h p l e R s m args below meth c0 H locs ls cells slots mc ms D B L0 L C hc hz hRc hRs hB hL hW hS hlv (fun u hu => by rcases List.mem_cons.mp hu with e | hu; exact hlv u (by rw [e]; exact xget_ok hg); exact hst u hu) hl)
theorem vs_iload {i : Nat} {x : Int32} (hd : decode (xby mi) pc = .ok (.iload i, 2)) (hg : xget lv i = some (.inl x)) (h : V d c z mi (pc + 2) lv (.inl x :: st) S Q) : V d c z mi pc lv st S Q := by
  intro p l e R s m args below meth c0 H locs ls cells slots mc ms D B L0 L C hc hz hRc hRs hB hL hW hS hlv hst hl
  exact lv_iload C.1 C.2.1 hd (xat hl hg) (h p l e R s m args below meth c0 H locs ls cells slots mc ms D B L0 L C hc hz hRc hRs hB hL hW hS hlv (fun u hu => by rcases List.mem_cons.mp hu with e | hu; exact hlv u (by rw [e]; exact xget_ok hg); exact hst u hu) hl)
theorem vs_lload_n {k : Fin 4} {x : Int64} (hd : decode (xby mi) pc = .ok (.lload_n k, 1)) (hg : xget lv (k : Nat) = some (.inr (.inl x))) (h : V d c z mi (pc + 1) lv (.inr (.inl x) :: st) S Q) : V d c z mi pc lv st S Q := by
  intro p l e R s m args below meth c0 H locs ls cells slots mc ms D B L0 L C hc hz hRc hRs hB hL hW hS hlv hst hl
  exact lv_lload_n C.1 C.2.1 hd rfl (xat hl hg) (h p l e R s m args below meth c0 H locs ls cells slots mc ms D B L0 L C hc hz hRc hRs hB hL hW hS hlv (fun u hu => by rcases List.mem_cons.mp hu with e | hu; exact hlv u (by rw [e]; exact xget_ok hg); exact hst u hu) hl)
theorem vs_lload {i : Nat} {x : Int64} (hd : decode (xby mi) pc = .ok (.lload i, 2)) (hg : xget lv i = some (.inr (.inl x))) (h : V d c z mi (pc + 2) lv (.inr (.inl x) :: st) S Q) : V d c z mi pc lv st S Q := by
  intro p l e R s m args below meth c0 H locs ls cells slots mc ms D B L0 L C hc hz hRc hRs hB hL hW hS hlv hst hl
  exact lv_lload C.1 C.2.1 hd (xat hl hg) (h p l e R s m args below meth c0 H locs ls cells slots mc ms D B L0 L C hc hz hRc hRs hB hL hW hS hlv (fun u hu => by rcases List.mem_cons.mp hu with e | hu; exact hlv u (by rw [e]; exact xget_ok hg); exact hst u hu) hl)
theorem vs_aload_n {k : Fin 4} {x : Nat × Nat} (hd : decode (xby mi) pc = .ok (.aload_n k, 1)) (hg : xget lv (k : Nat) = some (.inr (.inr x))) (h : V d c z mi (pc + 1) lv (.inr (.inr x) :: st) S Q) : V d c z mi pc lv st S Q := by
  intro p l e R s m args below meth c0 H locs ls cells slots mc ms D B L0 L C hc hz hRc hRs hB hL hW hS hlv hst hl
  exact lv_aload_n C.1 C.2.1 hd rfl (xat hl hg) (h p l e R s m args below meth c0 H locs ls cells slots mc ms D B L0 L C hc hz hRc hRs hB hL hW hS hlv (fun u hu => by rcases List.mem_cons.mp hu with e | hu; exact hlv u (by rw [e]; exact xget_ok hg); exact hst u hu) hl)
theorem vs_aload {i : Nat} {x : Nat × Nat} (hd : decode (xby mi) pc = .ok (.aload i, 2)) (hg : xget lv i = some (.inr (.inr x))) (h : V d c z mi (pc + 2) lv (.inr (.inr x) :: st) S Q) : V d c z mi pc lv st S Q := by
  intro p l e R s m args below meth c0 H locs ls cells slots mc ms D B L0 L C hc hz hRc hRs hB hL hW hS hlv hst hl
  exact lv_aload C.1 C.2.1 hd (xat hl hg) (h p l e R s m args below meth c0 H locs ls cells slots mc ms D B L0 L C hc hz hRc hRs hB hL hW hS hlv (fun u hu => by rcases List.mem_cons.mp hu with e | hu; exact hlv u (by rw [e]; exact xget_ok hg); exact hst u hu) hl)
theorem xst1 {L : xL} {ls : Array Slot} {n i : Nat} {v : xV} (h : lv_has ls n ((i, xcv L v) :: (xal L 0 lv).filter (fun q => !(q.1 == i) && !(q.1 + 1 == i && q.2.category == 2)))) : lv_has ls n (xal L 0 (xset lv i v)) := by
  refine ⟨h.1, h.2.1, fun q hq => h.2.2 q ?_⟩
  rcases xset_al hq with e | ⟨h1, h2, h3, -⟩
  · rw [e, Nat.zero_add]; exact List.mem_cons_self
  · refine List.mem_cons_of_mem _ (List.mem_filter.mpr ⟨h1, ?_⟩)
    rw [Nat.zero_add] at h2 h3
    simp only [Bool.and_eq_true, Bool.not_eq_true', Bool.and_eq_false_iff, beq_eq_false_iff_ne, ne_eq]
    refine ⟨h2, ?_⟩
    by_cases h4 : q.1 + 1 = i
    · exact Or.inr (fun e => h3 ⟨h4, e⟩)
    · exact Or.inl h4
theorem xst2 {L : xL} {ls : Array Slot} {n i : Nat} {v : xV} (hv : xlong (some v) = true) (h : lv_has ls n ((i, xcv L v) :: (xal L 0 lv).filter (fun q => !(q.1 == i) && (!(q.1 == i + 1) && !(q.1 + 1 == i && q.2.category == 2))))) : lv_has ls n (xal L 0 (xset lv i v)) := by
  refine ⟨h.1, h.2.1, fun q hq => h.2.2 q ?_⟩
  rcases xset_al hq with e | ⟨h1, h2, h3, h5⟩
  · rw [e, Nat.zero_add]; exact List.mem_cons_self
  · refine List.mem_cons_of_mem _ (List.mem_filter.mpr ⟨h1, ?_⟩)
    have h5 := h5 hv
    rw [Nat.zero_add] at h2 h3 h5
    simp only [Bool.and_eq_true, Bool.not_eq_true', Bool.and_eq_false_iff, beq_eq_false_iff_ne, ne_eq]
    refine ⟨h2, h5, ?_⟩
    by_cases h4 : q.1 + 1 = i
    · exact Or.inr (fun e => h3 ⟨h4, e⟩)
    · exact Or.inl h4
theorem xsv {L : xL} {i : Nat} {v : xV} (hlv : ∀ u, some u ∈ lv → xok L u) (hst : ∀ u ∈ v :: st, xok L u) : ∀ u, some u ∈ xset lv i v → xok L u := fun u hu => by
  rcases xset_ok hu with e | hu
  · rw [e]; exact hst v List.mem_cons_self
  · exact hlv u hu
theorem xtl {L : xL} {v : xV} (hst : ∀ u ∈ v :: st, xok L u) : ∀ u ∈ st, xok L u := fun u hu => hst u (List.mem_cons_of_mem _ hu)
theorem vs_istore_n {k : Fin 4} {i : Nat} {x : Int32} (hd : decode (xby mi) pc = .ok (.istore_n k, 1)) (hk : (k : Nat) = i) (hn : i < xml mi) (h : V d c z mi (pc + 1) (xset lv i (.inl x)) st S Q) : V d c z mi pc lv (.inl x :: st) S Q := by
  intro p l e R s m args below meth c0 H locs ls cells slots mc ms D B L0 L C hc hz hRc hRs hB hL hW hS hlv hst hl
  exact lv_istore_n C.1 C.2.1 hd hk hl hn rfl (fun ls hl => h p l e R s m args below meth c0 H locs ls cells slots mc ms D B L0 L C hc hz hRc hRs hB hL hW hS (xsv hlv hst) (xtl hst) (xst1 hl))
theorem vs_istore {i : Nat} {x : Int32} (hd : decode (xby mi) pc = .ok (.istore i, 2)) (hn : i < xml mi) (h : V d c z mi (pc + 2) (xset lv i (.inl x)) st S Q) : V d c z mi pc lv (.inl x :: st) S Q := by
  intro p l e R s m args below meth c0 H locs ls cells slots mc ms D B L0 L C hc hz hRc hRs hB hL hW hS hlv hst hl
  exact lv_istore C.1 C.2.1 hd hl hn rfl (fun ls hl => h p l e R s m args below meth c0 H locs ls cells slots mc ms D B L0 L C hc hz hRc hRs hB hL hW hS (xsv hlv hst) (xtl hst) (xst1 hl))
theorem vs_lstore_n {k : Fin 4} {i : Nat} {x : Int64} (hd : decode (xby mi) pc = .ok (.lstore_n k, 1)) (hk : (k : Nat) = i) (hn : i + 1 < xml mi) (h : V d c z mi (pc + 1) (xset lv i (.inr (.inl x))) st S Q) : V d c z mi pc lv (.inr (.inl x) :: st) S Q := by
  intro p l e R s m args below meth c0 H locs ls cells slots mc ms D B L0 L C hc hz hRc hRs hB hL hW hS hlv hst hl
  exact lv_lstore_n C.1 C.2.1 hd hk hl hn rfl (fun ls hl => h p l e R s m args below meth c0 H locs ls cells slots mc ms D B L0 L C hc hz hRc hRs hB hL hW hS (xsv hlv hst) (xtl hst) (xst2 rfl hl))
theorem vs_lstore {i : Nat} {x : Int64} (hd : decode (xby mi) pc = .ok (.lstore i, 2)) (hn : i + 1 < xml mi) (h : V d c z mi (pc + 2) (xset lv i (.inr (.inl x))) st S Q) : V d c z mi pc lv (.inr (.inl x) :: st) S Q := by
  intro p l e R s m args below meth c0 H locs ls cells slots mc ms D B L0 L C hc hz hRc hRs hB hL hW hS hlv hst hl
  exact lv_lstore C.1 C.2.1 hd hl hn rfl (fun ls hl => h p l e R s m args below meth c0 H locs ls cells slots mc ms D B L0 L C hc hz hRc hRs hB hL hW hS (xsv hlv hst) (xtl hst) (xst2 rfl hl))
theorem vs_astore_n {k : Fin 4} {i : Nat} {x : Nat × Nat} (hd : decode (xby mi) pc = .ok (.astore_n k, 1)) (hk : (k : Nat) = i) (hn : i < xml mi) (h : V d c z mi (pc + 1) (xset lv i (.inr (.inr x))) st S Q) : V d c z mi pc lv (.inr (.inr x) :: st) S Q := by
  intro p l e R s m args below meth c0 H locs ls cells slots mc ms D B L0 L C hc hz hRc hRs hB hL hW hS hlv hst hl
  exact lv_astore_n C.1 C.2.1 hd hk hl hn rfl (fun ls hl => h p l e R s m args below meth c0 H locs ls cells slots mc ms D B L0 L C hc hz hRc hRs hB hL hW hS (xsv hlv hst) (xtl hst) (xst1 hl))
theorem vs_astore {i : Nat} {x : Nat × Nat} (hd : decode (xby mi) pc = .ok (.astore i, 2)) (hn : i < xml mi) (h : V d c z mi (pc + 2) (xset lv i (.inr (.inr x))) st S Q) : V d c z mi pc lv (.inr (.inr x) :: st) S Q := by
  intro p l e R s m args below meth c0 H locs ls cells slots mc ms D B L0 L C hc hz hRc hRs hB hL hW hS hlv hst hl
  exact lv_astore C.1 C.2.1 hd hl hn rfl (fun ls hl => h p l e R s m args below meth c0 H locs ls cells slots mc ms D B L0 L C hc hz hRc hRs hB hL hW hS (xsv hlv hst) (xtl hst) (xst1 hl))
theorem vs_iinc {i : Nat} {n : Int} {x v : Int32} (hd : decode (xby mi) pc = .ok (.iinc i n, 3)) (hg : xget lv i = some (.inl x)) (hv : Int32.ofInt n = v) (hn : i < xml mi) (h : V d c z mi (pc + 3) (xset lv i (.inl (x + v))) st S Q) : V d c z mi pc lv st S Q := by
  intro p l e R s m args below meth c0 H locs ls cells slots mc ms D B L0 L C hc hz hRc hRs hB hL hW hS hlv hst hl
  have hm : (i, xcv L (.inl x)) ∈ xal L 0 lv := by simpa using xget_mem (L := L) 0 hg
  obtain ⟨k, hk⟩ := List.getElem?_of_mem hm
  exact lv_iinc (k := k) C.1 C.2.1 hd hl hk (v := x + v) (by rw [hv]) hn rfl (fun ls hl => h p l e R s m args below meth c0 H locs ls cells slots mc ms D B L0 L C hc hz hRc hRs hB hL hW hS (xsv hlv (st := st) (v := .inl (x + v)) (fun u hu => by rcases List.mem_cons.mp hu with e | hu; rw [e]; exact trivial; exact hst u hu)) hst (xst1 (v := .inl (x + v)) hl))
theorem vs_if_eq {x : Int32} {off : Int} {tgt : Nat} (hd : decode (xby mi) pc = .ok (.ifCond .eq off, 3)) (ht : (pc : Int) + off = (tgt : Int)) (kt : x = 0 → V d c z mi tgt lv st S Q) (kf : ¬ x = 0 → V d c z mi (pc + 3) lv st S Q) : V d c z mi pc lv (.inl x :: st) S Q := by
  intro p l e R s m args below meth c0 H locs ls cells slots mc ms D B L0 L C hc hz hRc hRs hB hL hW hS hlv hst hl
  exact lv_if_eq C.1 C.2.1 hd ht (fun q => kt q p l e R s m args below meth c0 H locs ls cells slots mc ms D B L0 L C hc hz hRc hRs hB hL hW hS hlv (xtl hst) hl) (fun q => kf q p l e R s m args below meth c0 H locs ls cells slots mc ms D B L0 L C hc hz hRc hRs hB hL hW hS hlv (xtl hst) hl)
theorem vs_icmp_eq {x y : Int32} {off : Int} {tgt : Nat} (hd : decode (xby mi) pc = .ok (.if_icmp .eq off, 3)) (ht : (pc : Int) + off = (tgt : Int)) (kt : x = y → V d c z mi tgt lv st S Q) (kf : ¬ x = y → V d c z mi (pc + 3) lv st S Q) : V d c z mi pc lv (.inl y :: .inl x :: st) S Q := by
  intro p l e R s m args below meth c0 H locs ls cells slots mc ms D B L0 L C hc hz hRc hRs hB hL hW hS hlv hst hl
  exact lv_icmp_eq C.1 C.2.1 hd ht (fun q => kt q p l e R s m args below meth c0 H locs ls cells slots mc ms D B L0 L C hc hz hRc hRs hB hL hW hS hlv (xtl (xtl hst)) hl) (fun q => kf q p l e R s m args below meth c0 H locs ls cells slots mc ms D B L0 L C hc hz hRc hRs hB hL hW hS hlv (xtl (xtl hst)) hl)
theorem vs_if_ne {x : Int32} {off : Int} {tgt : Nat} (hd : decode (xby mi) pc = .ok (.ifCond .ne off, 3)) (ht : (pc : Int) + off = (tgt : Int)) (kt : ¬ x = 0 → V d c z mi tgt lv st S Q) (kf : x = 0 → V d c z mi (pc + 3) lv st S Q) : V d c z mi pc lv (.inl x :: st) S Q := by
  intro p l e R s m args below meth c0 H locs ls cells slots mc ms D B L0 L C hc hz hRc hRs hB hL hW hS hlv hst hl
  exact lv_if_ne C.1 C.2.1 hd ht (fun q => kt q p l e R s m args below meth c0 H locs ls cells slots mc ms D B L0 L C hc hz hRc hRs hB hL hW hS hlv (xtl hst) hl) (fun q => kf q p l e R s m args below meth c0 H locs ls cells slots mc ms D B L0 L C hc hz hRc hRs hB hL hW hS hlv (xtl hst) hl)
theorem vs_icmp_ne {x y : Int32} {off : Int} {tgt : Nat} (hd : decode (xby mi) pc = .ok (.if_icmp .ne off, 3)) (ht : (pc : Int) + off = (tgt : Int)) (kt : ¬ x = y → V d c z mi tgt lv st S Q) (kf : x = y → V d c z mi (pc + 3) lv st S Q) : V d c z mi pc lv (.inl y :: .inl x :: st) S Q := by
  intro p l e R s m args below meth c0 H locs ls cells slots mc ms D B L0 L C hc hz hRc hRs hB hL hW hS hlv hst hl
  exact lv_icmp_ne C.1 C.2.1 hd ht (fun q => kt q p l e R s m args below meth c0 H locs ls cells slots mc ms D B L0 L C hc hz hRc hRs hB hL hW hS hlv (xtl (xtl hst)) hl) (fun q => kf q p l e R s m args below meth c0 H locs ls cells slots mc ms D B L0 L C hc hz hRc hRs hB hL hW hS hlv (xtl (xtl hst)) hl)
theorem vs_if_lt {x : Int32} {off : Int} {tgt : Nat} (hd : decode (xby mi) pc = .ok (.ifCond .lt off, 3)) (ht : (pc : Int) + off = (tgt : Int)) (kt : x < 0 → V d c z mi tgt lv st S Q) (kf : ¬ x < 0 → V d c z mi (pc + 3) lv st S Q) : V d c z mi pc lv (.inl x :: st) S Q := by
  intro p l e R s m args below meth c0 H locs ls cells slots mc ms D B L0 L C hc hz hRc hRs hB hL hW hS hlv hst hl
  exact lv_if_lt C.1 C.2.1 hd ht (fun q => kt q p l e R s m args below meth c0 H locs ls cells slots mc ms D B L0 L C hc hz hRc hRs hB hL hW hS hlv (xtl hst) hl) (fun q => kf q p l e R s m args below meth c0 H locs ls cells slots mc ms D B L0 L C hc hz hRc hRs hB hL hW hS hlv (xtl hst) hl)
theorem vs_icmp_lt {x y : Int32} {off : Int} {tgt : Nat} (hd : decode (xby mi) pc = .ok (.if_icmp .lt off, 3)) (ht : (pc : Int) + off = (tgt : Int)) (kt : x < y → V d c z mi tgt lv st S Q) (kf : ¬ x < y → V d c z mi (pc + 3) lv st S Q) : V d c z mi pc lv (.inl y :: .inl x :: st) S Q := by
  intro p l e R s m args below meth c0 H locs ls cells slots mc ms D B L0 L C hc hz hRc hRs hB hL hW hS hlv hst hl
  exact lv_icmp_lt C.1 C.2.1 hd ht (fun q => kt q p l e R s m args below meth c0 H locs ls cells slots mc ms D B L0 L C hc hz hRc hRs hB hL hW hS hlv (xtl (xtl hst)) hl) (fun q => kf q p l e R s m args below meth c0 H locs ls cells slots mc ms D B L0 L C hc hz hRc hRs hB hL hW hS hlv (xtl (xtl hst)) hl)
theorem vs_if_ge {x : Int32} {off : Int} {tgt : Nat} (hd : decode (xby mi) pc = .ok (.ifCond .ge off, 3)) (ht : (pc : Int) + off = (tgt : Int)) (kt : 0 ≤ x → V d c z mi tgt lv st S Q) (kf : ¬ 0 ≤ x → V d c z mi (pc + 3) lv st S Q) : V d c z mi pc lv (.inl x :: st) S Q := by
  intro p l e R s m args below meth c0 H locs ls cells slots mc ms D B L0 L C hc hz hRc hRs hB hL hW hS hlv hst hl
  exact lv_if_ge C.1 C.2.1 hd ht (fun q => kt q p l e R s m args below meth c0 H locs ls cells slots mc ms D B L0 L C hc hz hRc hRs hB hL hW hS hlv (xtl hst) hl) (fun q => kf q p l e R s m args below meth c0 H locs ls cells slots mc ms D B L0 L C hc hz hRc hRs hB hL hW hS hlv (xtl hst) hl)
theorem vs_icmp_ge {x y : Int32} {off : Int} {tgt : Nat} (hd : decode (xby mi) pc = .ok (.if_icmp .ge off, 3)) (ht : (pc : Int) + off = (tgt : Int)) (kt : y ≤ x → V d c z mi tgt lv st S Q) (kf : ¬ y ≤ x → V d c z mi (pc + 3) lv st S Q) : V d c z mi pc lv (.inl y :: .inl x :: st) S Q := by
  intro p l e R s m args below meth c0 H locs ls cells slots mc ms D B L0 L C hc hz hRc hRs hB hL hW hS hlv hst hl
  exact lv_icmp_ge C.1 C.2.1 hd ht (fun q => kt q p l e R s m args below meth c0 H locs ls cells slots mc ms D B L0 L C hc hz hRc hRs hB hL hW hS hlv (xtl (xtl hst)) hl) (fun q => kf q p l e R s m args below meth c0 H locs ls cells slots mc ms D B L0 L C hc hz hRc hRs hB hL hW hS hlv (xtl (xtl hst)) hl)
theorem vs_if_gt {x : Int32} {off : Int} {tgt : Nat} (hd : decode (xby mi) pc = .ok (.ifCond .gt off, 3)) (ht : (pc : Int) + off = (tgt : Int)) (kt : 0 < x → V d c z mi tgt lv st S Q) (kf : ¬ 0 < x → V d c z mi (pc + 3) lv st S Q) : V d c z mi pc lv (.inl x :: st) S Q := by
  intro p l e R s m args below meth c0 H locs ls cells slots mc ms D B L0 L C hc hz hRc hRs hB hL hW hS hlv hst hl
  exact lv_if_gt C.1 C.2.1 hd ht (fun q => kt q p l e R s m args below meth c0 H locs ls cells slots mc ms D B L0 L C hc hz hRc hRs hB hL hW hS hlv (xtl hst) hl) (fun q => kf q p l e R s m args below meth c0 H locs ls cells slots mc ms D B L0 L C hc hz hRc hRs hB hL hW hS hlv (xtl hst) hl)
theorem vs_icmp_gt {x y : Int32} {off : Int} {tgt : Nat} (hd : decode (xby mi) pc = .ok (.if_icmp .gt off, 3)) (ht : (pc : Int) + off = (tgt : Int)) (kt : y < x → V d c z mi tgt lv st S Q) (kf : ¬ y < x → V d c z mi (pc + 3) lv st S Q) : V d c z mi pc lv (.inl y :: .inl x :: st) S Q := by
  intro p l e R s m args below meth c0 H locs ls cells slots mc ms D B L0 L C hc hz hRc hRs hB hL hW hS hlv hst hl
  exact lv_icmp_gt C.1 C.2.1 hd ht (fun q => kt q p l e R s m args below meth c0 H locs ls cells slots mc ms D B L0 L C hc hz hRc hRs hB hL hW hS hlv (xtl (xtl hst)) hl) (fun q => kf q p l e R s m args below meth c0 H locs ls cells slots mc ms D B L0 L C hc hz hRc hRs hB hL hW hS hlv (xtl (xtl hst)) hl)
theorem vs_if_le {x : Int32} {off : Int} {tgt : Nat} (hd : decode (xby mi) pc = .ok (.ifCond .le off, 3)) (ht : (pc : Int) + off = (tgt : Int)) (kt : x ≤ 0 → V d c z mi tgt lv st S Q) (kf : ¬ x ≤ 0 → V d c z mi (pc + 3) lv st S Q) : V d c z mi pc lv (.inl x :: st) S Q := by
  intro p l e R s m args below meth c0 H locs ls cells slots mc ms D B L0 L C hc hz hRc hRs hB hL hW hS hlv hst hl
  exact lv_if_le C.1 C.2.1 hd ht (fun q => kt q p l e R s m args below meth c0 H locs ls cells slots mc ms D B L0 L C hc hz hRc hRs hB hL hW hS hlv (xtl hst) hl) (fun q => kf q p l e R s m args below meth c0 H locs ls cells slots mc ms D B L0 L C hc hz hRc hRs hB hL hW hS hlv (xtl hst) hl)
theorem vs_icmp_le {x y : Int32} {off : Int} {tgt : Nat} (hd : decode (xby mi) pc = .ok (.if_icmp .le off, 3)) (ht : (pc : Int) + off = (tgt : Int)) (kt : x ≤ y → V d c z mi tgt lv st S Q) (kf : ¬ x ≤ y → V d c z mi (pc + 3) lv st S Q) : V d c z mi pc lv (.inl y :: .inl x :: st) S Q := by
  intro p l e R s m args below meth c0 H locs ls cells slots mc ms D B L0 L C hc hz hRc hRs hB hL hW hS hlv hst hl
  exact lv_icmp_le C.1 C.2.1 hd ht (fun q => kt q p l e R s m args below meth c0 H locs ls cells slots mc ms D B L0 L C hc hz hRc hRs hB hL hW hS hlv (xtl (xtl hst)) hl) (fun q => kf q p l e R s m args below meth c0 H locs ls cells slots mc ms D B L0 L C hc hz hRc hRs hB hL hW hS hlv (xtl (xtl hst)) hl)
theorem vs_goto {off : Int} {tgt : Nat} (hd : decode (xby mi) pc = .ok (.goto off, 3)) (ht : (pc : Int) + off = (tgt : Int)) (h : V d c z mi tgt lv st S Q) : V d c z mi pc lv st S Q := by
  intro p l e R s m args below meth c0 H locs ls cells slots mc ms D B L0 L C hc hz hRc hRs hB hL hW hS hlv hst hl
  exact lv_goto C.1 C.2.1 hd ht (h p l e R s m args below meth c0 H locs ls cells slots mc ms D B L0 L C hc hz hRc hRs hB hL hW hS hlv hst hl)
theorem vs_ldc {i : Nat} {v : Int32} (hd : decode (xby mi) pc = .ok (.ldc i, 2)) (hw : Cond.constant (mt mi).1.cls i v ∈ xT) (h : V d c z mi (pc + 2) lv (.inl v :: st) S Q) : V d c z mi pc lv st S Q := by
  intro p l e R s m args below meth c0 H locs ls cells slots mc ms D B L0 L C hc hz hRc hRs hB hL hW hS hlv hst hl
  exact lv_ldc C.1 C.2.1 C.2.2.2.2.1 (C.2.2.2.2.2.1 _ hw) hd (h p l e R s m args below meth c0 H locs ls cells slots mc ms D B L0 L C hc hz hRc hRs hB hL hW hS hlv (by simpa [xok] using hst) hl)
theorem vs_ldc_w {i : Nat} {v : Int32} (hd : decode (xby mi) pc = .ok (.ldc_w i, 3)) (hw : Cond.constant (mt mi).1.cls i v ∈ xT) (h : V d c z mi (pc + 3) lv (.inl v :: st) S Q) : V d c z mi pc lv st S Q := by
  intro p l e R s m args below meth c0 H locs ls cells slots mc ms D B L0 L C hc hz hRc hRs hB hL hW hS hlv hst hl
  exact lv_ldcw C.1 C.2.1 C.2.2.2.2.1 (C.2.2.2.2.2.1 _ hw) hd (h p l e R s m args below meth c0 H locs ls cells slots mc ms D B L0 L C hc hz hRc hRs hB hL hW hS hlv (by simpa [xok] using hst) hl)
theorem vs_ldc2 {i : Nat} {v : Int64} (hd : decode (xby mi) pc = .ok (.ldc2_w i, 3)) (hw : Cond.constantLong (mt mi).1.cls i v ∈ xT) (h : V d c z mi (pc + 3) lv (.inr (.inl v) :: st) S Q) : V d c z mi pc lv st S Q := by
  intro p l e R s m args below meth c0 H locs ls cells slots mc ms D B L0 L C hc hz hRc hRs hB hL hW hS hlv hst hl
  exact lv_ldc2 C.1 C.2.1 C.2.2.2.2.1 (C.2.2.2.2.2.1 _ hw) hd (h p l e R s m args below meth c0 H locs ls cells slots mc ms D B L0 L C hc hz hRc hRs hB hL hW hS hlv (by simpa [xok] using hst) hl)
end XR
