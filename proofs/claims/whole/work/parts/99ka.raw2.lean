/-! reading and writing a living cell from outside the machine: a field, a row's reference, a field's write -/
theorem rawGet {p : Program} {l : Launch} {e : Env} {R : Room} {s : State} {m : MethodId} {args : Array Value} {below : List Frame} {meth : Method} {c0 : Code} {H : Heap} {locs : List Loc} {cells slots : Nat} {Q : State → Prop} {cc : ByteArray} {pc idx k i ci b : Nat} {own : String} {ls : Array Slot} {rest : List Value} {sl : List (Option (Nat × Nat × Nat))} {o : Option (Nat × Nat × Nat)} {D : va_G} {B : Nat} {L : xL} {S : xS} {Cn : String} {T : u_T} {N a : Nat} (ha : L k i = a)
    (hx : p.tables.exec = Jvm.exec) (hbb : c0.code = cc) (hown : s.vm.findClass own = some m.cls) (hts : ∀ w ∈ xT, w.before args s = true) (hd : decode cc pc = .ok (.getfield idx, 3)) (hsh : xsh k = .inl (ci, sl)) (ho : sl[b]? = some o) (hcl : classes[ci]? = some (Cn, T, N)) (hb : b < N) (hw : Cond.fieldLink own idx (T b).1 (T b).2.1 (T b).2.2.1 ∈ xT)
    (hi : i < xcn L k) (hW : xW s D B L S H)
    (kk : W p l e R s m args below meth c0 H locs cells slots Q (F0 m (pc + 3) ls (xcv L (xfv S k i b o) :: rest))) :
    W p l e R s m args below meth c0 H locs cells slots Q (F0 m pc ls (.ref a :: rest)) := by
  subst ha
  have hob := xcell_o (hW.2.1 k i hi) hsh hcl
  have hP : va_P D classes [(L k i, .inr (ci, xfl L S k i 0 sl))] H := fun n q hq => by
    have hn : n = 0 := by have := (List.getElem?_eq_some_iff.mp hq).1; simp at this; exact this
    subst hn; cases hq; exact ⟨_, hcl, hob⟩
  have hv : (xfl L S k i 0 sl)[b]? = some (xcv L (xfv S k i b o)) := by have := xfl_at (L := L) (S := S) (k := k) (i := i) (j := 0) ho; rwa [Nat.zero_add] at this
  exact va_get hx hbb (Ts := xT) hts (xlay hcl) hown hW.1 hP 0 rfl hcl b hb (hts _ hw) (fun _ h => h) hv hd kk
theorem rawAld {p : Program} {l : Launch} {e : Env} {R : Room} {s : State} {m : MethodId} {args : Array Value} {below : List Frame} {meth : Method} {c0 : Code} {H : Heap} {locs : List Loc} {cells slots : Nat} {Q : State → Prop} {cc : ByteArray} {pc k i n rk : Nat} {Cn : String} {j : Int32} {ls : Array Slot} {rest : List Value} {D : va_G} {B : Nat} {L : xL} {S : xS} {a : Nat} (ha : L k i = a)
    (hx : p.tables.exec = Jvm.exec) (hbb : c0.code = cc) (hd : decode cc pc = .ok (.aaload, 1)) (hsh : xsh k = .inr (.object Cn, n, rk)) (hn : Nat.beq n 65536 = false) (hin : vp_in j n) (hro : xro k = false) (hi : i < xcn L k) (hW : xW s D B L S H)
    (kk : W p l e R s m args below meth c0 H locs cells slots Q (F0 m (pc + 1) ls (.ref (L rk j.toNatClampNeg) :: rest))) :
    W p l e R s m args below meth c0 H locs cells slots Q (F0 m pc ls (.int j :: .ref a :: rest)) := by
  subst ha
  obtain ⟨cA, ⟨ha, -⟩, hh⟩ := xcell_a (hW.2.1 k i hi) hsh hro
  have hx2 : xlen S k i n = n := by unfold xlen; rw [hn]; rfl
  rw [hx2] at hh
  exact W.aald (v := .ref (L rk j.toNatClampNeg)) hx hbb hh (ha _ _) rfl (fun q => by cases q) (by rw [arrV_size]; exact hin) (by rw [arrV_read _ _ (xlt hin)]; rfl) rfl rfl hd kk
theorem rawPut {p : Program} {l : Launch} {e : Env} {R : Room} {s : State} {m : MethodId} {args : Array Value} {below : List Frame} {meth : Method} {c0 : Code} {H : Heap} {locs : List Loc} {cells slots : Nat} {Q : State → Prop} {cc : ByteArray} {pc idx k i ci b : Nat} {own : String} {ls : Array Slot} {rest : List Value} {sl : List (Option (Nat × Nat × Nat))} {D : va_G} {B : Nat} {L : xL} {S : xS} {x : Int32} {Cn : String} {T : u_T} {N a : Nat} {ty : FieldType} (ha : L k i = a)
    (hx : p.tables.exec = Jvm.exec) (hbb : c0.code = cc) (hown : s.vm.findClass own = some m.cls) (hts : ∀ w ∈ xT, w.before args s = true) (hd : decode cc pc = .ok (.putfield idx, 3)) (hsh : xsh k = .inl (ci, sl)) (ho : sl[b]? = some none) (hcl : classes[ci]? = some (Cn, T, N)) (hb : b < N) (hw : Cond.fieldLink own idx (T b).1 (T b).2.1 (T b).2.2.1 ∈ xT)
    (hfin : (T b).2.2.2 = false) (hty : parseFieldDescriptor (T b).2.2.1 = some ty) (hn : narrow ty (.int x) = .int x) (hfit : fits ty (.int x) = true) (hro : xro k = false) (hi : i < xcn L k) (hW : xW s D B L S H) (hS : va_S (xA B) s.heap H locs)
    (kk : ∀ (H1 : Heap) (locs1 : List Loc), xW s D B L (xupd S k i b x) H1 → va_S (xA B) s.heap H1 locs1 → W p l e R s m args below meth c0 H1 locs1 cells slots Q (F0 m (pc + 3) ls rest)) :
    W p l e R s m args below meth c0 H locs cells slots Q (F0 m pc ls (.int x :: .ref a :: rest)) := by
  subst ha
  have hob := xcell_o (hW.2.1 k i hi) hsh hcl
  obtain ⟨ty0, hty0, hnm⟩ := xtyp hcl
  have hap := va_apart (own := Cn) hts (xlay hcl) ty0 hty0 hnm hW.1 hcl
  obtain ⟨cell, q1, q2, q3, q4⟩ := hob
  obtain ⟨hSl, hfc, kC, hkC, hkind⟩ := hW.1.1 ci _ hcl
  obtain ⟨cf, kf, fi, f, hif, hsl⟩ := hSl b hb
  have hlay := hts _ (xlay hcl _ (u_in_lay hb))
  unfold u_lay at hlay
  rw [if_neg (by rw [hfin]; decide)] at hlay
  have hst1 := (u_facts hfc hkC (u_lays hts (xlay hcl) hb) hif).1
  have h6 := u_store hfc hkC hkind hlay hif hty hn hfit
  refine W.putK hx hbb (f := f) ⟨hown, hts _ hw, ⟨_, _, _, hif⟩, hst1⟩ (by rw [q2]; exact h6) q1 q3 (by rw [hsl]; exact k2_hasslot (q4 b hb)) rfl rfl hd (fun H' e1 e2 e3 => ?_)
  rw [hsl] at e1
  have hcell : xcell s D L (xupd S k i b x) k i H' := by
    unfold xcell
    rw [hsh]
    exact Or.inr ⟨_, hcl, t_OB.to (V := updV (vp_V (xfl L S k i 0 sl)) b (.int x)) ⟨_, e1, q2, q3, t_set q4 hap hb (.int x)⟩ (fun j _ => xfl_upd ho j)⟩
  exact kk H' _ (hW.upd hi hro hcell e3 (xupd_off S k i b x)) (hS.put e2 e3 (hW.2.2.2.1 k i hi hro))
