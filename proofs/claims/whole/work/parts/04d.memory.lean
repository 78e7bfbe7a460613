/-! memory: fields, arrays; calls and answers -/
theorem xlay {ci : Nat} {C : String} {T : u_T} {N : Nat} (h : classes[ci]? = some (C, T, N)) : ∀ w ∈ u_ws C T N, w ∈ xT := by
  have hlt : ci < 13 := (List.getElem?_eq_some_iff.mp h).1
  match ci, h, hlt with
  | 0, h, _ => cases h; exact xg_0
  | 1, h, _ => cases h; exact xg_1
  | 2, h, _ => cases h; exact xg_2
  | 3, h, _ => cases h; exact xg_3
  | 4, h, _ => cases h; exact xg_4
  | 5, h, _ => cases h; exact xg_5
  | 6, h, _ => cases h; exact xg_6
  | 7, h, _ => cases h; exact xg_7
  | 8, h, _ => cases h; exact xg_8
  | 9, h, _ => cases h; exact xg_9
  | 10, h, _ => cases h; exact xg_10
  | 11, h, _ => cases h; exact xg_11
  | 12, h, _ => cases h; exact xg_12
  | n + 13, _, h => exact absurd h (by omega)
theorem xtyp {ci : Nat} {C : String} {T : u_T} {N : Nat} (h : classes[ci]? = some (C, T, N)) : ∃ ty0 : Nat → FieldType, (∀ k, k < N → parseFieldDescriptor (T k).2.2.1 = some (ty0 k)) ∧ ∀ a, a < N → ∀ b, b < N → a ≠ b → (T a).2.1 ≠ (T b).2.1 := by
  have hlt : ci < 13 := (List.getElem?_eq_some_iff.mp h).1
  match ci, h, hlt with
  | 0, h, _ => cases h; exact ⟨tyX0, tyX0_ok, nmX0⟩
  | 1, h, _ => cases h; exact ⟨tyX1, tyX1_ok, nmX1⟩
  | 2, h, _ => cases h; exact ⟨tyX2, tyX2_ok, nmX2⟩
  | 3, h, _ => cases h; exact ⟨tyX3, tyX3_ok, nmX3⟩
  | 4, h, _ => cases h; exact ⟨tyX4, tyX4_ok, nmX4⟩
  | 5, h, _ => cases h; exact ⟨tyX5, tyX5_ok, nmX5⟩
  | 6, h, _ => cases h; exact ⟨tyX6, tyX6_ok, nmX6⟩
  | 7, h, _ => cases h; exact ⟨tyX7, tyX7_ok, nmX7⟩
  | 8, h, _ => cases h; exact ⟨tyX8, tyX8_ok, nmX8⟩
  | 9, h, _ => cases h; exact ⟨tyX9, tyX9_ok, nmX9⟩
  | 10, h, _ => cases h; exact ⟨tyX10, tyX10_ok, nmX10⟩
  | 11, h, _ => cases h; exact ⟨tyX11, tyX11_ok, nmX11⟩
  | 12, h, _ => cases h; exact ⟨tyX12, tyX12_ok, nmX12⟩
  | n + 13, _, h => exact absurd h (by omega)
def xshok (k : Nat) : Bool := match xsh k with
  | .inl o => o.2.all (fun x => match x with
    | none => true
    | some q => ((!(Nat.ble k 35) || Nat.ble q.1 35) && (!(Nat.ble 75 k) || Nat.ble 75 q.1)) && (List.range (xcnt k)).all (fun i => Nat.ble ((xrf q i).2 + 1) (xcnt (xrf q i).1)))
  | .inr a => match a.1 with
    | .object _ => Nat.ble a.2.1 (xcnt a.2.2) && (!(xro k) && ((!(Nat.ble k 35) || Nat.ble a.2.2 35) && (!(Nat.ble 75 k) || Nat.ble 75 a.2.2)))
    | _ => true
theorem xshok_all : ∀ k, k < 77 → xshok k = true := by decide +kernel
theorem xcnt_lt {k i : Nat} (h : i < xcnt k) : k < 77 := by
  rcases Nat.lt_or_ge k 77 with q | q
  · exact q
  · exfalso
    have : xcnt k = 0 := by
      unfold xcnt
      rw [Nat.ble_eq_true_of_le q]; rfl
    omega
def xfv (S : xS) (k i b : Nat) (o : Option (Nat × Nat × Nat)) : xV := match o with
  | none => .inl (S.1 k i b)
  | some q => .inr (.inr (xrf q i))
theorem xfl_at {L : xL} {S : xS} {k i : Nat} {o : Option (Nat × Nat × Nat)} : ∀ {sl : List (Option (Nat × Nat × Nat))} {j b : Nat}, sl[b]? = some o → (xfl L S k i j sl)[b]? = some (xcv L (xfv S k i (j + b) o))
  | [], _, _, h => by simp at h
  | none :: r, j, 0, h => by simp at h; subst h; rfl
  | some q :: r, j, 0, h => by simp at h; subst h; rfl
  | none :: r, j, b + 1, h => by
    have := xfl_at (L := L) (S := S) (k := k) (i := i) (sl := r) (j := j + 1) (b := b) (by simpa using h)
    rw [show j + (b + 1) = j + 1 + b by omega, ← this]; rfl
  | some q :: r, j, b + 1, h => by
    have := xfl_at (L := L) (S := S) (k := k) (i := i) (sl := r) (j := j + 1) (b := b) (by simpa using h)
    rw [show j + (b + 1) = j + 1 + b by omega, ← this]; rfl
theorem xfl_none {L : xL} {S : xS} {k i : Nat} : ∀ {sl : List (Option (Nat × Nat × Nat))} {j b : Nat}, sl[b]? = none → (xfl L S k i j sl)[b]? = none
  | [], _, _, _ => rfl
  | none :: r, j, 0, h => by simp at h
  | some q :: r, j, 0, h => by simp at h
  | none :: r, j, b + 1, h => by
    have := xfl_none (L := L) (S := S) (k := k) (i := i) (sl := r) (j := j + 1) (b := b) (by simpa using h)
    rw [← this]; rfl
  | some q :: r, j, b + 1, h => by
    have := xfl_none (L := L) (S := S) (k := k) (i := i) (sl := r) (j := j + 1) (b := b) (by simpa using h)
    rw [← this]; rfl
theorem xrf_k (q : Nat × Nat × Nat) (i : Nat) : (xrf q i).1 = q.1 := by
  obtain ⟨k, j, a⟩ := q
  cases j with
  | zero => rfl
  | succ j => cases j <;> rfl
theorem xfv_ok {L : xL} {S : xS} {k i b ci : Nat} {sl : List (Option (Nat × Nat × Nat))} {o : Option (Nat × Nat × Nat)} (hsh : xsh k = .inl (ci, sl)) (ho : sl[b]? = some o) (hi : i < xcn L k) : xok L (xfv S k i b o) := by
  cases o with
  | none => trivial
  | some q =>
    have h := xshok_all k (xcnt_lt (xcn_le hi))
    unfold xshok at h
    rw [hsh] at h
    have h1 := List.all_eq_true.mp h _ (List.mem_of_getElem? ho)
    have h1 := Bool.and_eq_true_iff.mp h1
    have h0 := Bool.and_eq_true_iff.mp h1.1
    have h2 := List.all_eq_true.mp h1.2 i (List.mem_range.mpr (xcn_le hi))
    show (xrf q i).2 < xcn L (xrf q i).1
    exact xcn_to hi (by rw [xrf_k]; exact h0.1) (by rw [xrf_k]; exact h0.2) (Nat.le_of_ble_eq_true h2)
theorem xcell_o {U : State} {D : va_G} {L : xL} {S : xS} {k i ci : Nat} {sl : List (Option (Nat × Nat × Nat))} {H : Heap} {C : String} {T : u_T} {N : Nat} (h : xcell U D L S k i H) (hsh : xsh k = .inl (ci, sl)) (hcl : classes[ci]? = some (C, T, N)) : t_OB (L k i) (D.1 ci) N (D.2 ci) H (vp_V (xfl L S k i 0 sl)) := by
  unfold xcell at h
  rw [hsh] at h
  rcases h with ⟨e, -⟩ | ⟨r, h1, h2⟩
  · have e : ci = 99 := e
    subst e
    exact absurd hcl (by intro e; cases e)
  · cases hcl.symm.trans h1
    exact h2
theorem xcell_a {U : State} {D : va_G} {L : xL} {S : xS} {k i n rk : Nat} {ty : FieldType} {H : Heap} (h : xcell U D L S k i H) (hsh : xsh k = .inr (ty, n, rk)) (hro : xro k = false) : ∃ cA : ClassId, (ArrOfT U cA ty ∧ va_RA U cA ty) ∧ H[L k i]? = some (arrV cA (xlen S k i n) (xel L S k i rk ty)) := by
  unfold xcell at h
  rw [hsh] at h
  rcases h with ⟨e, -⟩ | ⟨-, h⟩
  · rw [hro] at e; cases e
  · exact h
theorem xcell_r {U : State} {D : va_G} {L : xL} {S : xS} {k i n rk : Nat} {ty : FieldType} {H : Heap} (h : xcell U D L S k i H) (hsh : xsh k = .inr (ty, n, rk)) : ∃ cell : Cell, H[L k i]? = some cell ∧ U.isArrayOf cell ty ∧ cell.vm ≠ .unknown ∧ xlen S k i n ≤ cell.slots.size ∧ cell.slots.size.toInt32 = Int32.ofNat (xlen S k i n) ∧ ∀ j : Nat, j < xlen S k i n → cell.slots[j]? = some (xel L S k i rk ty j) := by
  unfold xcell at h
  rw [hsh] at h
  rcases h with ⟨-, cell, h1, h2, h3, h4, h5, h6, -⟩ | ⟨-, cA, ⟨ha, -⟩, hh⟩
  · exact ⟨cell, h1, h2, h3, h4, h5, h6⟩
  · exact ⟨arrV cA (xlen S k i n) (xel L S k i rk ty), hh, ha _ _, (fun q => by cases q), (by rw [arrV_size]; exact Nat.le_refl _), (by rw [arrV_size]), fun j hj => arrV_read _ _ hj⟩
theorem vp_in_le {j : Int32} {n m : Nat} (h : vp_in j n) (hm : n ≤ m) : vp_in j m := fun q => h (q.imp id (fun q => Nat.le_trans hm q))
def xupd (S : xS) (k i j : Nat) (x : Int32) : xS := (fun k' i' j' => if k' = k ∧ j' = j ∧ i' = i then x else S.1 k' i' j', S.2)
def xupl (S : xS) (k i j : Nat) (x : Int64) : xS := (S.1, fun k' i' j' => if k' = k ∧ j' = j ∧ i' = i then x else S.2 k' i' j')
theorem xfl_congr {L : xL} {S S' : xS} {k i : Nat} (h : ∀ j, S'.1 k i j = S.1 k i j) : ∀ (sl : List (Option (Nat × Nat × Nat))) (j : Nat), xfl L S' k i j sl = xfl L S k i j sl
  | [], _ => rfl
  | none :: r, j => by
    show Value.int (S'.1 k i j) :: xfl L S' k i (j + 1) r = Value.int (S.1 k i j) :: xfl L S k i (j + 1) r
    rw [h, xfl_congr h r (j + 1)]
  | some q :: r, j => by
    show Value.ref _ :: xfl L S' k i (j + 1) r = Value.ref _ :: xfl L S k i (j + 1) r
    rw [xfl_congr h r (j + 1)]
theorem xel_congr {L : xL} {S S' : xS} {k i rk : Nat} (h : ∀ j, S'.1 k i j = S.1 k i j ∧ S'.2 k i j = S.2 k i j) (ty : FieldType) : xel L S' k i rk ty = xel L S k i rk ty := by
  funext j
  cases ty <;> simp [xel, (h j).1, (h j).2]
theorem xcell.congr {U : State} {D : va_G} {L : xL} {S S' : xS} {k i : Nat} {H : Heap} (h : xcell U D L S k i H) (hS : ∀ j, S'.1 k i j = S.1 k i j ∧ S'.2 k i j = S.2 k i j) : xcell U D L S' k i H := by
  unfold xcell at h ⊢
  split at h
  · rw [xfl_congr (fun j => (hS j).1)]; exact h
  · simp only [xel_congr hS, show ∀ n, xlen S' k i n = xlen S k i n from fun n => by unfold xlen; rw [(hS 65536).1]]
    exact h
theorem xW.upd {U : State} {D : va_G} {B : Nat} {L : xL} {S S' : xS} {H H' : Heap} {k i : Nat} (h : xW U D B L S H) (hi : i < xcn L k) (hro : xro k = false) (hc : xcell U D L S' k i H') (hoth : ∀ q, q ≠ L k i → H'[q]? = H[q]?) (hS : ∀ k' i', ¬ (k' = k ∧ i' = i) → ∀ j, S'.1 k' i' j = S.1 k' i' j ∧ S'.2 k' i' j = S.2 k' i' j) : xW U D B L S' H' := by
  obtain ⟨h1, h2, h3, h4, h5, h6, h7⟩ := h
  have hk75 : k ≠ 75 := fun e => by subst e; cases hro
  refine ⟨h1, fun k' i' hi' => ?_, h3, h4, h5, (h6.kept (fun a _ ha => hoth a (fun e => ha (by rw [e]; exact h4 k i hi hro)))).congr (fun i' => (hS 75 i' (fun e => hk75 e.1.symm) 1).1), h7⟩
  by_cases hk : k' = k ∧ i' = i
  · obtain ⟨rfl, rfl⟩ := hk; exact hc
  · exact ((h2 k' i' hi').congr (hS k' i' hk)).kept (hoth _ (fun e => hk (by have := h3 k i k' i' hi hi' hro e.symm; exact ⟨this.1.symm, this.2.symm⟩)))
theorem xupd_off (S : xS) (k i j : Nat) (x : Int32) : ∀ k' i', ¬ (k' = k ∧ i' = i) → ∀ j', (xupd S k i j x).1 k' i' j' = S.1 k' i' j' ∧ (xupd S k i j x).2 k' i' j' = S.2 k' i' j' := fun k' i' h j' => ⟨if_neg (fun q => h ⟨q.1, q.2.2⟩), rfl⟩
theorem xupl_off (S : xS) (k i j : Nat) (x : Int64) : ∀ k' i', ¬ (k' = k ∧ i' = i) → ∀ j', (xupl S k i j x).1 k' i' j' = S.1 k' i' j' ∧ (xupl S k i j x).2 k' i' j' = S.2 k' i' j' := fun k' i' h j' => ⟨rfl, if_neg (fun q => h ⟨q.1, q.2.2⟩)⟩
theorem xfl_upd {L : xL} {S : xS} {k i b : Nat} {x : Int32} {sl : List (Option (Nat × Nat × Nat))} (ho : sl[b]? = some none) (j : Nat) : updV (vp_V (xfl L S k i 0 sl)) b (.int x) j = vp_V (xfl L (xupd S k i b x) k i 0 sl) j := by
  unfold updV vp_V
  by_cases hj : j = b
  · subst hj
    rw [if_pos rfl, List.getD_eq_getElem?_getD, xfl_at ho]
    simp [xfv, xcv, xupd]
  · rw [if_neg hj, List.getD_eq_getElem?_getD, List.getD_eq_getElem?_getD]
    cases h : sl[j]? with
    | none => rw [xfl_none h, xfl_none h]
    | some o =>
      rw [xfl_at h, xfl_at h]
      cases o with
      | none => simp [xfv, xcv, xupd, hj]
      | some q => simp [xfv, xcv]
section XM
variable {d c z mi pc : Nat} {lv : List (Option xV)} {st : List xV} {S : xS} {Q : Option xV → xS → Prop}
theorem vs_getf {k i ci b idx : Nat} {sl : List (Option (Nat × Nat × Nat))} {o : Option (Nat × Nat × Nat)} {Cn : String} {T : u_T} {N : Nat} (hd : decode (xby mi) pc = .ok (.getfield idx, 3)) (hsh : xsh k = .inl (ci, sl)) (ho : sl[b]? = some o) (hcl : classes[ci]? = some (Cn, T, N)) (hb : b < N) (hlk : Cond.fieldLink (mt mi).1.cls idx (T b).1 (T b).2.1 (T b).2.2.1 ∈ xT ∨ Cond.fieldLinkNest (mt mi).1.cls idx (T b).1 (T b).2.1 (T b).2.2.1 "MonsoonTrade" ∈ xN)
    (h : V d c z mi (pc + 3) lv (xfv S k i b o :: st) S Q) : V d c z mi pc lv (.inr (.inr (k, i)) :: st) S Q := by
  intro p l e R s m args below meth c0 H locs ls cells slots mc ms D B L0 L C hc hz hRc hRs hB hL hW hS hlv hst hl
  have hi : i < xcn L k := hst _ List.mem_cons_self
  have hob := xcell_o (hW.2.1 k i hi) hsh hcl
  have hP : va_P D classes [(L k i, .inr (ci, xfl L S k i 0 sl))] H := fun n q hq => by
    have hn : n = 0 := by have := (List.getElem?_eq_some_iff.mp hq).1; simp at this; exact this
    subst hn; cases hq; exact ⟨_, hcl, hob⟩
  have hv : (xfl L S k i 0 sl)[b]? = some (xcv L (xfv S k i b o)) := by have := xfl_at (L := L) (S := S) (k := k) (i := i) (j := 0) ho; rwa [Nat.zero_add] at this
  have hst' : ∀ u ∈ xfv S k i b o :: st, xok L u := fun u hu => by
    rcases List.mem_cons.mp hu with e | hu
    · rw [e]; exact xfv_ok hsh ho hi
    · exact hst u (List.mem_cons_of_mem _ hu)
  rcases hlk with hw | hw
  · exact va_get C.1 C.2.1 (Ts := xT) C.2.2.2.2.2.1 (xlay hcl) C.2.2.2.2.1 hW.1 hP 0 rfl hcl b hb (C.2.2.2.2.2.1 _ hw) (fun _ h => h) hv hd (h p l e R s m args below meth c0 H locs ls cells slots mc ms D B L0 L C hc hz hRc hRs hB hL hW hS hlv hst' hl)
  · exact va_getN C.1 C.2.1 (Ts := xT) C.2.2.2.2.2.1 (xlay hcl) C.2.2.2.2.1 hW.1 hP 0 rfl hcl b hb (va_Nw.use rfl (hW.2.2.2.2.1 _ hw)) (fun _ h => h) hv hd (h p l e R s m args below meth c0 H locs ls cells slots mc ms D B L0 L C hc hz hRc hRs hB hL hW hS hlv hst' hl)
theorem vs_putf {k i ci b idx : Nat} {sl : List (Option (Nat × Nat × Nat))} {x : Int32} {Cn : String} {T : u_T} {N : Nat} {ty : FieldType} (hd : decode (xby mi) pc = .ok (.putfield idx, 3)) (hsh : xsh k = .inl (ci, sl)) (ho : sl[b]? = some none) (hcl : classes[ci]? = some (Cn, T, N)) (hb : b < N) (hlk : Cond.fieldLink (mt mi).1.cls idx (T b).1 (T b).2.1 (T b).2.2.1 ∈ xT ∨ Cond.fieldLinkNest (mt mi).1.cls idx (T b).1 (T b).2.1 (T b).2.2.1 "MonsoonTrade" ∈ xN)
    (hfin : (T b).2.2.2 = false) (hty : parseFieldDescriptor (T b).2.2.1 = some ty) (hn : narrow ty (.int x) = .int x) (hfit : fits ty (.int x) = true) (hro : xro k = false)
    (h : V d c z mi (pc + 3) lv st (xupd S k i b x) Q) : V d c z mi pc lv (.inl x :: .inr (.inr (k, i)) :: st) S Q := by
  intro p l e R s m args below meth c0 H locs ls cells slots mc ms D B L0 L C hc hz hRc hRs hB hL hW hS hlv hst hl
  have hi : i < xcn L k := hst _ (List.mem_cons_of_mem _ List.mem_cons_self)
  have hob := xcell_o (hW.2.1 k i hi) hsh hcl
  obtain ⟨ty0, hty0, hnm⟩ := xtyp hcl
  have hts := C.2.2.2.2.2.1
  have hap := va_apart (own := Cn) hts (xlay hcl) ty0 hty0 hnm hW.1 hcl
  obtain ⟨cell, q1, q2, q3, q4⟩ := hob
  obtain ⟨hSl, hfc, kC, hkC, hkind⟩ := hW.1.1 ci _ hcl
  obtain ⟨cf, kf, fi, f, hif, hsl⟩ := hSl b hb
  have hlay := hts _ (xlay hcl _ (u_in_lay hb))
  unfold u_lay at hlay
  rw [if_neg (by rw [hfin]; decide)] at hlay
  have hst1 := (u_facts hfc hkC (u_lays hts (xlay hcl) hb) hif).1
  have h6 := u_store hfc hkC hkind hlay hif hty hn hfit
  have fin : ∀ H' : Heap, H'[L k i]? = some (cell.setSlot f.slot (.int x)) → H'.size = H.size → (∀ q, q ≠ L k i → H'[q]? = H[q]?) → W p l e R s m args below meth c0 H' (locs ++ [⟨L k i, f.slot⟩]) cells slots (MQ below (xQc D B L0 Q) args s mc ms (xA B)) (F0 m (pc + 3) ls (st.map (xcv L))) := by
    intro H' e1 e2 e3
    rw [hsl] at e1
    have hcell : xcell s D L (xupd S k i b x) k i H' := by
      unfold xcell
      rw [hsh]
      exact Or.inr ⟨_, hcl, t_OB.to (V := updV (vp_V (xfl L S k i 0 sl)) b (.int x)) ⟨_, e1, q2, q3, t_set q4 hap hb (.int x)⟩ (fun j _ => xfl_upd ho j)⟩
    exact h p l e R s m args below meth c0 H' _ ls cells slots mc ms D B L0 L C hc hz hRc hRs hB hL (hW.upd hi hro hcell e3 (xupd_off S k i b x)) (hS.put e2 e3 (hW.2.2.2.1 k i hi hro)) hlv (xtl (xtl hst)) hl
  rcases hlk with hw | hw
  · exact W.putK C.1 C.2.1 (f := f) ⟨C.2.2.2.2.1, hts _ hw, ⟨_, _, _, hif⟩, hst1⟩ (by rw [q2]; exact h6) q1 q3 (by rw [hsl]; exact k2_hasslot (q4 b hb)) rfl rfl hd fin
  · exact va_WputK C.1 C.2.1 (f := f) C.2.2.2.2.1 (va_Nw.use rfl (hW.2.2.2.2.1 _ hw)) hif hst1 (by rw [q2]; exact h6) q1 q3 (by rw [hsl]; exact k2_hasslot (q4 b hb)) rfl rfl hd fin
theorem xsh_99 {k i : Nat} {sl : List (Option (Nat × Nat × Nat))} (hi : i < xcnt k) (hsh : xsh k = .inl (99, sl)) : k = 75 ∧ sl = [some (76, 1, 0), none] := by
  have h : ∀ k, k < 77 → (match xsh k with | .inl o => Nat.beq o.1 99 | .inr _ => false) = true → k = 75 := by decide +kernel
  have e := h k (xcnt_lt hi) (by rw [hsh]; rfl)
  subst e
  cases hsh
  exact ⟨rfl, rfl⟩
theorem vs_getsf {k i b idx : Nat} {sl : List (Option (Nat × Nat × Nat))} {o : Option (Nat × Nat × Nat)} (hd : decode (xby mi) pc = .ok (.getfield idx, 3)) (hsh : xsh k = .inl (99, sl)) (ho : sl[b]? = some o) (hlk : Cond.fieldLink (mt mi).1.cls idx "java/lang/String" (bif Nat.beq b 0 then "value" else "coder") (bif Nat.beq b 0 then "[B" else "B") ∈ xT)
    (h : V d c z mi (pc + 3) lv (xfv S k i b o :: st) S Q) : V d c z mi pc lv (.inr (.inr (k, i)) :: st) S Q := by
  intro p l e R s m args below meth c0 H locs ls cells slots mc ms D B L0 L C hc hz hRc hRs hB hL hW hS hlv hst hl
  have hi : i < xcn L k := hst _ List.mem_cons_self
  have hst' : ∀ u ∈ xfv S k i b o :: st, xok L u := fun u hu => by
    rcases List.mem_cons.mp hu with e | hu
    · rw [e]; exact xfv_ok hsh ho hi
    · exact hst u (List.mem_cons_of_mem _ hu)
  obtain ⟨rfl, rfl⟩ := xsh_99 (xcn_le hi) hsh
  have hx := hW.2.2.2.2.2.1.2.2.2 i (xcn_le hi)
  match b, ho, hlk with
  | 0, ho, hlk =>
    cases ho
    obtain ⟨cf, k9, fi, f, cell, h1, h2, h3, h4, h5, h6⟩ := hx.2.1
    exact W.getf C.1 C.2.1 C.2.2.2.2.1 (C.2.2.2.2.2.1 _ hlk) h1 h2 h3 h4 (v := .ref (L 76 i)) h5 rfl rfl hd (h p l e R s m args below meth c0 H locs ls cells slots mc ms D B L0 L C hc hz hRc hRs hB hL hW hS hlv hst' hl)
  | 1, ho, hlk =>
    cases ho
    obtain ⟨cf, k9, fi, f, cell, h1, h2, h3, h4, h5, h6⟩ := hx.2.2
    exact W.getf C.1 C.2.1 C.2.2.2.2.1 (C.2.2.2.2.2.1 _ hlk) h1 h2 h3 h4 (v := .int (S.1 75 i 1)) h5 rfl rfl hd (h p l e R s m args below meth c0 H locs ls cells slots mc ms D B L0 L C hc hz hRc hRs hB hL hW hS hlv hst' hl)
  | n + 2, ho, _ => simp at ho
theorem xlt {i : Int32} {n : Nat} (h : vp_in i n) : i.toNatClampNeg < n := Nat.not_le.mp fun q => h (Or.inr q)

theorem vs_iaload {k i n rk : Nat} {j : Int32} (hd : decode (xby mi) pc = .ok (.iaload, 1)) (hsh : xsh k = .inr (.int, n, rk)) (hin : vp_in j (xlen S k i n)) (h : V d c z mi (pc + 1) lv (.inl (S.1 k i j.toNatClampNeg) :: st) S Q) : V d c z mi pc lv (.inl j :: .inr (.inr (k, i)) :: st) S Q := by
  intro p l e R s m args below meth c0 H locs ls cells slots mc ms D B L0 L C hc hz hRc hRs hB hL hW hS hlv hst hl
  have hi : i < xcn L k := hst _ (List.mem_cons_of_mem _ List.mem_cons_self)
  obtain ⟨cell, hh, ha, hu, hq1, -, hq2⟩ := xcell_r (hW.2.1 k i hi) hsh
  exact W.iald (v := .int (S.1 k i j.toNatClampNeg)) C.1 C.2.1 hh ha hu (vp_in_le hin hq1) (hq2 _ (xlt hin)) rfl rfl hd (h p l e R s m args below meth c0 H locs ls cells slots mc ms D B L0 L C hc hz hRc hRs hB hL hW hS hlv (by simpa [xok] using xtl (xtl hst)) hl)
theorem vs_baload {k i n rk : Nat} {j : Int32} (hd : decode (xby mi) pc = .ok (.baload, 1)) (hsh : xsh k = .inr (.byte, n, rk)) (hin : vp_in j (xlen S k i n)) (h : V d c z mi (pc + 1) lv (.inl (S.1 k i j.toNatClampNeg) :: st) S Q) : V d c z mi pc lv (.inl j :: .inr (.inr (k, i)) :: st) S Q := by
  intro p l e R s m args below meth c0 H locs ls cells slots mc ms D B L0 L C hc hz hRc hRs hB hL hW hS hlv hst hl
  have hi : i < xcn L k := hst _ (List.mem_cons_of_mem _ List.mem_cons_self)
  obtain ⟨cell, hh, ha, hu, hq1, -, hq2⟩ := xcell_r (hW.2.1 k i hi) hsh
  exact W.bald (v := .int (S.1 k i j.toNatClampNeg)) C.1 C.2.1 hh ha hu (vp_in_le hin hq1) (hq2 _ (xlt hin)) rfl rfl hd (h p l e R s m args below meth c0 H locs ls cells slots mc ms D B L0 L C hc hz hRc hRs hB hL hW hS hlv (by simpa [xok] using xtl (xtl hst)) hl)
theorem vs_zaload {k i n rk : Nat} {j : Int32} (hd : decode (xby mi) pc = .ok (.baload, 1)) (hsh : xsh k = .inr (.boolean, n, rk)) (hin : vp_in j (xlen S k i n)) (h : V d c z mi (pc + 1) lv (.inl (S.1 k i j.toNatClampNeg) :: st) S Q) : V d c z mi pc lv (.inl j :: .inr (.inr (k, i)) :: st) S Q := by
  intro p l e R s m args below meth c0 H locs ls cells slots mc ms D B L0 L C hc hz hRc hRs hB hL hW hS hlv hst hl
  have hi : i < xcn L k := hst _ (List.mem_cons_of_mem _ List.mem_cons_self)
  obtain ⟨cell, hh, ha, hu, hq1, -, hq2⟩ := xcell_r (hW.2.1 k i hi) hsh
  exact W.zald (v := .int (S.1 k i j.toNatClampNeg)) C.1 C.2.1 hh ha hu (vp_in_le hin hq1) (hq2 _ (xlt hin)) rfl rfl hd (h p l e R s m args below meth c0 H locs ls cells slots mc ms D B L0 L C hc hz hRc hRs hB hL hW hS hlv (by simpa [xok] using xtl (xtl hst)) hl)
theorem vs_caload {k i n rk : Nat} {j : Int32} (hd : decode (xby mi) pc = .ok (.caload, 1)) (hsh : xsh k = .inr (.char, n, rk)) (hin : vp_in j (xlen S k i n)) (h : V d c z mi (pc + 1) lv (.inl (S.1 k i j.toNatClampNeg) :: st) S Q) : V d c z mi pc lv (.inl j :: .inr (.inr (k, i)) :: st) S Q := by
  intro p l e R s m args below meth c0 H locs ls cells slots mc ms D B L0 L C hc hz hRc hRs hB hL hW hS hlv hst hl
  have hi : i < xcn L k := hst _ (List.mem_cons_of_mem _ List.mem_cons_self)
  obtain ⟨cell, hh, ha, hu, hq1, -, hq2⟩ := xcell_r (hW.2.1 k i hi) hsh
  exact W.cald (v := .int (S.1 k i j.toNatClampNeg)) C.1 C.2.1 hh ha hu (vp_in_le hin hq1) (hq2 _ (xlt hin)) rfl rfl hd (h p l e R s m args below meth c0 H locs ls cells slots mc ms D B L0 L C hc hz hRc hRs hB hL hW hS hlv (by simpa [xok] using xtl (xtl hst)) hl)
theorem vs_laload {k i n rk : Nat} {j : Int32} (hd : decode (xby mi) pc = .ok (.laload, 1)) (hsh : xsh k = .inr (.long, n, rk)) (hin : vp_in j (xlen S k i n)) (h : V d c z mi (pc + 1) lv (.inr (.inl (S.2 k i j.toNatClampNeg)) :: st) S Q) : V d c z mi pc lv (.inl j :: .inr (.inr (k, i)) :: st) S Q := by
  intro p l e R s m args below meth c0 H locs ls cells slots mc ms D B L0 L C hc hz hRc hRs hB hL hW hS hlv hst hl
  have hi : i < xcn L k := hst _ (List.mem_cons_of_mem _ List.mem_cons_self)
  obtain ⟨cell, hh, ha, hu, hq1, -, hq2⟩ := xcell_r (hW.2.1 k i hi) hsh
  exact W.lald (v := .long (S.2 k i j.toNatClampNeg)) C.1 C.2.1 hh ha hu (vp_in_le hin hq1) (hq2 _ (xlt hin)) rfl rfl hd (h p l e R s m args below meth c0 H locs ls cells slots mc ms D B L0 L C hc hz hRc hRs hB hL hW hS hlv (by simpa [xok] using xtl (xtl hst)) hl)
theorem vs_aaload {k i n rk : Nat} {Cn : String} {j : Int32} (hd : decode (xby mi) pc = .ok (.aaload, 1)) (hsh : xsh k = .inr (.object Cn, n, rk)) (hn : Nat.beq n 65536 = false) (hin : vp_in j n) (h : V d c z mi (pc + 1) lv (.inr (.inr (rk, j.toNatClampNeg)) :: st) S Q) : V d c z mi pc lv (.inl j :: .inr (.inr (k, i)) :: st) S Q := by
  intro p l e R s m args below meth c0 H locs ls cells slots mc ms D B L0 L C hc hz hRc hRs hB hL hW hS hlv hst hl
  have hi : i < xcn L k := hst _ (List.mem_cons_of_mem _ List.mem_cons_self)
  have hk := xshok_all k (xcnt_lt (xcn_le hi))
  unfold xshok at hk
  rw [hsh] at hk
  have hk := Bool.and_eq_true_iff.mp hk
  have hk2 := Bool.and_eq_true_iff.mp hk.2
  have hk3 := Bool.and_eq_true_iff.mp hk2.2
  have hro : xro k = false := by simpa using hk2.1
  obtain ⟨cA, ⟨ha, -⟩, hh⟩ := xcell_a (hW.2.1 k i hi) hsh hro
  have hx : xlen S k i n = n := by unfold xlen; rw [hn]; rfl
  rw [hx] at hh
  have hk : n ≤ xcnt rk := Nat.le_of_ble_eq_true hk.1
  exact W.aald (v := .ref (L rk j.toNatClampNeg)) C.1 C.2.1 hh (ha _ _) rfl (fun q => by cases q) (by rw [arrV_size]; exact hin) (by rw [arrV_read _ _ (xlt hin)]; rfl) rfl rfl hd (h p l e R s m args below meth c0 H locs ls cells slots mc ms D B L0 L C hc hz hRc hRs hB hL hW hS hlv (fun u hu => by rcases List.mem_cons.mp hu with e | hu; rw [e]; exact xcn_to hi hk3.1 hk3.2 (Nat.lt_of_lt_of_le (xlt hin) hk); exact hst u (List.mem_cons_of_mem _ (List.mem_cons_of_mem _ hu))) hl)
theorem vs_alen {k i n rk : Nat} {ty : FieldType} (hd : decode (xby mi) pc = .ok (.arraylength, 1)) (hsh : xsh k = .inr (ty, n, rk)) (h : V d c z mi (pc + 1) lv (.inl (Int32.ofNat (xlen S k i n)) :: st) S Q) : V d c z mi pc lv (.inr (.inr (k, i)) :: st) S Q := by
  intro p l e R s m args below meth c0 H locs ls cells slots mc ms D B L0 L C hc hz hRc hRs hB hL hW hS hlv hst hl
  have hi : i < xcn L k := hst _ List.mem_cons_self
  obtain ⟨cell, hh, ha, hu, hq1, hq2, -⟩ := xcell_r (hW.2.1 k i hi) hsh
  exact W.alen (n := Int32.ofNat (xlen S k i n)) C.1 C.2.1 hh ha hq2 rfl rfl hd (h p l e R s m args below meth c0 H locs ls cells slots mc ms D B L0 L C hc hz hRc hRs hB hL hW hS hlv (by simpa [xok] using xtl hst) hl)
theorem vs_iastore {k i n rk : Nat} {j : Int32} {x : Int32} (hd : decode (xby mi) pc = .ok (.iastore, 1)) (hsh : xsh k = .inr (.int, n, rk)) (hn : Nat.beq n 65536 = false) (hro : xro k = false) (hin : vp_in j n) (h : V d c z mi (pc + 1) lv st (xupd S k i j.toNatClampNeg (x)) Q) : V d c z mi pc lv (.inl x :: .inl j :: .inr (.inr (k, i)) :: st) S Q := by
  intro p l e R s m args below meth c0 H locs ls cells slots mc ms D B L0 L C hc hz hRc hRs hB hL hW hS hlv hst hl
  have hi : i < xcn L k := hst _ (List.mem_cons_of_mem _ (List.mem_cons_of_mem _ List.mem_cons_self))
  obtain ⟨cA, ⟨ha, hr⟩, hh⟩ := xcell_a (hW.2.1 k i hi) hsh hro
  have hx : ∀ S0 : xS, xlen S0 k i n = n := fun S0 => by unfold xlen; rw [hn]; rfl
  rw [hx] at hh
  refine W.iast C.1 C.2.1 hh (ha _ _) (fun q => by cases q) (by rw [arrV_size]; exact hin) rfl rfl hd (fun H' e1 e2 e3 => ?_)
  have hcell : xcell s D L (xupd S k i j.toNatClampNeg (x)) k i H' := by
    unfold xcell
    rw [hsh]
    refine Or.inr ⟨hro, cA, ⟨ha, hr⟩, ?_⟩
    rw [e1, arrV_store, hx]
    congr 2
    funext q
    by_cases hq : q = j.toNatClampNeg
    · subst hq; simp [updV, xel, xupd]
    · simp [updV, xel, xupd, hq]
  exact h p l e R s m args below meth c0 H' _ ls cells slots mc ms D B L0 L C hc hz hRc hRs hB hL (hW.upd hi hro hcell e3 (xupd_off S k i _ _)) (hS.put e2 e3 (hW.2.2.2.1 k i hi hro)) hlv (xtl (xtl (xtl hst))) hl
theorem vs_bastore {k i n rk : Nat} {j : Int32} {x : Int32} (hd : decode (xby mi) pc = .ok (.bastore, 1)) (hsh : xsh k = .inr (.byte, n, rk)) (hn : Nat.beq n 65536 = false) (hro : xro k = false) (hin : vp_in j n) (h : V d c z mi (pc + 1) lv st (xupd S k i j.toNatClampNeg (vp_nar .byte x)) Q) : V d c z mi pc lv (.inl x :: .inl j :: .inr (.inr (k, i)) :: st) S Q := by
  intro p l e R s m args below meth c0 H locs ls cells slots mc ms D B L0 L C hc hz hRc hRs hB hL hW hS hlv hst hl
  have hi : i < xcn L k := hst _ (List.mem_cons_of_mem _ (List.mem_cons_of_mem _ List.mem_cons_self))
  obtain ⟨cA, ⟨ha, hr⟩, hh⟩ := xcell_a (hW.2.1 k i hi) hsh hro
  have hx : ∀ S0 : xS, xlen S0 k i n = n := fun S0 => by unfold xlen; rw [hn]; rfl
  rw [hx] at hh
  refine W.bast C.1 C.2.1 hh (ha _ _) (fun q => by cases q) (by rw [arrV_size]; exact hin) rfl rfl hd (fun H' e1 e2 e3 => ?_)
  have hcell : xcell s D L (xupd S k i j.toNatClampNeg (vp_nar .byte x)) k i H' := by
    unfold xcell
    rw [hsh]
    refine Or.inr ⟨hro, cA, ⟨ha, hr⟩, ?_⟩
    rw [e1, arrV_store, hx]
    congr 2
    funext q
    by_cases hq : q = j.toNatClampNeg
    · subst hq; simp [updV, xel, xupd, vp_nar, narrow]
    · simp [updV, xel, xupd, hq]
  exact h p l e R s m args below meth c0 H' _ ls cells slots mc ms D B L0 L C hc hz hRc hRs hB hL (hW.upd hi hro hcell e3 (xupd_off S k i _ _)) (hS.put e2 e3 (hW.2.2.2.1 k i hi hro)) hlv (xtl (xtl (xtl hst))) hl
theorem vs_zastore {k i n rk : Nat} {j : Int32} {x : Int32} (hd : decode (xby mi) pc = .ok (.bastore, 1)) (hsh : xsh k = .inr (.boolean, n, rk)) (hn : Nat.beq n 65536 = false) (hro : xro k = false) (hin : vp_in j n) (h : V d c z mi (pc + 1) lv st (xupd S k i j.toNatClampNeg (vp_nar .boolean x)) Q) : V d c z mi pc lv (.inl x :: .inl j :: .inr (.inr (k, i)) :: st) S Q := by
  intro p l e R s m args below meth c0 H locs ls cells slots mc ms D B L0 L C hc hz hRc hRs hB hL hW hS hlv hst hl
  have hi : i < xcn L k := hst _ (List.mem_cons_of_mem _ (List.mem_cons_of_mem _ List.mem_cons_self))
  obtain ⟨cA, ⟨ha, hr⟩, hh⟩ := xcell_a (hW.2.1 k i hi) hsh hro
  have hx : ∀ S0 : xS, xlen S0 k i n = n := fun S0 => by unfold xlen; rw [hn]; rfl
  rw [hx] at hh
  refine W.zast C.1 C.2.1 hh (ha _ _) (fun q => by cases q) (by rw [arrV_size]; exact hin) rfl rfl hd (fun H' e1 e2 e3 => ?_)
  have hcell : xcell s D L (xupd S k i j.toNatClampNeg (vp_nar .boolean x)) k i H' := by
    unfold xcell
    rw [hsh]
    refine Or.inr ⟨hro, cA, ⟨ha, hr⟩, ?_⟩
    rw [e1, arrV_store, hx]
    congr 2
    funext q
    by_cases hq : q = j.toNatClampNeg
    · subst hq; simp [updV, xel, xupd, vp_nar, narrow]
    · simp [updV, xel, xupd, hq]
  exact h p l e R s m args below meth c0 H' _ ls cells slots mc ms D B L0 L C hc hz hRc hRs hB hL (hW.upd hi hro hcell e3 (xupd_off S k i _ _)) (hS.put e2 e3 (hW.2.2.2.1 k i hi hro)) hlv (xtl (xtl (xtl hst))) hl
theorem vs_lastore {k i n rk : Nat} {j : Int32} {x : Int64} (hd : decode (xby mi) pc = .ok (.lastore, 1)) (hsh : xsh k = .inr (.long, n, rk)) (hn : Nat.beq n 65536 = false) (hro : xro k = false) (hin : vp_in j n) (h : V d c z mi (pc + 1) lv st (xupl S k i j.toNatClampNeg (x)) Q) : V d c z mi pc lv (.inr (.inl x) :: .inl j :: .inr (.inr (k, i)) :: st) S Q := by
  intro p l e R s m args below meth c0 H locs ls cells slots mc ms D B L0 L C hc hz hRc hRs hB hL hW hS hlv hst hl
  have hi : i < xcn L k := hst _ (List.mem_cons_of_mem _ (List.mem_cons_of_mem _ List.mem_cons_self))
  obtain ⟨cA, ⟨ha, hr⟩, hh⟩ := xcell_a (hW.2.1 k i hi) hsh hro
  have hx : ∀ S0 : xS, xlen S0 k i n = n := fun S0 => by unfold xlen; rw [hn]; rfl
  rw [hx] at hh
  refine W.last C.1 C.2.1 hh (ha _ _) (fun q => by cases q) (by rw [arrV_size]; exact hin) rfl rfl hd (fun H' e1 e2 e3 => ?_)
  have hcell : xcell s D L (xupl S k i j.toNatClampNeg (x)) k i H' := by
    unfold xcell
    rw [hsh]
    refine Or.inr ⟨hro, cA, ⟨ha, hr⟩, ?_⟩
    rw [e1, arrV_store, hx]
    congr 2
    funext q
    by_cases hq : q = j.toNatClampNeg
    · subst hq; simp [updV, xel, xupl]
    · simp [updV, xel, xupl, hq]
  exact h p l e R s m args below meth c0 H' _ ls cells slots mc ms D B L0 L C hc hz hRc hRs hB hL (hW.upd hi hro hcell e3 (xupl_off S k i _ _)) (hS.put e2 e3 (hW.2.2.2.1 k i hi hro)) hlv (xtl (xtl (xtl hst))) hl
theorem vs_ireturn {x : Int32} {ty : FieldType} (hd : decode (xby mi) pc = .ok (.ireturn, 1)) (hr : xrt mi = some ty) (hn : narrow ty (.int x) = .int x) (hq : Q (some (.inl x)) S) : V d c z mi pc lv [.inl x] S Q := by
  intro p l e R s m args below meth c0 H locs ls cells slots mc ms D B L0 L C hc hz hRc hRs hB hL hW hS hlv hst hl
  refine W.widen (k := mc) (n := ms) (by omega) (by omega) ?_
  exact W.zret C.1 C.2.1 (C.2.2.1.trans hr) hn (fun t ht hWt => ⟨⟨some (.inl x), S, L, rfl, fun v hv => by cases hv; trivial, hq, hL, by rw [ht]; exact hW.warm hWt⟩, hS.F ht⟩) hS.2.2 hd C.2.2.2.2.2.2.1
theorem vs_lreturn {x : Int64} (hd : decode (xby mi) pc = .ok (.lreturn, 1)) (hr : xrt mi = some .long) (hq : Q (some (.inr (.inl x))) S) : V d c z mi pc lv [.inr (.inl x)] S Q := by
  intro p l e R s m args below meth c0 H locs ls cells slots mc ms D B L0 L C hc hz hRc hRs hB hL hW hS hlv hst hl
  refine W.widen (k := mc) (n := ms) (by omega) (by omega) ?_
  exact W.lret C.1 C.2.1 (C.2.2.1.trans hr) (fun t ht hWt => ⟨⟨some (.inr (.inl x)), S, L, rfl, fun v hv => by cases hv; trivial, hq, hL, by rw [ht]; exact hW.warm hWt⟩, hS.F ht⟩) hS.2.2 hd C.2.2.2.2.2.2.1
theorem vs_vreturn (hd : decode (xby mi) pc = .ok (.return_, 1)) (hr : xrt mi = none) (hq : Q none S) : V d c z mi pc lv [] S Q := by
  intro p l e R s m args below meth c0 H locs ls cells slots mc ms D B L0 L C hc hz hRc hRs hB hL hW hS hlv hst hl
  refine W.widen (k := mc) (n := ms) (by omega) (by omega) ?_
  exact W.vret C.1 C.2.1 (C.2.2.1.trans hr) (fun t ht hWt => ⟨⟨none, S, L, rfl, fun v hv => (by cases hv), hq, hL, by rw [ht]; exact hW.warm hWt⟩, hS.F ht⟩) hS.2.2 hd C.2.2.2.2.2.2.1
end XM
