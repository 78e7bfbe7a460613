/-! the model's constructor: the loop, the adds, the contract (written by ctor9.py) -/
theorem mo_loop {Dg : va_G} {p : Program} {l : Launch} {e : Env} {R : Room} {s : State} {m : MethodId} {args : Array Value} {below : List Frame} {meth : Method} {c : Code} {H : Heap} {ls : Array Slot} {locs : List Loc} {m0 : Nat} {A : Nat → Prop} {Q : State → Prop} {cells slots : Nat} {fs : List Value} {pl : va_W} {tl : List (ClassId × FieldType)} (hx : p.tables.exec = Jvm.exec) (hb : c.code = cX12_init) (hts : ∀ w ∈ xT, w.before args s = true) (hown : s.vm.findClass "MonsoonTradeModel" = some m.cls)  {q51 nn tt : Nat} {c51 : ClassId} {f0 : Nat → Int32} {lv : List (Nat × Value)} (hP : va_P Dg classes ((m0, .inr (12, fs)) :: pl) H) (hD : va_D A ((m0, .inr (12, fs)) :: pl)) (hK : va_K Dg classes tl s) (hS : va_S A s.heap H locs) (hfs : fs[17]? = some (.ref q51)) (hpl : pl[nn]? = some (q51, .inl (c51, 60, .inl f0))) (htl : tl[tt]? = some (c51, .int)) (hl : lv_has ls 2 lv) (hlv : lv_pick lv [0] = [(0, .ref m0)])
    (kk : ∀ (H : Heap) (locs : List Loc) (ls : Array Slot) (f : Nat → Int32), (∀ j, j < 60 → f j = -1) → va_P Dg classes ((m0, .inr (12, fs)) :: pl.set nn (q51, .inl (c51, 60, .inl f))) H → va_D A ((m0, .inr (12, fs)) :: pl.set nn (q51, .inl (c51, 60, .inl f))) → va_S A s.heap H locs → lv_has ls 2 [(1, .int (nI 60)), (0, .ref m0)] → W p l e R s m args below meth c H locs cells slots Q (F0 m 725 ls [])) :
    W p l e R s m args below meth c H locs cells slots Q (F0 m 704 ls []) := by
  have hcl : classes[12]? = some ("MonsoonTradeModel", TX12, 59) := rfl
  have kg : Cond.fieldLink "MonsoonTradeModel" 73 "MonsoonTradeModel" "wordDay" "[I" ∈ xT := xwd_mem (i := 1280) (by decide +kernel)
  have d704 : decode cX12_init 704 = .ok (.iconst 0, 1) := by decide +kernel
  have d705 : decode cX12_init 705 = .ok (.istore_n 1, 1) := by decide +kernel
  have d706 : decode cX12_init 706 = .ok (.iload_n 1, 1) := by decide +kernel
  have d707 : decode cX12_init 707 = .ok (.bipush 60, 2) := by decide +kernel
  have d709 : decode cX12_init 709 = .ok (.if_icmp .ge 16, 3) := by decide +kernel
  have d712 : decode cX12_init 712 = .ok (.aload_n 0, 1) := by decide +kernel
  have d713 : decode cX12_init 713 = .ok (.getfield 73, 3) := by decide +kernel
  have d716 : decode cX12_init 716 = .ok (.iload_n 1, 1) := by decide +kernel
  have d717 : decode cX12_init 717 = .ok (.iconst (-1), 1) := by decide +kernel
  have d718 : decode cX12_init 718 = .ok (.iastore, 1) := by decide +kernel
  have d719 : decode cX12_init 719 = .ok (.iinc 1 1, 3) := by decide +kernel
  have d722 : decode cX12_init 722 = .ok (.goto (-16), 3) := by decide +kernel
  obtain ⟨hnl, hne⟩ := List.getElem?_eq_some_iff.mp hpl
  have eself : pl.set nn (q51, .inl (c51, 60, .inl f0)) = pl := by rw [← hne]; exact List.set_getElem_self hnl
  have loop : ∀ mm j, j + mm = 60 → ∀ (H : Heap) (locs : List Loc) (ls : Array Slot) (f : Nat → Int32), (∀ i, i < j → f i = -1) → va_P Dg classes ((m0, .inr (12, fs)) :: pl.set nn (q51, .inl (c51, 60, .inl f))) H → va_D A ((m0, .inr (12, fs)) :: pl.set nn (q51, .inl (c51, 60, .inl f))) → va_S A s.heap H locs → lv_has ls 2 [(1, .int (nI j)), (0, .ref m0)] → W p l e R s m args below meth c H locs cells slots Q (F0 m 706 ls []) := by
    intro mm
    induction mm with
    | zero =>
      intro j hj H locs ls f hf hP hD hS hl
      obtain rfl : j = 60 := by omega
      refine lv_iload_n (k := 1) (i := 1) hx hb d706 rfl (lv_at hl 0 rfl) ?_
      refine lv_bipush (n := 60) (v := 60) hx hb d707 rfl ?_
      refine lv_icmp_ge (off := 16) (tgt := 725) hx hb d709 rfl (fun _ => ?_) (fun k => absurd (show (60 : Int32) ≤ nI 60 by decide +kernel) k)
      exact kk H locs ls f hf hP hD hS hl
    | succ mm ih =>
      intro j hj H locs ls f hf hP hD hS hl
      have hlt : nI j < 60 := nI_lt (b := 60) (by omega) (by decide)
      have hget : ((m0, .inr (12, fs)) :: pl.set nn (q51, .inl (c51, 60, .inl f)) : va_W)[nn + 1]? = some (q51, .inl (c51, 60, .inl f)) := by
        show (pl.set nn (q51, .inl (c51, 60, .inl f)))[nn]? = _
        exact List.getElem?_set_self hnl
      refine lv_iload_n (k := 1) (i := 1) hx hb d706 rfl (lv_at hl 0 rfl) ?_
      refine lv_bipush (n := 60) (v := 60) hx hb d707 rfl ?_
      refine lv_icmp_ge (off := 16) (tgt := 725) hx hb d709 rfl (fun k => absurd hlt (Int32.not_lt.mpr k)) (fun _ => ?_)
      refine lv_aload_n (k := 0) (i := 0) hx hb d712 rfl (lv_at hl 1 rfl) ?_
      refine va_get (ci := 12) (N := 59) (T := TX12) (v := .ref q51) hx hb hts (xlay hcl) hown hK hP 0 rfl hcl 17 (by decide) (hts _ kg) (fun _ h9 => h9) hfs d713 ?_
      refine lv_iload_n (k := 1) (i := 1) hx hb d716 rfl (lv_at hl 0 rfl) ?_
      refine lv_iconst (n := -1) (v := -1) hx hb d717 rfl ?_
      refine va_iast hx hb hK hP hD hS (nn + 1) tt (f := f) hget htl (nI_in (show j < 60 by omega) (by decide)) d718 (fun H locs hP hD hS => ?_)
      rw [nI_clamp (show j < 2 ^ 31 by omega)] at hP hD
      have es : ((m0, .inr (12, fs)) :: pl.set nn (q51, .inl (c51, 60, .inl f)) : va_W).set (nn + 1) (q51, .inl (c51, 60, .inl (upd f j (-1)))) = (m0, .inr (12, fs)) :: pl.set nn (q51, .inl (c51, 60, .inl (upd f j (-1)))) := by
        show (m0, .inr (12, fs)) :: (pl.set nn (q51, .inl (c51, 60, .inl f))).set nn (q51, .inl (c51, 60, .inl (upd f j (-1)))) = _
        rw [List.set_set]
      rw [es] at hP hD
      refine lv_iinc (k := 0) (v := nI (j + 1)) (nL := 2) hx hb d719 hl rfl (nI_1 (a := j)) (by decide) rfl (fun ls hl => ?_)
      refine lv_goto (off := -16) (tgt := 706) hx hb d722 rfl ?_
      refine ih (j + 1) (by omega) H _ ls (upd f j (-1)) (fun i hi => ?_) hP hD hS hl
      by_cases z : i = j
      · subst z; exact if_pos rfl
      · exact (if_neg z).trans (hf i (by omega))
  have hl := lv_sub hl _ hlv
  refine lv_iconst (n := 0) (v := 0) hx hb d704 rfl ?_
  refine lv_istore_n (k := 1) (i := 1) (nL := 2) hx hb d705 rfl hl (by decide) rfl (fun ls hl => ?_)
  exact loop 60 0 (by omega) H locs ls f0 (fun i hi => absurd hi (Nat.not_lt_zero _)) (by rw [eself]; exact hP) (by rw [eself]; exact hD) hS hl
def w12I : List Cond := .code yX12_init cX12_init 2 none :: xT
def moP (D : va_G) (B : Nat) (L : xL) (S : xS) (m0 : Nat) (U : State) : Prop := B ≤ U.heap.size ∧ B ≤ m0 ∧ m0 < U.heap.size ∧ va_P D classes [(m0, .inr (12, [.int 0, .int 0, .null, .null, .null, .null, .null, .null, .int 0, .null, .null, .null, .null, .null, .null, .null, .null, .null, .null, .int 0, .null, .null, .null, .null, .null, .null, .null, .int 0, .int 0, .int 0, .null, .null, .int 0, .int 0, .int 0, .null, .null, .null, .null, .null, .null, .int 0, .int 0, .int 0, .int 0, .null, .int 0, .null, .null, .null, .int 0, .int 0, .int 0, .int 0, .int 0, .int 0, .null, .null, .null]))] U.heap ∧ xW U D B L S U.heap ∧ L 99 0 = 0 ∧ ∀ k i, i < xcn L k → L k i < m0
abbrev fMo : List Nat := [62, 63, 64, 68, 37041, 37042, 37043, 37044, 37046, 37033]
def moE (S S2 : xS) : Prop := (∃ f51 f65 f66 f67 f72 : Nat → Int32, ((∀ j, j < 60 → f51 j = -1) ∧ (∀ j, j < 45 → f65 j = nI (gMl.getD j 0)) ∧ (∀ j, j < 12 → f66 j = nI (gBg.getD j 0)) ∧ (∀ j, j < 12 → f67 j = nI (gLw (gCm.getD j 0))) ∧ ∀ j, j < 4 → f72 j = -1) ∧ Fr (fl fMo) (moS S f51 f65 f66 f67 f72) S2) ∧ (gOu 0 fe1 S2 ∧ gOu 1 fe2 S2 ∧ gOu 2 fe3 S2) ∧ S2.1 36 0 33 = 1
def moQ (D : va_G) (B : Nat) (L : xL) (S : xS) (m0 : Nat) : Array Value → State → Outcome → State → Prop := fun _ st oc t => (∃ (L2 : xL) (S2 : xS), oc = .returned none ∧ xW t D B L2 S2 t.heap ∧ L2 36 0 = m0 ∧ L2 99 0 = 1 ∧ (∀ k i, lo k = true → k ≠ 18 → L2 k i = L k i) ∧ moE S S2) ∧ va_F (xA B) st t
theorem gRf.frM {row : Nat} {S S2 : xS} (h : gRf row S S2) : Fr (fl fMo) S S2 := by
  refine ⟨fun k i j hf => h.1 k i j ?_ (fun q => ?_) (fun q => ?_) (fun q => ?_), h.2⟩
  · cases hb : fl fMr k j with
    | false => rfl
    | true =>
      have hm : fk k j ∈ fMr := List.elem_iff.mp hb
      have : fl fMo k j = true := List.elem_iff.mpr (by
        have hs : ∀ x ∈ fMr, x ∈ fMo := by decide
        exact hs _ hm)
      rw [this] at hf; cases hf
  · obtain ⟨q, _⟩ := q; subst q; rw [show fl fMo 62 j = true from rfl] at hf; cases hf
  · obtain ⟨q, _⟩ := q
    rcases q with q | q
    · subst q; rw [show fl fMo 63 j = true from rfl] at hf; cases hf
    · subst q; rw [show fl fMo 64 j = true from rfl] at hf; cases hf
  · subst q; rw [show fl fMo 68 j = true from rfl] at hf; cases hf
theorem gOu.row {r row : Nat} {o : List Int32} {S S2 : xS} (h : gOu r o S) (hf : gRf row S S2) (hne : ¬ r = row) (ho : o.length ≤ 160) : gOu r o S2 := by
  refine ⟨(hf.1 62 0 r rfl (fun q => hne q.2) (by omega) (by decide)).trans h.1, fun j hj => ?_⟩
  obtain ⟨a, b⟩ := h.2 j hj
  exact ⟨(hf.1 63 0 _ rfl (by omega) (by omega) (by decide)).trans a, fun z => (hf.1 64 0 _ rfl (by omega) (by omega) (by decide)).trans (b z)⟩
set_option maxRecDepth 40000 in
set_option maxHeartbeats 4000000 in
theorem mo_M {d : Nat} {Dg : va_G} {B : Nat} {L : xL} {S : xS} (l : Launch) (m0 : Nat) : Met l yX12_init w12I (xRm (d + 10) 38 7173) (va_Pc [.ref m0] (moP Dg B L S m0)) (moQ Dg B L S m0) 38 7173 (xA B) := by
  refine Met.ofW (cc := cX12_init) (maxL := 2) (ret := none) (by decide) rfl ?_
  intro p e s m args below meth c s₁ Bd hml hv
  obtain ⟨rfl, hBs, hB0, hms, hP, hW0, h99, hlt⟩ := hv
  have hx := Bd.exec
  have hb := Bd.bytes
  have hr := Bd.returns
  have hts0 := atoms_spec (ws := w12I) Bd.pre
  have hts : ∀ w ∈ xT, w.before _ s = true := fun w hw => hts0 w (List.mem_cons_of_mem _ hw)
  have hown : s.vm.findClass "MonsoonTradeModel" = some m.cls := findClass_of_methodNamed Bd.named
  have hin : meth.name = "<init>" := (name_of_methodNamed Bd.named Bd.method).1
  have hA : ∀ q : Nat, s.heap.size ≤ q → xA m0 q := fun q h => Nat.le_trans (Nat.le_of_lt hms) h
  have hS : va_S (xA m0) s.heap s.heap [] := va_S.rf
  have hD : va_D (xA m0) [(m0, .inr (12, [.int 0, .int 0, .null, .null, .null, .null, .null, .null, .int 0, .null, .null, .null, .null, .null, .null, .null, .null, .null, .null, .int 0, .null, .null, .null, .null, .null, .null, .null, .int 0, .int 0, .int 0, .null, .null, .int 0, .int 0, .int 0, .null, .null, .null, .null, .null, .null, .int 0, .int 0, .int 0, .int 0, .null, .int 0, .null, .null, .null, .int 0, .int 0, .int 0, .int 0, .int 0, .int 0, .null, .null, .null]))] := by
    refine ⟨fun i j p q hi hj _ => ?_, fun k q hk => ?_⟩
    · have h1 := (List.getElem?_eq_some_iff.mp hi).1
      have h2 := (List.getElem?_eq_some_iff.mp hj).1
      have h1 : i < 1 := h1
      have h2 : j < 1 := h2
      omega
    · have h1 := (List.getElem?_eq_some_iff.mp hk).1
      have h1 : k < 1 := h1
      obtain rfl : k = 0 := by omega
      cases hk
      exact Nat.le_refl m0
  have hK : va_K Dg classes [] s := hW0.1
  have hl := lv_entry ([.ref m0]) (n := 2) (Nat.le_of_ble_eq_true rfl)
  rw [lg_entry_eq]
  generalize (lg_sl ([.ref m0]) ++ List.replicate (2 - (lg_sl ([.ref m0])).length) Slot.unset).toArray = ls at hl ⊢
  have hl : lv_has ls 2 [(0, .ref m0)] := hl
  have k98 : Cond.instanceMethod Lib.objectInit ∈ xT := xwd_mem (i := 98) (by decide +kernel)
  have k99 : Cond.code Lib.objectInit ⟨#[0xb1]⟩ 1 none ∈ xT := xwd_mem (i := 99) (by decide +kernel)
  have kO : Cond.methodLink "MonsoonTradeModel" 206 Lib.objectInit ∈ xT := xwd_mem (i := 1258) (by decide +kernel)
  have d0 : decode cX12_init 0 = .ok (.aload_n 0, 1) := by decide +kernel
  have d1 : decode cX12_init 1 = .ok (.invokespecial 206, 3) := by decide +kernel
  refine lv_aload_n (k := 0) (i := 0) hx hb d0 rfl (lv_at hl 0 rfl) ?_
  refine W.objInit hx hb hown (hts _ kO) (hts _ k98) (hts _ k99) rfl (by rw [hml]; exact hl.1) rfl d1 (by show 1 ≤ d + 10; omega) (by show 2 * 0 + 0 + 12 ≤ 40 * (d + 10); omega) ?_
  refine W.eq (g2 := F0 m 4 ls []) rfl ?_
  refine mo_a hx hb hts hown hin hA rfl hl hP hD hK hS (Nat.le_of_ble_eq_true rfl) (Nat.le_of_ble_eq_true rfl) (fun q37 c37 q38 c38 q39 c39 q40 c40 q41 c41 q42 c42 q43 c43 q44 c44 q45 c45 q46 c46 q47 c47 q48 c48 q49 c49 q50 c50 q51 c51 q52 c52 q53 c53 q54 c54 q55 c55 q56 c56 q57 c57 q58 c58 q59 c59 q60 c60 q61 c61 q62 c62 q63 c63 q64 c64 H locs hP hD hK hS hlen => ?_)
  refine mo_b hx hb hts hown hin hA hlen hl hP hD hK hS (Nat.le_of_ble_eq_true rfl) (Nat.le_of_ble_eq_true rfl) (fun q65 c65 f65 H locs h65 hP hD hK hS hlen => ?_)
  refine mo_c hx hb hts hown hin hA hlen hl hP hD hK hS (Nat.le_of_ble_eq_true rfl) (Nat.le_of_ble_eq_true rfl) (fun q66 c66 f66 H locs h66 hP hD hK hS hlen => ?_)
  refine mo_d hx hb hts hown hin hA hlen hl hP hD hK hS (Nat.le_of_ble_eq_true rfl) (Nat.le_of_ble_eq_true rfl) (fun q67 c67 f67 H locs h67 hP hD hK hS hlen => ?_)
  refine mo_e hx hb hts hown hin hA hlen hl hP hD hK hS (Nat.le_of_ble_eq_true rfl) (Nat.le_of_ble_eq_true rfl) (fun q68 c68 q69 c69 q70 c70 q71 c71 H locs hP hD hK hS hlen => ?_)
  refine mo_f hx hb hts hown hin hA hlen hl hP hD hK hS (Nat.le_of_ble_eq_true rfl) (Nat.le_of_ble_eq_true rfl) (fun q72 c72 f72 H locs h72 hP hD hK hS hlen => ?_)
  refine mo_g hx hb hts hown hin hA hlen hl hP hD hK hS (Nat.le_of_ble_eq_true rfl) (Nat.le_of_ble_eq_true rfl) (fun q73 c73 q74 c74 H locs hP hD hK hS hlen => ?_)
  simp only [List.set_cons_zero, List.set_cons_succ] at hP hD
  refine mo_loop (nn := 23) (tt := 23) hx hb hts hown hP hD hK hS rfl rfl rfl hl rfl (fun H locs ls f51 h51 hP hD hS hl => ?_)
  have hP : va_P Dg classes (moW m0 (fun k => ([q37, q38, q39, q40, q41, q42, q43, q44, q45, q46, q47, q48, q49, q50, q51, q52, q53, q54, q55, q56, q57, q58, q59, q60, q61, q62, q63, q64, q65, q66, q67, q68, q69, q70, q71, q72, q73, q74] : List Nat).getD (k - 37) 0) (fun k => ([c37, c38, c39, c40, c41, c42, c43, c44, c45, c46, c47, c48, c49, c50, c51, c52, c53, c54, c55, c56, c57, c58, c59, c60, c61, c62, c63, c64, c65, c66, c67, c68, c69, c70, c71, c72, c73, c74] : List ClassId).getD (k - 37) c37) f51 f65 f66 f67 f72) H := hP
  have hD : va_D (xA m0) (moW m0 (fun k => ([q37, q38, q39, q40, q41, q42, q43, q44, q45, q46, q47, q48, q49, q50, q51, q52, q53, q54, q55, q56, q57, q58, q59, q60, q61, q62, q63, q64, q65, q66, q67, q68, q69, q70, q71, q72, q73, q74] : List Nat).getD (k - 37) 0) (fun k => ([c37, c38, c39, c40, c41, c42, c43, c44, c45, c46, c47, c48, c49, c50, c51, c52, c53, c54, c55, c56, c57, c58, c59, c60, c61, c62, c63, c64, c65, c66, c67, c68, c69, c70, c71, c72, c73, c74] : List ClassId).getD (k - 37) c37) f51 f65 f66 f67 f72) := hD
  have hK : va_K Dg classes (moK (fun k => ([c37, c38, c39, c40, c41, c42, c43, c44, c45, c46, c47, c48, c49, c50, c51, c52, c53, c54, c55, c56, c57, c58, c59, c60, c61, c62, c63, c64, c65, c66, c67, c68, c69, c70, c71, c72, c73, c74] : List ClassId).getD (k - 37) c37)) s := hK
  generalize (fun k => ([q37, q38, q39, q40, q41, q42, q43, q44, q45, q46, q47, q48, q49, q50, q51, q52, q53, q54, q55, q56, q57, q58, q59, q60, q61, q62, q63, q64, q65, q66, q67, q68, q69, q70, q71, q72, q73, q74] : List Nat).getD (k - 37) 0) = q at hP hD
  generalize (fun k => ([c37, c38, c39, c40, c41, c42, c43, c44, c45, c46, c47, c48, c49, c50, c51, c52, c53, c54, c55, c56, c57, c58, c59, c60, c61, c62, c63, c64, c65, c66, c67, c68, c69, c70, c71, c72, c73, c74] : List ClassId).getD (k - 37) c37) = cc at hP hD hK
  have hW := mo_W (S := S) hP hD hK hW0 h99 hB0 hlt (Nat.le_of_lt hms) (fun a ha => hS.2.1 a (Nat.lt_trans ha hms) (by show ¬ m0 ≤ a; omega))
  have hS : va_S (xA B) s.heap H locs := ⟨hS.1, fun a h1 h2 => hS.2.1 a h1 (fun z => h2 (Nat.le_trans hB0 z)), fun a ha => Nat.le_trans hB0 (hS.2.2 a ha)⟩
  have e36 : moL L m0 q 36 0 = m0 := rfl
  have e99 : moL L m0 q 99 0 = 1 := rfl
  have eLo : ∀ k i, lo k = true → k ≠ 18 → moL L m0 q k i = L k i := fun k i h _ => moL_lo k i h
  have o0 : gOu 0 [] (moS S f51 f65 f66 f67 f72) := ⟨rfl, fun j hj => absurd hj (Nat.not_lt_zero _)⟩
  have o1 : gOu 1 [] (moS S f51 f65 f66 f67 f72) := ⟨rfl, fun j hj => absurd hj (Nat.not_lt_zero _)⟩
  have o2 : gOu 2 [] (moS S f51 f65 f66 f67 f72) := ⟨rfl, fun j hj => absurd hj (Nat.not_lt_zero _)⟩
  have fr : Fr (fl fMo) (moS S f51 f65 f66 f67 f72) (moS S f51 f65 f66 f67 f72) := Fr.rf
  generalize moL L m0 q = L1 at hW e36 e99 eLo
  generalize hS0 : moS S f51 f65 f66 f67 f72 = T at hW o0 o1 o2
  rw [hS0] at fr
  have d725 : decode cX12_init 725 = .ok (.aload_n 0, 1) := by decide +kernel
  have d726 : decode cX12_init 726 = .ok (.iconst 0, 1) := by decide +kernel
  have d727 : decode cX12_init 727 = .ok (.bipush 103, 2) := by decide +kernel
  have d729 : decode cX12_init 729 = .ok (.iconst 0, 1) := by decide +kernel
  have d730 : decode cX12_init 730 = .ok (.invokevirtual 247, 3) := by decide +kernel
  refine lv_aload_n (k := 0) (i := 0) hx hb d725 rfl (lv_at hl 1 rfl) ?_
  refine lv_iconst (n := 0) (v := 0) hx hb d726 rfl ?_
  refine lv_bipush (n := 103) (v := 103) hx hb d727 rfl ?_
  refine lv_iconst (n := 0) (v := 0) hx hb d729 rfl ?_
  refine rawVa (d := d) (idx := 247) (mi2 := m_M_add) (k := 36) (i := 0) (ci := 12) (av := [.inl (nI 0), .inl 103, .inl 0]) (c' := 0) (z' := 0) (rest := []) e36 ⟨hx, hb, hml, hown, hts⟩ hl.1 ⟨by show d + 1 ≤ d + 10; omega, by show 40 * (d + 1) ≤ 40 * (d + 10); omega⟩ hBs d730 (xmok_all (by decide)) (by decide) (xwd_mem (i := 1259) (by decide +kernel)) rfl ⟨_, _, rfl⟩ (by decide +kernel) (Nat.zero_le _) (show 0 < xcn L1 36 by unfold xcn; rw [e99]; decide) (fun v hv => by simp at hv; rcases hv with rfl | rfl | rfl <;> trivial) hW hS ⟨Nat.le_of_ble_eq_true rfl, Nat.le_of_ble_eq_true rfl⟩ (ct_M_add (D := d) (row := 0) (o := []) (c := -137) (Q := fun r T2 => r = none ∧ gOu 0 ([] ++ [-137]) T2 ∧ gRf 0 T T2) (by decide) (by decide) o0 (by decide) (by decide) (fun T2 a1 a2 _ _ => ⟨rfl, a1, a2⟩)) (fun r T_1 L_1 H locs hq hL2 hW hS => ?_)
  obtain ⟨rfl, p0, f2⟩ := hq
  have p1 := o1.row f2 (by decide) (by decide)
  have p2 := o2.row f2 (by decide) (by decide)
  have fr := fr.tr f2.frM
  have e36 := (hL2 36 0 (by decide)).trans e36
  have e99 := (hL2 99 0 (by decide)).trans e99
  have eLo : ∀ k i, lo k = true → k ≠ 18 → L_1 k i = L k i := fun k i h h8 => (hL2 k i h8).trans (eLo k i h h8)
  clear hL2 f2 o0 o1 o2
  have o0 := p0; have o1 := p1; have o2 := p2
  clear p0 p1 p2
  have d733 : decode cX12_init 733 = .ok (.aload_n 0, 1) := by decide +kernel
  have d734 : decode cX12_init 734 = .ok (.iconst 1, 1) := by decide +kernel
  have d735 : decode cX12_init 735 = .ok (.bipush 101, 2) := by decide +kernel
  have d737 : decode cX12_init 737 = .ok (.iconst 0, 1) := by decide +kernel
  have d738 : decode cX12_init 738 = .ok (.invokevirtual 247, 3) := by decide +kernel
  refine lv_aload_n (k := 0) (i := 0) hx hb d733 rfl (lv_at hl 1 rfl) ?_
  refine lv_iconst (n := 1) (v := 1) hx hb d734 rfl ?_
  refine lv_bipush (n := 101) (v := 101) hx hb d735 rfl ?_
  refine lv_iconst (n := 0) (v := 0) hx hb d737 rfl ?_
  refine rawVa (d := d) (idx := 247) (mi2 := m_M_add) (k := 36) (i := 0) (ci := 12) (av := [.inl (nI 1), .inl 101, .inl 0]) (c' := 0) (z' := 0) (rest := []) e36 ⟨hx, hb, hml, hown, hts⟩ hl.1 ⟨by show d + 1 ≤ d + 10; omega, by show 40 * (d + 1) ≤ 40 * (d + 10); omega⟩ hBs d738 (xmok_all (by decide)) (by decide) (xwd_mem (i := 1259) (by decide +kernel)) rfl ⟨_, _, rfl⟩ (by decide +kernel) (Nat.zero_le _) (show 0 < xcn L_1 36 by unfold xcn; rw [e99]; decide) (fun v hv => by simp at hv; rcases hv with rfl | rfl | rfl <;> trivial) hW hS ⟨Nat.le_of_ble_eq_true rfl, Nat.le_of_ble_eq_true rfl⟩ (ct_M_add (D := d) (row := 1) (o := []) (c := -135) (Q := fun r T2 => r = none ∧ gOu 1 ([] ++ [-135]) T2 ∧ gRf 1 T_1 T2) (by decide) (by decide) o1 (by decide) (by decide) (fun T2 a1 a2 _ _ => ⟨rfl, a1, a2⟩)) (fun r T_2 L_2 H locs hq hL2 hW hS => ?_)
  obtain ⟨rfl, p1, f2⟩ := hq
  have p0 := o0.row f2 (by decide) (by decide)
  have p2 := o2.row f2 (by decide) (by decide)
  have fr := fr.tr f2.frM
  have e36 := (hL2 36 0 (by decide)).trans e36
  have e99 := (hL2 99 0 (by decide)).trans e99
  have eLo : ∀ k i, lo k = true → k ≠ 18 → L_2 k i = L k i := fun k i h h8 => (hL2 k i h8).trans (eLo k i h h8)
  clear hL2 f2 o0 o1 o2
  have o0 := p0; have o1 := p1; have o2 := p2
  clear p0 p1 p2
  have d741 : decode cX12_init 741 = .ok (.aload_n 0, 1) := by decide +kernel
  have d742 : decode cX12_init 742 = .ok (.iconst 1, 1) := by decide +kernel
  have d743 : decode cX12_init 743 = .ok (.bipush 102, 2) := by decide +kernel
  have d745 : decode cX12_init 745 = .ok (.iconst 0, 1) := by decide +kernel
  have d746 : decode cX12_init 746 = .ok (.invokevirtual 247, 3) := by decide +kernel
  refine lv_aload_n (k := 0) (i := 0) hx hb d741 rfl (lv_at hl 1 rfl) ?_
  refine lv_iconst (n := 1) (v := 1) hx hb d742 rfl ?_
  refine lv_bipush (n := 102) (v := 102) hx hb d743 rfl ?_
  refine lv_iconst (n := 0) (v := 0) hx hb d745 rfl ?_
  refine rawVa (d := d) (idx := 247) (mi2 := m_M_add) (k := 36) (i := 0) (ci := 12) (av := [.inl (nI 1), .inl 102, .inl 0]) (c' := 0) (z' := 0) (rest := []) e36 ⟨hx, hb, hml, hown, hts⟩ hl.1 ⟨by show d + 1 ≤ d + 10; omega, by show 40 * (d + 1) ≤ 40 * (d + 10); omega⟩ hBs d746 (xmok_all (by decide)) (by decide) (xwd_mem (i := 1259) (by decide +kernel)) rfl ⟨_, _, rfl⟩ (by decide +kernel) (Nat.zero_le _) (show 0 < xcn L_2 36 by unfold xcn; rw [e99]; decide) (fun v hv => by simp at hv; rcases hv with rfl | rfl | rfl <;> trivial) hW hS ⟨Nat.le_of_ble_eq_true rfl, Nat.le_of_ble_eq_true rfl⟩ (ct_M_add (D := d) (row := 1) (o := [-135]) (c := -136) (Q := fun r T2 => r = none ∧ gOu 1 ([-135] ++ [-136]) T2 ∧ gRf 1 T_2 T2) (by decide) (by decide) o1 (by decide) (by decide) (fun T2 a1 a2 _ _ => ⟨rfl, a1, a2⟩)) (fun r T_3 L_3 H locs hq hL2 hW hS => ?_)
  obtain ⟨rfl, p1, f2⟩ := hq
  have p0 := o0.row f2 (by decide) (by decide)
  have p2 := o2.row f2 (by decide) (by decide)
  have fr := fr.tr f2.frM
  have e36 := (hL2 36 0 (by decide)).trans e36
  have e99 := (hL2 99 0 (by decide)).trans e99
  have eLo : ∀ k i, lo k = true → k ≠ 18 → L_3 k i = L k i := fun k i h h8 => (hL2 k i h8).trans (eLo k i h h8)
  clear hL2 f2 o0 o1 o2
  have o0 := p0; have o1 := p1; have o2 := p2
  clear p0 p1 p2
  have d749 : decode cX12_init 749 = .ok (.aload_n 0, 1) := by decide +kernel
  have d750 : decode cX12_init 750 = .ok (.iconst 1, 1) := by decide +kernel
  have d751 : decode cX12_init 751 = .ok (.bipush 42, 2) := by decide +kernel
  have d753 : decode cX12_init 753 = .ok (.iconst 0, 1) := by decide +kernel
  have d754 : decode cX12_init 754 = .ok (.invokevirtual 247, 3) := by decide +kernel
  refine lv_aload_n (k := 0) (i := 0) hx hb d749 rfl (lv_at hl 1 rfl) ?_
  refine lv_iconst (n := 1) (v := 1) hx hb d750 rfl ?_
  refine lv_bipush (n := 42) (v := 42) hx hb d751 rfl ?_
  refine lv_iconst (n := 0) (v := 0) hx hb d753 rfl ?_
  refine rawVa (d := d) (idx := 247) (mi2 := m_M_add) (k := 36) (i := 0) (ci := 12) (av := [.inl (nI 1), .inl 42, .inl 0]) (c' := 0) (z' := 0) (rest := []) e36 ⟨hx, hb, hml, hown, hts⟩ hl.1 ⟨by show d + 1 ≤ d + 10; omega, by show 40 * (d + 1) ≤ 40 * (d + 10); omega⟩ hBs d754 (xmok_all (by decide)) (by decide) (xwd_mem (i := 1259) (by decide +kernel)) rfl ⟨_, _, rfl⟩ (by decide +kernel) (Nat.zero_le _) (show 0 < xcn L_3 36 by unfold xcn; rw [e99]; decide) (fun v hv => by simp at hv; rcases hv with rfl | rfl | rfl <;> trivial) hW hS ⟨Nat.le_of_ble_eq_true rfl, Nat.le_of_ble_eq_true rfl⟩ (ct_M_add (D := d) (row := 1) (o := [-135, -136]) (c := -42) (Q := fun r T2 => r = none ∧ gOu 1 ([-135, -136] ++ [-42]) T2 ∧ gRf 1 T_3 T2) (by decide) (by decide) o1 (by decide) (by decide) (fun T2 a1 a2 _ _ => ⟨rfl, a1, a2⟩)) (fun r T_4 L_4 H locs hq hL2 hW hS => ?_)
  obtain ⟨rfl, p1, f2⟩ := hq
  have p0 := o0.row f2 (by decide) (by decide)
  have p2 := o2.row f2 (by decide) (by decide)
  have fr := fr.tr f2.frM
  have e36 := (hL2 36 0 (by decide)).trans e36
  have e99 := (hL2 99 0 (by decide)).trans e99
  have eLo : ∀ k i, lo k = true → k ≠ 18 → L_4 k i = L k i := fun k i h h8 => (hL2 k i h8).trans (eLo k i h h8)
  clear hL2 f2 o0 o1 o2
  have o0 := p0; have o1 := p1; have o2 := p2
  clear p0 p1 p2
  have d757 : decode cX12_init 757 = .ok (.aload_n 0, 1) := by decide +kernel
  have d758 : decode cX12_init 758 = .ok (.iconst 2, 1) := by decide +kernel
  have d759 : decode cX12_init 759 = .ok (.bipush 104, 2) := by decide +kernel
  have d761 : decode cX12_init 761 = .ok (.iconst 0, 1) := by decide +kernel
  have d762 : decode cX12_init 762 = .ok (.invokevirtual 247, 3) := by decide +kernel
  refine lv_aload_n (k := 0) (i := 0) hx hb d757 rfl (lv_at hl 1 rfl) ?_
  refine lv_iconst (n := 2) (v := 2) hx hb d758 rfl ?_
  refine lv_bipush (n := 104) (v := 104) hx hb d759 rfl ?_
  refine lv_iconst (n := 0) (v := 0) hx hb d761 rfl ?_
  refine rawVa (d := d) (idx := 247) (mi2 := m_M_add) (k := 36) (i := 0) (ci := 12) (av := [.inl (nI 2), .inl 104, .inl 0]) (c' := 0) (z' := 0) (rest := []) e36 ⟨hx, hb, hml, hown, hts⟩ hl.1 ⟨by show d + 1 ≤ d + 10; omega, by show 40 * (d + 1) ≤ 40 * (d + 10); omega⟩ hBs d762 (xmok_all (by decide)) (by decide) (xwd_mem (i := 1259) (by decide +kernel)) rfl ⟨_, _, rfl⟩ (by decide +kernel) (Nat.zero_le _) (show 0 < xcn L_4 36 by unfold xcn; rw [e99]; decide) (fun v hv => by simp at hv; rcases hv with rfl | rfl | rfl <;> trivial) hW hS ⟨Nat.le_of_ble_eq_true rfl, Nat.le_of_ble_eq_true rfl⟩ (ct_M_add (D := d) (row := 2) (o := []) (c := -138) (Q := fun r T2 => r = none ∧ gOu 2 ([] ++ [-138]) T2 ∧ gRf 2 T_4 T2) (by decide) (by decide) o2 (by decide) (by decide) (fun T2 a1 a2 _ _ => ⟨rfl, a1, a2⟩)) (fun r T_5 L_5 H locs hq hL2 hW hS => ?_)
  obtain ⟨rfl, p2, f2⟩ := hq
  have p0 := o0.row f2 (by decide) (by decide)
  have p1 := o1.row f2 (by decide) (by decide)
  have fr := fr.tr f2.frM
  have e36 := (hL2 36 0 (by decide)).trans e36
  have e99 := (hL2 99 0 (by decide)).trans e99
  have eLo : ∀ k i, lo k = true → k ≠ 18 → L_5 k i = L k i := fun k i h h8 => (hL2 k i h8).trans (eLo k i h h8)
  clear hL2 f2 o0 o1 o2
  have o0 := p0; have o1 := p1; have o2 := p2
  clear p0 p1 p2
  have d765 : decode cX12_init 765 = .ok (.aload_n 0, 1) := by decide +kernel
  have d766 : decode cX12_init 766 = .ok (.iconst 1, 1) := by decide +kernel
  have d767 : decode cX12_init 767 = .ok (.putfield 250, 3) := by decide +kernel
  have d770 : decode cX12_init 770 = .ok (.return_, 1) := by decide +kernel
  refine lv_aload_n (k := 0) (i := 0) hx hb d765 rfl (lv_at hl 1 rfl) ?_
  refine lv_iconst (n := 1) (v := 1) hx hb d766 rfl ?_
  refine rawPut (k := 36) (i := 0) (ci := 12) (b := 33) (ty := .int) e36 hx hb hown hts d767 rfl rfl (show classes[12]? = some ("MonsoonTradeModel", TX12, 59) from rfl) (by decide) (xwd_mem (i := 1296) (by decide +kernel)) rfl rfl rfl rfl rfl (show 0 < xcn L_5 36 by unfold xcn; rw [e99]; decide) hW hS (fun H locs hW hS => ?_)
  refine W.widen (k := 38) (n := 7173) (Nat.le_of_ble_eq_true rfl) (Nat.le_of_ble_eq_true rfl) ?_
  exact W.vret hx hb hr (fun t ht hWm => ⟨⟨L_5, xupd T_5 36 0 33 1, rfl, by rw [ht]; exact hW.warm hWm, e36, e99, eLo, ⟨f51, f65, f66, f67, f72, ⟨h51, h65, h66, h67, h72⟩, by rw [hS0]; exact fr.tr (Fr.rf.up rfl)⟩, ⟨o0, o1, o2⟩, rfl⟩, hS.F ht⟩) hS.2.2 d770 Bd.notSynchronized
