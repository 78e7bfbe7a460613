/-! the contract of the class's constructor (written by ctor6.py) -/
theorem vW_swap {α : Type} (a b c : List α) : (a ++ (b ++ c)).Perm (b ++ (a ++ c)) := by
  rw [← List.append_assoc, ← List.append_assoc]
  exact List.Perm.append_right c List.perm_append_comm
def w11I : List Cond := .code yX11_init cX11_init 2 none :: xT
def mnP (D : va_G) (B : Nat) (L0 : xL) (S0 : xS) (h0 : Nat) (U : State) : Prop := B ≤ U.heap.size ∧ B ≤ h0 ∧ va_P D classes [(h0, .inr (11, [.null, .null, .null, .null, .null, .null, .null, .null, .null, .int 0, .int 0, .int 0, .int 0, .int 0]))] U.heap ∧ va_K D classes [] U ∧ (∀ w ∈ xN, va_Nw w U) ∧ (va_AO "MonsoonTrade$Port" U ∧ va_AO "MonsoonTrade$Dhow" U ∧ va_AO "MonsoonTrade$Venture" U ∧ va_AO "MonsoonTrade$Text" U ∧ va_AO "MonsoonTrade$Sheet" U) ∧ xRO U D B L0 S0 U.heap ∧ xEX U B L0 S0 U.heap ∧ xST U L0
/-- the store after the class's constructor -/
def mnS (S0 S : xS) : Prop := ∃ S1, S1 = fdC (mS S0) 0 fB 42 ∧ fTxt S1 S
def mnQ (D : va_G) (B : Nat) (L0 : xL) (S0 : xS) (h0 : Nat) : Array Value → State → Outcome → State → Prop := fun _ st oc t => (∃ (L : xL) (S : xS), oc = .returned none ∧ xW t D B L S t.heap ∧ L 0 0 = h0 ∧ L 99 0 = 0 ∧ (∀ k i, xro k = true → L k i = L0 k i) ∧ mnS S0 S) ∧ va_F (xA B) st t
theorem xRO.kept {U : State} {D : va_G} {B : Nat} {L : xL} {S : xS} {H H1 : Heap} (h : xRO U D B L S H) (hq : ∀ a : Nat, a < H.size → ¬ xA B a → H1[a]? = H[a]?) (hB : B ≤ H.size) : xRO U D B L S H1 := fun k i hr hi => by
  obtain ⟨h1, h2⟩ := h k i hr hi
  exact ⟨h1.kept (hq _ (by omega) (by show ¬ B ≤ _; omega)), h2⟩
set_option maxRecDepth 40000 in
set_option maxHeartbeats 4000000 in
theorem mn_M {d : Nat} {Dg : va_G} {B : Nat} {L0 : xL} {S0 : xS} (l : Launch) (h0 : Nat) (hF : gFst S0) (hG : gStr S0) : Met l yX11_init w11I (xRm (d + 61) 126 1575) (va_Pc [.ref h0] (mnP Dg B L0 S0 h0)) (mnQ Dg B L0 S0 h0) 126 1575 (xA B) := by
  refine Met.ofW (cc := cX11_init) (maxL := 2) (ret := none) (by decide) rfl ?_
  intro p e s m args below meth c s₁ Bd hml hv
  obtain ⟨rfl, hBs, hB0, hP, hK, hN, ⟨hAO3, hAO0, hAO10, hAO8, hAO7⟩, hRO, hEX, hST⟩ := hv
  have hx := Bd.exec
  have hb := Bd.bytes
  have hr := Bd.returns
  have hts0 := atoms_spec (ws := w11I) Bd.pre
  have hts : ∀ w ∈ xT, w.before _ s = true := fun w hw => hts0 w (List.mem_cons_of_mem _ hw)
  have hown : s.vm.findClass "MonsoonTrade" = some m.cls := findClass_of_methodNamed Bd.named
  have hin : meth.name = "<init>" := (name_of_methodNamed Bd.named Bd.method).1
  have hA : ∀ q : Nat, s.heap.size ≤ q → xA B q := fun q h => Nat.le_trans hBs h
  have hS : va_S (xA B) s.heap s.heap [] := va_S.rf
  have hD : va_D (xA B) [(h0, .inr (11, [.null, .null, .null, .null, .null, .null, .null, .null, .null, .int 0, .int 0, .int 0, .int 0, .int 0]))] := by
    refine ⟨fun i j p q hi hj _ => ?_, fun k q hk => ?_⟩
    · have h1 := (List.getElem?_eq_some_iff.mp hi).1
      have h2 := (List.getElem?_eq_some_iff.mp hj).1
      have h1 : i < 1 := h1
      have h2 : j < 1 := h2
      omega
    · have h1 := (List.getElem?_eq_some_iff.mp hk).1
      have h1 : k < 1 := h1
      obtain rfl : k = 0 := by omega
      cases hk
      exact hB0
  have hl := lv_entry ([.ref h0]) (n := 2) (Nat.le_of_ble_eq_true rfl)
  rw [lg_entry_eq]
  generalize (lg_sl ([.ref h0]) ++ List.replicate (2 - (lg_sl ([.ref h0])).length) Slot.unset).toArray = ls at hl ⊢
  have hl : lv_has ls 2 [(0, .ref h0)] := hl
  have hRf : d + 55 + 6 ≤ d + 61 ∧ 40 * (d + 55 + 6) ≤ 40 * (d + 61) := by omega
  have hcl : classes[11]? = some ("MonsoonTrade", TX11, 14) := rfl
  have d207 : decode cX11_init 207 = .ok (.aload_n 0, 1) := by decide +kernel
  have d208 : decode cX11_init 208 = .ok (.getfield 43, 3) := by decide +kernel
  have d211 : decode cX11_init 211 = .ok (.ldc 76, 2) := by decide +kernel
  have d213 : decode cX11_init 213 = .ok (.invokevirtual 78, 3) := by decide +kernel
  have d216 : decode cX11_init 216 = .ok (.aload_n 0, 1) := by decide +kernel
  have d217 : decode cX11_init 217 = .ok (.invokevirtual 82, 3) := by decide +kernel
  have d220 : decode cX11_init 220 = .ok (.pop, 1) := by decide +kernel
  have d221 : decode cX11_init 221 = .ok (.return_, 1) := by decide +kernel
  have kg43 : Cond.fieldLink "MonsoonTrade" 43 "MonsoonTrade" "tape" "LMonsoonTrade$Tokens;" ∈ xT := xwd_mem (i := 665) (by decide +kernel)
  refine mn_a (d := d + 55) (A := xA B) hx hb hml hown hin hts hN hAO3 hAO0 hAO10 hAO8 hAO7 ⟨hRf.1, hRf.2, Nat.le_of_ble_eq_true rfl, Nat.le_of_ble_eq_true rfl⟩ hA hP hD hK hS hl (fun o6 o9 o4 o5 o2 qa0 qa10 qa8 qa7 ca0 ca10 ca8 ca7 u6 u9 u4 u5 u2 H locs ls hP hD hK hS hl => ?_)
  have hP := vP_perm hP (List.Perm.append_left _ (vW_swap _ _ _))
  have hD := vD_perm hD (List.Perm.append_left _ (vW_swap _ _ _))
  have hK := vK_perm hK (vW_swap _ _ _)
  refine lp0_all (d := d + 55) (g0 := fun _ => none) (g10 := fun _ => none) (g8 := fun _ => none) (g7 := fun _ => none) hx hb hml hown hts hN hRf hA rfl (Nat.le_of_ble_eq_true rfl) (Nat.le_of_ble_eq_true rfl) (lv := [(0, .ref h0)]) rfl hP hD hK hS hl (fun d0 ud0 d1 ud1 d2 ud2 d3 ud3 H locs ls hP hD hK hS hl => ?_)
  refine lp10_all (d := d + 55) hx hb hml hown hts hN hRf hA rfl (Nat.le_of_ble_eq_true rfl) (Nat.le_of_ble_eq_true rfl) rfl hP hD hK hS hl (fun v0 uv0 v1 uv1 v2 uv2 v3 uv3 v4 uv4 v5 uv5 v6 uv6 v7 uv7 v8 uv8 v9 uv9 v10 uv10 v11 uv11 v12 uv12 v13 uv13 v14 uv14 v15 uv15 H locs ls hP hD hK hS hl => ?_)
  refine lp8_all (d := d + 55) hx hb hml hown hts hN hRf hA rfl (Nat.le_of_ble_eq_true rfl) (Nat.le_of_ble_eq_true rfl) rfl hP hD hK hS hl (fun t0 ut0 t1 ut1 t2 ut2 t3 ut3 t4 ut4 t5 ut5 H locs ls hP hD hK hS hl => ?_)
  refine lp7_all (d := d + 55) hx hb hml hown hts hN hRf hA rfl (Nat.le_of_ble_eq_true rfl) (Nat.le_of_ble_eq_true rfl) rfl hP hD hK hS hl (fun s0 us0 s1 us1 s2 us2 s3 us3 H locs ls hP hD hK hS hl => ?_)
  have hP : va_P Dg classes (mW Dg h0 o6 o9 o4 o5 o2 qa0 qa10 qa8 qa7 ca0 ca10 ca8 ca7 u6 u9 u4 u5 u2 (fun i => ([(d0, ud0), (d1, ud1), (d2, ud2), (d3, ud3)] : List (Nat × (List Nat × List ClassId))).getD i (0, [], [])) (fun i => ([(v0, uv0), (v1, uv1), (v2, uv2), (v3, uv3), (v4, uv4), (v5, uv5), (v6, uv6), (v7, uv7), (v8, uv8), (v9, uv9), (v10, uv10), (v11, uv11), (v12, uv12), (v13, uv13), (v14, uv14), (v15, uv15)] : List (Nat × (List Nat × List ClassId))).getD i (0, [], [])) (fun i => ([(t0, ut0), (t1, ut1), (t2, ut2), (t3, ut3), (t4, ut4), (t5, ut5)] : List (Nat × (List Nat × List ClassId))).getD i (0, [], [])) (fun i => ([(s0, us0), (s1, us1), (s2, us2), (s3, us3)] : List (Nat × (List Nat × List ClassId))).getD i (0, [], []))) H := hP
  have hD : va_D (xA B) (mW Dg h0 o6 o9 o4 o5 o2 qa0 qa10 qa8 qa7 ca0 ca10 ca8 ca7 u6 u9 u4 u5 u2 (fun i => ([(d0, ud0), (d1, ud1), (d2, ud2), (d3, ud3)] : List (Nat × (List Nat × List ClassId))).getD i (0, [], [])) (fun i => ([(v0, uv0), (v1, uv1), (v2, uv2), (v3, uv3), (v4, uv4), (v5, uv5), (v6, uv6), (v7, uv7), (v8, uv8), (v9, uv9), (v10, uv10), (v11, uv11), (v12, uv12), (v13, uv13), (v14, uv14), (v15, uv15)] : List (Nat × (List Nat × List ClassId))).getD i (0, [], [])) (fun i => ([(t0, ut0), (t1, ut1), (t2, ut2), (t3, ut3), (t4, ut4), (t5, ut5)] : List (Nat × (List Nat × List ClassId))).getD i (0, [], [])) (fun i => ([(s0, us0), (s1, us1), (s2, us2), (s3, us3)] : List (Nat × (List Nat × List ClassId))).getD i (0, [], []))) := hD
  have hK : va_K Dg classes (mK Dg ca0 ca10 ca8 ca7 u6 u9 u4 u5 u2 (fun i => ([(d0, ud0), (d1, ud1), (d2, ud2), (d3, ud3)] : List (Nat × (List Nat × List ClassId))).getD i (0, [], [])) (fun i => ([(v0, uv0), (v1, uv1), (v2, uv2), (v3, uv3), (v4, uv4), (v5, uv5), (v6, uv6), (v7, uv7), (v8, uv8), (v9, uv9), (v10, uv10), (v11, uv11), (v12, uv12), (v13, uv13), (v14, uv14), (v15, uv15)] : List (Nat × (List Nat × List ClassId))).getD i (0, [], [])) (fun i => ([(t0, ut0), (t1, ut1), (t2, ut2), (t3, ut3), (t4, ut4), (t5, ut5)] : List (Nat × (List Nat × List ClassId))).getD i (0, [], [])) (fun i => ([(s0, us0), (s1, us1), (s2, us2), (s3, us3)] : List (Nat × (List Nat × List ClassId))).getD i (0, [], []))) s := hK
  generalize (fun i => ([(d0, ud0), (d1, ud1), (d2, ud2), (d3, ud3)] : List (Nat × (List Nat × List ClassId))).getD i (0, [], [])) = dv at hP hD hK
  generalize (fun i => ([(v0, uv0), (v1, uv1), (v2, uv2), (v3, uv3), (v4, uv4), (v5, uv5), (v6, uv6), (v7, uv7), (v8, uv8), (v9, uv9), (v10, uv10), (v11, uv11), (v12, uv12), (v13, uv13), (v14, uv14), (v15, uv15)] : List (Nat × (List Nat × List ClassId))).getD i (0, [], [])) = vv at hP hD hK
  generalize (fun i => ([(t0, ut0), (t1, ut1), (t2, ut2), (t3, ut3), (t4, ut4), (t5, ut5)] : List (Nat × (List Nat × List ClassId))).getD i (0, [], [])) = tv at hP hD hK
  generalize (fun i => ([(s0, us0), (s1, us1), (s2, us2), (s3, us3)] : List (Nat × (List Nat × List ClassId))).getD i (0, [], [])) = sv at hP hD hK
  have hW := mx_W hP hD hK (hRO.kept hS.2.1 hBs) (hEX.kept hS.2.1) hST hN
  have h00 : mL L0 h0 o6 o9 o4 o5 o2 qa0 qa10 qa8 qa7 ca0 ca10 ca8 ca7 u6 u9 u4 u5 u2 dv vv tv sv 0 0 = h0 := rfl
  have h23 : mL L0 h0 o6 o9 o4 o5 o2 qa0 qa10 qa8 qa7 ca0 ca10 ca8 ca7 u6 u9 u4 u5 u2 dv vv tv sv 23 0 = o9 := rfl
  have h75 : mL L0 h0 o6 o9 o4 o5 o2 qa0 qa10 qa8 qa7 ca0 ca10 ca8 ca7 u6 u9 u4 u5 u2 dv vv tv sv 75 0 = L0 75 0 := rfl
  have h99 : mL L0 h0 o6 o9 o4 o5 o2 qa0 qa10 qa8 qa7 ca0 ca10 ca8 ca7 u6 u9 u4 u5 u2 dv vv tv sv 99 0 = 0 := rfl
  have eR : ∀ k i, xro k = true → mL L0 h0 o6 o9 o4 o5 o2 qa0 qa10 qa8 qa7 ca0 ca10 ca8 ca7 u6 u9 u4 u5 u2 dv vv tv sv k i = L0 k i := by
    intro k i hr
    rcases xro_c hr with rfl | rfl | rfl | rfl <;> rfl
  refine lv_aload_n (k := 0) (i := 0) hx hb d207 rfl (lv_at hl 1 rfl) ?_
  refine va_get (ci := 11) (N := 14) (T := TX11) (v := .ref o9) hx hb hts (xlay hcl) hown hK hP 0 rfl rfl 5 (by decide) (hts _ kg43) (fun _ h9 => h9) rfl d208 ?_
  refine va_ldcS hx hb hown (hST 0 (by decide)) d211 ?_
  generalize mL L0 h0 o6 o9 o4 o5 o2 qa0 qa10 qa8 qa7 ca0 ca10 ca8 ca7 u6 u9 u4 u5 u2 dv vv tv sv = L at hW h00 h23 h75 h99 eR
  rw [← h75]
  have gF : gFst (mS S0) := hF
  have gG : gStr (mS S0) := hG
  refine rawVa (d := d + 60) (idx := 78) (mi2 := m_Tokens_addAll) (k := 23) (i := 0) (ci := 9) (av := [.inr (.inr (75, 0))]) (c' := 0) (z' := 0) (rest := []) h23 ⟨hx, hb, hml, hown, hts⟩ hl.1 ⟨Nat.le_refl _, Nat.le_refl _⟩ hBs d213 (xmok_all (by decide)) (by decide) (xwd_mem (i := 423) (by decide +kernel)) rfl ⟨_, _, rfl⟩ (by decide +kernel) (Nat.zero_le _) (show 0 < xcn L 23 from (show 0 < 1 from Nat.one_pos)) (fun v hv => by rw [List.mem_singleton.mp hv]; exact (show 0 < 3 by decide)) hW hS ⟨Nat.le_of_ble_eq_true rfl, Nat.le_of_ble_eq_true rfl⟩ (ct_addAll (D := d + 56) (Q := fun r S' => r = none ∧ S' = fdC (mS S0) 0 fB 42) gF rfl ⟨rfl, rfl⟩) (fun r S1 L1 H locs hq hL1 hW hS => ?_)
  obtain ⟨rfl, hS1⟩ := hq
  have fr1 : Fr (fl [24, 24001]) (mS S0) S1 := by rw [hS1]; exact fdC_fr _ _ _ _
  refine lv_aload_n (k := 0) (i := 0) hx hb d216 rfl (lv_at hl 1 rfl) ?_
  have e00 : L1 0 0 = h0 := (hL1 0 0 (by decide)).trans h00
  refine rawVa (d := d + 60) (idx := 82) (mi2 := m_C_text) (k := 0) (i := 0) (ci := 11) (av := []) (c' := 1) (z' := 160) (rest := []) e00 ⟨hx, hb, hml, hown, hts⟩ hl.1 ⟨Nat.le_refl _, Nat.le_refl _⟩ hBs d217 (xmok_all (by decide)) (by decide) (xwd_mem (i := 479) (by decide +kernel)) rfl ⟨_, _, rfl⟩ (by decide +kernel) (Nat.zero_le _) (show 0 < xcn L1 0 from (show 0 < 1 from Nat.one_pos)) (fun v hv => by cases hv) hW hS ⟨Nat.le_of_ble_eq_true rfl, Nat.le_of_ble_eq_true rfl⟩ (ct_first (D := d) (Q := fun r S' => r = some (.inl 0) ∧ fTxt S1 S') (fr1.1 0 0 11 rfl) (gG.fr fr1 (by decide)) ⟨by rw [hS1]; rfl, by decide, fun j hj => by rw [hS1, fdC_at, if_pos (by omega)]; rfl⟩ (fun S2 h2 => ⟨rfl, h2⟩)) (fun r S2 L2 H locs hq hL2 hW hS => ?_)
  obtain ⟨rfl, hS2⟩ := hq
  refine lv_pop hx hb d220 rfl ?_
  refine W.widen (k := 126) (n := 1575) (Nat.le_of_ble_eq_true rfl) (Nat.le_of_ble_eq_true rfl) ?_
  exact W.vret hx hb hr (fun t ht hWm => ⟨⟨L2, S2, rfl, by rw [ht]; exact hW.warm hWm, (hL2 0 0 (by decide)).trans e00, (hL2 99 0 (by decide)).trans ((hL1 99 0 (by decide)).trans h99), fun k i hk => by
    have k18 : k ≠ 18 := fun e => by rw [e] at hk; exact absurd hk (by decide)
    exact (hL2 k i k18).trans ((hL1 k i k18).trans (eR k i hk)), S1, hS1, hS2⟩, hS.F ht⟩) hS.2.2 d221 Bd.notSynchronized
