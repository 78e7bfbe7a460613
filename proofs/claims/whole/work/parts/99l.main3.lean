/-! the contract of the class's constructor (written by ctor6.py) -/
theorem vW_swap {α : Type} (a b c : List α) : (a ++ (b ++ c)).Perm (b ++ (a ++ c)) := by
  rw [← List.append_assoc, ← List.append_assoc]
  exact List.Perm.append_right c List.perm_append_comm
def w11I : List Cond := .code yX11_init cX11_init 2 none :: xT
def mnP (D : va_G) (B : Nat) (L0 : xL) (S0 : xS) (h0 : Nat) (U : State) : Prop := B ≤ U.heap.size ∧ B ≤ h0 ∧ va_P D classes [(h0, .inr (11, [.null, .null, .null, .null, .null, .null, .null, .null, .null, .int 0, .int 0, .int 0, .int 0, .int 0]))] U.heap ∧ va_K D classes [] U ∧ (∀ w ∈ xN, va_Nw w U) ∧ (va_AO "MonsoonTrade$Port" U ∧ va_AO "MonsoonTrade$Dhow" U ∧ va_AO "MonsoonTrade$Venture" U ∧ va_AO "MonsoonTrade$Text" U ∧ va_AO "MonsoonTrade$Sheet" U) ∧ xRO U D B L0 S0 U.heap ∧ xEX U B L0 S0 U.heap ∧ xST U L0
/-- the store after the class's constructor -/
def mnS (S0 S : xS) : Prop := ∃ S1, S1 = fdC (mS S0) 0 fB 42 ∧ fTxt S1 S
def mnQ (D : va_G) (B : Nat) (L0 : xL) (S0 : xS) (h0 : Nat) : Array Value → State → Outcome → State → Prop := fun _ st oc t => (∃ (L : xL) (S : xS), oc = .returned none ∧ xW t D B L S t.heap ∧ L 0 0 = h0 ∧ L 99 0 = 0 ∧ (∀ k i, xro k = true → L k i = L0 k i) ∧ mnS S0 S) ∧ va_F (xA B) st t
theorem xRO.kept {U : State} {D : va_G} {B : Nat} {L : xL} {S : xS} {H H1 : Heap} (h : xRO U D B L S H) (hq : ∀ a : Nat, a < H.size → ¬ xA B a → H1[a]? = H[a]?) (hB : B ≤ H.size) : xRO U D B L S H1 := fun k i hr hi => by
  obtain ⟨h1, h2⟩ := h k i hr hi
  exact ⟨h1.kept (hq _ (by omega) (by show ¬ B ≤ _; omega)), h2⟩
set_option maxRecDepth 40000 in
set_option maxHeartbeats 4000000 in
theorem mn_M {d : Nat} {Dg : va_G} {B : Nat} {L0 : xL} {S0 : xS} (l : Launch) (h0 : Nat) (hF : gFst S0) (hG : gStr S0) : Met l yX11_init w11I (xRm (d + 61) 126 1575) (va_Pc [.ref h0] (mnP Dg B L0 S0 h0)) (mnQ Dg B L0 S0 h0) 126 1575 (xA B) := by
  refine Met.ofW (cc := cX11_init) (maxL := 2) (ret := none) (by decide) rfl ?_
  intro p e s m args below meth c s₁ Bd hml hv
  obtain ⟨rfl, hBs, hB0, hP, hK, hN, ⟨hAO3, hAO0, hAO10, hAO8, hAO7⟩, hRO, hEX, hST⟩ := hv
  have hx := Bd.exec
  have hb := Bd.bytes
  have hr := Bd.returns
  have hts0 := atoms_spec (ws := w11I) Bd.pre
  have hts : ∀ w ∈ xT, w.before _ s = true := fun w hw => hts0 w (List.mem_cons_of_mem _ hw)
  have hown : s.vm.findClass "MonsoonTrade" = some m.cls := findClass_of_methodNamed Bd.named
  have hin : meth.name = "<init>" := (name_of_methodNamed Bd.named Bd.method).1
  have hA : ∀ q : Nat, s.heap.size ≤ q → xA B q := fun q h => Nat.le_trans hBs h
  have hS : va_S (xA B) s.heap s.heap [] := va_S.rf
  have hD : va_D (xA B) [(h0, .inr (11, [.null, .null, .null, .null, .null, .null, .null, .null, .null, .int 0, .int 0, .int 0, .int 0, .int 0]))] := by
    refine ⟨fun i j p q hi hj _ => ?_, fun k q hk => ?_⟩
    · have h1 := (List.getElem?_eq_some_iff.mp hi).1
      have h2 := (List.getElem?_eq_some_iff.mp hj).1
      have h1 : i < 1 := h1
      have h2 : j < 1 := h2
      omega
    · have h1 := (List.getElem?_eq_some_iff.mp hk).1
      have h1 : k < 1 := h1
      obtain rfl : k = 0 := by omega
      cases hk
      exact hB0
  have hl := lv_entry ([.ref h0]) (n := 2) (Nat.le_of_ble_eq_true rfl)
  rw [lg_entry_eq]
  generalize (lg_sl ([.ref h0]) ++ List.replicate (2 - (lg_sl ([.ref h0])).length) Slot.unset).toArray = ls at hl ⊢
  have hl : lv_has ls 2 [(0, .ref h0)] := hl
  have hRf : d + 55 + 6 ≤ d + 61 ∧ 40 * (d + 55 + 6) ≤ 40 * (d + 61) := by omega
  have hcl : classes[11]? = some ("MonsoonTrade", TX11, 14) := rfl
  have d207 : decode cX11_init 207 = .ok (.aload_n 0, 1) := by decide +kernel
  have d208 : decode cX11_init 208 = .ok (.getfield 43, 3) := by decide +kernel
  have d211 : decode cX11_init 211 = .ok (.ldc 76, 2) := by decide +kernel
  have d213 : decode cX11_init 213 = .ok (.invokevirtual 78, 3) := by decide +kernel
  have d216 : decode cX11_init 216 = .ok (.aload_n 0, 1) := by decide +kernel
  have d217 : decode cX11_init 217 = .ok (.getfield 52, 3) := by decide +kernel
  have d220 : decode cX11_init 220 = .ok (.invokevirtual 82, 3) := by decide +kernel
  have d223 : decode cX11_init 223 = .ok (.pop, 1) := by decide +kernel
  have d224 : decode cX11_init 224 = .ok (.aload_n 0, 1) := by decide +kernel
  have d225 : decode cX11_init 225 = .ok (.getfield 43, 3) := by decide +kernel
  have d228 : decode cX11_init 228 = .ok (.invokevirtual 86, 3) := by decide +kernel
  have d231 : decode cX11_init 231 = .ok (.aload_n 0, 1) := by decide +kernel
  have d232 : decode cX11_init 232 = .ok (.getfield 30, 3) := by decide +kernel
  have d235 : decode cX11_init 235 = .ok (.iconst 0, 1) := by decide +kernel
  have d236 : decode cX11_init 236 = .ok (.aaload, 1) := by decide +kernel
  have d237 : decode cX11_init 237 = .ok (.aload_n 0, 1) := by decide +kernel
  have d238 : decode cX11_init 238 = .ok (.getfield 52, 3) := by decide +kernel
  have d241 : decode cX11_init 241 = .ok (.invokevirtual 89, 3) := by decide +kernel
  have d244 : decode cX11_init 244 = .ok (.aload_n 0, 1) := by decide +kernel
  have d245 : decode cX11_init 245 = .ok (.iconst 1, 1) := by decide +kernel
  have d246 : decode cX11_init 246 = .ok (.putfield 93, 3) := by decide +kernel
  have d249 : decode cX11_init 249 = .ok (.return_, 1) := by decide +kernel
  have kg43 : Cond.fieldLink "MonsoonTrade" 43 "MonsoonTrade" "tape" "LMonsoonTrade$Tokens;" ∈ xT := xwd_mem (i := 661) (by decide +kernel)
  have kg52 : Cond.fieldLink "MonsoonTrade" 52 "MonsoonTrade" "reader" "LMonsoonTrade$Reader;" ∈ xT := xwd_mem (i := 662) (by decide +kernel)
  have kg30 : Cond.fieldLink "MonsoonTrade" 30 "MonsoonTrade" "texts" "[LMonsoonTrade$Text;" ∈ xT := xwd_mem (i := 659) (by decide +kernel)
  have kg93 : Cond.fieldLink "MonsoonTrade" 93 "MonsoonTrade" "textCount" "I" ∈ xT := xwd_mem (i := 667) (by decide +kernel)
  refine mn_a (d := d + 55) (A := xA B) hx hb hml hown hin hts hN hAO3 hAO0 hAO10 hAO8 hAO7 ⟨hRf.1, hRf.2, Nat.le_of_ble_eq_true rfl, Nat.le_of_ble_eq_true rfl⟩ hA hP hD hK hS hl (fun o6 o9 o4 o5 o2 qa0 qa10 qa8 qa7 ca0 ca10 ca8 ca7 u6 u9 u4 u5 u2 H locs ls hP hD hK hS hl => ?_)
  have hP := vP_perm hP (List.Perm.append_left _ (vW_swap _ _ _))
  have hD := vD_perm hD (List.Perm.append_left _ (vW_swap _ _ _))
  have hK := vK_perm hK (vW_swap _ _ _)
  refine lp0_all (d := d + 55) (g0 := fun _ => none) (g10 := fun _ => none) (g8 := fun _ => none) (g7 := fun _ => none) hx hb hml hown hts hN hRf hA rfl (Nat.le_of_ble_eq_true rfl) (Nat.le_of_ble_eq_true rfl) (lv := [(0, .ref h0)]) rfl hP hD hK hS hl (fun d0 ud0 d1 ud1 d2 ud2 d3 ud3 H locs ls hP hD hK hS hl => ?_)
  refine lp10_all (d := d + 55) hx hb hml hown hts hN hRf hA rfl (Nat.le_of_ble_eq_true rfl) (Nat.le_of_ble_eq_true rfl) rfl hP hD hK hS hl (fun v0 uv0 v1 uv1 v2 uv2 v3 uv3 v4 uv4 v5 uv5 v6 uv6 v7 uv7 v8 uv8 v9 uv9 v10 uv10 v11 uv11 v12 uv12 v13 uv13 v14 uv14 v15 uv15 H locs ls hP hD hK hS hl => ?_)
  refine lp8_all (d := d + 55) hx hb hml hown hts hN hRf hA rfl (Nat.le_of_ble_eq_true rfl) (Nat.le_of_ble_eq_true rfl) rfl hP hD hK hS hl (fun t0 ut0 t1 ut1 t2 ut2 t3 ut3 t4 ut4 t5 ut5 H locs ls hP hD hK hS hl => ?_)
  refine lp7_all (d := d + 55) hx hb hml hown hts hN hRf hA rfl (Nat.le_of_ble_eq_true rfl) (Nat.le_of_ble_eq_true rfl) rfl hP hD hK hS hl (fun s0 us0 s1 us1 s2 us2 s3 us3 H locs ls hP hD hK hS hl => ?_)
  have hP : va_P Dg classes (mW Dg h0 o6 o9 o4 o5 o2 qa0 qa10 qa8 qa7 ca0 ca10 ca8 ca7 u6 u9 u4 u5 u2 (fun i => ([(d0, ud0), (d1, ud1), (d2, ud2), (d3, ud3)] : List (Nat × (List Nat × List ClassId))).getD i (0, [], [])) (fun i => ([(v0, uv0), (v1, uv1), (v2, uv2), (v3, uv3), (v4, uv4), (v5, uv5), (v6, uv6), (v7, uv7), (v8, uv8), (v9, uv9), (v10, uv10), (v11, uv11), (v12, uv12), (v13, uv13), (v14, uv14), (v15, uv15)] : List (Nat × (List Nat × List ClassId))).getD i (0, [], [])) (fun i => ([(t0, ut0), (t1, ut1), (t2, ut2), (t3, ut3), (t4, ut4), (t5, ut5)] : List (Nat × (List Nat × List ClassId))).getD i (0, [], [])) (fun i => ([(s0, us0), (s1, us1), (s2, us2), (s3, us3)] : List (Nat × (List Nat × List ClassId))).getD i (0, [], []))) H := hP
  have hD : va_D (xA B) (mW Dg h0 o6 o9 o4 o5 o2 qa0 qa10 qa8 qa7 ca0 ca10 ca8 ca7 u6 u9 u4 u5 u2 (fun i => ([(d0, ud0), (d1, ud1), (d2, ud2), (d3, ud3)] : List (Nat × (List Nat × List ClassId))).getD i (0, [], [])) (fun i => ([(v0, uv0), (v1, uv1), (v2, uv2), (v3, uv3), (v4, uv4), (v5, uv5), (v6, uv6), (v7, uv7), (v8, uv8), (v9, uv9), (v10, uv10), (v11, uv11), (v12, uv12), (v13, uv13), (v14, uv14), (v15, uv15)] : List (Nat × (List Nat × List ClassId))).getD i (0, [], [])) (fun i => ([(t0, ut0), (t1, ut1), (t2, ut2), (t3, ut3), (t4, ut4), (t5, ut5)] : List (Nat × (List Nat × List ClassId))).getD i (0, [], [])) (fun i => ([(s0, us0), (s1, us1), (s2, us2), (s3, us3)] : List (Nat × (List Nat × List ClassId))).getD i (0, [], []))) := hD
  have hK : va_K Dg classes (mK Dg ca0 ca10 ca8 ca7 u6 u9 u4 u5 u2 (fun i => ([(d0, ud0), (d1, ud1), (d2, ud2), (d3, ud3)] : List (Nat × (List Nat × List ClassId))).getD i (0, [], [])) (fun i => ([(v0, uv0), (v1, uv1), (v2, uv2), (v3, uv3), (v4, uv4), (v5, uv5), (v6, uv6), (v7, uv7), (v8, uv8), (v9, uv9), (v10, uv10), (v11, uv11), (v12, uv12), (v13, uv13), (v14, uv14), (v15, uv15)] : List (Nat × (List Nat × List ClassId))).getD i (0, [], [])) (fun i => ([(t0, ut0), (t1, ut1), (t2, ut2), (t3, ut3), (t4, ut4), (t5, ut5)] : List (Nat × (List Nat × List ClassId))).getD i (0, [], [])) (fun i => ([(s0, us0), (s1, us1), (s2, us2), (s3, us3)] : List (Nat × (List Nat × List ClassId))).getD i (0, [], []))) s := hK
  generalize (fun i => ([(d0, ud0), (d1, ud1), (d2, ud2), (d3, ud3)] : List (Nat × (List Nat × List ClassId))).getD i (0, [], [])) = dv at hP hD hK
  generalize (fun i => ([(v0, uv0), (v1, uv1), (v2, uv2), (v3, uv3), (v4, uv4), (v5, uv5), (v6, uv6), (v7, uv7), (v8, uv8), (v9, uv9), (v10, uv10), (v11, uv11), (v12, uv12), (v13, uv13), (v14, uv14), (v15, uv15)] : List (Nat × (List Nat × List ClassId))).getD i (0, [], [])) = vv at hP hD hK
  generalize (fun i => ([(t0, ut0), (t1, ut1), (t2, ut2), (t3, ut3), (t4, ut4), (t5, ut5)] : List (Nat × (List Nat × List ClassId))).getD i (0, [], [])) = tv at hP hD hK
  generalize (fun i => ([(s0, us0), (s1, us1), (s2, us2), (s3, us3)] : List (Nat × (List Nat × List ClassId))).getD i (0, [], [])) = sv at hP hD hK
  have hW := mx_W hP hD hK (hRO.kept hS.2.1 hBs) (hEX.kept hS.2.1) hST hN
  have h00 : mL L0 h0 o6 o9 o4 o5 o2 qa0 qa10 qa8 qa7 ca0 ca10 ca8 ca7 u6 u9 u4 u5 u2 dv vv tv sv 0 0 = h0 := rfl
  have h23 : mL L0 h0 o6 o9 o4 o5 o2 qa0 qa10 qa8 qa7 ca0 ca10 ca8 ca7 u6 u9 u4 u5 u2 dv vv tv sv 23 0 = o9 := rfl
  have h75 : mL L0 h0 o6 o9 o4 o5 o2 qa0 qa10 qa8 qa7 ca0 ca10 ca8 ca7 u6 u9 u4 u5 u2 dv vv tv sv 75 0 = L0 75 0 := rfl
  have h99 : mL L0 h0 o6 o9 o4 o5 o2 qa0 qa10 qa8 qa7 ca0 ca10 ca8 ca7 u6 u9 u4 u5 u2 dv vv tv sv 99 0 = 0 := rfl
  have eR : ∀ k i, xro k = true → mL L0 h0 o6 o9 o4 o5 o2 qa0 qa10 qa8 qa7 ca0 ca10 ca8 ca7 u6 u9 u4 u5 u2 dv vv tv sv k i = L0 k i := by
    intro k i hr
    rcases xro_c hr with rfl | rfl | rfl | rfl <;> rfl
  refine lv_aload_n (k := 0) (i := 0) hx hb d207 rfl (lv_at hl 1 rfl) ?_
  refine va_get (ci := 11) (N := 14) (T := TX11) (v := .ref o9) hx hb hts (xlay hcl) hown hK hP 0 rfl rfl 5 (by decide) (hts _ kg43) (fun _ h9 => h9) rfl d208 ?_
  refine va_ldcS hx hb hown (hST 0 (by decide)) d211 ?_
  generalize mL L0 h0 o6 o9 o4 o5 o2 qa0 qa10 qa8 qa7 ca0 ca10 ca8 ca7 u6 u9 u4 u5 u2 dv vv tv sv = L at hW h00 h23 h75 h99 eR
  rw [← h75]
  have gF : gFst (mS S0) := hF
  have gG : gStr (mS S0) := hG
  refine rawVa (d := d + 60) (idx := 78) (mi2 := m_Tokens_addAll) (k := 23) (i := 0) (ci := 9) (av := [.inr (.inr (75, 0))]) (c' := 0) (z' := 0) (rest := []) h23 ⟨hx, hb, hml, hown, hts⟩ hl.1 ⟨Nat.le_refl _, Nat.le_refl _⟩ hBs d213 (xmok_all (by decide)) (by decide) (xwd_mem (i := 423) (by decide +kernel)) rfl ⟨_, _, rfl⟩ (by decide +kernel) (Nat.zero_le _) (show 0 < xcn L 23 from (show 0 < 1 from Nat.one_pos)) (fun v hv => by rw [List.mem_singleton.mp hv]; exact (show 0 < 3 by decide)) hW hS ⟨Nat.le_of_ble_eq_true rfl, Nat.le_of_ble_eq_true rfl⟩ (ct_addAll (D := d + 56) (Q := fun r S' => r = none ∧ S' = fdC (mS S0) 0 fB 42) gF rfl ⟨rfl, rfl⟩) (fun r S1 L1 H locs hq hL1 hW hS => ?_)
  obtain ⟨rfl, hS1⟩ := hq
  have fr1 : Fr (fl [24, 24001]) (mS S0) S1 := by rw [hS1]; exact fdC_fr _ _ _ _
  refine lv_aload_n (k := 0) (i := 0) hx hb d216 rfl (lv_at hl 1 rfl) ?_
  have e00 : L1 0 0 = h0 := (hL1 0 0 (by decide)).trans h00
  refine rawGet (k := 0) (i := 0) (ci := 11) (b := 6) (o := some (25, 0, 0)) (N := 14) (T := TX11) e00 hx hb hown hts d217 rfl rfl hcl (by decide) kg52 (show 0 < xcn L1 0 from (show 0 < 1 from Nat.one_pos)) hW ?_
  refine rawVa (d := d + 60) (idx := 82) (mi2 := m_Reader_read) (k := 25) (i := 0) (ci := 4) (av := []) (c' := 0) (z' := 0) (rest := []) rfl ⟨hx, hb, hml, hown, hts⟩ hl.1 ⟨Nat.le_refl _, Nat.le_refl _⟩ hBs d220 (xmok_all (by decide)) (by decide) (xwd_mem (i := 479) (by decide +kernel)) rfl ⟨_, _, rfl⟩ (by decide +kernel) (Nat.zero_le _) (show 0 < xcn L1 25 from (show 0 < 1 from Nat.one_pos)) (fun v hv => by cases hv) hW hS ⟨Nat.le_of_ble_eq_true rfl, Nat.le_of_ble_eq_true rfl⟩ (ct_rdF (D := d) (Q := fun r S' => r = some (.inl (-1)) ∧ rdF S1 S') (gG.fr fr1 (by decide)) ⟨by rw [hS1]; rfl, by decide, fun j hj => by rw [hS1, fdC_at, if_pos (by omega)]; rfl⟩ (fun S2 h2 => ⟨rfl, h2⟩)) (fun r S2 L2 H locs hq hL2 hW hS => ?_)
  obtain ⟨rfl, hS2⟩ := hq
  refine lv_pop hx hb d223 rfl ?_
  have e00 : L2 0 0 = h0 := (hL2 0 0 (by decide)).trans e00
  refine lv_aload_n (k := 0) (i := 0) hx hb d224 rfl (lv_at hl 1 rfl) ?_
  refine rawGet (k := 0) (i := 0) (ci := 11) (b := 5) (o := some (23, 0, 0)) (N := 14) (T := TX11) e00 hx hb hown hts d225 rfl rfl hcl (by decide) kg43 (show 0 < xcn L2 0 from (show 0 < 1 from Nat.one_pos)) hW ?_
  refine rawVa (d := d + 60) (idx := 86) (mi2 := m_Tokens_clear) (k := 23) (i := 0) (ci := 9) (av := []) (c' := 0) (z' := 0) (rest := []) rfl ⟨hx, hb, hml, hown, hts⟩ hl.1 ⟨Nat.le_refl _, Nat.le_refl _⟩ hBs d228 (xmok_all (by decide)) (by decide) (xwd_mem (i := 633) (by decide +kernel)) rfl ⟨_, _, rfl⟩ (by decide +kernel) (Nat.zero_le _) (show 0 < xcn L2 23 from (show 0 < 1 from Nat.one_pos)) (fun v hv => by cases hv) hW hS ⟨Nat.le_of_ble_eq_true rfl, Nat.le_of_ble_eq_true rfl⟩ (ct_tClear (D := d + 60) (Q := fun r S' => r = none ∧ S' = xupd S2 23 0 1 0) ⟨rfl, rfl⟩) (fun r S3 L3 H locs hq hL3 hW hS => ?_)
  obtain ⟨rfl, hS3⟩ := hq
  have e00 : L3 0 0 = h0 := (hL3 0 0 (by decide)).trans e00
  refine lv_aload_n (k := 0) (i := 0) hx hb d231 rfl (lv_at hl 1 rfl) ?_
  refine rawGet (k := 0) (i := 0) (ci := 11) (b := 3) (o := some (16, 0, 0)) (N := 14) (T := TX11) e00 hx hb hown hts d232 rfl rfl hcl (by decide) kg30 (show 0 < xcn L3 0 from (show 0 < 1 from Nat.one_pos)) hW ?_
  refine lv_iconst (n := 0) (v := 0) hx hb d235 rfl ?_
  refine rawAld (k := 16) (i := 0) (n := 6) (rk := 17) (j := 0) (Cn := "MonsoonTrade$Text") rfl hx hb d236 rfl rfl (vi (n := 0) (N := 6) (by decide)) rfl (show 0 < xcn L3 16 from (show 0 < 1 from Nat.one_pos)) hW ?_
  refine lv_aload_n (k := 0) (i := 0) hx hb d237 rfl (lv_at hl 1 rfl) ?_
  refine rawGet (k := 0) (i := 0) (ci := 11) (b := 6) (o := some (25, 0, 0)) (N := 14) (T := TX11) e00 hx hb hown hts d238 rfl rfl hcl (by decide) kg52 (show 0 < xcn L3 0 from (show 0 < 1 from Nat.one_pos)) hW ?_
  have u5 : S3.1 25 0 3 = nI 5 := by rw [hS3]; exact hS2.2.1
  refine rawVa (d := d + 60) (idx := 89) (mi2 := m_Text_keep) (k := 17) (i := 0) (ci := 8) (av := [R0v]) (c' := 1) (z' := 160) (rest := []) rfl ⟨hx, hb, hml, hown, hts⟩ hl.1 ⟨Nat.le_refl _, Nat.le_refl _⟩ hBs d241 (xmok_all (by decide)) (by decide) (xwd_mem (i := 637) (by decide +kernel)) rfl ⟨_, _, rfl⟩ (by decide +kernel) (Nat.zero_le _) (show 0 < xcn L3 17 from (show 0 < 6 from by decide)) (fun v hv => by rw [List.mem_singleton.mp hv]; exact (show 0 < 1 by decide)) hW hS ⟨Nat.le_of_ble_eq_true rfl, Nat.le_of_ble_eq_true rfl⟩ (kp_C (d := d + 58) (Q := fun r S' => r = none ∧ S' = xcpy (kS S3 0 5) 27 0 0 19 0 0 3) (by decide) (by decide) u5 ⟨rfl, rfl⟩) (fun r S4 L4 H locs hq hL4 hW hS => ?_)
  obtain ⟨rfl, hS4⟩ := hq
  have e00 : L4 0 0 = h0 := (hL4 0 0 (by decide)).trans e00
  refine lv_aload_n (k := 0) (i := 0) hx hb d244 rfl (lv_at hl 1 rfl) ?_
  refine lv_iconst (n := 1) (v := 1) hx hb d245 rfl ?_
  refine rawPut (k := 0) (i := 0) (ci := 11) (b := 11) (ty := .int) e00 hx hb hown hts d246 rfl rfl hcl (by decide) kg93 rfl (by decide +kernel) rfl rfl rfl (show 0 < xcn L4 0 from (show 0 < 1 from Nat.one_pos)) hW hS (fun H locs hW hS => ?_)
  have hT : fTxt S1 (xupd S4 0 0 11 1) := by rw [hS4, hS3]; exact fTxt_of hS2
  refine W.widen (k := 126) (n := 1575) (Nat.le_of_ble_eq_true rfl) (Nat.le_of_ble_eq_true rfl) ?_
  exact W.vret hx hb hr (fun t ht hWm => ⟨⟨L4, _, rfl, by rw [ht]; exact hW.warm hWm, e00, (hL4 99 0 (by decide)).trans ((hL3 99 0 (by decide)).trans ((hL2 99 0 (by decide)).trans ((hL1 99 0 (by decide)).trans h99))), fun k i hk => by
    have k18 : k ≠ 18 := fun e => by rw [e] at hk; exact absurd hk (by decide)
    exact (hL4 k i k18).trans ((hL3 k i k18).trans ((hL2 k i k18).trans ((hL1 k i k18).trans (eR k i hk)))), S1, hS1, hT⟩, hS.F ht⟩) hS.2.2 d249 Bd.notSynchronized
