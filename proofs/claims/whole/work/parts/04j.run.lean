/-! MANY STEPS: until a stop or a branch that the reader decides -/
def okI (mi pc : Nat) (r : RI) : Bool := decide (decode (xby mi) pc = .ok (r.2.1, r.2.2.1)) && okO mi pc r.2.1 r.2.2.1 r.2.2.2.1 r.2.2.2.2.1 r.2.2.2.2.2.1 r.2.2.2.2.2.2.1 r.2.2.2.2.2.2.2.1 r.2.2.2.2.2.2.2.2
def pgok (mi : Nat) : Prop := ∀ pc, pc < (mt mi).2.2.1 → (bif Nat.beq (pg mi pc).1 pc then okI mi pc (pg mi pc) else true) = true
theorem V_step {d c z mi pc : Nat} {lv : List (Option xV)} {st : List xV} {S : xS} {Q : xQ} (hp : pgok mi) (h : stp d mi pc lv st S Q (fun pc lv st S => V d c z mi pc lv st S Q)) : V d c z mi pc lv st S Q := by
  have hp := hp pc
  unfold stp at h
  generalize pg mi pc = r at hp h
  obtain ⟨p, ins, len, a, b, v, w, ts, wi⟩ := r
  obtain ⟨h1, hs⟩ := xb_s h
  simp only [Bool.and_eq_true] at h1
  have hpc : p = pc := Nat.eq_of_beq_eq_true h1.1
  subst hpc
  have h2 := hp (Nat.le_of_ble_eq_true h1.2)
  dsimp only at h2
  rw [h1.1] at h2
  have h2 : okI mi p (p, ins, len, a, b, v, w, ts, wi) = true := h2
  unfold okI at h2
  simp only [Bool.and_eq_true, decide_eq_true_eq] at h2
  exact V_stepI _ _ _ _ _ _ _ _ h2.1 h2.2 hs
def xstop (pc : Nat) : List Nat → Bool
  | [] => false
  | q :: r => Nat.beq q pc || xstop pc r
def wpx (d c z mi : Nat) (Q : xQ) (stops : List Nat) : Nat → xK
  | 0, pc, lv, st, S => V d c z mi pc lv st S Q
  | n + 1, pc, lv, st, S => match xstop pc stops with
    | true => V d c z mi pc lv st S Q
    | false => stp d mi pc lv st S Q (wpx d c z mi Q stops n)
theorem CT_mono' {d c z mi2 : Nat} {av : List xV} {S : xS} {Q Q' : xQ} (hq : ∀ r S', Q r S' → Q' r S') (h : CT d c z mi2 av S Q) : CT d c z mi2 av S Q' := h.mono hq

theorem xlk_m {f f' : Option (Nat × Nat × Nat) → Prop} (hf : ∀ o, f o → f' o) : ∀ {sl : List (Option (Nat × Nat × Nat))} {b : Nat}, xlk sl b f → xlk sl b f'
  | [], _, h => h
  | o :: _, 0, h => hf o h
  | _ :: r, b + 1, h => xlk_m hf (sl := r) (b := b) h
theorem xtk_m {f f' : List xV → List xV → Prop} (hf : ∀ a r, f a r → f' a r) : ∀ {n : Nat} {st acc : List xV}, xtk n st acc f → xtk n st acc f'
  | 0, st, acc, h => hf _ _ h
  | n + 1, [], acc, h => h
  | n + 1, v :: st, acc, h => xtk_m hf (n := n) (st := st) (acc := v :: acc) h
theorem xi1_m {a0 : List xV} {f f' : Int32 → List xV → Prop} (hf : ∀ x t, f x t → f' x t) (h : xi1 a0 f) : xi1 a0 f' := by
  unfold xi1 at h ⊢
  split at h <;> first | exact hf _ _ h | exact h.elim
theorem xi2_m {a0 : List xV} {f f' : Int32 → Int32 → List xV → Prop} (hf : ∀ x y t, f x y t → f' x y t) (h : xi2 a0 f) : xi2 a0 f' := by
  unfold xi2 at h ⊢
  split at h <;> first | exact hf _ _ _ h | exact h.elim
theorem xp1_m {a0 : List xV} {f f' : Nat → Nat → List xV → Prop} (hf : ∀ k i t, f k i t → f' k i t) (h : xp1 a0 f) : xp1 a0 f' := by
  unfold xp1 at h ⊢
  split at h <;> first | exact hf _ _ _ h | exact h.elim
theorem xip_m {a0 : List xV} {f f' : Int32 → Nat → Nat → List xV → Prop} (hf : ∀ j k i t, f j k i t → f' j k i t) (h : xip a0 f) : xip a0 f' := by
  unfold xip at h ⊢
  split at h <;> first | exact hf _ _ _ _ h | exact h.elim
theorem xiip_m {a0 : List xV} {f f' : Int32 → Int32 → Nat → Nat → List xV → Prop} (hf : ∀ x j k i t, f x j k i t → f' x j k i t) (h : xiip a0 f) : xiip a0 f' := by
  unfold xiip at h ⊢
  split at h <;> first | exact hf _ _ _ _ _ h | exact h.elim
theorem xjip_m {a0 : List xV} {f f' : Int64 → Int32 → Nat → Nat → List xV → Prop} (hf : ∀ x j k i t, f x j k i t → f' x j k i t) (h : xjip a0 f) : xjip a0 f' := by
  unfold xjip at h ⊢
  split at h <;> first | exact hf _ _ _ _ _ h | exact h.elim
theorem xcpa_m {a0 : List xV} {f f' : Int32 → Int32 → Nat × Nat → Int32 → Nat × Nat → List xV → Prop} (hf : ∀ n dp q sp q0 t, f n dp q sp q0 t → f' n dp q sp q0 t) (h : xcpa a0 f) : xcpa a0 f' := by
  unfold xcpa at h ⊢
  split at h <;> first | exact hf _ _ _ _ _ _ h | exact h.elim
theorem xsob_m {a0 : XS} {f f' : Nat → List (Option (Nat × Nat × Nat)) → Prop} (hf : ∀ c l, f c l → f' c l) (h : xsob a0 f) : xsob a0 f' := by
  unfold xsob at h ⊢
  split at h <;> first | exact hf _ _ h | exact h.elim
theorem xsar_m {a0 : XS} {f f' : FieldType → Nat → Nat → Prop} (hf : ∀ ty n rk, f ty n rk → f' ty n rk) (h : xsar a0 f) : xsar a0 f' := by
  unfold xsar at h ⊢
  split at h <;> first | exact hf _ _ _ h | exact h.elim
theorem xrcv_m {a0 : List xV} {f f' : Nat → Nat → List xV → Prop} (hf : ∀ k i r, f k i r → f' k i r) (h : xrcv a0 f) : xrcv a0 f' := by
  unfold xrcv at h ⊢
  split at h <;> first | exact hf _ _ _ h | exact h.elim
theorem xdn_m {a0 : Nat} {f f' : Nat → Prop} (hf : ∀ d, f d → f' d) (h : xdn a0 f) : xdn a0 f' := by
  unfold xdn at h ⊢
  split at h <;> first | exact hf _ h | exact h.elim
theorem xsw_m {K K' : Nat → Prop} (hK : ∀ p, K p → K' p) {x : Int32} {dflt : Nat} : ∀ {ts : List (Int32 × Nat)}, xsw K x dflt ts → xsw K' x dflt ts
  | [], h => hK _ h
  | q :: r, h => ⟨fun hx => hK _ (h.1 hx), fun hx => xsw_m hK (h.2 hx)⟩
theorem xcmp_m {o : Jvm.ClassFile.Cond} {x y : Int32} {a b a' b' : Prop} (ha : a → a') (hb : b → b') (h : xcmp o x y a b) : xcmp o x y a' b' := by
  cases o <;> exact ⟨fun q => ha (h.1 q), fun q => hb (h.2 q)⟩
theorem xb_m {b : Bool} {P P' : Prop} (hP : P → P') (h : xb b P) : xb b P' := by
  cases b
  · exact h
  · exact hP h
set_option maxHeartbeats 4000000 in
theorem stpI_m {d mi : Nat} {lv : List (Option xV)} {st : List xV} {S : xS} {Q : xQ} {K K' : xK} (hK : ∀ pc lv st S, K pc lv st S → K' pc lv st S) (ins : Instr) (a b : Nat) (v : Int32) (w : Int64) (ts : List (Int32 × Nat)) (np : Nat) (h : stpI d mi lv st S Q K ins a b v w ts np) : stpI d mi lv st S Q K' ins a b v w ts np := by
  cases ins with
  | iconst n =>
    dsimp only [stpI] at h ⊢
    exact hK _ _ _ _ h
  | bipush n =>
    dsimp only [stpI] at h ⊢
    exact hK _ _ _ _ h
  | sipush n =>
    dsimp only [stpI] at h ⊢
    exact hK _ _ _ _ h
  | lconst n =>
    dsimp only [stpI] at h ⊢
    exact hK _ _ _ _ h
  | ldc2_w n =>
    dsimp only [stpI] at h ⊢
    exact hK _ _ _ _ h
  | goto o =>
    dsimp only [stpI] at h ⊢
    exact hK _ _ _ _ h
  | ldc_w n =>
    dsimp only [stpI] at h ⊢
    exact xb_m (hK _ _ _ _) h
  | ldc n =>
    dsimp only [stpI] at h ⊢
    split at h <;> first | exact hK _ _ _ _ h | exact h.elim
  | getstatic n =>
    dsimp only [stpI] at h ⊢
    split at h <;> first | exact hK _ _ _ _ h | exact h.elim
  | iload i =>
    dsimp only [stpI] at h ⊢
    obtain ⟨x, e, g⟩ := xgi_s h
    rw [e]
    exact hK _ _ _ _ g
  | iload_n i =>
    dsimp only [stpI] at h ⊢
    obtain ⟨x, e, g⟩ := xgi_s h
    rw [e]
    exact hK _ _ _ _ g
  | lload i =>
    dsimp only [stpI] at h ⊢
    obtain ⟨x, e, g⟩ := xgj_s h
    rw [e]
    exact hK _ _ _ _ g
  | lload_n i =>
    dsimp only [stpI] at h ⊢
    obtain ⟨x, e, g⟩ := xgj_s h
    rw [e]
    exact hK _ _ _ _ g
  | aload i =>
    dsimp only [stpI] at h ⊢
    obtain ⟨x, e, g⟩ := xgp_s h
    rw [e]
    exact hK _ _ _ _ g
  | aload_n i =>
    dsimp only [stpI] at h ⊢
    obtain ⟨x, e, g⟩ := xgp_s h
    rw [e]
    exact hK _ _ _ _ g
  | iinc i n =>
    dsimp only [stpI] at h ⊢
    obtain ⟨x, e, g⟩ := xgi_s h
    rw [e]
    exact hK _ _ _ _ g
  | istore i =>
    dsimp only [stpI] at h ⊢
    obtain ⟨x, t, e, g⟩ := xi1_s h
    subst e
    exact hK _ _ _ _ g
  | istore_n i =>
    dsimp only [stpI] at h ⊢
    obtain ⟨x, t, e, g⟩ := xi1_s h
    subst e
    exact hK _ _ _ _ g
  | ineg =>
    dsimp only [stpI] at h ⊢
    obtain ⟨x, t, e, g⟩ := xi1_s h
    subst e
    exact hK _ _ _ _ g
  | i2l =>
    dsimp only [stpI] at h ⊢
    obtain ⟨x, t, e, g⟩ := xi1_s h
    subst e
    exact hK _ _ _ _ g
  | i2b =>
    dsimp only [stpI] at h ⊢
    obtain ⟨x, t, e, g⟩ := xi1_s h
    subst e
    exact hK _ _ _ _ g
  | i2s =>
    dsimp only [stpI] at h ⊢
    obtain ⟨x, t, e, g⟩ := xi1_s h
    subst e
    exact hK _ _ _ _ g
  | i2c =>
    dsimp only [stpI] at h ⊢
    obtain ⟨x, t, e, g⟩ := xi1_s h
    subst e
    exact hK _ _ _ _ g
  | lstore i =>
    dsimp only [stpI] at h ⊢
    obtain ⟨x, t, e, g⟩ := xj1_s h
    subst e
    exact hK _ _ _ _ g
  | lstore_n i =>
    dsimp only [stpI] at h ⊢
    obtain ⟨x, t, e, g⟩ := xj1_s h
    subst e
    exact hK _ _ _ _ g
  | l2i =>
    dsimp only [stpI] at h ⊢
    obtain ⟨x, t, e, g⟩ := xj1_s h
    subst e
    exact hK _ _ _ _ g
  | astore i =>
    dsimp only [stpI] at h ⊢
    obtain ⟨k, i, t, e, g⟩ := xp1_s h
    subst e
    exact hK _ _ _ _ g
  | astore_n i =>
    dsimp only [stpI] at h ⊢
    obtain ⟨k, i, t, e, g⟩ := xp1_s h
    subst e
    exact hK _ _ _ _ g
  | iadd =>
    dsimp only [stpI] at h ⊢
    obtain ⟨x, y, t, e, g⟩ := xi2_s h
    subst e
    exact hK _ _ _ _ g
  | isub =>
    dsimp only [stpI] at h ⊢
    obtain ⟨x, y, t, e, g⟩ := xi2_s h
    subst e
    exact hK _ _ _ _ g
  | imul =>
    dsimp only [stpI] at h ⊢
    obtain ⟨x, y, t, e, g⟩ := xi2_s h
    subst e
    exact hK _ _ _ _ g
  | iand =>
    dsimp only [stpI] at h ⊢
    obtain ⟨x, y, t, e, g⟩ := xi2_s h
    subst e
    exact hK _ _ _ _ g
  | ishr =>
    dsimp only [stpI] at h ⊢
    obtain ⟨x, y, t, e, g⟩ := xi2_s h
    subst e
    exact hK _ _ _ _ g
  | idiv =>
    dsimp only [stpI] at h ⊢
    obtain ⟨x, y, t, e, g⟩ := xi2_s h
    subst e
    exact ⟨g.1, hK _ _ _ _ g.2⟩
  | irem =>
    dsimp only [stpI] at h ⊢
    obtain ⟨x, y, t, e, g⟩ := xi2_s h
    subst e
    exact ⟨g.1, hK _ _ _ _ g.2⟩
  | ladd =>
    dsimp only [stpI] at h ⊢
    obtain ⟨x, y, t, e, g⟩ := xj2_s h
    subst e
    exact hK _ _ _ _ g
  | lsub =>
    dsimp only [stpI] at h ⊢
    obtain ⟨x, y, t, e, g⟩ := xj2_s h
    subst e
    exact hK _ _ _ _ g
  | lmul =>
    dsimp only [stpI] at h ⊢
    obtain ⟨x, y, t, e, g⟩ := xj2_s h
    subst e
    exact hK _ _ _ _ g
  | land =>
    dsimp only [stpI] at h ⊢
    obtain ⟨x, y, t, e, g⟩ := xj2_s h
    subst e
    exact hK _ _ _ _ g
  | lor =>
    dsimp only [stpI] at h ⊢
    obtain ⟨x, y, t, e, g⟩ := xj2_s h
    subst e
    exact hK _ _ _ _ g
  | lcmp =>
    dsimp only [stpI] at h ⊢
    obtain ⟨x, y, t, e, g⟩ := xj2_s h
    subst e
    exact hK _ _ _ _ g
  | ldiv =>
    dsimp only [stpI] at h ⊢
    obtain ⟨x, y, t, e, g⟩ := xj2_s h
    subst e
    exact ⟨g.1, hK _ _ _ _ g.2⟩
  | lshl =>
    dsimp only [stpI] at h ⊢
    obtain ⟨x, y, t, e, g⟩ := xij_s h
    subst e
    exact hK _ _ _ _ g
  | lshr =>
    dsimp only [stpI] at h ⊢
    obtain ⟨x, y, t, e, g⟩ := xij_s h
    subst e
    exact hK _ _ _ _ g
  | dup =>
    dsimp only [stpI] at h ⊢
    cases st with
    | nil => exact h
    | cons u t => exact xb_m (hK _ _ _ _) h
  | pop =>
    dsimp only [stpI] at h ⊢
    cases st with
    | nil => exact h
    | cons u t => exact xb_m (hK _ _ _ _) h
  | dup2 =>
    dsimp only [stpI] at h ⊢
    cases st with
    | nil => exact h
    | cons u t =>
      cases t with
      | nil => exact h
      | cons u2 t => exact xb_m (hK _ _ _ _) h
  | ifCond o off =>
    dsimp only [stpI] at h ⊢
    obtain ⟨x, t, e, g⟩ := xi1_s h
    subst e
    exact xcmp_m (hK _ _ _ _) (hK _ _ _ _) g
  | if_icmp o off =>
    dsimp only [stpI] at h ⊢
    obtain ⟨x, y, t, e, g⟩ := xi2_s h
    subst e
    exact xcmp_m (hK _ _ _ _) (hK _ _ _ _) g
  | tableswitch p q r s =>
    dsimp only [stpI] at h ⊢
    obtain ⟨x, t, e, g⟩ := xi1_s h
    subst e
    exact xsw_m (fun p => hK p _ _ _) g
  | lookupswitch p q =>
    dsimp only [stpI] at h ⊢
    obtain ⟨x, t, e, g⟩ := xi1_s h
    subst e
    exact xsw_m (fun p => hK p _ _ _) g
  | getfield i =>
    dsimp only [stpI] at h ⊢
    exact xp1_m (fun k i t => xsob_m (fun ci sl => xb_m (xlk_m (fun o => hK _ _ _ _)))) h
  | putfield i =>
    dsimp only [stpI] at h ⊢
    refine xip_m (fun x k i t => xsob_m (fun ci sl => xb_m (xlk_m (fun o ho => ?_)))) h
    cases o with
    | some q => exact ho
    | none =>
      cases ts with
      | nil => exact hK _ _ _ _ ho
      | cons t0 ts => exact ⟨ho.1, hK _ _ _ _ ho.2⟩
  | iaload =>
    dsimp only [stpI] at h ⊢
    refine xip_m (fun j k i t => xsar_m (fun ty n rk q => ?_)) h
    cases ty <;> first | exact q | exact ⟨q.1, hK _ _ _ _ q.2⟩
  | caload =>
    dsimp only [stpI] at h ⊢
    refine xip_m (fun j k i t => xsar_m (fun ty n rk q => ?_)) h
    cases ty <;> first | exact q | exact ⟨q.1, hK _ _ _ _ q.2⟩
  | laload =>
    dsimp only [stpI] at h ⊢
    refine xip_m (fun j k i t => xsar_m (fun ty n rk q => ?_)) h
    cases ty <;> first | exact q | exact ⟨q.1, hK _ _ _ _ q.2⟩
  | baload =>
    dsimp only [stpI] at h ⊢
    refine xip_m (fun j k i t => xsar_m (fun ty n rk q => ?_)) h
    cases ty <;> first | exact q | exact ⟨q.1, hK _ _ _ _ q.2⟩
  | aaload =>
    dsimp only [stpI] at h ⊢
    refine xip_m (fun j k i t => xsar_m (fun ty n rk q => ?_)) h
    cases ty <;> first | exact q | exact xb_m (fun q => ⟨q.1, hK _ _ _ _ q.2⟩) q
  | arraylength =>
    dsimp only [stpI] at h ⊢
    exact xp1_m (fun k i t => xsar_m (fun ty n rk => hK _ _ _ _)) h
  | iastore =>
    dsimp only [stpI] at h ⊢
    refine xiip_m (fun x j k i t => xsar_m (fun ty n rk => xb_m (fun q => ?_))) h
    cases ty <;> first | exact q | exact ⟨q.1, hK _ _ _ _ q.2⟩
  | bastore =>
    dsimp only [stpI] at h ⊢
    refine xiip_m (fun x j k i t => xsar_m (fun ty n rk => xb_m (fun q => ?_))) h
    cases ty <;> first | exact q | exact ⟨q.1, hK _ _ _ _ q.2⟩
  | lastore =>
    dsimp only [stpI] at h ⊢
    refine xjip_m (fun x j k i t => xsar_m (fun ty n rk => xb_m (fun q => ?_))) h
    cases ty <;> first | exact q | exact ⟨q.1, hK _ _ _ _ q.2⟩
  | ireturn =>
    dsimp only [stpI] at h ⊢
    exact h
  | lreturn =>
    dsimp only [stpI] at h ⊢
    exact h
  | return_ =>
    dsimp only [stpI] at h ⊢
    exact h
  | invokestatic i =>
    dsimp only [stpI] at h ⊢
    refine xdn_m (fun d g => ?_) h
    split at g
    · exact xtk_m (fun av rest q => xb_m (fun z => z.mono (fun r S => hK _ _ _ _)) q) g
    · split at g
      · refine xcpa_m (fun n dp q sp q0 t => xb_m (xsar_m (fun ty0 n0 r0 => xsar_m (fun ty n1 r1 => xb_m (fun g5 => ?_))))) g
        cases ty0 <;> first | exact g5 | (cases ty <;> first | exact g5 | exact ⟨g5.1, g5.2.1, g5.2.2.1, g5.2.2.2.1, g5.2.2.2.2.1, hK _ _ _ _ g5.2.2.2.2.2⟩)
      · exact xi2_m (fun x y t => xb_m (hK _ _ _ _)) g
      · exact xi2_m (fun x y t => xb_m (hK _ _ _ _)) g
      · exact xi1_m (fun x t => xb_m (hK _ _ _ _)) g
      · exact g.elim
  | invokevirtual i =>
    dsimp only [stpI] at h ⊢
    exact xdn_m (fun d => xtk_m (fun av rest => xrcv_m (fun k i r => xsob_m (fun ci sl => xb_m (xb_m (fun z => z.mono (fun r S => hK _ _ _ _))))))) h
  | _ => exact h
theorem stp_m {d mi pc : Nat} {lv : List (Option xV)} {st : List xV} {S : xS} {Q : xQ} {K K' : xK} (hK : ∀ pc lv st S, K pc lv st S → K' pc lv st S) (h : stp d mi pc lv st S Q K) : stp d mi pc lv st S Q K' := by
  unfold stp at h ⊢
  generalize pg mi pc = r at h ⊢
  obtain ⟨p, ins, len, a, b, v, w, ts, wi⟩ := r
  exact xb_m (stpI_m hK _ _ _ _ _ _ _) h
theorem wpx_V {d c z mi : Nat} {Q : xQ} {stops : List Nat} (hp : pgok mi) : ∀ (n pc : Nat) (lv : List (Option xV)) (st : List xV) (S : xS), wpx d c z mi Q stops n pc lv st S → V d c z mi pc lv st S Q
  | 0, _, _, _, _, h => h
  | n + 1, pc, lv, st, S, h => by
    unfold wpx at h
    split at h
    · exact h
    · exact V_step hp (stp_m (wpx_V hp n) h)
/-- from here on by computing, up to the stops -/
theorem V_go {d c z mi pc : Nat} {lv : List (Option xV)} {st : List xV} {S : xS} {Q : xQ} (hp : pgok mi) (stops : List Nat) (n : Nat) (h : stp d mi pc lv st S Q (wpx d c z mi Q stops n)) : V d c z mi pc lv st S Q := V_step hp (stp_m (wpx_V hp n) h)
theorem V.mono {d c z mi pc : Nat} {lv : List (Option xV)} {st : List xV} {S : xS} {Q Q' : xQ} (hq : ∀ r S', Q r S' → Q' r S') (h : V d c z mi pc lv st S Q) : V d c z mi pc lv st S Q' := by
  intro p l e R s m args below meth c0 H locs ls cells slots mc ms D B L0 L C hc hz hRc hRs hB hL hW hS hlv hst hl T hT X
  obtain ⟨t, h1, o, h2, h3, ⟨⟨r, S', L', k1, k2, k3, k4, k5⟩, g6⟩, g7⟩ := h p l e R s m args below meth c0 H locs ls cells slots mc ms D B L0 L C hc hz hRc hRs hB hL hW hS hlv hst hl T hT X
  exact ⟨t, h1, o, h2, h3, ⟨⟨r, S', L', k1, k2, hq r S' k3, k4, k5⟩, g6⟩, g7⟩

