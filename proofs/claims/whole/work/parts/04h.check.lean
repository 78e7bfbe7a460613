/-! the step is sound -/
theorem xi1_s {st : List xV} {f : Int32 → List xV → Prop} (h : xi1 st f) : ∃ x t, st = .inl x :: t ∧ f x t := by
  unfold xi1 at h; split at h
  · exact ⟨_, _, rfl, h⟩
  · exact h.elim
theorem xi2_s {st : List xV} {f : Int32 → Int32 → List xV → Prop} (h : xi2 st f) : ∃ x y t, st = .inl y :: .inl x :: t ∧ f x y t := by
  unfold xi2 at h; split at h
  · exact ⟨_, _, _, rfl, h⟩
  · exact h.elim
theorem xj1_s {st : List xV} {f : Int64 → List xV → Prop} (h : xj1 st f) : ∃ x t, st = .inr (.inl x) :: t ∧ f x t := by
  unfold xj1 at h; split at h
  · exact ⟨_, _, rfl, h⟩
  · exact h.elim
theorem xj2_s {st : List xV} {f : Int64 → Int64 → List xV → Prop} (h : xj2 st f) : ∃ x y t, st = .inr (.inl y) :: .inr (.inl x) :: t ∧ f x y t := by
  unfold xj2 at h; split at h
  · exact ⟨_, _, _, rfl, h⟩
  · exact h.elim
theorem xij_s {st : List xV} {f : Int64 → Int32 → List xV → Prop} (h : xij st f) : ∃ x y t, st = .inl y :: .inr (.inl x) :: t ∧ f x y t := by
  unfold xij at h; split at h
  · exact ⟨_, _, _, rfl, h⟩
  · exact h.elim
theorem xp1_s {st : List xV} {f : Nat → Nat → List xV → Prop} (h : xp1 st f) : ∃ k i t, st = .inr (.inr (k, i)) :: t ∧ f k i t := by
  unfold xp1 at h; split at h
  · exact ⟨_, _, _, rfl, h⟩
  · exact h.elim
theorem xip_s {st : List xV} {f : Int32 → Nat → Nat → List xV → Prop} (h : xip st f) : ∃ j k i t, st = .inl j :: .inr (.inr (k, i)) :: t ∧ f j k i t := by
  unfold xip at h; split at h
  · exact ⟨_, _, _, _, rfl, h⟩
  · exact h.elim
theorem xiip_s {st : List xV} {f : Int32 → Int32 → Nat → Nat → List xV → Prop} (h : xiip st f) : ∃ x j k i t, st = .inl x :: .inl j :: .inr (.inr (k, i)) :: t ∧ f x j k i t := by
  unfold xiip at h; split at h
  · exact ⟨_, _, _, _, _, rfl, h⟩
  · exact h.elim
theorem xjip_s {st : List xV} {f : Int64 → Int32 → Nat → Nat → List xV → Prop} (h : xjip st f) : ∃ x j k i t, st = .inr (.inl x) :: .inl j :: .inr (.inr (k, i)) :: t ∧ f x j k i t := by
  unfold xjip at h; split at h
  · exact ⟨_, _, _, _, _, rfl, h⟩
  · exact h.elim
theorem xcpa_s {st : List xV} {f : Int32 → Int32 → Nat × Nat → Int32 → Nat × Nat → List xV → Prop} (h : xcpa st f) : ∃ n dp q sp q0 t, st = .inl n :: .inl dp :: .inr (.inr q) :: .inl sp :: .inr (.inr q0) :: t ∧ f n dp q sp q0 t := by
  unfold xcpa at h; split at h
  · exact ⟨_, _, _, _, _, _, rfl, h⟩
  · exact h.elim
theorem xgi_s {o : Option xV} {f : Int32 → Prop} (h : xgi o f) : ∃ x, o = some (.inl x) ∧ f x := by
  unfold xgi at h; split at h
  · exact ⟨_, rfl, h⟩
  · exact h.elim
theorem xgj_s {o : Option xV} {f : Int64 → Prop} (h : xgj o f) : ∃ x, o = some (.inr (.inl x)) ∧ f x := by
  unfold xgj at h; split at h
  · exact ⟨_, rfl, h⟩
  · exact h.elim
theorem xgp_s {o : Option xV} {f : Nat × Nat → Prop} (h : xgp o f) : ∃ x, o = some (.inr (.inr x)) ∧ f x := by
  unfold xgp at h; split at h
  · exact ⟨_, rfl, h⟩
  · exact h.elim
theorem xb_s {b : Bool} {P : Prop} (h : xb b P) : b = true ∧ P := by
  cases b
  · exact h.elim
  · exact ⟨rfl, h⟩
theorem xsob_s {s : XS} {f : Nat → List (Option (Nat × Nat × Nat)) → Prop} (h : xsob s f) : ∃ ci sl, s = .inl (ci, sl) ∧ f ci sl := by
  unfold xsob at h; split at h
  · exact ⟨_, _, rfl, h⟩
  · exact h.elim
theorem xsar_s {s : XS} {f : FieldType → Nat → Nat → Prop} (h : xsar s f) : ∃ ty n rk, s = .inr (ty, n, rk) ∧ f ty n rk := by
  unfold xsar at h; split at h
  · exact h.elim
  · exact ⟨_, _, _, rfl, h⟩
theorem xlk_s {f : Option (Nat × Nat × Nat) → Prop} : ∀ {sl : List (Option (Nat × Nat × Nat))} {b : Nat}, xlk sl b f → ∃ o, sl[b]? = some o ∧ f o
  | [], _, h => h.elim
  | o :: _, 0, h => ⟨o, rfl, h⟩
  | _ :: r, b + 1, h => by
    obtain ⟨o, h1, h2⟩ := xlk_s (sl := r) (b := b) h
    exact ⟨o, by simpa using h1, h2⟩
theorem xtk_s {f : List xV → List xV → Prop} : ∀ {n : Nat} {st acc : List xV}, xtk n st acc f → ∃ av rest, st = av.reverse ++ rest ∧ av.length = n ∧ f (av ++ acc) rest
  | 0, st, acc, h => ⟨[], st, rfl, rfl, h⟩
  | n + 1, [], acc, h => h.elim
  | n + 1, v :: st, acc, h => by
    obtain ⟨av, rest, h1, h2, h3⟩ := xtk_s (n := n) (st := st) (acc := v :: acc) h
    exact ⟨av ++ [v], rest, by simp [h1], by simp [h2], by simpa using h3⟩
theorem xrcv_s {av : List xV} {f : Nat → Nat → List xV → Prop} (h : xrcv av f) : ∃ k i r, av = .inr (.inr (k, i)) :: r ∧ f k i r := by
  unfold xrcv at h; split at h
  · exact ⟨_, _, _, rfl, h⟩
  · exact h.elim
theorem xsw_s {K : Nat → Prop} {x : Int32} {dflt : Nat} : ∀ {ts : List (Int32 × Nat)}, xsw K x dflt ts → (∃ (j : Nat) (q : Int32 × Nat), ts[j]? = some q ∧ x = q.1 ∧ (∀ (i : Nat) (p : Int32 × Nat), i < j → ts[i]? = some p → ¬ x = p.1) ∧ K q.2) ∨ ((∀ q ∈ ts, ¬ x = q.1) ∧ K dflt)
  | [], h => Or.inr ⟨fun _ h => (by cases h), h⟩
  | q :: r, h => by
    by_cases hx : x = q.1
    · exact Or.inl ⟨0, q, rfl, hx, fun i p hi => absurd hi (Nat.not_lt_zero i), h.1 hx⟩
    · rcases xsw_s (ts := r) (h.2 hx) with ⟨j, q2, h1, h2, h4, h3⟩ | ⟨h1, h2⟩
      · refine Or.inl ⟨j + 1, q2, by simpa using h1, h2, fun i p hi hp => ?_, h3⟩
        cases i with
        | zero => simp at hp; rw [← hp]; exact hx
        | succ i => exact h4 i p (by omega) (by simpa using hp)
      · exact Or.inr ⟨fun p hp => by
          rcases List.mem_cons.mp hp with e | hp
          · rw [e]; exact hx
          · exact h1 p hp, h2⟩
theorem xdn_s {d : Nat} {f : Nat → Prop} (h : xdn d f) : ∃ d', d = d' + 1 ∧ f d' := by
  cases d with
  | zero => exact h.elim
  | succ d => exact ⟨d, rfl, h⟩
def xtbl (pc a : Nat) (dflt lo hi : Int) (offs : List Int) (ts : List (Int32 × Nat)) : Bool :=
  Nat.beq ts.length offs.length && decide (hi = lo + offs.length - 1) && decide ((pc : Int) + dflt = (a : Int)) && (List.range offs.length).all (fun j => match ts[j]?, offs[j]? with
    | some q, some o => decide (q.1.toInt = lo + j) && decide ((pc : Int) + o = (q.2 : Int))
    | _, _ => false)
def xlkp (pc a : Nat) (dflt : Int) (ps : List (Int × Int)) (ts : List (Int32 × Nat)) : Bool :=
  Nat.beq ts.length ps.length && decide ((pc : Int) + dflt = (a : Int)) && (ps.zip (ps.drop 1)).all (fun (a, next) => a.1 < next.1) && (List.range ps.length).all (fun j => match ts[j]?, ps[j]? with
    | some q, some o => decide (q.1.toInt = o.1) && decide ((pc : Int) + o.2 = (q.2 : Int))
    | _, _ => false)
def xfl1 (mi idx a b wi : Nat) (v : Int32) : Bool := match classes[a]? with
  | some q => Nat.ble (b + 1) q.2.2 && (bif decide (v = 0) then xwd wi (.fieldLink (mt mi).1.cls idx (q.2.1 b).1 (q.2.1 b).2.1 (q.2.1 b).2.2.1) else xwn wi (.fieldLinkNest (mt mi).1.cls idx (q.2.1 b).1 (q.2.1 b).2.1 (q.2.1 b).2.2.1 "MonsoonTrade"))
  | none => false
def xfl2 (a b : Nat) (ts : List (Int32 × Nat)) : Bool := match classes[a]? with
  | some q => decide ((q.2.1 b).2.2.2 = false) && decide (parseFieldDescriptor (q.2.1 b).2.2.1 = some (bif ts.isEmpty then .int else .boolean))
  | none => false
def xml1 (mi idx a wi : Nat) (v : Int32) : Bool := Nat.ble (a + 1) 201 && (bif decide (v = 0) then xwd wi (.methodLink (mt mi).1.cls idx (mt a).1) else xwn wi (.methodLinkNest (mt mi).1.cls idx (mt a).1 "MonsoonTrade"))
def okO (mi pc : Nat) (ins : Instr) (len a b : Nat) (v : Int32) (w : Int64) (ts : List (Int32 × Nat)) (wi : Nat) : Bool := match ins with
  | .iconst n => Nat.beq len 1 && decide (Int32.ofInt n = v)
  | .bipush n => Nat.beq len 2 && decide ((Int8.ofInt n).toInt32 = v)
  | .sipush n => Nat.beq len 3 && decide ((Int16.ofInt n).toInt32 = v)
  | .ldc i => Nat.beq len 2 && (match a with
    | 0 => xwd wi (.constant (mt mi).1.cls i v)
    | 100 => Nat.ble (b + 1) 3 && (decide ((mt mi).1.cls = (xsk b).1) && decide (i = (xsk b).2.1))
    | _ => true)
  | .ldc_w i => Nat.beq len 3 && (!(Nat.beq a 0) || xwd wi (.constant (mt mi).1.cls i v))
  | .lconst n => Nat.beq len 1 && decide (Int64.ofNat (n : Nat) = w)
  | .ldc2_w i => Nat.beq len 3 && xwd wi (.constantLong (mt mi).1.cls i w)
  | .iload i => Nat.beq len 2 && Nat.beq i a
  | .lload i => Nat.beq len 2 && Nat.beq i a
  | .aload i => Nat.beq len 2 && Nat.beq i a
  | .iload_n k => Nat.beq len 1 && Nat.beq k a
  | .lload_n k => Nat.beq len 1 && Nat.beq k a
  | .aload_n k => Nat.beq len 1 && Nat.beq k a
  | .istore i => Nat.beq len 2 && Nat.beq i a && Nat.ble (a + 1) (xml mi)
  | .astore i => Nat.beq len 2 && Nat.beq i a && Nat.ble (a + 1) (xml mi)
  | .lstore i => Nat.beq len 2 && Nat.beq i a && Nat.ble (a + 2) (xml mi)
  | .istore_n k => Nat.beq len 1 && Nat.beq k a && Nat.ble (a + 1) (xml mi)
  | .astore_n k => Nat.beq len 1 && Nat.beq k a && Nat.ble (a + 1) (xml mi)
  | .lstore_n k => Nat.beq len 1 && Nat.beq k a && Nat.ble (a + 2) (xml mi)
  | .iinc i n => Nat.beq len 3 && Nat.beq i a && Nat.ble (a + 1) (xml mi) && decide (Int32.ofInt n = v)
  | .ifCond _ off => Nat.beq len 3 && decide ((pc : Int) + off = (a : Int))
  | .if_icmp _ off => Nat.beq len 3 && decide ((pc : Int) + off = (a : Int))
  | .goto off => decide ((pc : Int) + off = (a : Int)) && Nat.beq len 3
  | .tableswitch dflt lo hi offs => xtbl pc a dflt lo hi offs.toList ts
  | .lookupswitch dflt ps => xlkp pc a dflt ps.toList ts
  | .getfield i => Nat.beq len 3 && (bif Nat.beq a 99 then xwd wi (.fieldLink (mt mi).1.cls i "java/lang/String" (bif Nat.beq b 0 then "value" else "coder") (bif Nat.beq b 0 then "[B" else "B")) else xfl1 mi i a b wi v)
  | .putfield i => Nat.beq len 3 && xfl1 mi i a b wi v && xfl2 a b ts
  | .getstatic i => Nat.beq len 3 && (match a with
    | 34 => xwn wi (.fieldLinkNest (mt mi).1.cls i "MonsoonTrade" "UNDER" "[I" "MonsoonTrade")
    | 2 => xwd wi (.fieldLink (mt mi).1.cls i "java/lang/String" "COMPACT_STRINGS" "Z")
    | _ => true)
  | .ireturn => Nat.beq len 1 && (match a with
    | 0 => decide (xrt mi = some .int)
    | 1 => decide (xrt mi = some .boolean)
    | 3 => decide (xrt mi = some .char)
    | 4 => decide (xrt mi = some .byte)
    | _ => true)
  | .lreturn => Nat.beq len 1 && decide (xrt mi = some .long)
  | .return_ => Nat.beq len 1 && decide (xrt mi = none)
  | .invokestatic i => Nat.beq len 3 && (match a with
    | 1000 => xwd wi (.methodLink (mt mi).1.cls i arraycopyName)
    | 1001 => xwd wi (.methodLink (mt mi).1.cls i Lib.Math.max.name)
    | 1002 => xwd wi (.methodLink (mt mi).1.cls i Lib.Math.min.name)
    | 1003 => xwd wi (.methodLink (mt mi).1.cls i Lib.Math.abs.name)
    | _ => Nat.ble 997 a || (xml1 mi i a wi v && xst a && decide ((parseMethodDescriptor (mt a).1.desc).map (fun d => d.parameters.length) = some b)))
  | .invokevirtual i => Nat.beq len 3 && (Nat.ble 997 a || (xml1 mi i a wi v && !(xst a) && Nat.ble 1 b && decide ((parseMethodDescriptor (mt a).1.desc).map (fun d => d.parameters.length) = some (b - 1)) && (bif Nat.beq (mt a).2.2.2.2.2.2.2.2.2.2 99 then decide ((mt a).1.cls = "java/lang/String") else decide ((classes[(mt a).2.2.2.2.2.2.2.2.2.2]?).map (fun q => q.1) = some (mt a).1.cls))))
  | .new _ => true
  | .invokespecial _ => true
  | .anewarray _ => true
  | .newarray _ => true
  | _ => Nat.beq len 1

