/-! THE ABSTRACT MACHINE: values are ints, longs and references (kind, number); the store is a function of kind, number and place; V is the judgement, CT a contract. -/
abbrev xV : Type := Int32 ⊕ Int64 ⊕ (Nat × Nat)
abbrev xS : Type := (Nat → Nat → Nat → Int32) × (Nat → Nat → Nat → Int64)
abbrev xL : Type := Nat → Nat → Nat
def xcv (L : xL) (v : xV) : Value := match v with
  | .inl x => .int x
  | .inr (.inl x) => .long x
  | .inr (.inr q) => .ref (L q.1 q.2)
/-- how many cells of a kind live: the model's kinds (36 .. 74) only where the mark L 99 0 is 1 -/
def xcn (L : xL) (k : Nat) : Nat := cond (Nat.ble k 35 || (Nat.ble 75 k || Nat.beq (L 99 0) 1)) (xcnt k) 0
theorem xcn_le {L : xL} {k i : Nat} (h : i < xcn L k) : i < xcnt k := by
  unfold xcn at h
  cases hb : (Nat.ble k 35 || (Nat.ble 75 k || Nat.beq (L 99 0) 1)) with
  | true => rw [hb] at h; exact h
  | false => rw [hb] at h; exact absurd h (Nat.not_lt_zero _)
theorem xcn_to {L : xL} {k k' i i' : Nat} (h : i < xcn L k) (hkk : (!(Nat.ble k 35) || Nat.ble k' 35) = true) (hkk2 : (!(Nat.ble 75 k) || Nat.ble 75 k') = true) (h' : i' < xcnt k') : i' < xcn L k' := by
  unfold xcn at h ⊢
  cases hb : (Nat.ble k' 35 || (Nat.ble 75 k' || Nat.beq (L 99 0) 1)) with
  | true => exact h'
  | false =>
    exfalso
    have e : (Nat.ble k 35 || (Nat.ble 75 k || Nat.beq (L 99 0) 1)) = false := by
      simp only [Bool.or_eq_false_iff, Bool.or_eq_true, Bool.not_eq_true'] at hb hkk hkk2 ⊢
      refine ⟨hkk.resolve_right (by rw [hb.1]; decide), hkk2.resolve_right (by rw [hb.2.1]; decide), hb.2.2⟩
    rw [e] at h
    exact Nat.not_lt_zero _ h
def xok (L : xL) (v : xV) : Prop := match v with
  | .inr (.inr q) => q.2 < xcn L q.1
  | _ => True
def xlen (S : xS) (k i n : Nat) : Nat := cond (Nat.beq n 65536) (S.1 k i 65536).toNatClampNeg n
/-- what a reference field of the cell i points to: one cell for all, the cell i, or the cell i + a -/
def xrf (q : Nat × Nat × Nat) (i : Nat) : Nat × Nat := match q with
  | (k, 0, a) => (k, a)
  | (k, 1, _) => (k, i)
  | (k, _ + 2, a) => (k, i + a)
def xfl (L : xL) (S : xS) (k i : Nat) : Nat → List (Option (Nat × Nat × Nat)) → List Value
  | _, [] => []
  | j, none :: r => .int (S.1 k i j) :: xfl L S k i (j + 1) r
  | j, some q :: r => .ref (L (xrf q i).1 (xrf q i).2) :: xfl L S k i (j + 1) r
def xel (L : xL) (S : xS) (k i rk : Nat) (ty : FieldType) : Nat → Value := match ty with
  | .object _ => fun j => .ref (L rk j)
  | .long => fun j => .long (S.2 k i j)
  | _ => fun j => .int (S.1 k i j)
def xro (k : Nat) : Bool := Nat.beq k 34 || (Nat.beq k 35 || (Nat.beq k 75 || Nat.beq k 76))
def xcell (U : State) (D : va_G) (L : xL) (S : xS) (k i : Nat) (H : Heap) : Prop := match xsh k with
  | .inl o => (o.1 = 99 ∧ (H[L k i]?).isSome = true) ∨ ∃ r : vw_C, classes[o.1]? = some r ∧ t_OB (L k i) (D.1 o.1) r.2.2 (D.2 o.1) H (vp_V (xfl L S k i 0 o.2))
  | .inr a => (xro k = true ∧ va_T a.1 (L k i) (xlen S k i a.2.1) (xel L S k i a.2.2 a.1) (fun _ => False) U H) ∨ (xro k = false ∧ ∃ cA : ClassId, (ArrOfT U cA a.1 ∧ va_RA U cA a.1) ∧ H[L k i]? = some (arrV cA (xlen S k i a.2.1) (xel L S k i a.2.2 a.1)))
def xA (B : Nat) : Nat → Prop := fun q => B ≤ q
def xnest (w : Cond) : Bool := match w with
  | .fieldLinkNest .. => true
  | .methodLinkNest .. => true
  | _ => false
def xT : List Cond := lw_tbl.filter goodWord
def xN : List Cond := lw_tbl.filter xnest
def xsk (b : Nat) : String × Nat × String := match b with
  | 0 => ("MonsoonTrade", 76, "part parts ; food days * men ; loan owed ;")
  | 1 => ("MonsoonTrade$Tokens", 64, "part food loan or and not gain days men parts owed month ")
  | _ => ("MonsoonTrade$Tokens", 69, "();+-*<=")
/-- what the world holds beside the cells: statics, and the three String constants -/
def xEX (U : State) (B : Nat) (L : xL) (S : xS) (H : Heap) : Prop := va_Z "MonsoonTrade" "UNDER" "[I" (.ref (L 34 0)) (xA B) U H ∧ va_Z "java/lang/String" "COMPACT_STRINGS" "Z" (.int 1) (xA B) U H ∧ (∃ v, va_Z "jdk/internal/util/Preconditions" "SIOOBE_FORMATTER" "Ljava/util/function/BiFunction;" v (xA B) U H ∧ v.isRef = true) ∧
  ∀ i, i < 3 → va_O "java/lang/String" (L 75 i) (xA B) U H ∧ va_OF "java/lang/String" "value" "[B" (.ref (L 76 i)) (L 75 i) (xA B) U H ∧ va_OF "java/lang/String" "coder" "B" (.int (S.1 75 i 1)) (L 75 i) (xA B) U H
def xST (U : State) (L : xL) : Prop := ∀ i, i < 3 → vk_R (xsk i).1 (xsk i).2.1 (xsk i).2.2 (L 75 i) U
def xW (U : State) (D : va_G) (B : Nat) (L : xL) (S : xS) (H : Heap) : Prop :=
  va_K D classes [] U ∧ (∀ k i, i < xcn L k → xcell U D L S k i H) ∧ (∀ k i k' i', i < xcn L k → i' < xcn L k' → xro k = false → L k i = L k' i' → k = k' ∧ i = i') ∧ (∀ k i, i < xcn L k → xro k = false → B ≤ L k i) ∧ (∀ w ∈ xN, va_Nw w U) ∧ xEX U B L S H ∧ xST U L
theorem xEX.moved {u U : State} {B : Nat} {L : xL} {S : xS} {H : Heap} (hvm : u.vm.Alike U.vm) (h : xEX u B L S H) : xEX U B L S H := by
  obtain ⟨h1, h2, ⟨v, h3, h3v⟩, h4⟩ := h
  exact ⟨va_Z.moved hvm h1, va_Z.moved hvm h2, ⟨v, va_Z.moved hvm h3, h3v⟩, fun i hi => ⟨va_O.moved hvm (h4 i hi).1, va_OF.moved hvm (h4 i hi).2.1, va_OF.moved hvm (h4 i hi).2.2⟩⟩
theorem xEX.kept {U : State} {B : Nat} {L : xL} {S : xS} {H H1 : Heap} (h : xEX U B L S H) (hq : ∀ a : Nat, a < H.size → ¬ xA B a → H1[a]? = H[a]?) : xEX U B L S H1 := by
  obtain ⟨h1, h2, ⟨v, h3, h3v⟩, h4⟩ := h
  exact ⟨va_Z.kept h1 hq, va_Z.kept h2 hq, ⟨v, va_Z.kept h3 hq, h3v⟩, fun i hi => ⟨va_O.kept (h4 i hi).1 hq, va_OF.kept (h4 i hi).2.1 hq, va_OF.kept (h4 i hi).2.2 hq⟩⟩
theorem xEX.congr {U : State} {B : Nat} {L : xL} {S S' : xS} {H : Heap} (h : xEX U B L S H) (hS : ∀ i, S'.1 75 i 1 = S.1 75 i 1) : xEX U B L S' H := by
  obtain ⟨h1, h2, h3, h4⟩ := h
  exact ⟨h1, h2, h3, fun i hi => ⟨(h4 i hi).1, (h4 i hi).2.1, by rw [hS]; exact (h4 i hi).2.2⟩⟩
theorem xcell.moved {u U : State} {D : va_G} {L : xL} {S : xS} {k i : Nat} {H : Heap} (hvm : u.vm.Alike U.vm) (h : xcell u D L S k i H) : xcell U D L S k i H := by
  unfold xcell at h ⊢
  split at h
  · exact h
  · rcases h with ⟨hr, h⟩ | ⟨hr, cA, ⟨h1, h2⟩, h3⟩
    · exact Or.inl ⟨hr, va_T.moved hvm h⟩
    · exact Or.inr ⟨hr, cA, ⟨arrOfT_moved hvm h1, h2.moved hvm⟩, h3⟩
theorem xcell.kept {U : State} {D : va_G} {L : xL} {S : xS} {k i : Nat} {H H1 : Heap} (h : xcell U D L S k i H) (hq : H1[L k i]? = H[L k i]?) : xcell U D L S k i H1 := by
  unfold xcell at h ⊢
  split at h
  · rcases h with ⟨h0, h1⟩ | ⟨r, h1, h2⟩
    · exact Or.inl ⟨h0, by rw [hq]; exact h1⟩
    · exact Or.inr ⟨r, h1, h2.kept hq⟩
  · rcases h with ⟨hr, cell, h1, h2⟩ | ⟨hr, cA, h1, h3⟩
    · exact Or.inl ⟨hr, cell, by rw [hq]; exact h1, h2⟩
    · exact Or.inr ⟨hr, cA, h1, by rw [hq]; exact h3⟩
theorem xST.warm {s U : State} {L : xL} (hW : s.WarmedH U.vm) (h : xST s L) : xST U L := fun i hi => vk_R.warm hW (h i hi)
theorem xST.same {s U : State} {L : xL} (hv : s.vm = U.vm) (h : xST s L) : xST U L := fun i hi => vk_R.same hv.symm (h i hi)
theorem xW.warm {s U : State} {D : va_G} {B : Nat} {L : xL} {S : xS} {H : Heap} (hW : s.WarmedH U.vm) (h : xW s D B L S H) : xW U D B L S H := by
  obtain ⟨h1, h2, h3, h4, h5, h6, h7⟩ := h
  refine ⟨va_K.moved hW.alike h1, fun k i hi => (h2 k i hi).moved hW.alike, h3, h4, fun w hw => ?_, h6.moved hW.alike, h7.warm hW⟩
  have hn : xnest w = true := (List.mem_filter.mp hw).2
  have := h5 w hw
  cases w <;> first | exact va_Nw.warmF hW this | exact va_Nw.warmM hW this | (simp [xnest] at hn)
theorem xW.same {s U : State} {D : va_G} {B : Nat} {L : xL} {S : xS} {H : Heap} (hv : s.vm = U.vm) (h : xW s D B L S H) : xW U D B L S H := by
  have hA : s.vm.Alike U.vm := by rw [hv]; exact Vm.Alike.refl U.vm
  obtain ⟨h1, h2, h3, h4, h5, h6, h7⟩ := h
  refine ⟨va_K.moved hA h1, fun k i hi => (h2 k i hi).moved hA, h3, h4, fun w hw => ?_, h6.moved hA, h7.same hv⟩
  have hn : xnest w = true := (List.mem_filter.mp hw).2
  have := h5 w hw
  cases w <;> first | exact va_Nw.same rfl hv this | (simp [xnest] at hn)
def xLX (L0 L : xL) : Prop := ∀ k i, k ≠ 18 → L k i = L0 k i
theorem xcn_LX {L0 L : xL} (h : xLX L0 L) (k : Nat) : xcn L k = xcn L0 k := by unfold xcn; rw [h 99 0 (by decide)]
theorem xok_LX {L0 L : xL} (h : xLX L0 L) {v : xV} (hv : xok L0 v) : xok L v := by
  rcases v with x | x | q
  · trivial
  · trivial
  · show q.2 < xcn L q.1
    rw [xcn_LX h]; exact hv
def xQc (D : va_G) (B : Nat) (L0 : xL) (Q : Option xV → xS → Prop) : Array Value → State → Outcome → State → Prop := fun _ st oc t =>
  (∃ (r : Option xV) (S : xS) (L : xL), oc = .returned (r.map (xcv L)) ∧ (∀ v, r = some v → xok L v) ∧ Q r S ∧ xLX L0 L ∧ xW t D B L S t.heap) ∧ va_F (xA B) st t
def xRm (d c z : Nat) : Room := { frames := d, cells := c, slots := z, locals := 40 * d }
abbrev xby (mi : Nat) : ByteArray := (mt mi).2.1
abbrev xml (mi : Nat) : Nat := (mt mi).2.2.2.1
abbrev xrt (mi : Nat) : Option FieldType := (mt mi).2.2.2.2.1
def xws (mi : Nat) : List Cond := .code (mt mi).1 (xby mi) (xml mi) (xrt mi) :: xT
/-- a contract: from the store S with the arguments av the method ends with an answer and a store of which Q holds -/
def CT (d c z mi : Nat) (av : List xV) (S : xS) (Q : Option xV → xS → Prop) : Prop :=
  ∀ (l : Launch) (D : va_G) (B : Nat) (L : xL), (∀ v ∈ av, xok L v) → Met l (mt mi).1 (xws mi) (xRm d c z) (va_Pc (av.map (xcv L)) (fun U => B ≤ U.heap.size ∧ xW U D B L S U.heap)) (xQc D B L Q) c z (xA B)
def xal (L : xL) : Nat → List (Option xV) → List (Nat × Value)
  | _, [] => []
  | j, none :: r => xal L (j + 1) r
  | j, some v :: r => (j, xcv L v) :: xal L (j + 1) r
def xC (d mi : Nat) (p : Program) (R : Room) (s : State) (m : MethodId) (args : Array Value) (meth : Method) (c0 : Code) : Prop :=
  p.tables.exec = Jvm.exec ∧ c0.code = xby mi ∧ meth.sig.returnType = xrt mi ∧ c0.maxLocals = xml mi ∧ s.vm.findClass (mt mi).1.cls = some m.cls ∧ (∀ w ∈ xT, w.before args s = true) ∧ meth.locks = false ∧ d ≤ R.frames ∧ 40 * d ≤ R.locals
/-- the judgement: the machine, at pc of the method mi with locals lv, stack st and store S, comes to the method's end with Q -/
def V (d c z mi pc : Nat) (lv : List (Option xV)) (st : List xV) (S : xS) (Q : Option xV → xS → Prop) : Prop :=
  ∀ (p : Program) (l : Launch) (e : Env) (R : Room) (s : State) (m : MethodId) (args : Array Value) (below : List Frame) (meth : Method) (c0 : Code) (H : Heap) (locs : List Loc) (ls : Array Slot) (cells slots mc ms : Nat) (D : va_G) (B : Nat) (L0 L : xL),
    xC d mi p R s m args meth c0 → cells + c ≤ mc → slots + z ≤ ms → R.cells = mc → R.slots = ms → B ≤ s.heap.size → xLX L0 L → xW s D B L S H → va_S (xA B) s.heap H locs → (∀ v, some v ∈ lv → xok L v) → (∀ v ∈ st, xok L v) → lv_has ls (xml mi) (xal L 0 lv) →
    W p l e R s m args below meth c0 H locs cells slots (MQ below (xQc D B L0 Q) args s mc ms (xA B)) (F0 m pc ls (st.map (xcv L)))
/-! locals -/
def xget : List (Option xV) → Nat → Option xV
  | [], _ => none
  | a :: _, 0 => a
  | _ :: r, i + 1 => xget r i
def xlong (a : Option xV) : Bool := match a with
  | some (.inr (.inl _)) => true
  | _ => false
def xnh (r : List (Option xV)) : List (Option xV) := match r with
  | [] => []
  | _ :: t => none :: t
def xset : List (Option xV) → Nat → xV → List (Option xV)
  | [], _, _ => []
  | _ :: r, 0, v => some v :: cond (xlong (some v)) (xnh r) r
  | a :: r, 1, v => cond (xlong a) none a :: xset r 0 v
  | a :: r, i + 2, v => a :: xset r (i + 1) v
theorem xal_mem {L : xL} {q : Nat × Value} : ∀ {lv : List (Option xV)} {j : Nat}, q ∈ xal L j lv → j ≤ q.1
  | [], _, h => by cases h
  | none :: r, j, h => Nat.le_of_succ_le (xal_mem (lv := r) (j := j + 1) h)
  | some v :: r, j, h => by
    rcases List.mem_cons.mp h with h | h
    · rw [h]; exact Nat.le_refl _
    · exact Nat.le_of_succ_le (xal_mem (lv := r) (j := j + 1) h)
theorem xget_mem {L : xL} {v : xV} : ∀ {lv : List (Option xV)} {i : Nat} (j : Nat), xget lv i = some v → (j + i, xcv L v) ∈ xal L j lv
  | [], _, _, h => by cases h
  | none :: _, 0, _, h => by cases h
  | some a :: r, 0, j, h => by
    have : a = v := Option.some.inj h
    subst this
    exact List.mem_cons_self
  | none :: r, i + 1, j, h => by
    have := xget_mem (L := L) (lv := r) (i := i) (j + 1) h
    rw [show j + (i + 1) = j + 1 + i by omega]; exact this
  | some a :: r, i + 1, j, h => by
    have := xget_mem (L := L) (lv := r) (i := i) (j + 1) h
    rw [show j + (i + 1) = j + 1 + i by omega]; exact List.mem_cons_of_mem _ this
theorem xget_ok {v : xV} : ∀ {lv : List (Option xV)} {i : Nat}, xget lv i = some v → some v ∈ lv
  | [], _, h => by cases h
  | a :: _, 0, h => by rw [show a = some v from h]; exact List.mem_cons_self
  | _ :: r, i + 1, h => List.mem_cons_of_mem _ (xget_ok (lv := r) (i := i) h)
theorem xnh_mem {v : xV} {r : List (Option xV)} (h : some v ∈ xnh r) : some v ∈ r := by
  cases r with
  | nil => exact h
  | cons a t =>
    rcases List.mem_cons.mp h with h | h
    · cases h
    · exact List.mem_cons_of_mem _ h
theorem xset_ok {u v : xV} : ∀ {lv : List (Option xV)} {i : Nat}, some u ∈ xset lv i v → u = v ∨ some u ∈ lv
  | [], _, h => by cases h
  | a :: r, 0, h => by
    rcases List.mem_cons.mp h with h | h
    · exact Or.inl (Option.some.inj h)
    · right
      cases hc : xlong (some v) with
      | true => rw [hc] at h; exact List.mem_cons_of_mem _ (xnh_mem h)
      | false => rw [hc] at h; exact List.mem_cons_of_mem _ h
  | a :: r, 1, h => by
    rcases List.mem_cons.mp h with h | h
    · right
      cases hc : xlong a with
      | true => rw [hc] at h; cases h
      | false => rw [hc] at h; rw [h]; exact List.mem_cons_self
    · rcases xset_ok (lv := r) (i := 0) h with h | h
      · exact Or.inl h
      · exact Or.inr (List.mem_cons_of_mem _ h)
  | a :: r, i + 2, h => by
    rcases List.mem_cons.mp h with h | h
    · right; rw [h]; exact List.mem_cons_self
    · rcases xset_ok (lv := r) (i := i + 1) h with h | h
      · exact Or.inl h
      · exact Or.inr (List.mem_cons_of_mem _ h)
theorem xcat {L : xL} {v : xV} (h : (xcv L v).category = 2) : xlong (some v) = true := by
  rcases v with x | x | q
  · simp [xcv, Value.category] at h
  · rfl
  · simp [xcv, Value.category] at h
theorem xnh_al {L : xL} {q : Nat × Value} {r : List (Option xV)} {j : Nat} (h : q ∈ xal L j (xnh r)) : q ∈ xal L j r ∧ j + 1 ≤ q.1 := by
  cases r with
  | nil => cases h
  | cons a t =>
    have h : q ∈ xal L (j + 1) t := h
    refine ⟨?_, xal_mem h⟩
    cases a with
    | none => exact h
    | some b => exact List.mem_cons_of_mem _ h
theorem xset_al {L : xL} {v : xV} {q : Nat × Value} : ∀ {lv : List (Option xV)} {i j : Nat}, q ∈ xal L j (xset lv i v) → q = (j + i, xcv L v) ∨ (q ∈ xal L j lv ∧ q.1 ≠ j + i ∧ ¬ (q.1 + 1 = j + i ∧ q.2.category = 2) ∧ (xlong (some v) = true → q.1 ≠ j + i + 1))
  | [], _, _, h => by cases h
  | a :: r, 0, j, h => by
    rcases List.mem_cons.mp (show q ∈ (j, xcv L v) :: xal L (j + 1) (cond (xlong (some v)) (xnh r) r) from h) with h | h
    · exact Or.inl h
    · right
      have hm : q ∈ xal L (j + 1) r ∧ (xlong (some v) = true → j + 2 ≤ q.1) := by
        cases hc : xlong (some v) with
        | true => rw [hc] at h; exact ⟨(xnh_al h).1, fun _ => (xnh_al h).2⟩
        | false => rw [hc] at h; exact ⟨h, fun h => by cases h⟩
      have hj := xal_mem hm.1
      refine ⟨?_, by omega, by omega, fun hl => by have := hm.2 hl; omega⟩
      cases a with
      | none => exact hm.1
      | some b => exact List.mem_cons_of_mem _ hm.1
  | a :: r, 1, j, h => by
    have key : q ∈ xal L (j + 1) (xset r 0 v) → q = (j + 1, xcv L v) ∨ (q ∈ xal L j (a :: r) ∧ q.1 ≠ j + 1 ∧ ¬ (q.1 + 1 = j + 1 ∧ q.2.category = 2) ∧ (xlong (some v) = true → q.1 ≠ j + 1 + 1)) := by
      intro h
      rcases xset_al (lv := r) (i := 0) (j := j + 1) h with h | ⟨h1, h2, h3, h4⟩
      · exact Or.inl h
      · right
        have hj := xal_mem h1
        refine ⟨?_, h2, by omega, h4⟩
        cases a with
        | none => exact h1
        | some b => exact List.mem_cons_of_mem _ h1
    cases a with
    | none => exact key h
    | some b =>
      have h : q ∈ xal L j (cond (xlong (some b)) none (some b) :: xset r 0 v) := h
      cases hc : xlong (some b) with
      | true => rw [hc] at h; exact key h
      | false =>
        rw [hc] at h
        rcases List.mem_cons.mp (show q ∈ (j, xcv L b) :: xal L (j + 1) (xset r 0 v) from h) with h | h
        · right
          subst h
          refine ⟨List.mem_cons_self, by simp, fun h => ?_, fun _ => by show j ≠ j + 1 + 1; omega⟩
          have := xcat h.2
          rw [hc] at this; cases this
        · exact key h
  | a :: r, i + 2, j, h => by
    have key : q ∈ xal L (j + 1) (xset r (i + 1) v) → q = (j + (i + 2), xcv L v) ∨ (q ∈ xal L j (a :: r) ∧ q.1 ≠ j + (i + 2) ∧ ¬ (q.1 + 1 = j + (i + 2) ∧ q.2.category = 2) ∧ (xlong (some v) = true → q.1 ≠ j + (i + 2) + 1)) := by
      intro h
      rcases xset_al (lv := r) (i := i + 1) (j := j + 1) h with h | ⟨h1, h2, h3, h4⟩
      · left; rw [h]; congr 1; omega
      · right
        refine ⟨?_, by omega, fun h => h3 ⟨by omega, h.2⟩, fun hl => by have := h4 hl; omega⟩
        cases a with
        | none => exact h1
        | some b => exact List.mem_cons_of_mem _ h1
    cases a with
    | none => exact key h
    | some b =>
      rcases List.mem_cons.mp (show q ∈ (j, xcv L b) :: xal L (j + 1) (xset r (i + 1) v) from h) with h | h
      · right
        subst h
        refine ⟨List.mem_cons_self, by simp, fun h => ?_, fun _ => ?_⟩
        · have := h.1; simp at this
        · simp; omega
      · exact key h

