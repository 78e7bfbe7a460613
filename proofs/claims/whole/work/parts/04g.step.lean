/-! ONE STEP, and many: what must hold for the judgement to hold at pc; it computes -/
abbrev xK : Type := Nat → List (Option xV) → List xV → xS → Prop
abbrev xQ : Type := Option xV → xS → Prop
def xi1 (st : List xV) (f : Int32 → List xV → Prop) : Prop := match st with
  | .inl x :: t => f x t
  | _ => False
def xi2 (st : List xV) (f : Int32 → Int32 → List xV → Prop) : Prop := match st with
  | .inl y :: .inl x :: t => f x y t
  | _ => False
def xj1 (st : List xV) (f : Int64 → List xV → Prop) : Prop := match st with
  | .inr (.inl x) :: t => f x t
  | _ => False
def xj2 (st : List xV) (f : Int64 → Int64 → List xV → Prop) : Prop := match st with
  | .inr (.inl y) :: .inr (.inl x) :: t => f x y t
  | _ => False
def xij (st : List xV) (f : Int64 → Int32 → List xV → Prop) : Prop := match st with
  | .inl y :: .inr (.inl x) :: t => f x y t
  | _ => False
def xp1 (st : List xV) (f : Nat → Nat → List xV → Prop) : Prop := match st with
  | .inr (.inr (k, i)) :: t => f k i t
  | _ => False
def xip (st : List xV) (f : Int32 → Nat → Nat → List xV → Prop) : Prop := match st with
  | .inl j :: .inr (.inr (k, i)) :: t => f j k i t
  | _ => False
def xiip (st : List xV) (f : Int32 → Int32 → Nat → Nat → List xV → Prop) : Prop := match st with
  | .inl x :: .inl j :: .inr (.inr (k, i)) :: t => f x j k i t
  | _ => False
def xjip (st : List xV) (f : Int64 → Int32 → Nat → Nat → List xV → Prop) : Prop := match st with
  | .inr (.inl x) :: .inl j :: .inr (.inr (k, i)) :: t => f x j k i t
  | _ => False
def xcpa (st : List xV) (f : Int32 → Int32 → Nat × Nat → Int32 → Nat × Nat → List xV → Prop) : Prop := match st with
  | .inl n :: .inl dp :: .inr (.inr q) :: .inl sp :: .inr (.inr q0) :: t => f n dp q sp q0 t
  | _ => False
def xgi (o : Option xV) (f : Int32 → Prop) : Prop := match o with
  | some (.inl x) => f x
  | _ => False
def xgj (o : Option xV) (f : Int64 → Prop) : Prop := match o with
  | some (.inr (.inl x)) => f x
  | _ => False
def xgp (o : Option xV) (f : Nat × Nat → Prop) : Prop := match o with
  | some (.inr (.inr x)) => f x
  | _ => False
def xb (b : Bool) (P : Prop) : Prop := match b with
  | true => P
  | false => False
def xsob (s : XS) (f : Nat → List (Option (Nat × Nat × Nat)) → Prop) : Prop := match s with
  | .inl (c, l) => f c l
  | .inr _ => False
def xsar (s : XS) (f : FieldType → Nat → Nat → Prop) : Prop := match s with
  | .inl _ => False
  | .inr (ty, n, rk) => f ty n rk
def xlk : List (Option (Nat × Nat × Nat)) → Nat → (Option (Nat × Nat × Nat) → Prop) → Prop
  | [], _, _ => False
  | o :: _, 0, f => f o
  | _ :: r, b + 1, f => xlk r b f
def xtk : Nat → List xV → List xV → (List xV → List xV → Prop) → Prop
  | 0, st, acc, f => f acc st
  | n + 1, [], _, _ => False
  | n + 1, v :: st, acc, f => xtk n st (v :: acc) f
def xrcv (av : List xV) (f : Nat → Nat → List xV → Prop) : Prop := match av with
  | .inr (.inr (k, i)) :: r => f k i r
  | _ => False
def xsw (K : Nat → Prop) (x : Int32) (dflt : Nat) : List (Int32 × Nat) → Prop
  | [] => K dflt
  | q :: r => (x = q.1 → K q.2) ∧ (¬ x = q.1 → xsw K x dflt r)
def xdn (d : Nat) (f : Nat → Prop) : Prop := match d with
  | 0 => False
  | d + 1 => f d
def xcmp (o : Jvm.ClassFile.Cond) (x y : Int32) (kt kf : Prop) : Prop := match o with
  | .eq => (x = y → kt) ∧ (¬ x = y → kf)
  | .ne => (¬ x = y → kt) ∧ (x = y → kf)
  | .lt => (x < y → kt) ∧ (¬ x < y → kf)
  | .ge => (y ≤ x → kt) ∧ (¬ y ≤ x → kf)
  | .gt => (y < x → kt) ∧ (¬ y < x → kf)
  | .le => (x ≤ y → kt) ∧ (¬ x ≤ y → kf)
def xcall0 (d a : Nat) (lv : List (Option xV)) (S : xS) (av rest : List xV) (K : Option xV → xS → Prop) : Prop := xb (Nat.ble (xcs rest) 8 && lv.all xn8o && rest.all xn8) (CT d 0 0 a av S K)
def stpI (d mi : Nat) (lv : List (Option xV)) (st : List xV) (S : xS) (Q : xQ) (K : xK) (ins : Instr) (a b : Nat) (v : Int32) (w : Int64) (ts : List (Int32 × Nat)) (np : Nat) : Prop := match ins with
  | .iconst _ => K np lv (.inl v :: st) S
  | .bipush _ => K np lv (.inl v :: st) S
  | .sipush _ => K np lv (.inl v :: st) S
  | .ldc _ => match a with
    | 0 => K np lv (.inl v :: st) S
    | 100 => K np lv (.inr (.inr (75, b)) :: st) S
    | _ => False
  | .ldc_w _ => xb (Nat.beq a 0) (K np lv (.inl v :: st) S)
  | .lconst _ => K np lv (.inr (.inl w) :: st) S
  | .ldc2_w _ => K np lv (.inr (.inl w) :: st) S
  | .iload _ => xgi (xget lv a) fun x => K np lv (.inl x :: st) S
  | .iload_n _ => xgi (xget lv a) fun x => K np lv (.inl x :: st) S
  | .lload _ => xgj (xget lv a) fun x => K np lv (.inr (.inl x) :: st) S
  | .lload_n _ => xgj (xget lv a) fun x => K np lv (.inr (.inl x) :: st) S
  | .aload _ => xgp (xget lv a) fun x => K np lv (.inr (.inr x) :: st) S
  | .aload_n _ => xgp (xget lv a) fun x => K np lv (.inr (.inr x) :: st) S
  | .istore _ => xi1 st fun x t => K np (xset lv a (.inl x)) t S
  | .istore_n _ => xi1 st fun x t => K np (xset lv a (.inl x)) t S
  | .lstore _ => xj1 st fun x t => K np (xset lv a (.inr (.inl x))) t S
  | .lstore_n _ => xj1 st fun x t => K np (xset lv a (.inr (.inl x))) t S
  | .astore _ => xp1 st fun k i t => K np (xset lv a (.inr (.inr (k, i)))) t S
  | .astore_n _ => xp1 st fun k i t => K np (xset lv a (.inr (.inr (k, i)))) t S
  | .iinc _ _ => xgi (xget lv a) fun x => K np (xset lv a (.inl (x + v))) st S
  | .iadd => xi2 st fun x y t => K np lv (.inl (x + y) :: t) S
  | .isub => xi2 st fun x y t => K np lv (.inl (x - y) :: t) S
  | .imul => xi2 st fun x y t => K np lv (.inl (x * y) :: t) S
  | .iand => xi2 st fun x y t => K np lv (.inl (x &&& y) :: t) S
  | .ishr => xi2 st fun x y t => K np lv (.inl (x >>> (y &&& 31)) :: t) S
  | .idiv => xi2 st fun x y t => ¬ y = 0 ∧ K np lv (.inl (x / y) :: t) S
  | .irem => xi2 st fun x y t => ¬ y = 0 ∧ K np lv (.inl (x - x / y * y) :: t) S
  | .ineg => xi1 st fun x t => K np lv (.inl (-x) :: t) S
  | .ladd => xj2 st fun x y t => K np lv (.inr (.inl (x + y)) :: t) S
  | .lsub => xj2 st fun x y t => K np lv (.inr (.inl (x - y)) :: t) S
  | .lmul => xj2 st fun x y t => K np lv (.inr (.inl (x * y)) :: t) S
  | .land => xj2 st fun x y t => K np lv (.inr (.inl (x &&& y)) :: t) S
  | .lor => xj2 st fun x y t => K np lv (.inr (.inl (x ||| y)) :: t) S
  | .ldiv => xj2 st fun x y t => ¬ y = 0 ∧ K np lv (.inr (.inl (x / y)) :: t) S
  | .lcmp => xj2 st fun x y t => K np lv (.inl (lg_cmp x y) :: t) S
  | .lshl => xij st fun x y t => K np lv (.inr (.inl (x <<< (y.toInt64 &&& 63))) :: t) S
  | .lshr => xij st fun x y t => K np lv (.inr (.inl (x >>> (y.toInt64 &&& 63))) :: t) S
  | .i2l => xi1 st fun x t => K np lv (.inr (.inl x.toInt64) :: t) S
  | .l2i => xj1 st fun x t => K np lv (.inl x.toInt32 :: t) S
  | .i2b => xi1 st fun x t => K np lv (.inl x.toInt8.toInt32 :: t) S
  | .i2s => xi1 st fun x t => K np lv (.inl x.toInt16.toInt32 :: t) S
  | .i2c => xi1 st fun x t => K np lv (.inl (x.toUInt32 % 65536).toInt32 :: t) S
  | .dup => match st with
    | u :: t => xb (!xlong (some u)) (K np lv (u :: u :: t) S)
    | _ => False
  | .dup2 => match st with
    | u :: u2 :: t => xb (!xlong (some u) && !xlong (some u2)) (K np lv (u :: u2 :: u :: u2 :: t) S)
    | _ => False
  | .pop => match st with
    | u :: t => xb (!xlong (some u)) (K np lv t S)
    | _ => False
  | .ifCond o _ => xi1 st fun x t => xcmp o x 0 (K a lv t S) (K np lv t S)
  | .if_icmp o _ => xi2 st fun x y t => xcmp o x y (K a lv t S) (K np lv t S)
  | .goto _ => K a lv st S
  | .tableswitch _ _ _ _ => xi1 st fun x t => xsw (fun p => K p lv t S) x a ts
  | .lookupswitch _ _ => xi1 st fun x t => xsw (fun p => K p lv t S) x a ts
  | .getfield _ => xp1 st fun k i t => xsob (xsh k) fun ci sl => xb (Nat.beq ci a) (xlk sl b fun o => K np lv (xfv S k i b o :: t) S)
  | .putfield _ => xip st fun x k i t => xsob (xsh k) fun ci sl => xb (Nat.beq ci a && !xro k) (xlk sl b fun o => match o with
    | some _ => False
    | none => match ts with
      | [] => K np lv t (xupd S k i b x)
      | _ :: _ => (x = 0 ∨ x = 1) ∧ K np lv t (xupd S k i b x))
  | .getstatic _ => match a with
    | 34 => K np lv (.inr (.inr (34, 0)) :: st) S
    | 2 => K np lv (.inl 1 :: st) S
    | _ => False
  | .iaload => xip st fun j k i t => xsar (xsh k) fun ty n _ => match ty with
    | .int => vp_in j (xlen S k i n) ∧ K np lv (.inl (S.1 k i j.toNatClampNeg) :: t) S
    | _ => False
  | .baload => xip st fun j k i t => xsar (xsh k) fun ty n _ => match ty with
    | .byte => vp_in j (xlen S k i n) ∧ K np lv (.inl (S.1 k i j.toNatClampNeg) :: t) S
    | .boolean => vp_in j (xlen S k i n) ∧ K np lv (.inl (S.1 k i j.toNatClampNeg) :: t) S
    | _ => False
  | .caload => xip st fun j k i t => xsar (xsh k) fun ty n _ => match ty with
    | .char => vp_in j (xlen S k i n) ∧ K np lv (.inl (S.1 k i j.toNatClampNeg) :: t) S
    | _ => False
  | .laload => xip st fun j k i t => xsar (xsh k) fun ty n _ => match ty with
    | .long => vp_in j (xlen S k i n) ∧ K np lv (.inr (.inl (S.2 k i j.toNatClampNeg)) :: t) S
    | _ => False
  | .aaload => xip st fun j k i t => xsar (xsh k) fun ty n rk => match ty with
    | .object _ => xb (!(Nat.beq n 65536)) (vp_in j n ∧ K np lv (.inr (.inr (rk, j.toNatClampNeg)) :: t) S)
    | _ => False
  | .arraylength => xp1 st fun k i t => xsar (xsh k) fun _ n _ => K np lv (.inl (Int32.ofNat (xlen S k i n)) :: t) S
  | .iastore => xiip st fun x j k i t => xsar (xsh k) fun ty n _ => xb (!(Nat.beq n 65536) && !xro k) (match ty with
    | .int => vp_in j n ∧ K np lv t (xupd S k i j.toNatClampNeg x)
    | _ => False)
  | .bastore => xiip st fun x j k i t => xsar (xsh k) fun ty n _ => xb (!(Nat.beq n 65536) && !xro k) (match ty with
    | .byte => vp_in j n ∧ K np lv t (xupd S k i j.toNatClampNeg (vp_nar .byte x))
    | .boolean => vp_in j n ∧ K np lv t (xupd S k i j.toNatClampNeg (vp_nar .boolean x))
    | _ => False)
  | .lastore => xjip st fun x j k i t => xsar (xsh k) fun ty n _ => xb (!(Nat.beq n 65536) && !xro k) (match ty with
    | .long => vp_in j n ∧ K np lv t (xupl S k i j.toNatClampNeg x)
    | _ => False)
  | .ireturn => match st with
    | [.inl x] => match a with
      | 0 => Q (some (.inl x)) S
      | 1 => (x = 0 ∨ x = 1) ∧ Q (some (.inl x)) S
      | 3 => narrow .char (.int x) = .int x ∧ Q (some (.inl x)) S
      | 4 => narrow .byte (.int x) = .int x ∧ Q (some (.inl x)) S
      | _ => False
    | _ => False
  | .lreturn => match st with
    | [.inr (.inl x)] => Q (some (.inr (.inl x))) S
    | _ => False
  | .return_ => match st with
    | [] => Q none S
    | _ => False
  | .invokestatic _ => xdn d fun d' => match Nat.ble 997 a with
    | false => xtk b st [] fun av rest => xcall0 d' a lv S av rest (fun r S' => K np lv (r.toList ++ rest) S')
    | true => match a with
      | 1000 => xcpa st fun n dp q sp q0 t => xb (Nat.ble (xcs t) 8 && (!xro q0.1 && !xro q.1)) (xsar (xsh q0.1) fun ty0 n0 _ => xsar (xsh q.1) fun ty n1 _ => xb (!(Nat.beq n1 65536)) (match ty0 with
        | .int => match ty with
          | .int => ¬ sp < 0 ∧ ¬ dp < 0 ∧ ¬ n < 0 ∧ sp.toNatClampNeg + n.toNatClampNeg ≤ xlen S q0.1 q0.2 n0 ∧ dp.toNatClampNeg + n.toNatClampNeg ≤ n1 ∧ K np lv t (xcpy S q0.1 q0.2 sp.toNatClampNeg q.1 q.2 dp.toNatClampNeg n.toNatClampNeg)
          | _ => False
        | _ => False))
      | 1001 => xi2 st fun x y t => xb (Nat.ble (xcs t) 8) (K np lv (.inl (if x < y then y else x) :: t) S)
      | 1002 => xi2 st fun x y t => xb (Nat.ble (xcs t) 8) (K np lv (.inl (if y < x then y else x) :: t) S)
      | 1003 => xi1 st fun x t => xb (Nat.ble (xcs t) 8) (K np lv (.inl (if 0 ≤ x then x else 0 - x) :: t) S)
      | _ => False
  | .invokevirtual _ => xdn d fun d' => xtk b st [] fun av rest => xrcv av fun k i av' => xsob (xsh k) fun ci _ => xb (!(Nat.ble 997 a) && Nat.beq ci (mt a).2.2.2.2.2.2.2.2.2.2) (xcall0 d' a lv S (.inr (.inr (k, i)) :: av') rest (fun r S' => K np lv (r.toList ++ rest) S'))
  | _ => False
def stp (d mi pc : Nat) (lv : List (Option xV)) (st : List xV) (S : xS) (Q : xQ) (K : xK) : Prop := match pg mi pc with
  | (p, ins, len, a, b, v, w, ts, _) => xb (Nat.beq p pc && Nat.ble (p + 1) (mt mi).2.2.1) (stpI d mi lv st S Q K ins a b v w ts (p + len))

