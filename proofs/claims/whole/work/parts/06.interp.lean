/-! A pure reading of the bytecode over numbered cells: one step, a run with fuel. A cell's number stands for its address; arrays carry a type code in place of the class. -/
abbrev XH : Type := (Nat → Option va_E) × Nat × Nat × Nat × Nat × (Nat → Int32)
abbrev XO : Type := Option Value ⊕ Nat
abbrev XR : Type := (Nat × List Value × List Value × XH) ⊕ ((Option Value × XH) ⊕ ((Nat × XH) ⊕ (XM × List Value × List Value × XH)))
def xjunk : Value := .retAddr 0
def xlk {α : Type} (T : List (Nat × α)) (own idx : Nat) : Option α := bif Nat.blt idx 1000 then xlook T (own * 1000 + idx) else none
theorem xlk_mem {α : Type} {T : List (Nat × α)} {own idx : Nat} {a : α} (h : xlk T own idx = some a) : (own * 1000 + idx, a) ∈ T ∧ (own * 1000 + idx) / 1000 = own ∧ (own * 1000 + idx) % 1000 = idx := by
  unfold xlk at h
  cases hb : Nat.blt idx 1000 with
  | false => rw [hb] at h; cases h
  | true =>
    rw [hb] at h
    have h1 : idx < 1000 := Nat.le_of_ble_eq_true hb
    exact ⟨xlook_mem h, by omega, by omega⟩
def hget (h : XH) (a : Nat) : Option va_E := h.1 a
def hset (h : XH) (a : Nat) (e : va_E) : XH := (fun q => if q = a then some e else h.1 q, h.2)
def hnew (h : XH) (e : va_E) (k : Nat) : XH := (fun q => if q = h.2.1 then some e else h.1 q, h.2.1 + 1, h.2.2.1 + 1, h.2.2.2.1 + k, h.2.2.2.2)
def hexc (h : XH) : XH := (h.1, h.2.1, h.2.2.1 + 1, h.2.2.2.1 + 6, h.2.2.2.2)
/-- the types of the arrays by their codes -/
def xty : Nat → FieldType
  | 0 => .int
  | 1 => .boolean
  | 2 => .char
  | 3 => .long
  | 4 => .double
  | _ => .object RX4
/-- the types of the fields -/
def fty : Nat → Nat → FieldType
  | 2 => tyX1
  | 3 => tyX2
  | 4 => tyX3
  | 5 => tyX4
  | 6 => tyX5
  | 7 => tyX6
  | 8 => tyX7
  | _ => tyX8
def xblank (ci N : Nat) : List Value := (List.range N).map fun k => defaultValue (fty ci k)
def xfit : FieldType → Value → Bool
  | .int, .int _ => true
  | .boolean, .int x => decide (x = 0 ∨ x = 1)
  | .object _, .ref _ => true
  | .object _, .null => true
  | .array _, .ref _ => true
  | .array _, .null => true
  | _, _ => false
/-- the signs of the forms -/
def xstr : Nat → List Nat
  | 0 => [117, 35, 35, 61, 65, 64]
  | 1 => [115, 78, 58, 65]
  | 2 => [106, 78, 43, 78]
  | 3 => [99, 78, 58, 65, 64, 64]
  | 4 => [101, 78]
  | 5 => [102, 35, 61, 70]
  | _ => [35, 58, 78, 44, 78]
/-- the forms' constants: place in Forms' pool to number -/
def xldc : Nat → Option Nat
  | 12009 => some 0
  | 12011 => some 1
  | 12013 => some 2
  | 12015 => some 3
  | 12017 => some 4
  | 12019 => some 5
  | 12021 => some 6
  | _ => none
/-- an instruction's length; 0: any -/
def xln : Instr → Nat
  | .bipush _ => 2
  | .iload _ => 2
  | .aload _ => 2
  | .lload _ => 2
  | .dload _ => 2
  | .istore _ => 2
  | .astore _ => 2
  | .lstore _ => 2
  | .dstore _ => 2
  | .newarray _ => 2
  | .ldc _ => 2
  | .sipush _ => 3
  | .iinc _ _ => 3
  | .ifCond _ _ => 3
  | .if_icmp _ _ => 3
  | .goto _ => 3
  | .ifnull _ => 3
  | .getfield _ => 3
  | .putfield _ => 3
  | .new _ => 3
  | .anewarray _ => 3
  | .ldc_w _ => 3
  | .invokestatic _ => 3
  | .invokevirtual _ => 3
  | .invokespecial _ => 3
  | .tableswitch _ _ _ _ => 0
  | .lookupswitch _ _ => 0
  | _ => 1
def xfetch (M : XM) (pc : Nat) : Option (Instr × Nat) := match xlook (xm_k M) pc with
  | some (i, n) => bif Nat.beq (xln i) 0 || Nat.beq (xln i) n then some (i, n) else none
  | none => none
def nx (pc : Nat) (L S : List Value) (h : XH) : Option XR := some (.inl (pc, L, S, h))
def xret (v : Option Value) (h : XH) : Option XR := some (.inr (.inl (v, h)))
def xj (pc : Nat) (off : Int) (L S : List Value) (h : XH) : Option XR := if 0 ≤ (pc : Int) + off then nx ((pc : Int) + off).toNat L S h else none
def xinv (L : List Value) : Nat → List Value
  | 0 => L
  | k + 1 => match L.getD k xjunk with
    | .long _ => L.set k xjunk
    | .double _ => L.set k xjunk
    | _ => L
def xsto1 (L : List Value) (k : Nat) (v : Value) : List Value := (xinv L k).set k v
def xsto2 (L : List Value) (k : Nat) (v : Value) : List Value := ((xinv L k).set k v).set (k + 1) xjunk
def xle4 : List Value → Bool
  | _ :: _ :: _ :: _ :: _ :: _ => false
  | _ => true
def xpop : Nat → List Value → List Value → Option (List Value × List Value)
  | 0, acc, S => some (acc, S)
  | n + 1, acc, v :: S => xpop n (v :: acc) S
  | _ + 1, _, [] => none
def xc1 : Value → Bool
  | .int _ => true
  | .ref _ => true
  | .null => true
  | _ => false
def xentry (M : XM) (As : List Value) : List Value := As ++ List.replicate (xm_maxL M - As.length) xjunk
def xcall (M : XM) (As rest : List Value) (h : XH) : Option XR := if xle4 rest = true ∧ As.all xc1 = true ∧ As.length ≤ xm_maxL M then some (.inr (.inr (.inr (M, As, rest, h)))) else none
def xlo (L : List Value) (k : Nat) (f : Value → Option XR) : Option XR := match L[k]? with
  | some v => f v
  | none => none
def xiload (L : List Value) (k pc : Nat) (S : List Value) (h : XH) : Option XR := xlo L k fun v => match v with
  | .int x => nx pc L (.int x :: S) h
  | _ => none
def xaload (L : List Value) (k pc : Nat) (S : List Value) (h : XH) : Option XR := xlo L k fun v => match v with
  | .ref x => nx pc L (.ref x :: S) h
  | _ => none
def xlload (L : List Value) (k pc : Nat) (S : List Value) (h : XH) : Option XR := xlo L k fun v => match v with
  | .long x => nx pc L (.long x :: S) h
  | _ => none
def xdload (L : List Value) (k pc : Nat) (S : List Value) (h : XH) : Option XR := xlo L k fun v => match v with
  | .double x => nx pc L (.double x :: S) h
  | _ => none
def xistore (L : List Value) (k pc : Nat) (S : List Value) (h : XH) : Option XR := match S with
  | .int x :: S => if k < L.length then nx pc (xsto1 L k (.int x)) S h else none
  | _ => none
def xastore (L : List Value) (k pc : Nat) (S : List Value) (h : XH) : Option XR := match S with
  | .ref x :: S => if k < L.length then nx pc (xsto1 L k (.ref x)) S h else none
  | _ => none
def xlstore (L : List Value) (k pc : Nat) (S : List Value) (h : XH) : Option XR := match S with
  | .long x :: S => if k + 1 < L.length then nx pc (xsto2 L k (.long x)) S h else none
  | _ => none
def xdstore (L : List Value) (k pc : Nat) (S : List Value) (h : XH) : Option XR := match S with
  | .double x :: S => if k + 1 < L.length then nx pc (xsto2 L k (.double x)) S h else none
  | _ => none
def xii (f : Int32 → Int32 → Int32) (L : List Value) (pc : Nat) (S : List Value) (h : XH) : Option XR := match S with
  | .int y :: .int x :: S => nx pc L (.int (f x y) :: S) h
  | _ => none
def xll (f : Int64 → Int64 → Int64) (L : List Value) (pc : Nat) (S : List Value) (h : XH) : Option XR := match S with
  | .long y :: .long x :: S => nx pc L (.long (f x y) :: S) h
  | _ => none
def xli (f : Int64 → Int32 → Int64) (L : List Value) (pc : Nat) (S : List Value) (h : XH) : Option XR := match S with
  | .int y :: .long x :: S => nx pc L (.long (f x y) :: S) h
  | _ => none
/-- get a field -/
def xgf (e : Option va_E) (ci k : Nat) (f : Value → Option XR) : Option XR := match e with
  | some (.inr (cj, fs)) => bif Nat.beq cj ci then (match fs[k]? with
    | some v => f v
    | none => none) else none
  | _ => none
/-- put a field -/
def xpf (e : Option va_E) (ci k : Nat) (v : Value) (f : va_E → Option XR) : Option XR := match e with
  | some (.inr (cj, fs)) => bif Nat.beq cj ci && (Nat.blt k fs.length && xfit (fty ci k) v) then f (.inr (ci, fs.set k v)) else none
  | _ => none
/-- read an array of ints, code t -/
def xga (e : Option va_E) (t : Nat) (i : Int32) (f : Int32 → Option XR) : Option XR := match e with
  | some (.inl (u, n, .inl g)) => bif Nat.beq u t then (if i < 0 ∨ n ≤ i.toNatClampNeg then none else f (g i.toNatClampNeg)) else none
  | _ => none
def xgl (e : Option va_E) (i : Int32) (f : Int64 → Option XR) : Option XR := match e with
  | some (.inl (u, n, .inr (.inl g))) => bif Nat.beq u 3 then (if i < 0 ∨ n ≤ i.toNatClampNeg then none else f (g i.toNatClampNeg)) else none
  | _ => none
def xgd (e : Option va_E) (i : Int32) (f : UInt64 → Option XR) : Option XR := match e with
  | some (.inl (u, n, .inr (.inr (.inr (.inl g))))) => bif Nat.beq u 4 then (if i < 0 ∨ n ≤ i.toNatClampNeg then none else f (g i.toNatClampNeg)) else none
  | _ => none
def xgr (e : Option va_E) (i : Int32) (f : Option Nat → Option XR) : Option XR := match e with
  | some (.inl (u, n, .inr (.inr (.inr (.inr g))))) => bif Nat.beq u 5 then (if i < 0 ∨ n ≤ i.toNatClampNeg then none else f (g i.toNatClampNeg)) else none
  | _ => none
/-- write an array of ints, code t; what the type keeps of it -/
def xpa (e : Option va_E) (t : Nat) (i x : Int32) (f : va_E → Option XR) : Option XR := match e with
  | some (.inl (u, n, .inl g)) => bif Nat.beq u t then (if i < 0 ∨ n ≤ i.toNatClampNeg then none else f (.inl (t, n, .inl (upd g i.toNatClampNeg x)))) else none
  | _ => none
def xpl (e : Option va_E) (i : Int32) (x : Int64) (f : va_E → Option XR) : Option XR := match e with
  | some (.inl (u, n, .inr (.inl g))) => bif Nat.beq u 3 then (if i < 0 ∨ n ≤ i.toNatClampNeg then none else f (.inl (3, n, .inr (.inl (vp_updL g i.toNatClampNeg x))))) else none
  | _ => none
def xpd (e : Option va_E) (i : Int32) (x : UInt64) (f : va_E → Option XR) : Option XR := match e with
  | some (.inl (u, n, .inr (.inr (.inr (.inl g))))) => bif Nat.beq u 4 then (if i < 0 ∨ n ≤ i.toNatClampNeg then none else f (.inl (4, n, .inr (.inr (.inr (.inl (vf_upd g i.toNatClampNeg x))))))) else none
  | _ => none
def xpr (e : Option va_E) (i : Int32) (a : Nat) (f : va_E → Option XR) : Option XR := match e with
  | some (.inl (u, n, .inr (.inr (.inr (.inr g))))) => bif Nat.beq u 5 then (if i < 0 ∨ n ≤ i.toNatClampNeg then none else f (.inl (5, n, .inr (.inr (.inr (.inr (va_up g i.toNatClampNeg (some a)))))))) else none
  | _ => none
def xlen (M : XM) (h : XH) (a : Nat) (f : Int32 → Option XR) : Option XR :=
  bif Nat.beq (xm_own M) 11 && Nat.beq a 2000000 then f (Int32.ofNat h.2.2.2.2.1) else match hget h a with
  | some (.inl (_, n, _)) => f (Int32.ofNat n)
  | _ => none
/-- System.arraycopy of ints -/
def xcp (e0 e1 : Option va_E) (sp dp n : Int32) (f : va_E → Option XR) : Option XR := match e0, e1 with
  | some (.inl (u, n0, .inl g0)), some (.inl (v, n1, .inl g1)) => bif Nat.beq u 0 && Nat.beq v 0 then
      (if sp < 0 ∨ dp < 0 ∨ n < 0 ∨ n0 < sp.toNatClampNeg + n.toNatClampNeg ∨ n1 < dp.toNatClampNeg + n.toNatClampNeg then none else f (.inl (0, n1, .inl (va_cpy g0 g1 sp.toNatClampNeg dp.toNatClampNeg n.toNatClampNeg)))) else none
  | _, _ => none
def xatc : ArrayType → Nat
  | .int => 0
  | .boolean => 1
  | .char => 2
  | .long => 3
  | .double => 4
  | _ => 9
def xarr : Nat → Nat → Option va_E
  | 0, n => some (.inl (0, n, .inl fun _ => 0))
  | 1, n => some (.inl (1, n, .inl fun _ => 0))
  | 2, n => some (.inl (2, n, .inl fun _ => 0))
  | 3, n => some (.inl (3, n, .inr (.inl fun _ => 0)))
  | 4, n => some (.inl (4, n, .inr (.inr (.inr (.inl fun _ => 0)))))
  | _, _ => none
/-- 'throw new E("text")' from pc on: its exception -/
def xthrow (M : XM) (pc E ic : Nat) : Bool := match xfetch M (pc + 3) with
  | some (.dup, 1) => (match xfetch M (pc + 4) with
    | some (.ldc is, 2) => (xlk sT (xm_own M) is).isSome && (match xfetch M (pc + 6) with
      | some (.invokespecial jc, 3) => Nat.beq jc ic && (match xfetch M (pc + 9) with
        | some (.athrow, 1) => true
        | _ => false)
      | _ => false)
    | some (.ldc_w is, 3) => (xlk sT (xm_own M) is).isSome && (match xfetch M (pc + 7) with
      | some (.invokespecial jc, 3) => Nat.beq jc ic && (match xfetch M (pc + 10) with
        | some (.athrow, 1) => true
        | _ => false)
      | _ => false)
    | _ => false)
  | _ => false
def xif (c : ClassFile.Cond) (x y : Int32) (a b : Option XR) : Option XR := match c with
  | .eq => if x = y then a else b
  | .ne => if x ≠ y then a else b
  | .lt => if x < y then a else b
  | .ge => if y ≤ x then a else b
  | .gt => if y < x then a else b
  | .le => if x ≤ y then a else b
/-- a call of System's, Math's, String's, Object's -/
def xprim (M : XM) (k pc : Nat) (L S : List Value) (h : XH) : Option XR := match k with
  | 1 => (match S with
    | .int y :: .int x :: S => bif xle4 S then nx (pc + 3) L (.int (if x < y then y else x) :: S) h else none
    | _ => none)
  | 2 => (match S with
    | .int y :: .int x :: S => bif xle4 S then nx (pc + 3) L (.int (if y < x then y else x) :: S) h else none
    | _ => none)
  | 3 => (match S with
    | .int n :: .int dp :: .ref a :: .int sp :: .ref a0 :: S => bif xle4 S then xcp (hget h a0) (hget h a) sp dp n (fun e => nx (pc + 3) L S (hset h a e)) else none
    | _ => none)
  | 4 => (match S with
    | .int i :: .ref a :: S => bif xle4 S && (Nat.ble 1000000 a && Nat.blt a 1000007) then (if i < 0 ∨ (xstr (a - 1000000)).length ≤ i.toNatClampNeg then none else nx (pc + 3) L (.int (Int32.ofNat ((xstr (a - 1000000)).getD i.toNatClampNeg 0)) :: S) h) else none
    | _ => none)
  | 5 => (match S with
    | .ref a :: S => bif xle4 S && (Nat.ble 1000000 a && Nat.blt a 1000007) then nx (pc + 3) L (.int (Int32.ofNat (xstr (a - 1000000)).length) :: S) h else none
    | _ => none)
  | 6 => (match S with
    | .ref a :: S => bif xle4 S && (Nat.ble 1000000 a && Nat.blt a 1000007) then nx (pc + 3) L (.int 0 :: S) h else none
    | _ => none)
  | 7 => (match S with
    | .ref _ :: S => bif xle4 S then nx (pc + 3) L S h else none
    | _ => none)
  | _ => none
def xstep (M : XM) (i : Instr) (pc : Nat) (L S : List Value) (h : XH) : Option XR := match i with
  | .iconst n => nx (pc + 1) L (.int (Int32.ofInt n) :: S) h
  | .bipush n => nx (pc + 2) L (.int (Int8.ofInt n).toInt32 :: S) h
  | .sipush n => nx (pc + 3) L (.int (Int16.ofInt n).toInt32 :: S) h
  | .lconst n => nx (pc + 1) L (.long (Int64.ofNat (n : Nat)) :: S) h
  | .dconst n => (match n with
    | 0 => nx (pc + 1) L (.double FP.dconst0 :: S) h
    | _ => none)
  | .aconst_null => nx (pc + 1) L (.null :: S) h
  | .iload_n k => xiload L k (pc + 1) S h
  | .iload k => xiload L k (pc + 2) S h
  | .aload_n k => xaload L k (pc + 1) S h
  | .aload k => xaload L k (pc + 2) S h
  | .lload_n k => xlload L k (pc + 1) S h
  | .lload k => xlload L k (pc + 2) S h
  | .dload_n k => xdload L k (pc + 1) S h
  | .dload k => xdload L k (pc + 2) S h
  | .istore_n k => xistore L k (pc + 1) S h
  | .istore k => xistore L k (pc + 2) S h
  | .astore_n k => xastore L k (pc + 1) S h
  | .astore k => xastore L k (pc + 2) S h
  | .lstore_n k => xlstore L k (pc + 1) S h
  | .lstore k => xlstore L k (pc + 2) S h
  | .dstore_n k => xdstore L k (pc + 1) S h
  | .dstore k => xdstore L k (pc + 2) S h
  | .iinc k n => xlo L k fun v => (match v with
    | .int x => nx (pc + 3) (xsto1 L k (.int (x + Int32.ofInt n))) S h
    | _ => none)
  | .iadd => xii (· + ·) L (pc + 1) S h
  | .isub => xii (· - ·) L (pc + 1) S h
  | .imul => xii (· * ·) L (pc + 1) S h
  | .iand => xii (· &&& ·) L (pc + 1) S h
  | .ior => xii (· ||| ·) L (pc + 1) S h
  | .ishl => xii (fun x y => x <<< (y &&& 31)) L (pc + 1) S h
  | .ishr => xii (fun x y => x >>> (y &&& 31)) L (pc + 1) S h
  | .idiv => (match S with
    | .int y :: .int x :: S => if y = 0 then none else nx (pc + 1) L (.int (x / y) :: S) h
    | _ => none)
  | .irem => (match S with
    | .int y :: .int x :: S => if y = 0 then none else nx (pc + 1) L (.int (x % y) :: S) h
    | _ => none)
  | .ineg => (match S with
    | .int x :: S => nx (pc + 1) L (.int (-x) :: S) h
    | _ => none)
  | .i2l => (match S with
    | .int x :: S => nx (pc + 1) L (.long x.toInt64 :: S) h
    | _ => none)
  | .i2c => (match S with
    | .int x :: S => nx (pc + 1) L (.int (x.toUInt32 % 65536).toInt32 :: S) h
    | _ => none)
  | .land => xll (· &&& ·) L (pc + 1) S h
  | .lor => xll (· ||| ·) L (pc + 1) S h
  | .lshl => xli (fun x y => x <<< (y.toInt64 &&& 63)) L (pc + 1) S h
  | .lshr => xli (fun x y => x >>> (y.toInt64 &&& 63)) L (pc + 1) S h
  | .lcmp => (match S with
    | .long y :: .long x :: S => nx (pc + 1) L (.int (lg_cmp x y) :: S) h
    | _ => none)
  | .i2d => (match S with
    | .int x :: S => nx (pc + 1) L (.double (FP.i2d x) :: S) h
    | _ => none)
  | .ddiv => (match S with
    | .double y :: .double x :: S => if FP.ddiv x y &&& 0x7fffffffffffffff ≤ 0x7ff0000000000000 then nx (pc + 1) L (.double (FP.ddiv x y) :: S) h else none
    | _ => none)
  | .dcmp op => (match S with
    | .double y :: .double x :: S => nx (pc + 1) L (.int (Op.cmpValue (FP.dcmp x y) op) :: S) h
    | _ => none)
  | .dup => (match S with
    | .int x :: S => nx (pc + 1) L (.int x :: .int x :: S) h
    | .ref x :: S => nx (pc + 1) L (.ref x :: .ref x :: S) h
    | _ => none)
  | .pop => (match S with
    | .int _ :: S => nx (pc + 1) L S h
    | _ => none)
  | .dup2 => (match S with
    | .int y :: .ref x :: S => nx (pc + 1) L (.int y :: .ref x :: .int y :: .ref x :: S) h
    | _ => none)
  | .dup_x1 => (match S with
    | .int y :: .ref x :: S => nx (pc + 1) L (.int y :: .ref x :: .int y :: S) h
    | _ => none)
  | .ifCond c off => (match S with
    | .int x :: S => if 0 ≤ (pc : Int) + off then xif c x 0 (xj pc off L S h) (nx (pc + 3) L S h) else none
    | _ => none)
  | .if_icmp c off => (match S with
    | .int y :: .int x :: S => if 0 ≤ (pc : Int) + off then xif c x y (xj pc off L S h) (nx (pc + 3) L S h) else none
    | _ => none)
  | .goto off => xj pc off L S h
  | .ifnull off => (match S with
    | .null :: S => xj pc off L S h
    | .ref _ :: S => nx (pc + 3) L S h
    | _ => none)
  | .tableswitch d lo hi offs => (match S with
    | .int x :: S => if x.toInt < lo ∨ hi < x.toInt then xj pc d L S h else (match offs[(x.toInt - lo).toNat]? with
      | some off => xj pc off L S h
      | none => none)
    | _ => none)
  | .lookupswitch d ps => (match S with
    | .int x :: S => bif (ps.toList.zip (ps.toList.drop 1)).all (fun q => decide (q.1.1 < q.2.1)) then xj pc (Op.lookupswitch.offset ps.toList d x.toInt) L S h else none
    | _ => none)
  | .getfield idx => (match S with
    | .ref a :: S => (match xlk fT (xm_own M) idx with
      | some (ci, k, _) => xgf (hget h a) ci k fun v => nx (pc + 3) L (v :: S) h
      | none => none)
    | _ => none)
  | .putfield idx => (match S with
    | v :: .ref a :: S => (match xlk fT (xm_own M) idx with
      | some (ci, k, nest) => (match vwCl[ci]? with
        | some r => bif (!(r.2.1 k).2.2.2) || ((!nest) && (xm_y M).name == "<init>" && (Nat.beq (xm_own M) ci)) then xpf (hget h a) ci k v fun e => nx (pc + 3) L S (hset h a e) else none
        | none => none)
      | none => none)
    | _ => none)
  | .iaload => (match S with
    | .int i :: .ref a :: S => bif Nat.beq (xm_own M) 11 && Nat.beq a 2000000 then (if i < 0 ∨ h.2.2.2.2.1 ≤ i.toNatClampNeg then none else nx (pc + 1) L (.int (h.2.2.2.2.2 i.toNatClampNeg) :: S) h)
        else xga (hget h a) 0 i fun x => nx (pc + 1) L (.int x :: S) h
    | _ => none)
  | .baload => (match S with
    | .int i :: .ref a :: S => xga (hget h a) 1 i fun x => nx (pc + 1) L (.int x :: S) h
    | _ => none)
  | .caload => (match S with
    | .int i :: .ref a :: S => xga (hget h a) 2 i fun x => nx (pc + 1) L (.int x :: S) h
    | _ => none)
  | .laload => (match S with
    | .int i :: .ref a :: S => xgl (hget h a) i fun x => nx (pc + 1) L (.long x :: S) h
    | _ => none)
  | .daload => (match S with
    | .int i :: .ref a :: S => xgd (hget h a) i fun x => nx (pc + 1) L (.double x :: S) h
    | _ => none)
  | .aaload => (match S with
    | .int i :: .ref a :: S => xgr (hget h a) i fun x => nx (pc + 1) L (va_rf x :: S) h
    | _ => none)
  | .iastore => (match S with
    | .int x :: .int i :: .ref a :: S => xpa (hget h a) 0 i x fun e => nx (pc + 1) L S (hset h a e)
    | _ => none)
  | .bastore => (match S with
    | .int x :: .int i :: .ref a :: S => xpa (hget h a) 1 i (vp_nar .boolean x) fun e => nx (pc + 1) L S (hset h a e)
    | _ => none)
  | .castore => (match S with
    | .int x :: .int i :: .ref a :: S => xpa (hget h a) 2 i (vp_nar .char x) fun e => nx (pc + 1) L S (hset h a e)
    | _ => none)
  | .lastore => (match S with
    | .long x :: .int i :: .ref a :: S => xpl (hget h a) i x fun e => nx (pc + 1) L S (hset h a e)
    | _ => none)
  | .dastore => (match S with
    | .double x :: .int i :: .ref a :: S => xpd (hget h a) i x fun e => nx (pc + 1) L S (hset h a e)
    | _ => none)
  | .aastore => (match S with
    | .ref x :: .int i :: .ref a :: S => (match hget h x with
      | some (.inr (cj, _)) => bif Nat.beq cj 5 then xpr (hget h a) i x fun e => nx (pc + 1) L S (hset h a e) else none
      | _ => none)
    | _ => none)
  | .arraylength => (match S with
    | .ref a :: S => xlen M h a fun x => nx (pc + 1) L (.int x :: S) h
    | _ => none)
  | .newarray t => (match S with
    | .int n :: S => if n < 0 ∨ 10000 < n.toNatClampNeg ∨ 1000000 ≤ h.2.1 then none else (match xarr (xatc t) n.toNatClampNeg with
      | some e => nx (pc + 2) L (.ref h.2.1 :: S) (hnew h e n.toNatClampNeg)
      | none => none)
    | _ => none)
  | .anewarray idx => (match S with
    | .int n :: S => (match xlk cT (xm_own M) idx with
      | some ci => if ci ≠ 5 ∨ n < 0 ∨ 10000 < n.toNatClampNeg ∨ 1000000 ≤ h.2.1 then none else nx (pc + 3) L (.ref h.2.1 :: S) (hnew h (.inl (5, n.toNatClampNeg, .inr (.inr (.inr (.inr fun _ => none))))) n.toNatClampNeg)
      | none => none)
    | _ => none)
  | .new idx => (match xlk cT (xm_own M) idx with
    | some ci => (match vwCl[ci]? with
      | some r => bif Nat.blt h.2.1 1000000 then nx (pc + 3) L (.ref h.2.1 :: S) (hnew h (.inr (ci, xblank ci r.2.2)) r.2.2) else none
      | none => none)
    | none => (match xlk tT (xm_own M) idx with
      | some (E, ic) => bif xle4 S && (Nat.blt (xm_own M) 11 && ((xm_hh M).isEmpty && xthrow M pc E ic)) then some (.inr (.inr (.inl (E, hexc h)))) else none
      | none => none))
  | .ldc is => (match xlk sT (xm_own M) is, xldc (xm_own M * 1000 + is) with
    | some _, some k => nx (pc + 2) L (.ref (1000000 + k) :: S) h
    | _, _ => none)
  | .invokestatic idx => (match xlk pT (xm_own M) idx with
    | some k => bif Nat.ble k 3 then xprim M k pc L S h else none
    | none => (match xlk mT (xm_own M) idx with
      | some M' => bif xm_st M' then (match xpop (xm_n M') [] S with
        | some (As, rest) => xcall M' As rest h
        | none => none) else none
      | none => none))
  | .invokevirtual idx => (match xlk pT (xm_own M) idx with
    | some k => bif Nat.ble 4 k && Nat.ble k 6 then xprim M k pc L S h else none
    | none => (match xlk mT (xm_own M) idx with
      | some M' => bif !(xm_st M') && !((xm_y M').name == "<init>") then (match xpop (xm_n M') [] S with
        | some (As, .ref b :: rest) => (match hget h b with
          | some (.inr (cj, _)) => bif Nat.beq cj (xm_own M') then xcall M' (.ref b :: As) rest h else none
          | _ => none)
        | _ => none) else none
      | none => none))
  | .invokespecial idx => (match xlk pT (xm_own M) idx with
    | some k => bif Nat.beq k 7 then xprim M k pc L S h else none
    | none => (match xlk mT (xm_own M) idx with
      | some M' => bif !(xm_st M') && ((xm_y M').name == "<init>" && ((xm_hh M').isEmpty && (xm_ret M').isNone)) then (match xpop (xm_n M') [] S with
        | some (As, .ref b :: rest) => xcall M' (.ref b :: As) rest h
        | _ => none) else none
      | none => none))
  | .ireturn => (match S with
    | [.int x] => (match xm_ret M with
      | some .int => xret (some (.int x)) h
      | some .boolean => if x = 0 ∨ x = 1 then xret (some (.int x)) h else none
      | _ => none)
    | _ => none)
  | .lreturn => (match S with
    | [.long x] => (match xm_ret M with
      | some .long => xret (some (.long x)) h
      | _ => none)
    | _ => none)
  | .dreturn => (match S with
    | [.double x] => (match xm_ret M with
      | some .double => xret (some (.double x)) h
      | _ => none)
    | _ => none)
  | .areturn => (match S with
    | [.ref x] => (match xm_ret M with
      | some (.object _) => xret (some (.ref x)) h
      | _ => none)
    | [.null] => (match xm_ret M with
      | some (.object _) => xret (some .null) h
      | _ => none)
    | _ => none)
  | .return_ => (match S with
    | [] => (match xm_ret M with
      | none => xret none h
      | _ => none)
    | _ => none)
  | _ => none
/-- where a thrown E is caught in M at pc, by the table's first row that covers pc and names E: the place behind the handler's store -/
def xhandler (M : XM) (pc E : Nat) : List (Nat × Nat × Nat × Nat) → Option (Nat × Nat)
  | [] => none
  | r :: t => bif Nat.ble r.1 pc && Nat.blt pc r.2.1 then (match xlk hT (xm_own M) r.2.2.2 with
      | some F => bif Nat.beq E F then (match xfetch M r.2.2.1 with
          | some (.astore_n k, 1) => some (r.2.2.1 + 1, k)
          | some (.astore k, 2) => some (r.2.2.1 + 2, k)
          | _ => none)
        else xhandler M pc E t
      | none => none)
    else xhandler M pc E t
/-- behind a call -/
def xback (M M' : XM) (pc : Nat) (L rest : List Value) (o : XO) (h : XH) (go : Nat → List Value → List Value → XH → Option (XO × XH)) : Option (XO × XH) := match o with
  | .inl v => go (pc + 3) L (v.toList ++ rest) h
  | .inr E => bif (xm_y M').name == "<init>" then none else bif (xm_hh M).isEmpty then (bif Nat.blt (xm_own M) 11 then some (.inr E, h) else none) else (match xhandler M pc E (xm_hh M) with
    | some (q, k) => if k < L.length then go q (xsto1 L k xjunk) [] h else none
    | none => none)
/-- the run: fuel, depth of calls -/
def ex : Nat → Nat → XM → Nat → List Value → List Value → XH → Option (XO × XH)
  | 0, _, _, _, _, _, _ => none
  | f + 1, d, M, pc, L, S, h => match xfetch M pc with
    | none => none
    | some (i, _) => match xstep M i pc L S h with
      | none => none
      | some (.inl (pc', L', S', h')) => ex f d M pc' L' S' h'
      | some (.inr (.inl (v, h'))) => some (.inl v, h')
      | some (.inr (.inr (.inl (E, h')))) => some (.inr E, h')
      | some (.inr (.inr (.inr (M', As, rest, h')))) => match d with
        | 0 => none
        | d' + 1 => match ex f d' M' 0 (xentry M' As) [] h' with
          | none => none
          | some (o, h2) => xback M M' pc L rest o h2 (fun pc' L' S' h'' => ex f (d' + 1) M pc' L' S' h'')
