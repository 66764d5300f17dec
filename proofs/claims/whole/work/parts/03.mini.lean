/-! THE MINI MACHINE. A value .ref j is logical: j < 1000 is a cell of the shape list (by its place), 1000 the script, 1001 UNDER, 1002 a static nobody looks at, 1010 + i a String constant, 1050 + i its bytes.
A heap is its shape (kind, length, references) and what its cells hold: ints A cell place, longs B cell place. Kinds: 0 int[], 1 boolean[], 2 long[], 3 Sheet[], 4 String[], 5 + ci an object of class ci. -/
abbrev MI : Type := Nat × Instr × Nat × Nat × Nat × Nat × Int32 × List Nat
abbrev ML : Type := List (Option Value)
abbrev MS : Type := List (Nat × Nat × List (Option Nat))
abbrev MH : Type := MS × (Nat → Nat → Int32) × (Nat → Nat → Int64)
abbrev MK : Type := Option Value → MH → Prop
abbrev MN : Type := ML → List Value → MH → Prop
abbrev MM : Type := MethodName × ByteArray × Nat × Option FieldType × Nat × Nat × List MI
abbrev ME : Type := Nat × (Nat → Int32)
def mUnder : List Int32 := [-1, 0, 0, 1, 2, 0]
def mByt : List (List Int32) := [[101, 100, 103, 101], [112, 97, 99, 101], [119, 97, 114, 109], [115, 116, 97, 107, 101], [102, 114, 111, 109], [102, 111, 114], [119, 101, 110, 116], [114, 111, 112, 101, 100], [115, 108, 101, 100, 103, 101], [99, 104, 117, 114, 99, 104], [102, 101, 114, 114, 121], [100, 101, 101, 112], [104, 111, 117, 115, 101], [97, 116], [104, 111, 108, 100], [104, 111, 117, 115, 101], [114, 111, 112, 101, 100], [115, 108, 101, 100, 103, 101], [99, 104, 117, 114, 99, 104], [102, 101, 114, 114, 121], [100, 101, 101, 112], [97, 116], [104, 111, 108, 100], [101, 100, 103, 101], [112, 97, 99, 101], [119, 97, 114, 109], [115, 116, 97, 107, 101], [102, 114, 111, 109], [102, 111, 114], [119, 101, 110, 116]]
def mStr : List (String × Nat × String) := [("GlacierStreets$TextReader", 45, "edge"), ("GlacierStreets$TextReader", 54, "pace"), ("GlacierStreets$TextReader", 59, "warm"), ("GlacierStreets$TextReader", 64, "stake"), ("GlacierStreets$TextReader", 138, "from"), ("GlacierStreets$TextReader", 140, "for"), ("GlacierStreets$TextReader", 142, "went"), ("GlacierStreets$TextReader", 77, "roped"), ("GlacierStreets$TextReader", 79, "sledge"), ("GlacierStreets$TextReader", 81, "church"), ("GlacierStreets$TextReader", 83, "ferry"), ("GlacierStreets$TextReader", 85, "deep"), ("GlacierStreets$TextReader", 87, "house"), ("GlacierStreets$TextReader", 120, "at"), ("GlacierStreets$TextReader", 125, "hold"), ("GlacierStreetsModel", 27, "house"), ("GlacierStreetsModel", 29, "roped"), ("GlacierStreetsModel", 31, "sledge"), ("GlacierStreetsModel", 33, "church"), ("GlacierStreetsModel", 35, "ferry"), ("GlacierStreetsModel", 37, "deep"), ("GlacierStreetsModel", 271, "at"), ("GlacierStreetsModel", 273, "hold"), ("GlacierStreetsModel", 234, "edge"), ("GlacierStreetsModel", 246, "pace"), ("GlacierStreetsModel", 248, "warm"), ("GlacierStreetsModel", 253, "stake"), ("GlacierStreetsModel", 258, "from"), ("GlacierStreetsModel", 264, "for"), ("GlacierStreetsModel", 266, "went")]
def mRo (E : ME) (j : Nat) : Option (Nat × Nat × (Nat → Int32)) :=
  bif Nat.beq j 1000 then some (0, E.1, E.2) else
  bif Nat.beq j 1001 then some (0, 6, fun k => mUnder.getD k 0) else
  bif Nat.ble 1050 j && Nat.ble j 1079 then some (5, (mByt.getD (j - 1050) []).length, fun k => (mByt.getD (j - 1050) []).getD k 0) else none
def mTy (ci : Nat) : Nat → FieldType := match ci with
  | 0 => tyX0 | 1 => tyX1 | 2 => tyX2 | 3 => tyX3 | 4 => tyX4 | 5 => tyX5 | 6 => tyX6 | 7 => tyX7 | 8 => tyX8 | _ => tyX9
def mT (ci : Nat) : u_T := match ci with
  | 0 => TX0 | 1 => TX1 | 2 => TX2 | 3 => TX3 | 4 => TX4 | 5 => TX5 | 6 => TX6 | 7 => TX7 | 8 => TX8 | _ => TX9
def mR (ci : Nat) : String := match ci with
  | 0 => RX0 | 1 => RX1 | 2 => RX2 | 3 => RX3 | 4 => RX4 | 5 => RX5 | 6 => RX6 | 7 => RX7 | 8 => RX8 | _ => RX9
def mN (ci : Nat) : Nat := match ci with
  | 0 => 3 | 1 => 6 | 2 => 4 | 3 => 3 | 4 => 5 | 5 => 3 | 6 => 7 | 7 => 4 | 8 => 8 | _ => 23
def mCl : List vw_C := [(RX0, TX0, 3), (RX1, TX1, 6), (RX2, TX2, 4), (RX3, TX3, 3), (RX4, TX4, 5), (RX5, TX5, 3), (RX6, TX6, 7), (RX7, TX7, 4), (RX8, TX8, 8), (RX9, TX9, 23)]
/-- is a field a reference, is it a boolean -/
def mRf (ci k : Nat) : Bool := match mTy ci k with
  | .int => false
  | .boolean => false
  | _ => true
def mBo (ci k : Nat) : Bool := match mTy ci k with
  | .boolean => true
  | _ => false
def m1i (S : List Value) (f : Int32 → List Value → Prop) : Prop := match S with
  | .int x :: S => f x S
  | _ => False
def m2i (S : List Value) (f : Int32 → Int32 → List Value → Prop) : Prop := match S with
  | .int y :: .int x :: S => f x y S
  | _ => False
def m1l (S : List Value) (f : Int64 → List Value → Prop) : Prop := match S with
  | .long x :: S => f x S
  | _ => False
def m2l (S : List Value) (f : Int64 → Int64 → List Value → Prop) : Prop := match S with
  | .long y :: .long x :: S => f x y S
  | _ => False
def m1a (S : List Value) (f : Nat → List Value → Prop) : Prop := match S with
  | .ref a :: S => f a S
  | _ => False
def mil (S : List Value) (f : Int64 → Int32 → List Value → Prop) : Prop := match S with
  | .int y :: .long x :: S => f x y S
  | _ => False
/-- an array's cell and a place -/
def mia (S : List Value) (f : Nat → Int32 → List Value → Prop) : Prop := match S with
  | .int i :: .ref a :: S => f a i S
  | _ => False
def mlg (L : ML) (k : Nat) (f : Value → Prop) : Prop := match L[k]? with
  | some (some v) => f v
  | _ => False
def mvi (v : Value) (f : Int32 → Prop) : Prop := match v with
  | .int x => f x
  | _ => False
def mvl (v : Value) (f : Int64 → Prop) : Prop := match v with
  | .long x => f x
  | _ => False
def mva (v : Value) (f : Nat → Prop) : Prop := match v with
  | .ref x => f x
  | _ => False
def mfit (L : ML) (i : Nat) : Bool := match i with
  | 0 => true
  | j + 1 => match L[j]? with
    | some (some v) => Nat.beq v.category 1
    | _ => true
def ms1 (L : ML) (i : Nat) (v : Value) (f : ML → Prop) : Prop := match mfit L i && Nat.blt i L.length with
  | true => f (L.set i (some v))
  | false => False
def ms2 (L : ML) (i : Nat) (v : Value) (f : ML → Prop) : Prop := match mfit L i && Nat.blt (i + 1) L.length with
  | true => f ((L.set i (some v)).set (i + 1) none)
  | false => False
def mpops : Nat → List Value → List Value → (List Value → List Value → Prop) → Prop
  | 0, S, acc, f => f acc S
  | n + 1, S, acc, f => match S with
    | v :: S => mpops n S (v :: acc) f
    | [] => False
def mcs : List Value → Nat
  | [] => 0
  | v :: S => v.category + mcs S
def mcnd (c : ClassFile.Cond) (x y : Int32) (t f : Prop) : Prop := match c with
  | .eq => (x = y → t) ∧ (¬ x = y → f)
  | .ne => (¬ x = y → t) ∧ (x = y → f)
  | .lt => (x < y → t) ∧ (¬ x < y → f)
  | .ge => (y ≤ x → t) ∧ (¬ y ≤ x → f)
  | .gt => (y < x → t) ∧ (¬ y < x → f)
  | .le => (x ≤ y → t) ∧ (¬ x ≤ y → f)
/-- jumps by a number: x = lo, lo + 1 .. -/
def msw (jm : Nat → Prop) (x : Int32) (dflt : Nat) : Int32 → List Nat → Prop
  | _, [] => jm dflt
  | lo, t :: ts => (x = lo → jm t) ∧ (¬ x = lo → msw jm x dflt (lo + 1) ts)
/-- the cells' sizes -/
def msz : MS → Nat
  | [] => 0
  | q :: s => q.2.1 + msz s
/-- is the cell a of class ci (20: a String constant) -/
def mrcv (s : MS) (a ci : Nat) : Bool := bif Nat.ble a 999 then (match s[a]? with
  | some q => Nat.beq q.1 (5 + ci) && Nat.ble ci 9
  | none => false) else Nat.beq ci 20 && (Nat.ble 1010 a && Nat.ble a 1039)
def mif (b : Bool) (P : Prop) : Prop := match b with
  | true => P
  | false => False
def mget (E : ME) (kd : Nat) (h : MH) (a : Nat) (f : Nat → (Nat → Int32) → Prop) : Prop := match Nat.ble a 999 with
  | true => (match h.1[a]? with
    | some q => (match Nat.beq q.1 kd with
      | true => f q.2.1 (h.2.1 a)
      | false => False)
    | none => False)
  | false => (match mRo E a with
    | some q => (match Nat.beq q.1 kd with
      | true => f q.2.1 q.2.2
      | false => False)
    | none => False)
def mcell (h : MH) (a kd : Nat) (f : Nat → List (Option Nat) → Prop) : Prop := match h.1[a]? with
  | some q => (match Nat.beq q.1 kd with
    | true => f q.2.1 q.2.2
    | false => False)
  | none => False
def mref (r : Option Nat) (f : Nat → Prop) : Prop := match r with
  | some x => f x
  | none => False
def msetA (h : MH) (a k : Nat) (x : Int32) : MH := (h.1, va_up h.2.1 a (upd (h.2.1 a) k x), h.2.2)
def msetB (h : MH) (a k : Nat) (x : Int64) : MH := (h.1, h.2.1, va_up h.2.2 a (vp_updL (h.2.2 a) k x))
def msetR (h : MH) (a k : Nat) (r : Nat) : MH := match h.1[a]? with
  | some q => (h.1.set a (q.1, q.2.1, q.2.2.set k (some r)), h.2)
  | none => h
def mnewA (h : MH) (kd n : Nat) (rs : List (Option Nat)) : MH := (h.1 ++ [(kd, n, rs)], va_up h.2.1 h.1.length (fun _ => 0), va_up h.2.2 h.1.length (fun _ => 0))
def mret (rt : Option FieldType) (x : Int32) (P : Prop) : Prop := match rt with
  | some .int => P
  | some ty => narrow ty (.int x) = .int x ∧ P
  | none => False
def mend (S : List Value) (P : Prop) : Prop := match S with
  | [] => P
  | _ => False
/-- what is behind a call -/
def mbeh (nx : MN) (L : ML) (S : List Value) : MK := fun r h => match r with
  | some v => nx L (v :: S) h
  | none => nx L S h
def mfld (h : MH) (a ci k : Nat) (f : Value → Prop) : Prop := match Nat.ble a 999 with
  | true => mcell h a (5 + ci) (fun n rs => mif (Nat.blt k n && Nat.ble ci 9) (match mRf ci k with
    | true => mref (rs.getD k none) (fun r => mif (!(Nat.beq r 1002)) (f (.ref r)))
    | false => f (.int (h.2.1 a k))))
  | false => mif (Nat.beq ci 20 && (Nat.ble 1010 a && Nat.ble a 1039)) (match k with
    | 0 => f (.ref (a + 40))
    | _ => f (.int 0))
def mput (ini : Bool) (h : MH) (a ci k : Nat) (v : Value) (f : MH → Prop) : Prop := mif (Nat.ble a 999) (mcell h a (5 + ci) (fun n rs => mif (Nat.blt k n && (Nat.ble ci 9 && (ini || !(mT ci k).2.2.2))) (match mRf ci k with
  | true => mva v (fun r => mif (Nat.ble r 999 && Nat.blt k rs.length) (f (msetR h a k r)))
  | false => mvi v (fun x => (match mBo ci k with
    | true => narrow .boolean (.int x) = .int x ∧ fits .boolean (.int x) = true ∧ f (msetA h a k x)
    | false => f (msetA h a k x))))))
def mx (x y : Int32) : Int32 := if x < y then y else x
def mn (x y : Int32) : Int32 := if y < x then y else x
def ab (x : Int32) : Int32 := if 0 ≤ x then x else 0 - x
def mstp (E : ME) (d : Nat) (lm : Nat × Nat) (rt : Option FieldType) (ini : Bool) (cl : Nat → List Value → MH → MK → Prop) (K : MK) (I : MI) (nx : MN) (jm : Nat → MN) (L : ML) (S : List Value) (h : MH) : Prop :=
  match I with
  | (pc, i, len, p, q, r, v, ts) =>
  match i with
  | .iconst _ => nx L (.int v :: S) h
  | .bipush _ => nx L (.int v :: S) h
  | .sipush _ => nx L (.int v :: S) h
  | .lconst _ => nx L (.long (Int64.ofNat p) :: S) h
  | .ldc2_w _ => nx L (.long (Int64.ofNat p) :: S) h
  | .ldc _ => (match p with
    | 0 => nx L (.int v :: S) h
    | _ => nx L (.ref (1010 + q) :: S) h)
  | .ldc_w _ => (match p with
    | 0 => nx L (.int v :: S) h
    | _ => nx L (.ref (1010 + q) :: S) h)
  | .iload_n k => mlg L k (fun w => mvi w fun x => nx L (.int x :: S) h)
  | .iload k => mlg L k (fun w => mvi w fun x => nx L (.int x :: S) h)
  | .lload_n k => mlg L k (fun w => mvl w fun x => nx L (.long x :: S) h)
  | .lload k => mlg L k (fun w => mvl w fun x => nx L (.long x :: S) h)
  | .aload_n k => mlg L k (fun w => mva w fun x => nx L (.ref x :: S) h)
  | .aload k => mlg L k (fun w => mva w fun x => nx L (.ref x :: S) h)
  | .istore_n k => m1i S (fun x S => ms1 L k (.int x) fun L => nx L S h)
  | .istore k => m1i S (fun x S => ms1 L k (.int x) fun L => nx L S h)
  | .lstore k => m1l S (fun x S => ms2 L k (.long x) fun L => nx L S h)
  | .astore_n k => m1a S (fun x S => ms1 L k (.ref x) fun L => nx L S h)
  | .astore k => m1a S (fun x S => ms1 L k (.ref x) fun L => nx L S h)
  | .iinc k _ => mlg L k (fun w => mvi w fun x => ms1 L k (.int (x + v)) fun L => nx L S h)
  | .iadd => m2i S (fun x y S => nx L (.int (x + y) :: S) h)
  | .isub => m2i S (fun x y S => nx L (.int (x - y) :: S) h)
  | .imul => m2i S (fun x y S => nx L (.int (x * y) :: S) h)
  | .iand => m2i S (fun x y S => nx L (.int (x &&& y) :: S) h)
  | .ior => m2i S (fun x y S => nx L (.int (x ||| y) :: S) h)
  | .idiv => m2i S (fun x y S => ¬ y = 0 ∧ nx L (.int (x / y) :: S) h)
  | .irem => m2i S (fun x y S => ¬ y = 0 ∧ nx L (.int (x - x / y * y) :: S) h)
  | .ineg => m1i S (fun x S => nx L (.int (-x) :: S) h)
  | .ishl => m2i S (fun x y S => nx L (.int (x <<< (y &&& 31)) :: S) h)
  | .ishr => m2i S (fun x y S => nx L (.int (x >>> (y &&& 31)) :: S) h)
  | .iushr => m2i S (fun x y S => nx L (.int (x.toUInt32 >>> (y.toUInt32 &&& Int32.toUInt32 31)).toInt32 :: S) h)
  | .ladd => m2l S (fun x y S => nx L (.long (x + y) :: S) h)
  | .land => m2l S (fun x y S => nx L (.long (x &&& y) :: S) h)
  | .lor => m2l S (fun x y S => nx L (.long (x ||| y) :: S) h)
  | .lshl => mil S (fun x y S => nx L (.long (x <<< (y.toInt64 &&& 63)) :: S) h)
  | .lcmp => m2l S (fun x y S => nx L (.int (lg_cmp x y) :: S) h)
  | .i2l => m1i S (fun x S => nx L (.long x.toInt64 :: S) h)
  | .l2i => m1l S (fun x S => nx L (.int x.toInt32 :: S) h)
  | .i2b => m1i S (fun x S => nx L (.int x.toInt8.toInt32 :: S) h)
  | .i2s => m1i S (fun x S => nx L (.int x.toInt16.toInt32 :: S) h)
  | .i2c => m1i S (fun x S => nx L (.int (x.toUInt32 % 65536).toInt32 :: S) h)
  | .dup => (match S with
    | w :: S => mif (Nat.beq w.category 1) (nx L (w :: w :: S) h)
    | _ => False)
  | .dup2 => (match S with
    | w :: u :: S => mif (Nat.beq w.category 1 && Nat.beq u.category 1) (nx L (w :: u :: w :: u :: S) h)
    | _ => False)
  | .pop => (match S with
    | w :: S => mif (Nat.beq w.category 1) (nx L S h)
    | _ => False)
  | .goto _ => jm p L S h
  | .ifCond c _ => m1i S (fun x S => mcnd c x 0 (jm p L S h) (nx L S h))
  | .if_icmp c _ => m2i S (fun x y S => mcnd c x y (jm p L S h) (nx L S h))
  | .tableswitch _ _ _ _ => m1i S (fun x S => msw (fun t => jm t L S h) x p v ts)
  | .lookupswitch _ _ => m1i S (fun x S => msw (fun t => jm t L S h) x p v ts)
  | .iaload => mia S (fun a i S => mget E 0 h a (fun n f => vp_in i n ∧ nx L (.int (f i.toNatClampNeg) :: S) h))
  | .baload => mia S (fun a i S => (match Nat.ble a 999 with
    | true => mget E 1 h a (fun n f => vp_in i n ∧ nx L (.int (f i.toNatClampNeg) :: S) h)
    | false => mget E 5 h a (fun n f => vp_in i n ∧ nx L (.int (f i.toNatClampNeg) :: S) h)))
  | .laload => mia S (fun a i S => mcell h a 2 (fun n _ => vp_in i n ∧ nx L (.long (h.2.2 a i.toNatClampNeg) :: S) h))
  | .aaload => mia S (fun a i S => mcell h a (3 + p) (fun n rs => vp_in i n ∧ mref (rs.getD i.toNatClampNeg none) (fun r => mif (!(Nat.beq r 1002)) (nx L (.ref r :: S) h))))
  | .iastore => m1i S (fun x S => mia S (fun a i S => mcell h a 0 (fun n _ => vp_in i n ∧ nx L S (msetA h a i.toNatClampNeg x))))
  | .bastore => m1i S (fun x S => mia S (fun a i S => mcell h a 1 (fun n _ => vp_in i n ∧ nx L S (msetA h a i.toNatClampNeg (vp_nar .boolean x)))))
  | .lastore => m1l S (fun x S => mia S (fun a i S => mcell h a 2 (fun n _ => vp_in i n ∧ nx L S (msetB h a i.toNatClampNeg x))))
  | .aastore => m1a S (fun x S => mia S (fun a i S => mcell h a (3 + p) (fun n rs => vp_in i n ∧ mif (Nat.blt i.toNatClampNeg rs.length && (match p with
      | 0 => Nat.ble x 999 && mrcv h.1 x 3
      | _ => Nat.beq p 1 && (Nat.ble 1010 x && Nat.ble x 1039))) (nx L S (msetR h a i.toNatClampNeg x)))))
  | .arraylength => m1a S (fun a S => (match Nat.ble a 999 with
    | true => (match h.1[a]? with
      | some q => mif (Nat.ble q.1 4) (nx L (.int (Int32.ofNat q.2.1) :: S) h)
      | none => False)
    | false => (match mRo E a with
      | some q => nx L (.int (Int32.ofNat q.2.1) :: S) h
      | none => False)))
  | .getfield _ => m1a S (fun a S => mfld h a p q (fun w => nx L (w :: S) h))
  | .putfield _ => (match S with
    | w :: .ref a :: S => mput ini h a p q w (fun h => nx L S h)
    | _ => False)
  | .getstatic _ => (match p with
    | 0 => nx L (.ref 1001 :: S) h
    | 1 => nx L (.int 1 :: S) h
    | _ => nx L (.ref 1002 :: S) h)
  | .new _ => mif (Nat.ble p 9 && (Nat.ble (h.1.length + 1) 999 && (Nat.ble (h.1.length + 1) lm.1 && Nat.ble (msz h.1 + mN p) lm.2))) (nx L (.ref h.1.length :: S) (mnewA h (5 + p) (mN p) (List.replicate (mN p) none)))
  | .newarray _ => m1i S (fun x S => ¬ x < 0 ∧ mif (Nat.ble p 2 && (Nat.ble (h.1.length + 1) 999 && (Nat.ble (h.1.length + 1) lm.1 && (Nat.ble (msz h.1 + x.toNatClampNeg) lm.2 && Nat.ble x.toNatClampNeg 1000)))) (nx L (.ref h.1.length :: S) (mnewA h p x.toNatClampNeg [])))
  | .anewarray _ => m1i S (fun x S => ¬ x < 0 ∧ mif (Nat.ble p 1 && (Nat.ble (h.1.length + 1) 999 && (Nat.ble (h.1.length + 1) lm.1 && (Nat.ble (msz h.1 + x.toNatClampNeg) lm.2 && Nat.ble x.toNatClampNeg 1000)))) (nx L (.ref h.1.length :: S) (mnewA h (3 + p) x.toNatClampNeg (List.replicate x.toNatClampNeg none))))
  | .invokevirtual _ => mpops q S [] (fun as S => m1a S (fun a S => mif (mrcv h.1 a r && Nat.ble (mcs S) 8) (cl p (.ref a :: as) h (mbeh nx L S))))
  | .invokestatic _ => (match Nat.beq p 900 with
    | true => (match S with
      | .int n :: .int dp :: .ref b :: .int sp :: .ref a :: S => mif (Nat.ble 1 d && Nat.ble (mcs S) 8) (match q with
        | 0 => mcell h a 0 (fun na _ => mcell h b 0 (fun nb _ => ¬ sp < 0 ∧ ¬ dp < 0 ∧ ¬ n < 0 ∧ sp.toNatClampNeg + n.toNatClampNeg ≤ na ∧ dp.toNatClampNeg + n.toNatClampNeg ≤ nb ∧ nx L S (h.1, va_up h.2.1 b (va_cpy (h.2.1 a) (h.2.1 b) sp.toNatClampNeg dp.toNatClampNeg n.toNatClampNeg), h.2.2)))
        | _ => mcell h a 2 (fun na _ => mcell h b 2 (fun nb _ => ¬ sp < 0 ∧ ¬ dp < 0 ∧ ¬ n < 0 ∧ sp.toNatClampNeg + n.toNatClampNeg ≤ na ∧ dp.toNatClampNeg + n.toNatClampNeg ≤ nb ∧ nx L S (h.1, h.2.1, va_up h.2.2 b (va_cpy (h.2.2 a) (h.2.2 b) sp.toNatClampNeg dp.toNatClampNeg n.toNatClampNeg)))))
      | _ => False)
    | false => (match Nat.beq p 902 with
      | true => m2i S (fun x y S => mif (Nat.ble 1 d && Nat.ble (mcs S) 8) (nx L (.int (mx x y) :: S) h))
      | false => (match Nat.beq p 903 with
        | true => m2i S (fun x y S => mif (Nat.ble 1 d && Nat.ble (mcs S) 8) (nx L (.int (mn x y) :: S) h))
        | false => (match Nat.beq p 904 with
          | true => m1i S (fun x S => mif (Nat.ble 1 d && Nat.ble (mcs S) 8) (nx L (.int (ab x) :: S) h))
          | false => mpops q S [] (fun as S => mif (Nat.ble (mcs S) 8) (cl p as h (mbeh nx L S)))))))
  | .invokespecial _ => (match Nat.beq p 901 with
    | true => m1a S (fun a S => mif (Nat.ble a 999 && (Nat.ble 1 d && Nat.ble (mcs S) 8)) (nx L S h))
    | false => mpops q S [] (fun as S => m1a S (fun a S => mif (mrcv h.1 a r && (Nat.ble (mcs S) 8 && (Nat.ble (h.1.length + ts.getD 0 0) lm.1 && Nat.ble (msz h.1 + ts.getD 1 0) lm.2))) (cl p (.ref a :: as) h (mbeh nx L S)))))
  | .ireturn => m1i S (fun x S => mend S (mret rt x (K (some (.int x)) h)))
  | .lreturn => m1l S (fun x S => mend S (K (some (.long x)) h))
  | .return_ => mend S (match ini with
    | true => mif (Nat.beq h.1.length lm.1 && Nat.beq (msz h.1) lm.2) (K none h)
    | false => K none h)
  | .areturn => m1a S (fun x S => mend S (K (some (.ref x)) h))
  | _ => False
def mel : List Nat → Nat → Bool
  | [], _ => false
  | c :: cs, t => Nat.beq c t || mel cs t
def mdrop (t : Nat) : List MI → List MI
  | [] => []
  | I :: is => bif Nat.beq I.1 t then I :: is else mdrop t is
def mgo (ax : Nat → MN) (cut : List Nat) (w : List MI → MN) (is : List MI) : MN := fun L S h => match is with
  | [] => False
  | I :: is => (match mel cut I.1 with
    | true => ax I.1 L S h
    | false => w (I :: is) L S h)
/-- the next instruction, if it lies right behind -/
def mnxt (t : Nat) (is : List MI) : List MI := match is with
  | [] => []
  | I :: is => (match Nat.beq I.1 t with
    | true => I :: is
    | false => [])
/-- the walk from a place on, as what must hold: it stops at the places of 'cut', where 'ax' must hold, and asks 'cl' of calls -/
def mwp (E : ME) (d : Nat) (lm : Nat × Nat) (rt : Option FieldType) (ini : Bool) (cl : Nat → List Value → MH → MK → Prop) (ax : Nat → MN) (cut : List Nat) (full : List MI) (K : MK) : Nat → List MI → MN
  | 0, _ => fun _ _ _ => False
  | n + 1, is => fun L S h => match is with
    | [] => False
    | I :: is => mstp E d lm rt ini cl K I (mgo ax cut (mwp E d lm rt ini cl ax cut full K n) (mnxt (I.1 + I.2.2.1) is)) (fun t => mgo ax cut (mwp E d lm rt ini cl ax cut full K n) (mdrop t full)) L S h
