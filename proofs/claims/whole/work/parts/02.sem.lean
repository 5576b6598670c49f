/-! ===== A PURE MACHINE: the instructions that the claim's classes use, over a heap that is a function; no frames, no warming, no tables. ===== -/
abbrev qE : Type := (Nat × List Value) ⊕ (Nat × vp_A)
abbrev qH : Type := (Nat → Option qE) × Nat × Nat
abbrev qL : Type := List (Nat × Value)
abbrev qR : Type := Option Value × qH
abbrev qI : Type := Instr × Nat × Option (List Nat) × List Nat × Value × List (Int32 × Nat)
abbrev qM : Type := (MethodName × ByteArray × Nat × Option FieldType) × (String × Nat × Nat) × List Nat × List (Nat × qI)
abbrev qC : Type := Nat → List Value → qH → Option qR
def q_ob {β α : Type} (o : Option β) (d : α) (f : β → α) : α := match o with
  | none => d
  | some x => f x
def q_bt {α : Type} (b : Bool) (x y : α) : α := match b with
  | true => x
  | false => y
def q_int (v : Value) : Option Int32 := match v with
  | .int x => some x
  | _ => none
def q_long (v : Value) : Option Int64 := match v with
  | .long x => some x
  | _ => none
def q_ref (v : Value) : Option Nat := match v with
  | .ref x => some x
  | _ => none
def q_rn (v : Value) : Option Value := match v with
  | .ref x => some (.ref x)
  | .null => some .null
  | _ => none
-- the locals
def q_rdI (L : qL) (i : Nat) : Option Int32 := match L.lookup i with
  | some v => q_int v
  | none => none
def q_rdL (L : qL) (i : Nat) : Option Int64 := match L.lookup i with
  | some v => q_long v
  | none => none
def q_rdA (L : qL) (i : Nat) : Option Value := match L.lookup i with
  | some v => q_rn v
  | none => none
def q_st1 (L : qL) (i : Nat) (v : Value) : qL := (i, v) :: L.filter (fun q => !(q.1 == i) && !(q.1 + 1 == i && q.2.category == 2))
def q_st2 (L : qL) (i : Nat) (v : Value) : qL := (i, v) :: L.filter (fun q => !(q.1 == i) && (!(q.1 == i + 1) && !(q.1 + 1 == i && q.2.category == 2)))
def q_pick (L : qL) : List Nat → qL
  | [] => []
  | i :: r => match L.lookup i with
    | some v => (i, v) :: q_pick L r
    | none => q_pick L r
def q_keep (o : Option (List Nat)) (L : qL) : qL := match o with
  | none => L
  | some ks => q_pick L ks
-- the heap
def q_upd (σ : qH) (a : Nat) (e : qE) : qH := (fun b => if b = a then some e else σ.1 b, σ.2)
def q_new (σ : qH) (e : qE) (n : Nat) : qH := (fun b => if b = σ.2.1 then some e else σ.1 b, σ.2.1 + 1, σ.2.2 + n)
def q_obj (σ : qH) (v : Value) (ci : Nat) : Option (List Value) := match v with
  | .ref a => (match σ.1 a with
    | some (.inl (c, fs)) => if c = ci then some fs else none
    | _ => none)
  | _ => none
def q_fld (σ : qH) (v : Value) (ci j : Nat) : Option Value := match q_obj σ v ci with
  | some fs => fs[j]?
  | none => none
def q_getI (σ : qH) (v : Value) (ci j : Nat) : Option Int32 := match q_fld σ v ci j with
  | some x => q_int x
  | none => none
def q_getL (σ : qH) (v : Value) (ci j : Nat) : Option Int64 := match q_fld σ v ci j with
  | some x => q_long x
  | none => none
def q_getR (σ : qH) (v : Value) (ci j : Nat) : Option Nat := match q_fld σ v ci j with
  | some x => q_ref x
  | none => none
/-- a field's type by a number: 0 int, 1 long, 2 a reference, 3 char, 4 boolean -/
def q_okv (t : Nat) (v : Value) : Bool := match t with
  | 0 => (match v with
    | .int _ => true
    | _ => false)
  | 1 => (match v with
    | .long _ => true
    | _ => false)
  | 2 => (match v with
    | .ref _ => true
    | .null => true
    | _ => false)
  | 3 => decide (narrow .char v = v) && fits .char v
  | _ => decide (narrow .boolean v = v) && fits .boolean v
def q_put (σ : qH) (v : Value) (ci j t : Nat) (x : Value) : Option qH := match v with
  | .ref a => (match σ.1 a with
    | some (.inl (c, fs)) => if c = ci ∧ j < fs.length ∧ q_okv t x = true then some (q_upd σ a (.inl (c, fs.set j x))) else none
    | _ => none)
  | _ => none
def q_arr (σ : qH) (v : Value) (k : Nat) : Option vp_A := match v with
  | .ref a => (match σ.1 a with
    | some (.inr (c, x)) => if c = k then some x else none
    | _ => none)
  | _ => none
def q_aldI (σ : qH) (v : Value) (k : Nat) (i : Int32) : Option Int32 := match q_arr σ v k with
  | some (n, .inl f) => if i < 0 ∨ n ≤ i.toNatClampNeg then none else some (f i.toNatClampNeg)
  | _ => none
def q_aldL (σ : qH) (v : Value) (i : Int32) : Option Int64 := match q_arr σ v 2 with
  | some (n, .inr (.inl f)) => if i < 0 ∨ n ≤ i.toNatClampNeg then none else some (f i.toNatClampNeg)
  | _ => none
def q_aldR (σ : qH) (v : Value) (i : Int32) : Option Nat := match q_arr σ v 4 with
  | some (n, .inr (.inr (.inr (.inr f)))) => if i < 0 ∨ n ≤ i.toNatClampNeg then none else f i.toNatClampNeg
  | _ => none
def q_astI (σ : qH) (v : Value) (k : Nat) (i x : Int32) : Option qH := match v with
  | .ref a => (match q_arr σ v k with
    | some (n, .inl f) => if i < 0 ∨ n ≤ i.toNatClampNeg then none else some (q_upd σ a (.inr (k, (n, .inl (upd f i.toNatClampNeg x)))))
    | _ => none)
  | _ => none
def q_astL (σ : qH) (v : Value) (i : Int32) (x : Int64) : Option qH := match v with
  | .ref a => (match q_arr σ v 2 with
    | some (n, .inr (.inl f)) => if i < 0 ∨ n ≤ i.toNatClampNeg then none else some (q_upd σ a (.inr (2, (n, .inr (.inl (vp_updL f i.toNatClampNeg x))))))
    | _ => none)
  | _ => none
def q_astR (σ : qH) (v : Value) (i : Int32) (x : Nat) : Option qH := match v with
  | .ref a => (match q_arr σ v 4 with
    | some (n, .inr (.inr (.inr (.inr f)))) => if (i < 0 ∨ n ≤ i.toNatClampNeg) ∨ q_obj σ (.ref x) 0 = none then none else some (q_upd σ a (.inr (4, (n, .inr (.inr (.inr (.inr (va_up f i.toNatClampNeg (some x)))))))))
    | _ => none)
  | _ => none
def q_alen (σ : qH) (v : Value) (k : Nat) : Option Int32 := match q_arr σ v k with
  | some x => some (Int32.ofNat x.1)
  | none => none
/-- a new array's kind: 0 char, 1 int, 2 long, 3 boolean, 4 Evening -/
def q_zero (k n : Nat) : vp_A := match k with
  | 2 => (n, .inr (.inl (fun _ => 0)))
  | 4 => (n, .inr (.inr (.inr (.inr (fun _ => none)))))
  | _ => (n, .inl (fun _ => 0))
def q_newa (σ : qH) (k : Nat) (n : Int32) : Option qH := if n < 0 ∨ 60000 < n.toNatClampNeg then none else some (q_new σ (.inr (k, q_zero k n.toNatClampNeg)) n.toNatClampNeg)
def q_dfl (ci : Nat) : List Value := match ci with
  | 0 => [.int 0, .long 0, .long 0, .long 0, .int 0, .int 0]
  | 1 => [.long 0, .long 0, .long 0, .int 0, .int 0, .int 0, .int 0]
  | 2 => [.null, .int 0, .int 0]
  | 3 => [.int 0, .int 0, .int 0, .int 0, .long 0, .long 0, .long 0, .int 0, .long 0, .long 0]
  | 4 => [.null, .int 0, .int 0, .int 0, .int 0, .int 0, .int 0, .int 0, .null]
  | 5 => [.null, .null, .int 0, .int 0, .int 0]
  | 6 => [.null, .int 0, .null, .null, .null, .null, .null, .int 0, .null, .null, .long 0]
  | _ => [.long 0, .null, .int 0, .null, .null, .null, .null, .int 0, .null, .null, .null, .int 0, .int 0, .int 0, .int 0, .int 0, .null, .null, .null]
-- calls: the outcome by the kind of the answer
def q_cV (o : Option qR) : Option qH := match o with
  | some (none, σ) => some σ
  | _ => none
def q_cI (o : Option qR) : Option (Int32 × qH) := match o with
  | some (some (.int x), σ) => some (x, σ)
  | _ => none
def q_cL (o : Option qR) : Option (Int64 × qH) := match o with
  | some (some (.long x), σ) => some (x, σ)
  | _ => none
def q_cR (o : Option qR) : Option (Option Nat × qH) := match o with
  | some (some (.ref x), σ) => some (some x, σ)
  | some (some .null, σ) => some (none, σ)
  | _ => none
def q_sw {α : Type} (K : Nat → α) (x : Int32) (d : Nat) : List (Int32 × Nat) → α
  | [] => K d
  | p :: r => if x = p.1 then K p.2 else q_sw K x d r
def q_inv {α : Type} (k : Nat) (call : qC) (fl : α) (K : Nat → qL → List Value → qH → α) (nx : Nat) (ax : List Nat) (L : qL) (st : List Value) (σ : qH) : α :=
  q_bt (Nat.blt (ax.getD 0 0) k && Nat.ble (ax.getD 1 0) st.length && Nat.ble (st.drop (ax.getD 1 0)).length 4) (
    match ax.getD 2 0 with
    | 0 => q_ob (q_cV (call (ax.getD 0 0) (st.take (ax.getD 1 0)).reverse σ)) fl fun s => K nx L (st.drop (ax.getD 1 0)) s
    | 1 => q_ob (q_cI (call (ax.getD 0 0) (st.take (ax.getD 1 0)).reverse σ)) fl fun p => K nx L (.int p.1 :: st.drop (ax.getD 1 0)) p.2
    | 2 => q_ob (q_cL (call (ax.getD 0 0) (st.take (ax.getD 1 0)).reverse σ)) fl fun p => K nx L (.long p.1 :: st.drop (ax.getD 1 0)) p.2
    | _ => q_ob (q_cR (call (ax.getD 0 0) (st.take (ax.getD 1 0)).reverse σ)) fl fun p => match p.1 with
      | some a => K nx L (.ref a :: st.drop (ax.getD 1 0)) p.2
      | none => K nx L (.null :: st.drop (ax.getD 1 0)) p.2) fl
def q_min (x y : Int32) : Int32 := if y < x then y else x
def q_max (x y : Int32) : Int32 := if x < y then y else x
/-- one instruction: what it does with the rest K -/
def q_G {α : Type} (k : Nat) (call : qC) (fl : α) (rt : qR → α) (K : Nat → qL → List Value → qH → α) (ins : Instr) (nx : Nat) (ax : List Nat) (cv : Value) (sw : List (Int32 × Nat)) (L : qL) (st : List Value) (σ : qH) : α :=
  match ins with
  | .iconst _ => K nx L (cv :: st) σ
  | .bipush _ => K nx L (cv :: st) σ
  | .sipush _ => K nx L (cv :: st) σ
  | .ldc _ => K nx L (cv :: st) σ
  | .ldc_w _ => K nx L (cv :: st) σ
  | .lconst _ => K nx L (cv :: st) σ
  | .ldc2_w _ => K nx L (cv :: st) σ
  | .aconst_null => K nx L (.null :: st) σ
  | .iload _ => q_ob (q_rdI L (ax.getD 0 0)) fl fun x => K nx L (.int x :: st) σ
  | .iload_n _ => q_ob (q_rdI L (ax.getD 0 0)) fl fun x => K nx L (.int x :: st) σ
  | .lload _ => q_ob (q_rdL L (ax.getD 0 0)) fl fun x => K nx L (.long x :: st) σ
  | .lload_n _ => q_ob (q_rdL L (ax.getD 0 0)) fl fun x => K nx L (.long x :: st) σ
  | .aload _ => q_ob (q_rdA L (ax.getD 0 0)) fl fun x => K nx L (x :: st) σ
  | .aload_n _ => q_ob (q_rdA L (ax.getD 0 0)) fl fun x => K nx L (x :: st) σ
  | .istore _ => (match st with
    | .int x :: r => K nx (q_st1 L (ax.getD 0 0) (.int x)) r σ
    | _ => fl)
  | .istore_n _ => (match st with
    | .int x :: r => K nx (q_st1 L (ax.getD 0 0) (.int x)) r σ
    | _ => fl)
  | .lstore _ => (match st with
    | .long x :: r => K nx (q_st2 L (ax.getD 0 0) (.long x)) r σ
    | _ => fl)
  | .lstore_n _ => (match st with
    | .long x :: r => K nx (q_st2 L (ax.getD 0 0) (.long x)) r σ
    | _ => fl)
  | .astore _ => (match st with
    | .ref x :: r => K nx (q_st1 L (ax.getD 0 0) (.ref x)) r σ
    | .null :: r => K nx (q_st1 L (ax.getD 0 0) .null) r σ
    | _ => fl)
  | .astore_n _ => (match st with
    | .ref x :: r => K nx (q_st1 L (ax.getD 0 0) (.ref x)) r σ
    | .null :: r => K nx (q_st1 L (ax.getD 0 0) .null) r σ
    | _ => fl)
  | .iinc _ _ => q_ob (q_rdI L (ax.getD 0 0)) fl fun x => (match cv with
    | .int c => K nx (q_st1 L (ax.getD 0 0) (.int (x + c))) st σ
    | _ => fl)
  | .iadd => (match st with
    | .int y :: .int x :: r => K nx L (.int (x + y) :: r) σ
    | _ => fl)
  | .isub => (match st with
    | .int y :: .int x :: r => K nx L (.int (x - y) :: r) σ
    | _ => fl)
  | .imul => (match st with
    | .int y :: .int x :: r => K nx L (.int (x * y) :: r) σ
    | _ => fl)
  | .iand => (match st with
    | .int y :: .int x :: r => K nx L (.int (x &&& y) :: r) σ
    | _ => fl)
  | .ior => (match st with
    | .int y :: .int x :: r => K nx L (.int (x ||| y) :: r) σ
    | _ => fl)
  | .ixor => (match st with
    | .int y :: .int x :: r => K nx L (.int (x ^^^ y) :: r) σ
    | _ => fl)
  | .idiv => (match st with
    | .int y :: .int x :: r => if y = 0 then fl else K nx L (.int (x / y) :: r) σ
    | _ => fl)
  | .irem => (match st with
    | .int y :: .int x :: r => if y = 0 then fl else K nx L (.int (x - x / y * y) :: r) σ
    | _ => fl)
  | .ishl => (match st with
    | .int y :: .int x :: r => K nx L (.int (x <<< (y &&& 31)) :: r) σ
    | _ => fl)
  | .ishr => (match st with
    | .int y :: .int x :: r => K nx L (.int (x >>> (y &&& 31)) :: r) σ
    | _ => fl)
  | .iushr => (match st with
    | .int y :: .int x :: r => K nx L (.int (x.toUInt32 >>> (y.toUInt32 &&& Int32.toUInt32 31)).toInt32 :: r) σ
    | _ => fl)
  | .ladd => (match st with
    | .long y :: .long x :: r => K nx L (.long (x + y) :: r) σ
    | _ => fl)
  | .land => (match st with
    | .long y :: .long x :: r => K nx L (.long (x &&& y) :: r) σ
    | _ => fl)
  | .lor => (match st with
    | .long y :: .long x :: r => K nx L (.long (x ||| y) :: r) σ
    | _ => fl)
  | .lxor => (match st with
    | .long y :: .long x :: r => K nx L (.long (x ^^^ y) :: r) σ
    | _ => fl)
  | .lushr => (match st with
    | .int y :: .long x :: r => K nx L (.long (x.toUInt64 >>> (y.toInt64.toUInt64 &&& Int64.toUInt64 63)).toInt64 :: r) σ
    | _ => fl)
  | .lshl => (match st with
    | .int y :: .long x :: r => K nx L (.long (x <<< (y.toInt64 &&& 63)) :: r) σ
    | _ => fl)
  | .lshr => (match st with
    | .int y :: .long x :: r => K nx L (.long (x >>> (y.toInt64 &&& 63)) :: r) σ
    | _ => fl)
  | .lcmp => (match st with
    | .long y :: .long x :: r => K nx L (.int (lg_cmp x y) :: r) σ
    | _ => fl)
  | .i2l => (match st with
    | .int x :: r => K nx L (.long x.toInt64 :: r) σ
    | _ => fl)
  | .l2i => (match st with
    | .long x :: r => K nx L (.int x.toInt32 :: r) σ
    | _ => fl)
  | .i2c => (match st with
    | .int x :: r => K nx L (.int (x.toUInt32 % 65536).toInt32 :: r) σ
    | _ => fl)
  | .pop => (match st with
    | .int _ :: r => K nx L r σ
    | _ => fl)
  | .dup => (match st with
    | .int x :: r => K nx L (.int x :: .int x :: r) σ
    | .ref x :: r => K nx L (.ref x :: .ref x :: r) σ
    | _ => fl)
  | .dup2 => (match st with
    | .long x :: r => K nx L (.long x :: .long x :: r) σ
    | .int y :: .ref x :: r => K nx L (.int y :: .ref x :: .int y :: .ref x :: r) σ
    | _ => fl)
  | .goto _ => K (ax.getD 0 0) L st σ
  | .if_icmp c _ => (match st with
    | .int y :: .int x :: r => (match c with
      | .eq => if x = y then K (ax.getD 0 0) L r σ else K nx L r σ
      | .ne => if x = y then K nx L r σ else K (ax.getD 0 0) L r σ
      | .lt => if x < y then K (ax.getD 0 0) L r σ else K nx L r σ
      | .ge => if y ≤ x then K (ax.getD 0 0) L r σ else K nx L r σ
      | .gt => if y < x then K (ax.getD 0 0) L r σ else K nx L r σ
      | .le => if x ≤ y then K (ax.getD 0 0) L r σ else K nx L r σ)
    | _ => fl)
  | .ifCond c _ => (match st with
    | .int x :: r => (match c with
      | .eq => if x = 0 then K (ax.getD 0 0) L r σ else K nx L r σ
      | .ne => if x = 0 then K nx L r σ else K (ax.getD 0 0) L r σ
      | .lt => if x < 0 then K (ax.getD 0 0) L r σ else K nx L r σ
      | .ge => if 0 ≤ x then K (ax.getD 0 0) L r σ else K nx L r σ
      | .gt => if 0 < x then K (ax.getD 0 0) L r σ else K nx L r σ
      | .le => if x ≤ 0 then K (ax.getD 0 0) L r σ else K nx L r σ)
    | _ => fl)
  | .ifnull _ => (match st with
    | .ref _ :: r => K nx L r σ
    | .null :: r => K (ax.getD 0 0) L r σ
    | _ => fl)
  | .ifnonnull _ => (match st with
    | .ref _ :: r => K (ax.getD 0 0) L r σ
    | .null :: r => K nx L r σ
    | _ => fl)
  | .tableswitch _ _ _ _ => (match st with
    | .int x :: r => q_sw (fun p => K p L r σ) x (ax.getD 0 0) sw
    | _ => fl)
  | .lookupswitch _ _ => (match st with
    | .int x :: r => q_sw (fun p => K p L r σ) x (ax.getD 0 0) sw
    | _ => fl)
  | .getfield _ => (match st with
    | v :: r => (match ax.getD 2 0 with
      | 0 => q_ob (q_getI σ v (ax.getD 0 0) (ax.getD 1 0)) fl fun x => K nx L (.int x :: r) σ
      | 1 => q_ob (q_getL σ v (ax.getD 0 0) (ax.getD 1 0)) fl fun x => K nx L (.long x :: r) σ
      | _ => q_ob (q_getR σ v (ax.getD 0 0) (ax.getD 1 0)) fl fun x => K nx L (.ref x :: r) σ)
    | _ => fl)
  | .putfield _ => (match st with
    | x :: v :: r => q_ob (q_put σ v (ax.getD 0 0) (ax.getD 1 0) (ax.getD 2 0) x) fl fun s => K nx L r s
    | _ => fl)
  | .iaload => (match st with
    | .int i :: v :: r => q_ob (q_aldI σ v (ax.getD 0 0) i) fl fun x => K nx L (.int x :: r) σ
    | _ => fl)
  | .caload => (match st with
    | .int i :: v :: r => q_ob (q_aldI σ v 0 i) fl fun x => K nx L (.int x :: r) σ
    | _ => fl)
  | .baload => (match st with
    | .int i :: v :: r => q_ob (q_aldI σ v 3 i) fl fun x => K nx L (.int x :: r) σ
    | _ => fl)
  | .laload => (match st with
    | .int i :: v :: r => q_ob (q_aldL σ v i) fl fun x => K nx L (.long x :: r) σ
    | _ => fl)
  | .aaload => (match st with
    | .int i :: v :: r => q_ob (q_aldR σ v i) fl fun x => K nx L (.ref x :: r) σ
    | _ => fl)
  | .iastore => (match st with
    | .int x :: .int i :: v :: r => q_ob (q_astI σ v 1 i x) fl fun s => K nx L r s
    | _ => fl)
  | .castore => (match st with
    | .int x :: .int i :: v :: r => q_ob (q_astI σ v 0 i (vp_nar .char x)) fl fun s => K nx L r s
    | _ => fl)
  | .bastore => (match st with
    | .int x :: .int i :: v :: r => q_ob (q_astI σ v 3 i (vp_nar .boolean x)) fl fun s => K nx L r s
    | _ => fl)
  | .lastore => (match st with
    | .long x :: .int i :: v :: r => q_ob (q_astL σ v i x) fl fun s => K nx L r s
    | _ => fl)
  | .aastore => (match st with
    | .ref x :: .int i :: v :: r => q_ob (q_astR σ v i x) fl fun s => K nx L r s
    | _ => fl)
  | .arraylength => (match st with
    | v :: r => q_ob (q_alen σ v (ax.getD 0 0)) fl fun x => K nx L (.int x :: r) σ
    | _ => fl)
  | .new _ => K nx L (.ref σ.2.1 :: st) (q_new σ (.inl (ax.getD 0 0, q_dfl (ax.getD 0 0))) (ax.getD 1 0))
  | .newarray _ => (match st with
    | .int n :: r => q_ob (q_newa σ (ax.getD 0 0) n) fl fun s => K nx L (.ref σ.2.1 :: r) s
    | _ => fl)
  | .anewarray _ => (match st with
    | .int n :: r => q_ob (q_newa σ 4 n) fl fun s => K nx L (.ref σ.2.1 :: r) s
    | _ => fl)
  | .invokevirtual _ => q_inv k call fl K nx ax L st σ
  | .invokestatic _ => q_bt (Nat.beq (ax.getD 0 0) 997) (match st with
      | .int y :: .int x :: r => q_bt (Nat.ble r.length 4) (K nx L (.int (q_min x y) :: r) σ) fl
      | _ => fl) (q_bt (Nat.beq (ax.getD 0 0) 996) (match st with
      | .int y :: .int x :: r => q_bt (Nat.ble r.length 4) (K nx L (.int (q_max x y) :: r) σ) fl
      | _ => fl) (q_inv k call fl K nx ax L st σ))
  | .invokespecial _ => q_bt (Nat.beq (ax.getD 0 0) 999) (match st with
      | .ref _ :: r => q_bt (Nat.ble r.length 4) (K nx L r σ) fl
      | _ => fl) (q_inv k call fl K nx ax L st σ)
  | .ireturn => (match st with
    | [.int x] => q_bt (q_okv (ax.getD 0 0) (.int x)) (rt (some (.int x), σ)) fl
    | _ => fl)
  | .lreturn => (match st with
    | [.long x] => rt (some (.long x), σ)
    | _ => fl)
  | .areturn => (match st with
    | [.ref x] => rt (some (.ref x), σ)
    | [.null] => rt (some .null, σ)
    | _ => fl)
  | .return_ => (match st with
    | [] => rt (none, σ)
    | _ => fl)
  | _ => fl
/-- one step of method number k, with the rows 'cd' -/
def q_F {α : Type} (k : Nat) (cd : List (Nat × qI)) (call : qC) (fl : α) (rt : qR → α) (K : Nat → qL → List Value → qH → α) (pc : Nat) (L : qL) (st : List Value) (σ : qH) : α :=
  match cd.lookup pc with
  | none => fl
  | some e => q_G k call fl rt K e.1 e.2.1 e.2.2.2.1 e.2.2.2.2.1 e.2.2.2.2.2 (q_keep e.2.2.1 L) st σ
-- what a step does, told without its rest
abbrev qT : Type := Option (qR ⊕ (Nat × qL × List Value × qH))
def q_join {α : Type} (fl : α) (rt : qR → α) (K : Nat → qL → List Value → qH → α) (t : qT) : α := match t with
  | none => fl
  | some (.inl r) => rt r
  | some (.inr s) => K s.1 s.2.1 s.2.2.1 s.2.2.2
def q_K : Nat → qL → List Value → qH → qT := fun p L st σ => some (.inr (p, L, st, σ))
def q_step (k : Nat) (cd : List (Nat × qI)) (call : qC) (pc : Nat) (L : qL) (st : List Value) (σ : qH) : qT := q_F k cd call none (fun r => some (.inl r)) q_K pc L st σ
theorem q_ob_join {β α : Type} (fl : α) (rt : qR → α) (K : Nat → qL → List Value → qH → α) (o : Option β) (f : β → qT) : q_join fl rt K (q_ob o none f) = q_ob o fl (fun x => q_join fl rt K (f x)) := by
  cases o <;> rfl
theorem q_bt_join {α : Type} (fl : α) (rt : qR → α) (K : Nat → qL → List Value → qH → α) (b : Bool) (x y : qT) : q_join fl rt K (q_bt b x y) = q_bt b (q_join fl rt K x) (q_join fl rt K y) := by
  cases b <;> rfl
theorem q_sw_join {α : Type} (fl : α) (rt : qR → α) (K : Nat → qL → List Value → qH → α) (f : Nat → qT) (x : Int32) (d : Nat) (sw : List (Int32 × Nat)) : q_join fl rt K (q_sw f x d sw) = q_sw (fun p => q_join fl rt K (f p)) x d sw := by
  induction sw with
  | nil => rfl
  | cons p r ih =>
    unfold q_sw
    split
    · rfl
    · exact ih
theorem q_inv_join {α : Type} (k : Nat) (call : qC) (fl : α) (rt : qR → α) (K : Nat → qL → List Value → qH → α) (nx : Nat) (ax : List Nat) (L : qL) (st : List Value) (σ : qH) :
    q_inv k call fl K nx ax L st σ = q_join fl rt K (q_inv k call none q_K nx ax L st σ) := by
  unfold q_inv
  rw [q_bt_join]
  congr 1
  split
  · rw [q_ob_join]; rfl
  · rw [q_ob_join]; rfl
  · rw [q_ob_join]; rfl
  · rw [q_ob_join]
    congr 1
    funext p
    cases p.1 <;> rfl
set_option maxHeartbeats 4000000 in
theorem q_G_join {α : Type} (k : Nat) (call : qC) (fl : α) (rt : qR → α) (K : Nat → qL → List Value → qH → α) (ins : Instr) (nx : Nat) (ax : List Nat) (cv : Value) (sw : List (Int32 × Nat)) (L : qL) (st : List Value) (σ : qH) :
    q_G k call fl rt K ins nx ax cv sw L st σ = q_join fl rt K (q_G k call none (fun r => some (.inl r)) q_K ins nx ax cv sw L st σ) := by
  unfold q_G
  cases ins <;> (try rfl) <;> dsimp only <;> (try (rw [q_ob_join]; rfl)) <;> (try exact q_inv_join k call fl rt K nx ax L st σ) <;>
    (repeat' split) <;> (try rfl) <;> (try (rw [q_ob_join]; rfl)) <;> (try (rw [q_sw_join]; rfl)) <;> (try (rw [q_bt_join]; rfl)) <;> (try (rw [q_ob_join]; congr 1; done))
  · rw [q_bt_join, q_bt_join, ← q_inv_join]
    rfl
  · rw [q_bt_join, ← q_inv_join]
    rfl
  · rw [q_bt_join, q_bt_join, q_bt_join, q_bt_join, ← q_inv_join]
    rfl
  · rw [q_bt_join, q_bt_join, ← q_inv_join]
    rfl
theorem q_F_join {α : Type} (k : Nat) (cd : List (Nat × qI)) (call : qC) (fl : α) (rt : qR → α) (K : Nat → qL → List Value → qH → α) (pc : Nat) (L : qL) (st : List Value) (σ : qH) :
    q_F k cd call fl rt K pc L st σ = q_join fl rt K (q_step k cd call pc L st σ) := by
  unfold q_step q_F
  split
  · rfl
  · exact q_G_join ..
theorem q_inv_congr {α : Type} {k : Nat} {c1 c2 : qC} (h : ∀ j, j < k → c1 j = c2 j) (fl : α) (K : Nat → qL → List Value → qH → α) (nx : Nat) (ax : List Nat) (L : qL) (st : List Value) (σ : qH) :
    q_inv k c1 fl K nx ax L st σ = q_inv k c2 fl K nx ax L st σ := by
  unfold q_inv
  by_cases hj : ax.getD 0 0 < k
  · rw [h _ hj]
  · have e : Nat.blt (ax.getD 0 0) k = false := by
      cases hb : Nat.blt (ax.getD 0 0) k with
      | false => rfl
      | true => exact absurd (Nat.blt_eq.mp hb) hj
    rw [e]
    rfl
theorem q_F_congr {α : Type} {k : Nat} {c1 c2 : qC} (h : ∀ j, j < k → c1 j = c2 j) (cd : List (Nat × qI)) (fl : α) (rt : qR → α) (K : Nat → qL → List Value → qH → α) (pc : Nat) (L : qL) (st : List Value) (σ : qH) :
    q_F k cd c1 fl rt K pc L st σ = q_F k cd c2 fl rt K pc L st σ := by
  unfold q_F
  split
  · rfl
  · unfold q_G
    split <;> (try rfl)
    · exact q_inv_congr h ..
    · rw [q_inv_congr h]
    · rw [q_inv_congr h]
-- runs of bounded length, and their limit
def q_it (k : Nat) (cd : List (Nat × qI)) (call : qC) : Nat → Nat → qL → List Value → qH → Option qR
  | 0 => fun _ _ _ _ => none
  | n + 1 => q_F k cd call none some (q_it k cd call n)
theorem q_it_mono {k : Nat} {cd : List (Nat × qI)} {call : qC} : ∀ (n : Nat) (pc : Nat) (L : qL) (st : List Value) (σ : qH) (r : qR), q_it k cd call n pc L st σ = some r → q_it k cd call (n + 1) pc L st σ = some r := by
  intro n
  induction n with
  | zero => intro pc L st σ r h; cases h
  | succ n ih =>
    intro pc L st σ r h
    unfold q_it at h ⊢
    rw [q_F_join] at h ⊢
    cases hs : q_step k cd call pc L st σ with
    | none => rw [hs] at h; cases h
    | some x =>
      rw [hs] at h
      cases x with
      | inl r0 => exact h
      | inr s => exact ih _ _ _ _ _ h
theorem q_it_le {k : Nat} {cd : List (Nat × qI)} {call : qC} {n m : Nat} (hnm : n ≤ m) {pc : Nat} {L : qL} {st : List Value} {σ : qH} {r : qR} (h : q_it k cd call n pc L st σ = some r) : q_it k cd call m pc L st σ = some r := by
  induction hnm with
  | refl => exact h
  | step _ ih => exact q_it_mono _ _ _ _ _ _ ih
noncomputable def q_lim (f : Nat → Option qR) : Option qR := by
  classical exact if h : ∃ n, (f n).isSome = true then f h.choose else none
theorem q_lim_iff {f : Nat → Option qR} (hm : ∀ n m r, n ≤ m → f n = some r → f m = some r) (r : qR) : q_lim f = some r ↔ ∃ n, f n = some r := by
  classical
  unfold q_lim
  by_cases h : ∃ n, (f n).isSome = true
  · rw [dif_pos h]
    constructor
    · intro e; exact ⟨_, e⟩
    · rintro ⟨n, e⟩
      obtain ⟨r2, e2⟩ := Option.isSome_iff_exists.mp h.choose_spec
      rcases Nat.le_total n h.choose with q | q
      · rw [hm _ _ _ q e]
      · have := hm _ _ _ q e2
        rw [e] at this
        rw [e2]; exact this.symm
  · rw [dif_neg h]
    constructor
    · intro e; cases e
    · rintro ⟨n, e⟩
      exact absurd ⟨n, by rw [e]; rfl⟩ h
noncomputable def q_rn0 (k : Nat) (cd : List (Nat × qI)) (call : qC) (pc : Nat) (L : qL) (st : List Value) (σ : qH) : Option qR := q_lim fun n => q_it k cd call n pc L st σ
theorem q_rn0_iff {k : Nat} {cd : List (Nat × qI)} {call : qC} {pc : Nat} {L : qL} {st : List Value} {σ : qH} (r : qR) : q_rn0 k cd call pc L st σ = some r ↔ ∃ n, q_it k cd call n pc L st σ = some r :=
  q_lim_iff (fun _ _ _ h e => q_it_le h e) r
theorem q_opt_ext {α : Type} {a b : Option α} (h : ∀ r, a = some r ↔ b = some r) : a = b := by
  cases a with
  | none =>
    cases b with
    | none => rfl
    | some y => exact absurd ((h y).mpr rfl) (by simp)
  | some x => exact ((h x).mp rfl).symm
theorem q_rn0_eq (k : Nat) (cd : List (Nat × qI)) (call : qC) (pc : Nat) (L : qL) (st : List Value) (σ : qH) : q_rn0 k cd call pc L st σ = q_F k cd call none some (q_rn0 k cd call) pc L st σ := by
  apply q_opt_ext
  intro r
  rw [q_rn0_iff, q_F_join]
  cases hs : q_step k cd call pc L st σ with
  | none =>
    constructor
    · rintro ⟨n, e⟩
      cases n with
      | zero => cases e
      | succ n => unfold q_it at e; rw [q_F_join, hs] at e; cases e
    · intro e; cases e
  | some x =>
    cases x with
    | inl r0 =>
      constructor
      · rintro ⟨n, e⟩
        cases n with
        | zero => cases e
        | succ n => unfold q_it at e; rw [q_F_join, hs] at e; exact e
      · intro e
        exact ⟨1, by unfold q_it; rw [q_F_join, hs]; exact e⟩
    | inr s =>
      show _ ↔ q_rn0 k cd call s.1 s.2.1 s.2.2.1 s.2.2.2 = some r
      rw [q_rn0_iff]
      constructor
      · rintro ⟨n, e⟩
        cases n with
        | zero => cases e
        | succ n => unfold q_it at e; rw [q_F_join, hs] at e; exact ⟨n, e⟩
      · rintro ⟨n, e⟩
        exact ⟨n + 1, by unfold q_it; rw [q_F_join, hs]; exact e⟩
-- a method's entry: the receiver is an object of the class; the arguments' number and width
def q_ent (M : qM) (args : List Value) (σ : qH) (R : Nat → qL → List Value → qH → Option qR) : Option qR :=
  q_bt ((Nat.beq M.2.1.2.2 0 || (q_obj σ (args.headD .null) M.2.1.2.1).isSome) && Nat.beq args.length (M.2.2.1.getD 4 0) && Nat.ble (lg_sl args).length M.1.2.2.1) (R 0 (lv_args 0 args) [] σ) none
noncomputable def q_cn (ms : Nat → qM) : Nat → qC
  | 0 => fun _ _ _ => none
  | n + 1 => fun j args σ => q_bt (Nat.beq j n) (q_ent (ms n) args σ (q_rn0 n (ms n).2.2.2 (q_cn ms n))) (q_cn ms n j args σ)
theorem q_cn_lt (ms : Nat → qM) {j : Nat} : ∀ n, j < n → q_cn ms n j = q_cn ms (j + 1) j := by
  intro n
  induction n with
  | zero => intro h; omega
  | succ n ih =>
    intro h
    by_cases e : j = n
    · rw [e]
    · rw [← ih (by omega)]
      funext args σ
      have hb : Nat.beq j n = false := by
        cases hb : Nat.beq j n with
        | false => rfl
        | true => exact absurd (Nat.eq_of_beq_eq_true hb) e
      show q_bt (Nat.beq j n) _ _ = _
      rw [hb]
      rfl
theorem q_it_congr {k : Nat} {c1 c2 : qC} (h : ∀ j, j < k → c1 j = c2 j) (cd : List (Nat × qI)) : ∀ n, q_it k cd c1 n = q_it k cd c2 n := by
  intro n
  induction n with
  | zero => rfl
  | succ n ih =>
    funext pc L st σ
    show q_F k cd c1 none some (q_it k cd c1 n) pc L st σ = q_F k cd c2 none some (q_it k cd c2 n) pc L st σ
    rw [ih, q_F_congr h]
theorem q_rn0_congr {k : Nat} {c1 c2 : qC} (h : ∀ j, j < k → c1 j = c2 j) (cd : List (Nat × qI)) : q_rn0 k cd c1 = q_rn0 k cd c2 := by
  funext pc L st σ
  unfold q_rn0
  congr 1
  funext n
  rw [q_it_congr h cd n]
theorem q_cn_self (ms : Nat → qM) (k : Nat) (args : List Value) (σ : qH) : q_cn ms (k + 1) k args σ = q_ent (ms k) args σ (q_rn0 k (ms k).2.2.2 (fun j => q_cn ms (j + 1) j)) := by
  show q_bt (Nat.beq k k) _ _ = _
  rw [show Nat.beq k k = true from Nat.beq_refl k]
  show q_ent _ _ _ _ = _
  rw [q_rn0_congr (k := k) (c1 := q_cn ms k) (c2 := fun j => q_cn ms (j + 1) j) (fun j hj => q_cn_lt ms k hj)]
-- a step, then on until a stop
theorem q_pick_lookup (L : qL) (i : Nat) : ∀ ks : List Nat, i ∈ ks → (q_pick L ks).lookup i = L.lookup i := by
  intro ks
  induction ks with
  | nil => intro h; cases h
  | cons j r ih =>
    intro h
    unfold q_pick
    by_cases e : i = j
    · subst e
      cases hl : L.lookup i with
      | some v =>
        show ((i, v) :: q_pick L r).lookup i = some v
        simp [List.lookup]
      | none =>
        show (q_pick L r).lookup i = none
        by_cases hr : i ∈ r
        · rw [ih hr, hl]
        · clear ih h
          induction r with
          | nil => rfl
          | cons a b ihb =>
            unfold q_pick
            have h1 : i ≠ a := fun q => hr (q ▸ List.mem_cons_self)
            have h2 : i ∉ b := fun q => hr (List.mem_cons_of_mem _ q)
            split
            · rw [List.lookup_cons]
              have : (i == a) = false := by simpa using h1
              rw [this]
              exact ihb h2
            · exact ihb h2
    · have h2 : i ∈ r := (List.mem_cons.mp h).resolve_left e
      have hb : (i == j) = false := by simpa using e
      split
      · rw [List.lookup_cons, hb]
        exact ih h2
      · exact ih h2
theorem q_pick_sub (L L' : qL) : ∀ ks : List Nat, (∀ i ∈ ks, L'.lookup i = L.lookup i) → q_pick L' ks = q_pick L ks := by
  intro ks
  induction ks with
  | nil => intro _; rfl
  | cons j r ih =>
    intro h
    unfold q_pick
    rw [h j List.mem_cons_self, ih fun i hi => h i (List.mem_cons_of_mem _ hi)]
theorem q_keep_idem (o : Option (List Nat)) (L : qL) : q_keep o (q_keep o L) = q_keep o L := by
  cases o with
  | none => rfl
  | some ks => exact q_pick_sub L (q_pick L ks) ks fun i hi => q_pick_lookup L i ks hi
def q_kp (cd : List (Nat × qI)) (pc : Nat) (L : qL) : qL := match cd.lookup pc with
  | none => L
  | some e => q_keep e.2.2.1 L
theorem q_F_kp {α : Type} (k : Nat) (cd : List (Nat × qI)) (call : qC) (fl : α) (rt : qR → α) (K : Nat → qL → List Value → qH → α) (pc : Nat) (L : qL) (st : List Value) (σ : qH) :
    q_F k cd call fl rt K pc (q_kp cd pc L) st σ = q_F k cd call fl rt K pc L st σ := by
  unfold q_F q_kp
  cases h : cd.lookup pc with
  | none => rfl
  | some e =>
    show q_G _ _ _ _ _ _ _ _ _ _ (q_keep e.2.2.1 (q_keep e.2.2.1 L)) _ _ = _
    rw [q_keep_idem]
def q_un (k : Nat) (cd : List (Nat × qI)) (call : qC) (R : Nat → qL → List Value → qH → Option qR) (cuts : List Nat) : Nat → Nat → qL → List Value → qH → Option qR
  | 0 => R
  | n + 1 => fun pc L st σ => q_bt (cuts.elem pc) (R pc (q_kp cd pc L) st σ) (q_F k cd call none some (q_un k cd call R cuts n) pc L st σ)
theorem q_un_eq {k : Nat} {cd : List (Nat × qI)} {call : qC} {R : Nat → qL → List Value → qH → Option qR} (h : ∀ pc L st σ, R pc L st σ = q_F k cd call none some R pc L st σ) (cuts : List Nat) : ∀ n, q_un k cd call R cuts n = R := by
  intro n
  induction n with
  | zero => rfl
  | succ n ih =>
    funext pc L st σ
    show q_bt (cuts.elem pc) (R pc (q_kp cd pc L) st σ) (q_F k cd call none some (q_un k cd call R cuts n) pc L st σ) = _
    rw [ih, ← h, h pc (q_kp cd pc L), q_F_kp, ← h]
    cases cuts.elem pc <;> rfl
