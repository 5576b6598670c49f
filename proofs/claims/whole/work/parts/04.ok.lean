/-! ===== the tables against the bytecode and the Statement's words ===== -/
def q_wd (p : Nat) : Option Cond := match p / 1000 with
  | 0 => (k2_sels lw_privs)[p % 1000]?
  | 1 => tables_1_1[p % 1000]?
  | 2 => tables_1_2[p % 1000]?
  | 3 => tables_1_3[p % 1000]?
  | _ => tables_1_4[p % 1000]?
theorem q_wd_in {p : Nat} {w : Cond} (h : q_wd p = some w) : w ∈ lw_tbl := by
  unfold q_wd at h
  unfold lw_tbl tables_1
  split at h <;> have h := List.mem_of_getElem? h
  · exact List.mem_append_left _ h
  · exact List.mem_append_right _ (List.mem_append_left _ h)
  · exact List.mem_append_right _ (List.mem_append_right _ (List.mem_append_left _ h))
  · exact List.mem_append_right _ (List.mem_append_right _ (List.mem_append_right _ (List.mem_append_left _ h)))
  · exact List.mem_append_right _ (List.mem_append_right _ (List.mem_append_right _ (List.mem_append_right _ h)))
def q_WS : List Cond := lw_tbl.filter goodWord
def q_gd (p : Nat) (w : Cond) : Bool := match q_wd p with
  | some v => decide (v = w) && goodWord w
  | none => false
theorem q_gd_in {p : Nat} {w : Cond} (h : q_gd p w = true) : w ∈ q_WS := by
  unfold q_gd at h
  split at h
  · next v hv =>
    rw [Bool.and_eq_true] at h
    have e := of_decide_eq_true h.1
    subst e
    exact List.mem_filter.mpr ⟨q_wd_in hv, h.2⟩
  · cases h
theorem q_WS_good {ws : List Cond} (h : ∀ w ∈ ws, w ∈ q_WS) {big : List Cond} (hb : ∀ w ∈ q_WS, w ∈ big) : GoodIn big ws := fun w hw => ⟨hb w (h w hw), good_of_word (List.mem_filter.mp (h w hw)).2⟩
/-- a class by its number: name, fields, how many, their types -/
def q_cls (ci : Nat) : vw_C := match ci with
  | 0 => (RX0, TX0, 6)
  | 1 => (RX1, TX1, 7)
  | 2 => (RX2, TX2, 3)
  | 3 => (RX3, TX3, 10)
  | 4 => (RX4, TX4, 9)
  | 5 => (RX5, TX5, 5)
  | 6 => (RX6, TX6, 11)
  | _ => (RX7, TX7, 19)
def q_fty (ci : Nat) : Nat → FieldType := match ci with
  | 0 => tyX0
  | 1 => tyX1
  | 2 => tyX2
  | 3 => tyX3
  | 4 => tyX4
  | 5 => tyX5
  | 6 => tyX6
  | _ => tyX7
def q_tc : FieldType → Nat
  | .int => 0
  | .long => 1
  | .object _ => 2
  | .array _ => 2
  | .char => 3
  | .boolean => 4
  | _ => 7
def q_akt (k : Nat) : FieldType := match k with
  | 0 => .char
  | 1 => .int
  | 2 => .long
  | 3 => .boolean
  | _ => .object RX0
def q_okc (k : Nat) (M : qM) (pc idx nx : Nat) (ax : List Nat) (kd : Nat) : Bool :=
  !Nat.blt (ax.getD 0 0) k || Nat.beq nx (pc + 3) && Nat.beq (q_ms (ax.getD 0 0)).2.1.2.2 kd && Nat.beq (ax.getD 1 0) ((q_ms (ax.getD 0 0)).2.2.1.getD 4 0) &&
  (match ax.getD 4 0 with
    | 0 => q_gd (ax.getD 3 0) (.methodLink M.2.1.1 idx (q_ms (ax.getD 0 0)).1.1)
    | _ => decide (q_nest[ax.getD 3 0]? = some (.methodLinkNest M.2.1.1 idx (q_ms (ax.getD 0 0)).1.1 "PlushFlocks")))
def q_oksw (pc : Nat) : Int → List Int → List (Int32 × Nat) → Bool
  | _, [], [] => true
  | lo, o :: os, s :: ss => decide (s.1.toInt = lo) && decide ((pc : Int) + o = (s.2 : Int)) && q_oksw pc (lo + 1) os ss
  | _, _, _ => false
def q_okls (pc : Nat) : List (Int × Int) → List (Int32 × Nat) → Bool
  | [], [] => true
  | o :: os, s :: ss => decide (s.1.toInt = o.1) && decide ((pc : Int) + o.2 = (s.2 : Int)) && q_okls pc os ss
  | _, _ => false
def q_okx (k : Nat) (M : qM) (pc : Nat) (ins : Instr) (nx : Nat) (ax : List Nat) (cv : Value) (sw : List (Int32 × Nat)) : Bool :=
  match ins with
  | .iconst n => Nat.beq nx (pc + 1) && decide (cv = .int (Int32.ofInt n))
  | .bipush n => Nat.beq nx (pc + 2) && decide (cv = .int (Int8.ofInt n).toInt32)
  | .sipush n => Nat.beq nx (pc + 3) && decide (cv = .int (Int16.ofInt n).toInt32)
  | .lconst n => Nat.beq nx (pc + 1) && decide (cv = .long (Int64.ofNat (n : Nat)))
  | .ldc i => Nat.beq nx (pc + 2) && (match cv with
    | .int v => q_gd (ax.getD 0 0) (.constant M.2.1.1 i v)
    | _ => false)
  | .ldc_w i => Nat.beq nx (pc + 3) && (match cv with
    | .int v => q_gd (ax.getD 0 0) (.constant M.2.1.1 i v)
    | _ => false)
  | .ldc2_w i => Nat.beq nx (pc + 3) && (match cv with
    | .long v => q_gd (ax.getD 0 0) (.constantLong M.2.1.1 i v)
    | _ => false)
  | .aconst_null => Nat.beq nx (pc + 1)
  | .iload i => Nat.beq nx (pc + 2) && Nat.beq (ax.getD 0 0) i
  | .iload_n i => Nat.beq nx (pc + 1) && Nat.beq (ax.getD 0 0) (i : Nat)
  | .lload i => Nat.beq nx (pc + 2) && Nat.beq (ax.getD 0 0) i
  | .lload_n i => Nat.beq nx (pc + 1) && Nat.beq (ax.getD 0 0) (i : Nat)
  | .aload i => Nat.beq nx (pc + 2) && Nat.beq (ax.getD 0 0) i
  | .aload_n i => Nat.beq nx (pc + 1) && Nat.beq (ax.getD 0 0) (i : Nat)
  | .istore i => Nat.beq nx (pc + 2) && Nat.beq (ax.getD 0 0) i && Nat.blt (ax.getD 0 0) M.1.2.2.1
  | .istore_n i => Nat.beq nx (pc + 1) && Nat.beq (ax.getD 0 0) (i : Nat) && Nat.blt (ax.getD 0 0) M.1.2.2.1
  | .lstore i => Nat.beq nx (pc + 2) && Nat.beq (ax.getD 0 0) i && Nat.blt (ax.getD 0 0 + 1) M.1.2.2.1
  | .lstore_n i => Nat.beq nx (pc + 1) && Nat.beq (ax.getD 0 0) (i : Nat) && Nat.blt (ax.getD 0 0 + 1) M.1.2.2.1
  | .astore i => Nat.beq nx (pc + 2) && Nat.beq (ax.getD 0 0) i && Nat.blt (ax.getD 0 0) M.1.2.2.1
  | .astore_n i => Nat.beq nx (pc + 1) && Nat.beq (ax.getD 0 0) (i : Nat) && Nat.blt (ax.getD 0 0) M.1.2.2.1
  | .iinc i n => Nat.beq nx (pc + 3) && Nat.beq (ax.getD 0 0) i && Nat.blt (ax.getD 0 0) M.1.2.2.1 && decide (cv = .int (Int32.ofInt n))
  | .goto off => decide ((pc : Int) + off = (ax.getD 0 0 : Nat)) && Nat.beq nx (pc + 3)
  | .if_icmp _ off => decide ((pc : Int) + off = (ax.getD 0 0 : Nat)) && Nat.beq nx (pc + 3)
  | .ifCond _ off => decide ((pc : Int) + off = (ax.getD 0 0 : Nat)) && Nat.beq nx (pc + 3)
  | .ifnull off => decide ((pc : Int) + off = (ax.getD 0 0 : Nat)) && Nat.beq nx (pc + 3)
  | .ifnonnull off => decide ((pc : Int) + off = (ax.getD 0 0 : Nat)) && Nat.beq nx (pc + 3)
  | .tableswitch d lo hi offs => decide ((pc : Int) + d = (ax.getD 0 0 : Nat)) && decide (hi + 1 = lo + (offs.toList.length : Int)) && q_oksw pc lo offs.toList sw
  | .lookupswitch d ps => decide ((pc : Int) + d = (ax.getD 0 0 : Nat)) && (ps.toList.zip (ps.toList.drop 1)).all (fun (a, next) => a.1 < next.1) && q_okls pc ps.toList sw
  | .getfield i => Nat.beq nx (pc + 3) && Nat.blt (ax.getD 0 0) 8 && Nat.blt (ax.getD 1 0) (q_cls (ax.getD 0 0)).2.2 &&
      q_gd (ax.getD 3 0) (.fieldLink M.2.1.1 i ((q_cls (ax.getD 0 0)).2.1 (ax.getD 1 0)).1 ((q_cls (ax.getD 0 0)).2.1 (ax.getD 1 0)).2.1 ((q_cls (ax.getD 0 0)).2.1 (ax.getD 1 0)).2.2.1)
  | .putfield i => Nat.beq nx (pc + 3) && Nat.blt (ax.getD 0 0) 8 && Nat.blt (ax.getD 1 0) (q_cls (ax.getD 0 0)).2.2 &&
      q_gd (ax.getD 3 0) (.fieldLink M.2.1.1 i ((q_cls (ax.getD 0 0)).2.1 (ax.getD 1 0)).1 ((q_cls (ax.getD 0 0)).2.1 (ax.getD 1 0)).2.1 ((q_cls (ax.getD 0 0)).2.1 (ax.getD 1 0)).2.2.1) &&
      Nat.beq (ax.getD 2 0) (q_tc (q_fty (ax.getD 0 0) (ax.getD 1 0))) &&
      (!((q_cls (ax.getD 0 0)).2.1 (ax.getD 1 0)).2.2.2 || (decide (M.1.1.name = "<init>") && decide (((q_cls (ax.getD 0 0)).2.1 (ax.getD 1 0)).1 = M.2.1.1)))
  | .iaload => Nat.beq nx (pc + 1) && (Nat.beq (ax.getD 0 0) 1 || Nat.beq (ax.getD 0 0) 9)
  | .new i => Nat.beq nx (pc + 3) && Nat.blt (ax.getD 0 0) 8 && Nat.beq (ax.getD 1 0) (q_cls (ax.getD 0 0)).2.2 && q_gd (ax.getD 2 0) (.classLink M.2.1.1 i (q_cls (ax.getD 0 0)).1) &&
      q_gd (ax.getD 3 0) (.instantiable (q_cls (ax.getD 0 0)).1 (q_cls (ax.getD 0 0)).2.2) && q_gd (ax.getD 4 0) (.initialized (q_cls (ax.getD 0 0)).1)
  | .newarray t => Nat.beq nx (pc + 2) && Nat.blt (ax.getD 0 0) 4 && decide (newarray.typeOf t = q_akt (ax.getD 0 0)) && q_gd (ax.getD 1 0) (.arrayClass (newarray.typeOf t))
  | .anewarray i => Nat.beq nx (pc + 3) && q_gd (ax.getD 1 0) (.classLink M.2.1.1 i RX0)
  | .invokespecial i => (match Nat.beq (ax.getD 0 0) 999 with
    | true => Nat.beq nx (pc + 3) && q_gd (ax.getD 3 0) (.methodLink M.2.1.1 i objectInit)
    | false => q_okc k M pc i nx ax 2)
  | .invokevirtual i => q_okc k M pc i nx ax 1
  | .invokestatic i => (match Nat.beq (ax.getD 0 0) 997 with
    | true => Nat.beq nx (pc + 3) && q_gd (ax.getD 3 0) (.methodLink M.2.1.1 i Lib.Math.min.name)
    | false => (match Nat.beq (ax.getD 0 0) 996 with
      | true => Nat.beq nx (pc + 3) && q_gd (ax.getD 3 0) (.methodLink M.2.1.1 i Lib.Math.max.name)
      | false => q_okc k M pc i nx ax 0))
  | .ireturn => Nat.beq nx (pc + 1) && (match M.1.2.2.2 with
    | some t => Nat.beq (ax.getD 0 0) (q_tc t) && (decide (t = .int) || decide (t = .char) || decide (t = .boolean))
    | none => false)
  | .lreturn => Nat.beq nx (pc + 1) && decide (M.1.2.2.2 = some .long)
  | .areturn => Nat.beq nx (pc + 1) && (match M.1.2.2.2 with
    | some (.object _) => true
    | _ => false)
  | .return_ => Nat.beq nx (pc + 1) && decide (M.1.2.2.2 = none)
  | _ => Nat.beq nx (pc + 1)
def q_ok (k : Nat) (M : qM) (p : Nat × qI) : Bool := decide (decode M.1.2.1 p.1 = .ok (p.2.1, p.2.2.1 - p.1)) && q_okx k M p.1 p.2.1 p.2.2.1 p.2.2.2.2.1 p.2.2.2.2.2.1 p.2.2.2.2.2.2
/-- what a callee is -/
def q_okm (M : qM) : Bool :=
  q_gd (M.2.2.1.getD 0 0) (.code M.1.1 M.1.2.1 M.1.2.2.1 M.1.2.2.2) && q_gd (M.2.2.1.getD 1 0) (.initialized M.1.1.cls) && plainName M.1.1.cls && decide (M.2.1.1 = M.1.1.cls) &&
  decide (M.1.1.cls ≠ "java/lang/invoke/MethodHandle" ∧ M.1.1.cls ≠ "java/lang/invoke/VarHandle") && Nat.ble M.1.2.2.1 21 &&
  (match M.2.1.2.2 with
    | 0 => q_gd (M.2.2.1.getD 2 0) (.static M.1.1) && decide ((parseMethodDescriptor M.1.1.desc).map (fun d => d.parameters.length) = some (M.2.2.1.getD 4 0))
    | 1 => q_gd (M.2.2.1.getD 2 0) (.instanceMethod M.1.1) && q_gd (M.2.2.1.getD 3 0) (.selects M.1.1.cls M.1.1 M.1.1) && Nat.blt M.2.1.2.1 8 && decide ((q_cls M.2.1.2.1).1 = M.1.1.cls) && decide ((parseMethodDescriptor M.1.1.desc).map (fun d => d.parameters.length + 1) = some (M.2.2.1.getD 4 0))
    | _ => q_gd (M.2.2.1.getD 2 0) (.instanceMethod M.1.1) && decide (M.1.1.name = "<init>") && decide (M.1.2.2.2 = none) && decide ((parseMethodDescriptor M.1.1.desc).map (fun d => d.parameters.length + 1) = some (M.2.2.1.getD 4 0)))
