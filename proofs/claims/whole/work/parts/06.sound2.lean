/-! what is checked of the program's tables -/
def dk_gw (w : Jvm.Cond) : Bool := decide (w ∈ lw_tbl) && goodWord w
def dk_nm (y : Nat) : MethodName := (dk_in y).1
def dk_by (y : Nat) : ByteArray := (dk_in y).2.1
def dk_re (y : Nat) : Option FieldType := (dk_in y).2.2.1
def dk_np (y : Nat) : Nat := (dk_in y).2.2.2.1
def dk_ci (y : Nat) : Nat := (dk_in y).2.2.2.2.1
def dk_is (y : Nat) : Bool := (dk_in y).2.2.2.2.2.1
def dk_ln (y : Nat) : Nat := (dk_in y).2.2.2.2.2.2.1
def dk_mr (y : Nat) : dk_Me := (dk_in y).2.2.2.2.2.2.2
def dk_ml (y : Nat) : Nat := (dk_mr y).2.2.1
def dk_at : Nat → FieldType
  | 0 => .int
  | 1 => .long
  | _ => .boolean
def dk_rf : Option FieldType → Bool
  | some (.object _) => true
  | some (.array _) => true
  | _ => false
def dk_lk (own : String) (ini : Bool) (nL pc : Nat) (r : dk_R) : Bool := match r with
  | (i, len, (a, b, c), v, w, sw) => match i with
    | .iconst n => decide (Int32.ofInt n = v) && Nat.beq len 1
    | .bipush n => decide ((Int8.ofInt n).toInt32 = v) && Nat.beq len 2
    | .sipush n => decide ((Int16.ofInt n).toInt32 = v) && Nat.beq len 3
    | .ldc x => dk_gw (.constant own x v) && Nat.beq len 2
    | .ldc_w x => dk_gw (.constant own x v) && Nat.beq len 3
    | .lconst n => decide (Int64.ofNat (n : Nat) = w) && Nat.beq len 1
    | .ldc2_w x => dk_gw (.constantLong own x w) && Nat.beq len 3
    | .iload_n k => Nat.beq k.val a && Nat.beq len 1
    | .iload k => Nat.beq k a && Nat.beq len 2
    | .lload_n k => Nat.beq k.val a && Nat.beq len 1
    | .lload k => Nat.beq k a && Nat.beq len 2
    | .aload_n k => Nat.beq k.val a && Nat.beq len 1
    | .aload k => Nat.beq k a && Nat.beq len 2
    | .istore_n k => Nat.beq k.val a && Nat.beq len 1 && Nat.blt a nL
    | .istore k => Nat.beq k a && Nat.beq len 2 && Nat.blt a nL
    | .lstore_n k => Nat.beq k.val a && Nat.beq len 1 && Nat.blt (a + 1) nL
    | .lstore k => Nat.beq k a && Nat.beq len 2 && Nat.blt (a + 1) nL
    | .astore_n k => Nat.beq k.val a && Nat.beq len 1 && Nat.blt a nL
    | .iinc k n => Nat.beq k a && decide (Int32.ofInt n = v) && Nat.beq len 3 && Nat.blt a nL
    | .goto off => decide ((pc : Int) + off = (a : Int)) && Nat.beq len 3
    | .ifCond _ off => decide ((pc : Int) + off = (a : Int)) && Nat.beq len 3
    | .if_icmp _ off => decide ((pc : Int) + off = (a : Int)) && Nat.beq len 3
    | .tableswitch df lo hi offs => decide ((pc : Int) + df = (a : Int)) && decide (hi = lo + (offs.size : Int) - 1) && Nat.beq sw.length offs.size && (List.range offs.size).all (fun j => match sw[j]?, offs[j]? with
        | some q, some o => decide (q.1.toInt = lo + (j : Int)) && decide ((pc : Int) + o = (q.2 : Int))
        | _, _ => false)
    | .getfield x => match dk_cl[a]? with
      | some (C, T, N) => Nat.blt b N && decide ((T b).1 = C) && Nat.beq len 3 && (match c with
        | 0 => dk_gw (.fieldLink own x C (T b).2.1 (T b).2.2.1)
        | _ => decide (Jvm.Cond.fieldLinkNest own x C (T b).2.1 (T b).2.2.1 "DominoParlour" ∈ lw_tbl))
      | none => false
    | .putfield x => match dk_cl[a]? with
      | some (C, T, N) => Nat.blt b N && decide ((T b).1 = C) && Nat.beq len 3 && dk_gw (.fieldLink own x C (T b).2.1 (T b).2.2.1) && (match c with
        | 0 => (!(T b).2.2.2) && decide (parseFieldDescriptor (T b).2.2.1 = some .int)
        | 1 => (T b).2.2.2 && decide (parseFieldDescriptor (T b).2.2.1 = some .int) && ini && decide (C = own)
        | 2 => (T b).2.2.2 && dk_rf (parseFieldDescriptor (T b).2.2.1) && ini && decide (C = own)
        | _ => false)
      | none => false
    | .getstatic x => Nat.beq len 3 && (match b with
      | 1000 => dk_gw (.fieldLink own x "DominoParlour" "LOW" "[I")
      | 1001 => dk_gw (.fieldLink own x "DominoParlour" "HIGH" "[I")
      | _ => false)
    | .invokestatic x => Nat.beq len 3 && (match a with
      | 0 => dk_gw (.methodLink own x (dk_nm b)) && dk_is b && Nat.beq c (dk_np b)
      | 1 => decide (Jvm.Cond.methodLinkNest own x (dk_nm b) "DominoParlour" ∈ lw_tbl) && dk_is b && Nat.beq c (dk_np b)
      | 7 => dk_gw (.methodLink own x Lib.Math.max.name)
      | 8 => dk_gw (.methodLink own x Lib.Math.min.name)
      | _ => false)
    | .invokevirtual x => Nat.beq len 3 && (match a with
      | 2 => dk_gw (.methodLink own x (dk_nm b)) && ((!dk_is b) && decide ((dk_nm b).name ≠ "<init>")) && Nat.beq c (dk_np b + 1)
      | 3 => decide (Jvm.Cond.methodLinkNest own x (dk_nm b) "DominoParlour" ∈ lw_tbl) && ((!dk_is b) && decide ((dk_nm b).name ≠ "<init>")) && Nat.beq c (dk_np b + 1)
      | _ => false)
    | .invokespecial x => Nat.beq len 3 && (match a with
      | 4 => dk_gw (.methodLink own x (dk_nm b)) && (decide ((dk_nm b).name = "<init>") && (!dk_is b) && decide (dk_re b = none)) && Nat.beq c (dk_np b + 1)
      | 5 => decide (Jvm.Cond.methodLinkNest own x (dk_nm b) "DominoParlour" ∈ lw_tbl) && (decide ((dk_nm b).name = "<init>") && (!dk_is b) && decide (dk_re b = none)) && Nat.beq c (dk_np b + 1)
      | 6 => dk_gw (.methodLink own x Lib.objectInit)
      | _ => false)
    | .new x => match dk_cl[a]? with
      | some (C, _, N) => Nat.beq len 3 && dk_gw (.classLink own x C) && Nat.beq N (dk_def a).length
      | none => false
    | .newarray t => Nat.beq len 2 && Nat.blt a 3 && decide (newarray.typeOf t = dk_at a)
    | _ => Nat.beq len 1
def dk_rok (own : String) (ini : Bool) (nL : Nat) (cc : ByteArray) (pc : Nat) (r : dk_R) : Bool := decide (decode cc pc = .ok (r.1, r.2.1)) && dk_lk own ini nL pc r
def dk_rows (y : Nat) : Bool := (List.range 700).all (fun pc => match (dk_mr y).1 pc with
  | none => true
  | some r => dk_rok (dk_nm y).cls (decide ((dk_nm y).name = "<init>")) (dk_ml y) (dk_by y) pc r)
def dk_mok (y : Nat) : Bool := plainName (dk_nm y).cls && dk_gw (.initialized (dk_nm y).cls) && decide ((dk_nm y).cls ≠ "java/lang/invoke/MethodHandle") && decide ((dk_nm y).cls ≠ "java/lang/invoke/VarHandle") && decide ((parseMethodDescriptor (dk_nm y).desc).map (fun d => d.parameters.length) = some (dk_np y)) && Nat.ble (dk_ml y) 45
  && (match dk_is y with
    | true => dk_gw (.static (dk_nm y))
    | false => dk_gw (.instanceMethod (dk_nm y)) && decide ((dk_cl[dk_ci y]?).map (fun q => q.1) = some (dk_nm y).cls) && (decide ((dk_nm y).name = "<init>") || dk_gw (.selects (dk_nm y).cls (dk_nm y) (dk_nm y))))
  && (match (dk_mr y).2.2.2.1 with
    | 0 => decide (dk_re y = none)
    | 1 => decide (dk_re y = some .int)
    | 2 => decide (dk_re y = some .boolean)
    | 3 => decide (dk_re y = some .long)
    | _ => false)
