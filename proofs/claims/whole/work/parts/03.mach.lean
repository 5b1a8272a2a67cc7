/-! the abstract machine: memory is a list of cells, references are places in it; a reference from 1000 on is a table that nobody writes -/
abbrev dk_C : Type := (Nat × vp_A) ⊕ (Nat × List Value)
abbrev dk_M : Type := List dk_C
abbrev dk_L : Type := List (Option Value)
abbrev dk_Res : Type := Option (Option Value × dk_M)
abbrev dk_K : Type := dk_L → List Value → dk_M → Nat → Nat → dk_Res
def dk_lim (y : Nat) : Nat × Nat := ((dk_in y).2.2.2.2.2.2.2.2.2.2.2.1, (dk_in y).2.2.2.2.2.2.2.2.2.2.2.2)
def dk_def : Nat → List Value
  | 0 => [.null, .int 0, .int 0]
  | 1 => [.null, .int 0, .int 0, .int 0]
  | 2 => [.int 0, .int 0, .null, .null, .null, .null, .null, .null, .int 0, .int 0, .int 0, .int 0, .int 0, .int 0]
  | 3 => [.null, .null, .null, .null, .null]
  | 4 => [.null, .null, .null, .null, .null, .int 0]
  | 5 => [.int 0, .null, .null, .null, .null, .int 0]
  | 6 => [.int 0, .int 0, .int 0, .int 0, .int 0, .null, .null, .int 0, .int 0, .int 0, .int 0, .int 0, .null, .null, .int 0, .int 0, .null, .null, .null, .null, .null, .null, .int 0, .int 0, .int 0, .null, .int 0, .int 0, .null, .null, .null, .null, .null, .int 0, .int 0, .int 0, .int 0, .int 0, .int 0]
  | _ => []
def dk_wv (n : Nat) (v : Value) : Bool := match v with
  | .ref i => Nat.blt i n || Nat.ble 1000 i
  | _ => true
def dk_wo (n : Nat) (o : Option Value) : Bool := match o with
  | some v => dk_wv n v
  | none => true
def dk_wc (n : Nat) (c : dk_C) : Bool := match c with
  | .inl _ => true
  | .inr o => o.2.all (dk_wv n)
def dk_clr (loc : dk_L) (a : Nat) : dk_L := match a with
  | 0 => loc
  | b + 1 => match loc[b]? with
    | some (some (.long _)) => loc.set b none
    | some (some (.double _)) => loc.set b none
    | _ => loc
def dk_s1 (loc : dk_L) (a : Nat) (v : Value) : dk_L := (dk_clr loc a).set a (some v)
def dk_s2 (loc : dk_L) (a : Nat) (v : Value) : dk_L := ((dk_clr loc a).set a (some v)).set (a + 1) none
def dk_cut : List Bool → dk_L → dk_L
  | _, [] => []
  | [], _ :: l => none :: dk_cut [] l
  | b :: bs, o :: l => cond b o none :: dk_cut bs l
def dk_pos : List Value → dk_L
  | [] => []
  | v :: vs => some v :: (match v with
    | .long _ => none :: dk_pos vs
    | .double _ => none :: dk_pos vs
    | _ => dk_pos vs)
def dk_ent0 (n : Nat) (vs : List Value) : dk_L := dk_pos vs ++ List.replicate (n - (dk_pos vs).length) none
def dk_tb (sc : Nat × (Nat → Int32)) : Nat → Option (Nat × (Nat → Int32))
  | 1000 => some (28, fun j => ([0, 0, 1, 0, 1, 2, 0, 1, 2, 3, 0, 1, 2, 3, 4, 0, 1, 2, 3, 4, 5, 0, 1, 2, 3, 4, 5, 6] : List Int32).getD j 0)
  | 1001 => some (28, fun j => ([0, 1, 1, 2, 2, 2, 3, 3, 3, 3, 4, 4, 4, 4, 4, 5, 5, 5, 5, 5, 5, 6, 6, 6, 6, 6, 6, 6] : List Int32).getD j 0)
  | 1002 => some sc
  | _ => none
def dk_zero : Nat → Nat → vp_A
  | 1, n => (n, .inr (.inl (fun _ => 0)))
  | _, n => (n, .inl (fun _ => 0))
/-- a switch: the cases one behind the other -/
def dk_sw (x : Int32) (dflt : Nat) (k : Nat → dk_Res) : List (Int32 × Nat) → dk_Res
  | [] => k dflt
  | q :: r => if x = q.1 then k q.2 else dk_sw x dflt k r
def dk_cell (i : Nat) (M : dk_M) : Option dk_C := M[i]?
section DKM
variable (call : Nat → List Value → dk_M → dk_Res) (tb : Nat → Option (Nat × (Nat → Int32))) (mc ms rt : Nat)
def dk_step (r : dk_R) (pc : Nat) (loc : dk_L) (st : List Value) (M : dk_M) (nc ns : Nat) (k : Nat → dk_K) : dk_Res := match r with
  | (i, len, (a, b, c), v, w, sw) => match i with
    | .iconst _ => k (pc + len) loc (.int v :: st) M nc ns
    | .bipush _ => k (pc + len) loc (.int v :: st) M nc ns
    | .sipush _ => k (pc + len) loc (.int v :: st) M nc ns
    | .ldc _ => k (pc + len) loc (.int v :: st) M nc ns
    | .ldc_w _ => k (pc + len) loc (.int v :: st) M nc ns
    | .lconst _ => k (pc + len) loc (.long w :: st) M nc ns
    | .ldc2_w _ => k (pc + len) loc (.long w :: st) M nc ns
    | .iload_n _ => match loc[a]? with
      | some (some (.int x)) => k (pc + len) loc (.int x :: st) M nc ns
      | _ => none
    | .iload _ => match loc[a]? with
      | some (some (.int x)) => k (pc + len) loc (.int x :: st) M nc ns
      | _ => none
    | .lload_n _ => match loc[a]? with
      | some (some (.long x)) => k (pc + len) loc (.long x :: st) M nc ns
      | _ => none
    | .lload _ => match loc[a]? with
      | some (some (.long x)) => k (pc + len) loc (.long x :: st) M nc ns
      | _ => none
    | .aload_n _ => match loc[a]? with
      | some (some (.ref x)) => k (pc + len) loc (.ref x :: st) M nc ns
      | _ => none
    | .aload _ => match loc[a]? with
      | some (some (.ref x)) => k (pc + len) loc (.ref x :: st) M nc ns
      | _ => none
    | .istore_n _ => match st with
      | .int x :: st => k (pc + len) (dk_s1 loc a (.int x)) st M nc ns
      | _ => none
    | .istore _ => match st with
      | .int x :: st => k (pc + len) (dk_s1 loc a (.int x)) st M nc ns
      | _ => none
    | .lstore_n _ => match st with
      | .long x :: st => k (pc + len) (dk_s2 loc a (.long x)) st M nc ns
      | _ => none
    | .lstore _ => match st with
      | .long x :: st => k (pc + len) (dk_s2 loc a (.long x)) st M nc ns
      | _ => none
    | .astore_n _ => match st with
      | .ref x :: st => k (pc + len) (dk_s1 loc a (.ref x)) st M nc ns
      | _ => none
    | .iinc _ _ => match loc[a]? with
      | some (some (.int x)) => k (pc + len) (dk_s1 loc a (.int (x + v))) st M nc ns
      | _ => none
    | .iadd => match st with
      | .int y :: .int x :: st => k (pc + len) loc (.int (x + y) :: st) M nc ns
      | _ => none
    | .isub => match st with
      | .int y :: .int x :: st => k (pc + len) loc (.int (x - y) :: st) M nc ns
      | _ => none
    | .imul => match st with
      | .int y :: .int x :: st => k (pc + len) loc (.int (x * y) :: st) M nc ns
      | _ => none
    | .iand => match st with
      | .int y :: .int x :: st => k (pc + len) loc (.int (x &&& y) :: st) M nc ns
      | _ => none
    | .ior => match st with
      | .int y :: .int x :: st => k (pc + len) loc (.int (x ||| y) :: st) M nc ns
      | _ => none
    | .ixor => match st with
      | .int y :: .int x :: st => k (pc + len) loc (.int (x ^^^ y) :: st) M nc ns
      | _ => none
    | .idiv => match st with
      | .int y :: .int x :: st => if y = 0 then none else k (pc + len) loc (.int (x / y) :: st) M nc ns
      | _ => none
    | .irem => match st with
      | .int y :: .int x :: st => if y = 0 then none else k (pc + len) loc (.int (x - x / y * y) :: st) M nc ns
      | _ => none
    | .ineg => match st with
      | .int x :: st => k (pc + len) loc (.int (-x) :: st) M nc ns
      | _ => none
    | .ishl => match st with
      | .int y :: .int x :: st => k (pc + len) loc (.int (x <<< (y &&& 31)) :: st) M nc ns
      | _ => none
    | .ishr => match st with
      | .int y :: .int x :: st => k (pc + len) loc (.int (x >>> (y &&& 31)) :: st) M nc ns
      | _ => none
    | .iushr => match st with
      | .int y :: .int x :: st => k (pc + len) loc (.int (x.toUInt32 >>> (y.toUInt32 &&& Int32.toUInt32 31)).toInt32 :: st) M nc ns
      | _ => none
    | .ladd => match st with
      | .long y :: .long x :: st => k (pc + len) loc (.long (x + y) :: st) M nc ns
      | _ => none
    | .lmul => match st with
      | .long y :: .long x :: st => k (pc + len) loc (.long (x * y) :: st) M nc ns
      | _ => none
    | .land => match st with
      | .long y :: .long x :: st => k (pc + len) loc (.long (x &&& y) :: st) M nc ns
      | _ => none
    | .lor => match st with
      | .long y :: .long x :: st => k (pc + len) loc (.long (x ||| y) :: st) M nc ns
      | _ => none
    | .lrem => match st with
      | .long y :: .long x :: st => if y = 0 then none else k (pc + len) loc (.long (x - x / y * y) :: st) M nc ns
      | _ => none
    | .lushr => match st with
      | .int y :: .long x :: st => k (pc + len) loc (.long (x.toUInt64 >>> (y.toInt64.toUInt64 &&& Int64.toUInt64 63)).toInt64 :: st) M nc ns
      | _ => none
    | .lshl => match st with
      | .int y :: .long x :: st => k (pc + len) loc (.long (x <<< (y.toInt64 &&& 63)) :: st) M nc ns
      | _ => none
    | .i2l => match st with
      | .int x :: st => k (pc + len) loc (.long x.toInt64 :: st) M nc ns
      | _ => none
    | .l2i => match st with
      | .long x :: st => k (pc + len) loc (.int x.toInt32 :: st) M nc ns
      | _ => none
    | .lcmp => match st with
      | .long y :: .long x :: st => k (pc + len) loc (.int (lg_cmp x y) :: st) M nc ns
      | _ => none
    | .dup => match st with
      | .int x :: st => k (pc + len) loc (.int x :: .int x :: st) M nc ns
      | .ref x :: st => k (pc + len) loc (.ref x :: .ref x :: st) M nc ns
      | _ => none
    | .dup2 => match st with
      | .int y :: .ref x :: st => k (pc + len) loc (.int y :: .ref x :: .int y :: .ref x :: st) M nc ns
      | _ => none
    | .pop => match st with
      | .int _ :: st => k (pc + len) loc st M nc ns
      | _ => none
    | .goto _ => k a loc st M nc ns
    | .ifCond cd _ => match st with
      | .int x :: st => match cd with
        | .eq => if x = 0 then k a loc st M nc ns else k (pc + len) loc st M nc ns
        | .ne => if x = 0 then k (pc + len) loc st M nc ns else k a loc st M nc ns
        | .lt => if x < 0 then k a loc st M nc ns else k (pc + len) loc st M nc ns
        | .ge => if x < 0 then k (pc + len) loc st M nc ns else k a loc st M nc ns
        | .gt => if 0 < x then k a loc st M nc ns else k (pc + len) loc st M nc ns
        | .le => if 0 < x then k (pc + len) loc st M nc ns else k a loc st M nc ns
      | _ => none
    | .if_icmp cd _ => match st with
      | .int y :: .int x :: st => match cd with
        | .eq => if x = y then k a loc st M nc ns else k (pc + len) loc st M nc ns
        | .ne => if x = y then k (pc + len) loc st M nc ns else k a loc st M nc ns
        | .lt => if x < y then k a loc st M nc ns else k (pc + len) loc st M nc ns
        | .ge => if x < y then k (pc + len) loc st M nc ns else k a loc st M nc ns
        | .gt => if y < x then k a loc st M nc ns else k (pc + len) loc st M nc ns
        | .le => if y < x then k (pc + len) loc st M nc ns else k a loc st M nc ns
      | _ => none
    | .tableswitch _ _ _ _ => match st with
      | .int x :: st => dk_sw x a (fun t => k t loc st M nc ns) sw
      | _ => none
    | .getfield _ => match st with
      | .ref j :: st => match dk_cell j M with
        | some (.inr (ci, fs)) => match Nat.beq ci a with
          | true => match fs[b]? with
            | some x => k (pc + len) loc (x :: st) M nc ns
            | none => none
          | false => none
        | _ => none
      | _ => none
    | .putfield _ => match st with
      | x :: .ref j :: st => match dk_cell j M with
        | some (.inr (ci, fs)) => match Nat.beq ci a && Nat.blt b fs.length && (match x with
            | .int _ => Nat.blt c 2
            | .ref _ => Nat.beq c 2
            | _ => false) with
          | true => k (pc + len) loc st (M.set j (.inr (ci, fs.set b x))) nc ns
          | false => none
        | _ => none
      | _ => none
    | .getstatic _ => k (pc + len) loc (.ref b :: st) M nc ns
    | .iaload => match st with
      | .int j :: .ref r :: st => match Nat.ble 1000 r with
        | true => match tb r with
          | some (n, f) => if j < 0 ∨ n ≤ j.toNatClampNeg then none else k (pc + len) loc (.int (f j.toNatClampNeg) :: st) M nc ns
          | none => none
        | false => match dk_cell r M with
          | some (.inl (0, n, .inl f)) => if j < 0 ∨ n ≤ j.toNatClampNeg then none else k (pc + len) loc (.int (f j.toNatClampNeg) :: st) M nc ns
          | _ => none
      | _ => none
    | .baload => match st with
      | .int j :: .ref r :: st => match dk_cell r M with
          | some (.inl (2, n, .inl f)) => if j < 0 ∨ n ≤ j.toNatClampNeg then none else k (pc + len) loc (.int (f j.toNatClampNeg) :: st) M nc ns
          | _ => none
      | _ => none
    | .laload => match st with
      | .int j :: .ref r :: st => match dk_cell r M with
          | some (.inl (1, n, .inr (.inl f))) => if j < 0 ∨ n ≤ j.toNatClampNeg then none else k (pc + len) loc (.long (f j.toNatClampNeg) :: st) M nc ns
          | _ => none
      | _ => none
    | .iastore => match st with
      | .int x :: .int j :: .ref r :: st => match dk_cell r M with
          | some (.inl (0, n, .inl f)) => if j < 0 ∨ n ≤ j.toNatClampNeg then none else k (pc + len) loc st (M.set r (.inl (0, n, .inl (upd f j.toNatClampNeg x)))) nc ns
          | _ => none
      | _ => none
    | .bastore => match st with
      | .int x :: .int j :: .ref r :: st => match dk_cell r M with
          | some (.inl (2, n, .inl f)) => if j < 0 ∨ n ≤ j.toNatClampNeg then none else k (pc + len) loc st (M.set r (.inl (2, n, .inl (upd f j.toNatClampNeg (vp_nar .boolean x))))) nc ns
          | _ => none
      | _ => none
    | .lastore => match st with
      | .long x :: .int j :: .ref r :: st => match dk_cell r M with
          | some (.inl (1, n, .inr (.inl f))) => if j < 0 ∨ n ≤ j.toNatClampNeg then none else k (pc + len) loc st (M.set r (.inl (1, n, .inr (.inl (vp_updL f j.toNatClampNeg x))))) nc ns
          | _ => none
      | _ => none
    | .arraylength => match st with
      | .ref r :: st => match Nat.ble 1000 r with
        | true => match tb r with
          | some (n, _) => k (pc + len) loc (.int (Int32.ofNat n) :: st) M nc ns
          | none => none
        | false => match dk_cell r M with
          | some (.inl (kd, n, _)) => match Nat.blt kd 3 with
            | true => k (pc + len) loc (.int (Int32.ofNat n) :: st) M nc ns
            | false => none
          | _ => none
      | _ => none
    | .newarray _ => match st with
      | .int x :: st => if x < 0 ∨ b < x.toNatClampNeg then none else
          match Nat.ble (nc + 1) mc && Nat.ble (ns + b) ms && Nat.ble b 10000 && Nat.blt M.length 1000 && loc.all (dk_wo M.length) && st.all (dk_wv M.length) && M.all (dk_wc M.length) with
          | true => k (pc + len) loc (.ref M.length :: st) (M ++ [.inl (a, dk_zero a x.toNatClampNeg)]) (nc + 1) (ns + b)
          | false => none
      | _ => none
    | .new _ => match Nat.ble (nc + 1) mc && Nat.ble (ns + (dk_def a).length) ms && Nat.blt M.length 1000 && loc.all (dk_wo M.length) && st.all (dk_wv M.length) && M.all (dk_wc M.length) with
        | true => k (pc + len) loc (.ref M.length :: st) (M ++ [.inr (a, dk_def a)]) (nc + 1) (ns + (dk_def a).length)
        | false => none
    | .invokestatic _ => match a with
      | 7 => match st with
        | .int y :: .int x :: st => match Nat.ble ((st.map fun v => v.category).sum) 8 with
          | true => k (pc + len) loc (.int (if x < y then y else x) :: st) M nc ns
          | false => none
        | _ => none
      | 8 => match st with
        | .int y :: .int x :: st => match Nat.ble ((st.map fun v => v.category).sum) 8 with
          | true => k (pc + len) loc (.int (if y < x then y else x) :: st) M nc ns
          | false => none
        | _ => none
      | _ => match Nat.ble c st.length && Nat.ble (((st.drop c).map fun v => v.category).sum) 8 && Nat.ble (nc + (dk_lim b).1) mc && Nat.ble (ns + (dk_lim b).2) ms && (Nat.beq (dk_lim b).1 0 || (loc.all (dk_wo M.length) && (st.drop c).all (dk_wv M.length))) with
        | true => (call b (st.take c).reverse M).bind (fun q => k (pc + len) loc (q.1.toList ++ st.drop c) q.2 (nc + (dk_lim b).1) (ns + (dk_lim b).2))
        | false => none
    | .invokevirtual _ => match Nat.ble c st.length && Nat.ble (((st.drop c).map fun v => v.category).sum) 8 && Nat.ble (nc + (dk_lim b).1) mc && Nat.ble (ns + (dk_lim b).2) ms && (Nat.beq (dk_lim b).1 0 || (loc.all (dk_wo M.length) && (st.drop c).all (dk_wv M.length))) with
        | true => match (st.take c).reverse with
          | .ref j :: as => match dk_cell j M with
            | some (.inr (ci, _)) => match Nat.beq ci (dk_in b).2.2.2.2.1 with
              | true => (call b (.ref j :: as) M).bind (fun q => k (pc + len) loc (q.1.toList ++ st.drop c) q.2 (nc + (dk_lim b).1) (ns + (dk_lim b).2))
              | false => none
            | _ => none
          | _ => none
        | false => none
    | .invokespecial _ => match a with
      | 6 => match st with
        | .ref _ :: st => match Nat.ble ((st.map fun v => v.category).sum) 8 with
          | true => k (pc + len) loc st M nc ns
          | false => none
        | _ => none
      | _ => match Nat.ble c st.length && Nat.ble (((st.drop c).map fun v => v.category).sum) 8 && Nat.ble (nc + (dk_lim b).1) mc && Nat.ble (ns + (dk_lim b).2) ms && (Nat.beq (dk_lim b).1 0 || (loc.all (dk_wo M.length) && (st.drop c).all (dk_wv M.length))) with
        | true => match (st.take c).reverse with
          | .ref j :: as => (call b (.ref j :: as) M).bind (fun q => k (pc + len) loc (q.1.toList ++ st.drop c) q.2 (nc + (dk_lim b).1) (ns + (dk_lim b).2))
          | _ => none
        | false => none
    | .ireturn => match st with
      | [.int x] => match rt with
        | 1 => some (some (.int x), M)
        | 2 => if x &&& 1 = x then some (some (.int x), M) else none
        | _ => none
      | _ => none
    | .lreturn => match st with
      | [.long x] => match rt with
        | 3 => some (some (.long x), M)
        | _ => none
      | _ => none
    | .return_ => match st with
      | [] => match rt with
        | 0 => some (none, M)
        | _ => none
      | _ => none
    | _ => none
def dk_run (cd : Nat → Option dk_R) (J : Nat → Option dk_K) : Nat → Nat → dk_K
  | 0, _, _, _, _, _, _ => none
  | n + 1, pc, loc, st, M, nc, ns => match cd pc with
    | none => none
    | some r => dk_step call tb mc ms rt r pc loc st M nc ns (fun pc' loc' st' M' nc' ns' => match J pc' with
      | some kk => kk loc' st' M' nc' ns'
      | none => dk_run cd J n pc' loc' st' M' nc' ns')
end DKM
def dk_loop (call : Nat → List Value → dk_M → dk_Res) (tb : Nat → Option (Nat × (Nat → Int32))) (me : dk_Me) : Nat → Nat → dk_K
  | 0, _, _, _, _, _, _ => none
  | n + 1, pc, loc, st, M, nc, ns => dk_run call tb me.2.2.2.2.1 me.2.2.2.2.2 me.2.2.2.1 (fun pc => cond (Nat.blt pc 700) (me.1 pc) none) (fun pc' => match me.2.1 pc' with
      | some mask => some (fun loc' st' M' nc' ns' => dk_loop call tb me n pc' (dk_cut mask loc') st' M' nc' ns')
      | none => none) 700 pc loc st M nc ns
def dk_exec (sc : Nat × (Nat → Int32)) (N : Nat) : Nat → Nat → List Value → dk_M → dk_Res
  | 0, _, _, _ => none
  | d + 1, y, av, M => match Nat.blt y dk_N && Nat.ble (dk_pos av).length (dk_in y).2.2.2.2.2.2.2.2.2.1 with
    | true => dk_loop (dk_exec sc N d) (dk_tb sc) (dk_in y).2.2.2.2.2.2.2 N 0 (dk_ent0 (dk_in y).2.2.2.2.2.2.2.2.2.1 av) [] M 0 0
    | false => none
/-- eventually, with enough fuel -/
def Evt (f : Nat → Nat → dk_Res) (r : Option Value × dk_M) : Prop := ∃ N0 : Nat, ∀ N n : Nat, N0 ≤ N → N0 ≤ n → f N n = some r
def Ev (sc : Nat × (Nat → Int32)) (d y : Nat) (av : List Value) (M : dk_M) (r : Option Value × dk_M) : Prop := ∃ N0 : Nat, ∀ N : Nat, N0 ≤ N → dk_exec sc N d y av M = some r
def EvL (sc : Nat × (Nat → Int32)) (d : Nat) (me : dk_Me) (pc : Nat) (loc : dk_L) (st : List Value) (M : dk_M) (nc ns : Nat) (r : Option Value × dk_M) : Prop := Evt (fun N n => dk_loop (dk_exec sc N d) (dk_tb sc) me n pc loc st M nc ns) r
theorem e_ite {c : Prop} {i : Decidable c} {P1 P2 : Prop} {f g : Nat → Nat → dk_Res} {r : Option Value × dk_M} (h1 : P1 → Evt f r) (h2 : P2 → Evt g r) (h : @ite Prop c i P1 P2) : Evt (fun N n => @ite dk_Res c i (f N n) (g N n)) r := by
  cases i with
  | isTrue hc => exact h1 h
  | isFalse hc => exact h2 h
theorem e_ret {x r : Option Value × dk_M} (h : r = x) : Evt (fun _ _ => some x) r := ⟨0, fun _ _ _ _ => by rw [h]⟩
theorem e_no {r : Option Value × dk_M} (h : False) : Evt (fun _ _ => none) r := h.elim
theorem e_loop {sc : Nat × (Nat → Int32)} {d : Nat} {me : dk_Me} {pc : Nat} {loc : dk_L} {st : List Value} {M : dk_M} {nc ns : Nat} {r : Option Value × dk_M} (h : EvL sc d me pc loc st M nc ns r) : Evt (fun N n => dk_loop (dk_exec sc N d) (dk_tb sc) me n pc loc st M nc ns) r := h
theorem e_bind {sc : Nat × (Nat → Int32)} {d y : Nat} {av : List Value} {M : dk_M} {q r : Option Value × dk_M} {k : Nat → Nat → Option Value × dk_M → dk_Res} (h1 : Ev sc d y av M q) (h2 : Evt (fun N n => k N n q) r) : Evt (fun N n => (dk_exec sc N d y av M).bind (k N n)) r := by
  obtain ⟨N1, h1⟩ := h1
  obtain ⟨N2, h2⟩ := h2
  exact ⟨max N1 N2, fun N n hN hn => by show Option.bind (dk_exec sc N d y av M) (k N n) = some r; rw [h1 N (by omega)]; exact h2 N n (by omega) (by omega)⟩
/-- a call that answers an int, a long, nothing -/
def Cli (sc : Nat × (Nat → Int32)) (d y : Nat) (av : List Value) (M : dk_M) (P : Int32 → dk_M → Prop) : Prop := ∃ (x : Int32) (M2 : dk_M), Ev sc d y av M (some (.int x), M2) ∧ P x M2
def Cll (sc : Nat × (Nat → Int32)) (d y : Nat) (av : List Value) (M : dk_M) (P : Int64 → dk_M → Prop) : Prop := ∃ (x : Int64) (M2 : dk_M), Ev sc d y av M (some (.long x), M2) ∧ P x M2
def Clv (sc : Nat × (Nat → Int32)) (d y : Nat) (av : List Value) (M : dk_M) (P : dk_M → Prop) : Prop := ∃ (M2 : dk_M), Ev sc d y av M (none, M2) ∧ P M2
theorem e_calli {sc : Nat × (Nat → Int32)} {d y : Nat} {av : List Value} {M : dk_M} {r : Option Value × dk_M} {P : Int32 → dk_M → Prop} {k : Nat → Nat → Option Value × dk_M → dk_Res} (h : ∀ x M2, P x M2 → Evt (fun N n => k N n (some (.int x), M2)) r) (hc : Cli sc d y av M P) : Evt (fun N n => (dk_exec sc N d y av M).bind (k N n)) r := by
  obtain ⟨x, M2, h1, h2⟩ := hc
  exact e_bind h1 (h x M2 h2)
theorem e_calll {sc : Nat × (Nat → Int32)} {d y : Nat} {av : List Value} {M : dk_M} {r : Option Value × dk_M} {P : Int64 → dk_M → Prop} {k : Nat → Nat → Option Value × dk_M → dk_Res} (h : ∀ x M2, P x M2 → Evt (fun N n => k N n (some (.long x), M2)) r) (hc : Cll sc d y av M P) : Evt (fun N n => (dk_exec sc N d y av M).bind (k N n)) r := by
  obtain ⟨x, M2, h1, h2⟩ := hc
  exact e_bind h1 (h x M2 h2)
theorem e_callv {sc : Nat × (Nat → Int32)} {d y : Nat} {av : List Value} {M : dk_M} {r : Option Value × dk_M} {P : dk_M → Prop} {k : Nat → Nat → Option Value × dk_M → dk_Res} (h : ∀ M2, P M2 → Evt (fun N n => k N n (none, M2)) r) (hc : Clv sc d y av M P) : Evt (fun N n => (dk_exec sc N d y av M).bind (k N n)) r := by
  obtain ⟨M2, h1, h2⟩ := hc
  exact e_bind h1 (h M2 h2)
theorem e_ci {sc : Nat × (Nat → Int32)} {d y : Nat} {av : List Value} {M : dk_M} {r : Option Value × dk_M} {me : dk_Me} {pc : Nat} {loc : dk_L} {st : List Value} (h : Cli sc d y av M (fun x M2 => EvL sc d me pc loc (.int x :: st) M2 0 0 r)) : Evt (fun N n => (dk_exec sc N d y av M).bind (fun q => dk_loop (dk_exec sc N d) (dk_tb sc) me n pc loc (q.1.toList ++ st) q.2 0 0)) r := by
  obtain ⟨x, M2, h1, h2⟩ := h
  exact e_bind h1 h2
theorem e_cl {sc : Nat × (Nat → Int32)} {d y : Nat} {av : List Value} {M : dk_M} {r : Option Value × dk_M} {me : dk_Me} {pc : Nat} {loc : dk_L} {st : List Value} (h : Cll sc d y av M (fun x M2 => EvL sc d me pc loc (.long x :: st) M2 0 0 r)) : Evt (fun N n => (dk_exec sc N d y av M).bind (fun q => dk_loop (dk_exec sc N d) (dk_tb sc) me n pc loc (q.1.toList ++ st) q.2 0 0)) r := by
  obtain ⟨x, M2, h1, h2⟩ := h
  exact e_bind h1 h2
theorem e_cv {sc : Nat × (Nat → Int32)} {d y : Nat} {av : List Value} {M : dk_M} {r : Option Value × dk_M} {me : dk_Me} {pc : Nat} {loc : dk_L} {st : List Value} (h : Clv sc d y av M (fun M2 => EvL sc d me pc loc st M2 0 0 r)) : Evt (fun N n => (dk_exec sc N d y av M).bind (fun q => dk_loop (dk_exec sc N d) (dk_tb sc) me n pc loc (q.1.toList ++ st) q.2 0 0)) r := by
  obtain ⟨M2, h1, h2⟩ := h
  exact e_bind h1 h2
theorem e_of {sc : Nat × (Nat → Int32)} {d : Nat} {me : dk_Me} {pc : Nat} {loc : dk_L} {st : List Value} {M : dk_M} {nc ns : Nat} {r : Option Value × dk_M} {F : Nat → Nat → dk_Res} (h : Evt F r) (he : ∀ N n, dk_loop (dk_exec sc N d) (dk_tb sc) me (n + 1) pc loc st M nc ns = F N n) : EvL sc d me pc loc st M nc ns r := by
  obtain ⟨N0, h⟩ := h
  refine ⟨N0 + 1, fun N n hN hn => ?_⟩
  obtain ⟨m, rfl⟩ : ∃ m, n = m + 1 := ⟨n - 1, by omega⟩
  show dk_loop (dk_exec sc N d) (dk_tb sc) me (m + 1) pc loc st M nc ns = some r
  rw [he]
  exact h N m (by omega) (by omega)
theorem e_start {sc : Nat × (Nat → Int32)} {d y : Nat} {av : List Value} {M : dk_M} {r : Option Value × dk_M} {me : dk_Me} {loc : dk_L} (hy : (Nat.blt y dk_N && Nat.ble (dk_pos av).length (dk_in y).2.2.2.2.2.2.2.2.2.1) = true) (hm : (dk_in y).2.2.2.2.2.2.2 = me) (hl : dk_ent0 (dk_in y).2.2.2.2.2.2.2.2.2.1 av = loc) (h : EvL sc d me 0 loc [] M 0 0 r) : Ev sc (d + 1) y av M r := by
  obtain ⟨N0, h⟩ := h
  refine ⟨N0, fun N hN => ?_⟩
  subst hm; subst hl
  have := h N N hN hN
  simp only [dk_exec, hy]
  exact this
