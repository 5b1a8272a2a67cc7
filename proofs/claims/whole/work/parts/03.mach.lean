/-! the abstract machine: memory is a list of cells, references are places in it; a reference from 1000 on is a table that nobody writes -/
abbrev dk_C : Type := (Nat × vp_A) ⊕ (Nat × List Value)
abbrev dk_M : Type := List dk_C
abbrev dk_L : Type := List (Option Value)
abbrev dk_Res : Type := Option (Option Value × dk_M)
abbrev dk_K : Type := dk_L → List Value → dk_M → Nat → Nat → dk_Res
def dk_lim (y : Nat) : Nat × Nat := ((dk_in y).2.2.2.2.2.2.2.2.2.2.2.1, (dk_in y).2.2.2.2.2.2.2.2.2.2.2.2)
def dk_def : Nat → List Value
  | 0 => [.null, .int 0, .int 0]
  | 1 => [.null, .int 0, .int 0, .int 0]
  | 2 => [.int 0, .int 0, .null, .null, .null, .null, .null, .int 0, .int 0, .int 0, .int 0, .int 0, .int 0]
  | 3 => [.null, .null, .null, .null, .null]
  | 4 => [.null, .null, .null, .null, .null, .int 0]
  | 5 => [.int 0, .null, .null, .null, .null, .int 0]
  | 6 => [.int 0, .int 0, .int 0, .int 0, .int 0, .null, .null, .int 0, .int 0, .int 0, .int 0, .int 0, .null, .null, .int 0, .int 0, .null, .null, .null, .null, .null, .null, .int 0, .int 0, .int 0, .null, .int 0, .int 0, .null, .null, .null, .null, .null, .int 0, .int 0, .int 0, .int 0, .int 0, .int 0]
  | _ => []
def dk_wv (n : Nat) (v : Value) : Bool := match v with
  | .ref i => Nat.blt i n || Nat.ble 1000 i
  | _ => true
def dk_wo (n : Nat) (o : Option Value) : Bool := match o with
  | some v => dk_wv n v
  | none => true
def dk_wc (n : Nat) (c : dk_C) : Bool := match c with
  | .inl _ => true
  | .inr o => o.2.all (dk_wv n)
def dk_clr (loc : dk_L) (a : Nat) : dk_L := match a with
  | 0 => loc
  | b + 1 => match loc[b]? with
    | some (some (.long _)) => loc.set b none
    | some (some (.double _)) => loc.set b none
    | _ => loc
def dk_s1 (loc : dk_L) (a : Nat) (v : Value) : dk_L := (dk_clr loc a).set a (some v)
def dk_s2 (loc : dk_L) (a : Nat) (v : Value) : dk_L := ((dk_clr loc a).set a (some v)).set (a + 1) none
def dk_cut (mask : Nat) (loc : dk_L) : dk_L := loc.mapIdx (fun i o => cond (Nat.testBit mask i) o none)
def dk_pos : List Value → dk_L
  | [] => []
  | v :: vs => some v :: (match v with
    | .long _ => none :: dk_pos vs
    | .double _ => none :: dk_pos vs
    | _ => dk_pos vs)
def dk_ent0 (n : Nat) (vs : List Value) : dk_L := dk_pos vs ++ List.replicate (n - (dk_pos vs).length) none
def dk_tb : Nat → Option (Nat × (Nat → Int32))
  | 1000 => some (28, fun j => ([0, 0, 1, 0, 1, 2, 0, 1, 2, 3, 0, 1, 2, 3, 4, 0, 1, 2, 3, 4, 5, 0, 1, 2, 3, 4, 5, 6] : List Int32).getD j 0)
  | 1001 => some (28, fun j => ([0, 1, 1, 2, 2, 2, 3, 3, 3, 3, 4, 4, 4, 4, 4, 5, 5, 5, 5, 5, 5, 6, 6, 6, 6, 6, 6, 6] : List Int32).getD j 0)
  | _ => none
def dk_zero : Nat → Nat → vp_A
  | 1, n => (n, .inr (.inl (fun _ => 0)))
  | _, n => (n, .inl (fun _ => 0))
/-- a switch: the cases one behind the other -/
def dk_sw (x : Int32) (dflt : Nat) (k : Nat → dk_Res) : List (Int32 × Nat) → dk_Res
  | [] => k dflt
  | q :: r => if x = q.1 then k q.2 else dk_sw x dflt k r
def dk_cell (i : Nat) (M : dk_M) : Option dk_C := M[i]?
section DKM
variable (call : Nat → List Value → dk_M → dk_Res) (tb : Nat → Option (Nat × (Nat → Int32))) (mc ms rt : Nat)
def dk_step (r : dk_R) (pc : Nat) (loc : dk_L) (st : List Value) (M : dk_M) (nc ns : Nat) (k : Nat → dk_K) : dk_Res := match r with
  | (i, len, (a, b, c), v, w, sw) => match i with
    | .iconst _ => k (pc + len) loc (.int v :: st) M nc ns
    | .bipush _ => k (pc + len) loc (.int v :: st) M nc ns
    | .sipush _ => k (pc + len) loc (.int v :: st) M nc ns
    | .ldc _ => k (pc + len) loc (.int v :: st) M nc ns
    | .ldc_w _ => k (pc + len) loc (.int v :: st) M nc ns
    | .lconst _ => k (pc + len) loc (.long w :: st) M nc ns
    | .ldc2_w _ => k (pc + len) loc (.long w :: st) M nc ns
    | .iload_n _ => match loc[a]? with
      | some (some (.int x)) => k (pc + len) loc (.int x :: st) M nc ns
      | _ => none
    | .iload _ => match loc[a]? with
      | some (some (.int x)) => k (pc + len) loc (.int x :: st) M nc ns
      | _ => none
    | .lload_n _ => match loc[a]? with
      | some (some (.long x)) => k (pc + len) loc (.long x :: st) M nc ns
      | _ => none
    | .lload _ => match loc[a]? with
      | some (some (.long x)) => k (pc + len) loc (.long x :: st) M nc ns
      | _ => none
    | .aload_n _ => match loc[a]? with
      | some (some (.ref x)) => k (pc + len) loc (.ref x :: st) M nc ns
      | _ => none
    | .aload _ => match loc[a]? with
      | some (some (.ref x)) => k (pc + len) loc (.ref x :: st) M nc ns
      | _ => none
    | .istore_n _ => match st with
      | .int x :: st => k (pc + len) (dk_s1 loc a (.int x)) st M nc ns
      | _ => none
    | .istore _ => match st with
      | .int x :: st => k (pc + len) (dk_s1 loc a (.int x)) st M nc ns
      | _ => none
    | .lstore_n _ => match st with
      | .long x :: st => k (pc + len) (dk_s2 loc a (.long x)) st M nc ns
      | _ => none
    | .lstore _ => match st with
      | .long x :: st => k (pc + len) (dk_s2 loc a (.long x)) st M nc ns
      | _ => none
    | .astore_n _ => match st with
      | .ref x :: st => k (pc + len) (dk_s1 loc a (.ref x)) st M nc ns
      | _ => none
    | .iinc _ _ => match loc[a]? with
      | some (some (.int x)) => k (pc + len) (dk_s1 loc a (.int (x + v))) st M nc ns
      | _ => none
    | .iadd => match st with
      | .int y :: .int x :: st => k (pc + len) loc (.int (x + y) :: st) M nc ns
      | _ => none
    | .isub => match st with
      | .int y :: .int x :: st => k (pc + len) loc (.int (x - y) :: st) M nc ns
      | _ => none
    | .imul => match st with
      | .int y :: .int x :: st => k (pc + len) loc (.int (x * y) :: st) M nc ns
      | _ => none
    | .iand => match st with
      | .int y :: .int x :: st => k (pc + len) loc (.int (x &&& y) :: st) M nc ns
      | _ => none
    | .ior => match st with
      | .int y :: .int x :: st => k (pc + len) loc (.int (x ||| y) :: st) M nc ns
      | _ => none
    | .ixor => match st with
      | .int y :: .int x :: st => k (pc + len) loc (.int (x ^^^ y) :: st) M nc ns
      | _ => none
    | .idiv => match st with
      | .int y :: .int x :: st => if y = 0 then none else k (pc + len) loc (.int (x / y) :: st) M nc ns
      | _ => none
    | .irem => match st with
      | .int y :: .int x :: st => if y = 0 then none else k (pc + len) loc (.int (x - x / y * y) :: st) M nc ns
      | _ => none
    | .ineg => match st with
      | .int x :: st => k (pc + len) loc (.int (-x) :: st) M nc ns
      | _ => none
    | .ishl => match st with
      | .int y :: .int x :: st => k (pc + len) loc (.int (x <<< (y &&& 31)) :: st) M nc ns
      | _ => none
    | .ishr => match st with
      | .int y :: .int x :: st => k (pc + len) loc (.int (x >>> (y &&& 31)) :: st) M nc ns
      | _ => none
    | .iushr => match st with
      | .int y :: .int x :: st => k (pc + len) loc (.int (x.toUInt32 >>> (y.toUInt32 &&& Int32.toUInt32 31)).toInt32 :: st) M nc ns
      | _ => none
    | .ladd => match st with
      | .long y :: .long x :: st => k (pc + len) loc (.long (x + y) :: st) M nc ns
      | _ => none
    | .lmul => match st with
      | .long y :: .long x :: st => k (pc + len) loc (.long (x * y) :: st) M nc ns
      | _ => none
    | .land => match st with
      | .long y :: .long x :: st => k (pc + len) loc (.long (x &&& y) :: st) M nc ns
      | _ => none
    | .lor => match st with
      | .long y :: .long x :: st => k (pc + len) loc (.long (x ||| y) :: st) M nc ns
      | _ => none
    | .lrem => match st with
      | .long y :: .long x :: st => if y = 0 then none else k (pc + len) loc (.long (x - x / y * y) :: st) M nc ns
      | _ => none
    | .lushr => match st with
      | .int y :: .long x :: st => k (pc + len) loc (.long (x.toUInt64 >>> (y.toInt64.toUInt64 &&& Int64.toUInt64 63)).toInt64 :: st) M nc ns
      | _ => none
    | .lshl => match st with
      | .int y :: .long x :: st => k (pc + len) loc (.long (x <<< (y.toInt64 &&& 63)) :: st) M nc ns
      | _ => none
    | .i2l => match st with
      | .int x :: st => k (pc + len) loc (.long x.toInt64 :: st) M nc ns
      | _ => none
    | .l2i => match st with
      | .long x :: st => k (pc + len) loc (.int x.toInt32 :: st) M nc ns
      | _ => none
    | .lcmp => match st with
      | .long y :: .long x :: st => k (pc + len) loc (.int (lg_cmp x y) :: st) M nc ns
      | _ => none
    | .dup => match st with
      | .int x :: st => k (pc + len) loc (.int x :: .int x :: st) M nc ns
      | .ref x :: st => k (pc + len) loc (.ref x :: .ref x :: st) M nc ns
      | _ => none
    | .dup2 => match st with
      | .int y :: .ref x :: st => k (pc + len) loc (.int y :: .ref x :: .int y :: .ref x :: st) M nc ns
      | _ => none
    | .pop => match st with
      | .int _ :: st => k (pc + len) loc st M nc ns
      | _ => none
    | .goto _ => k a loc st M nc ns
    | .ifCond cd _ => match st with
      | .int x :: st => match cd with
        | .eq => if x = 0 then k a loc st M nc ns else k (pc + len) loc st M nc ns
        | .ne => if x = 0 then k (pc + len) loc st M nc ns else k a loc st M nc ns
        | .lt => if x < 0 then k a loc st M nc ns else k (pc + len) loc st M nc ns
        | .ge => if x < 0 then k (pc + len) loc st M nc ns else k a loc st M nc ns
        | .gt => if 0 < x then k a loc st M nc ns else k (pc + len) loc st M nc ns
        | .le => if 0 < x then k (pc + len) loc st M nc ns else k a loc st M nc ns
      | _ => none
    | .if_icmp cd _ => match st with
      | .int y :: .int x :: st => match cd with
        | .eq => if x = y then k a loc st M nc ns else k (pc + len) loc st M nc ns
        | .ne => if x = y then k (pc + len) loc st M nc ns else k a loc st M nc ns
        | .lt => if x < y then k a loc st M nc ns else k (pc + len) loc st M nc ns
        | .ge => if x < y then k (pc + len) loc st M nc ns else k a loc st M nc ns
        | .gt => if y < x then k a loc st M nc ns else k (pc + len) loc st M nc ns
        | .le => if y < x then k (pc + len) loc st M nc ns else k a loc st M nc ns
      | _ => none
    | .tableswitch _ _ _ _ => match st with
      | .int x :: st => dk_sw x a (fun t => k t loc st M nc ns) sw
      | _ => none
    | .getfield _ => match st with
      | .ref j :: st => match dk_cell j M with
        | some (.inr (ci, fs)) => match Nat.beq ci a with
          | true => match fs[b]? with
            | some x => k (pc + len) loc (x :: st) M nc ns
            | none => none
          | false => none
        | _ => none
      | _ => none
    | .putfield _ => match st with
      | x :: .ref j :: st => match dk_cell j M with
        | some (.inr (ci, fs)) => match Nat.beq ci a && Nat.blt b fs.length && (match x with
            | .int _ => Nat.blt c 2
            | .ref _ => Nat.beq c 2
            | _ => false) with
          | true => k (pc + len) loc st (M.set j (.inr (ci, fs.set b x))) nc ns
          | false => none
        | _ => none
      | _ => none
    | .getstatic _ => k (pc + len) loc (.ref b :: st) M nc ns
    | .iaload => match st with
      | .int j :: .ref r :: st => match Nat.ble 1000 r with
        | true => match tb r with
          | some (n, f) => if j < 0 ∨ n ≤ j.toNatClampNeg then none else k (pc + len) loc (.int (f j.toNatClampNeg) :: st) M nc ns
          | none => none
        | false => match dk_cell r M with
          | some (.inl (0, n, .inl f)) => if j < 0 ∨ n ≤ j.toNatClampNeg then none else k (pc + len) loc (.int (f j.toNatClampNeg) :: st) M nc ns
          | _ => none
      | _ => none
    | .baload => match st with
      | .int j :: .ref r :: st => match dk_cell r M with
          | some (.inl (2, n, .inl f)) => if j < 0 ∨ n ≤ j.toNatClampNeg then none else k (pc + len) loc (.int (f j.toNatClampNeg) :: st) M nc ns
          | _ => none
      | _ => none
    | .laload => match st with
      | .int j :: .ref r :: st => match dk_cell r M with
          | some (.inl (1, n, .inr (.inl f))) => if j < 0 ∨ n ≤ j.toNatClampNeg then none else k (pc + len) loc (.long (f j.toNatClampNeg) :: st) M nc ns
          | _ => none
      | _ => none
    | .iastore => match st with
      | .int x :: .int j :: .ref r :: st => match dk_cell r M with
          | some (.inl (0, n, .inl f)) => if j < 0 ∨ n ≤ j.toNatClampNeg then none else k (pc + len) loc st (M.set r (.inl (0, n, .inl (upd f j.toNatClampNeg x)))) nc ns
          | _ => none
      | _ => none
    | .bastore => match st with
      | .int x :: .int j :: .ref r :: st => match dk_cell r M with
          | some (.inl (2, n, .inl f)) => if j < 0 ∨ n ≤ j.toNatClampNeg then none else k (pc + len) loc st (M.set r (.inl (2, n, .inl (upd f j.toNatClampNeg (vp_nar .boolean x))))) nc ns
          | _ => none
      | _ => none
    | .lastore => match st with
      | .long x :: .int j :: .ref r :: st => match dk_cell r M with
          | some (.inl (1, n, .inr (.inl f))) => if j < 0 ∨ n ≤ j.toNatClampNeg then none else k (pc + len) loc st (M.set r (.inl (1, n, .inr (.inl (vp_updL f j.toNatClampNeg x))))) nc ns
          | _ => none
      | _ => none
    | .arraylength => match st with
      | .ref r :: st => match Nat.ble 1000 r with
        | true => match tb r with
          | some (n, _) => k (pc + len) loc (.int (Int32.ofNat n) :: st) M nc ns
          | none => none
        | false => match dk_cell r M with
          | some (.inl (_, n, _)) => k (pc + len) loc (.int (Int32.ofNat n) :: st) M nc ns
          | _ => none
      | _ => none
    | .newarray _ => match st with
      | .int x :: st => if x < 0 ∨ mc < nc + 1 ∨ ms < ns + x.toNatClampNeg ∨ 10000 < x.toNatClampNeg then none else
          match Nat.blt M.length 1000 && loc.all (dk_wo M.length) && st.all (dk_wv M.length) && M.all (dk_wc M.length) with
          | true => k (pc + len) loc (.ref M.length :: st) (M ++ [.inl (a, dk_zero a x.toNatClampNeg)]) (nc + 1) (ns + x.toNatClampNeg)
          | false => none
      | _ => none
    | .new _ => match Nat.ble (nc + 1) mc && Nat.ble (ns + (dk_def a).length) ms && Nat.blt M.length 1000 && loc.all (dk_wo M.length) && st.all (dk_wv M.length) && M.all (dk_wc M.length) with
        | true => k (pc + len) loc (.ref M.length :: st) (M ++ [.inr (a, dk_def a)]) (nc + 1) (ns + (dk_def a).length)
        | false => none
    | .invokestatic _ => match a with
      | 7 => match st with
        | .int y :: .int x :: st => match Nat.ble ((st.map fun v => v.category).sum) 8 with
          | true => k (pc + len) loc (.int (if x < y then y else x) :: st) M nc ns
          | false => none
        | _ => none
      | 8 => match st with
        | .int y :: .int x :: st => match Nat.ble ((st.map fun v => v.category).sum) 8 with
          | true => k (pc + len) loc (.int (if y < x then y else x) :: st) M nc ns
          | false => none
        | _ => none
      | _ => match Nat.ble c st.length && Nat.ble (((st.drop c).map fun v => v.category).sum) 8 && Nat.ble (nc + (dk_lim b).1) mc && Nat.ble (ns + (dk_lim b).2) ms && (Nat.beq (dk_lim b).1 0 || (loc.all (dk_wo M.length) && (st.drop c).all (dk_wv M.length))) with
        | true => match call b (st.take c).reverse M with
          | some (r, M2) => k (pc + len) loc (r.toList ++ st.drop c) M2 (nc + (dk_lim b).1) (ns + (dk_lim b).2)
          | none => none
        | false => none
    | .invokevirtual _ => match Nat.ble c st.length && Nat.ble (((st.drop c).map fun v => v.category).sum) 8 && Nat.ble (nc + (dk_lim b).1) mc && Nat.ble (ns + (dk_lim b).2) ms && (Nat.beq (dk_lim b).1 0 || (loc.all (dk_wo M.length) && (st.drop c).all (dk_wv M.length))) with
        | true => match (st.take c).reverse with
          | .ref j :: as => match dk_cell j M with
            | some (.inr (ci, _)) => match Nat.beq ci (dk_in b).2.2.2.2.1 with
              | true => match call b (.ref j :: as) M with
                | some (r, M2) => k (pc + len) loc (r.toList ++ st.drop c) M2 (nc + (dk_lim b).1) (ns + (dk_lim b).2)
                | none => none
              | false => none
            | _ => none
          | _ => none
        | false => none
    | .invokespecial _ => match a with
      | 6 => match st with
        | .ref _ :: st => match Nat.ble ((st.map fun v => v.category).sum) 8 with
          | true => k (pc + len) loc st M nc ns
          | false => none
        | _ => none
      | _ => match Nat.ble c st.length && Nat.ble (((st.drop c).map fun v => v.category).sum) 8 && Nat.ble (nc + (dk_lim b).1) mc && Nat.ble (ns + (dk_lim b).2) ms && (Nat.beq (dk_lim b).1 0 || (loc.all (dk_wo M.length) && (st.drop c).all (dk_wv M.length))) with
        | true => match (st.take c).reverse with
          | .ref j :: as => match call b (.ref j :: as) M with
              | some (r, M2) => k (pc + len) loc (r.toList ++ st.drop c) M2 (nc + (dk_lim b).1) (ns + (dk_lim b).2)
              | none => none
          | _ => none
        | false => none
    | .ireturn => match st with
      | [.int x] => match rt with
        | 1 => some (some (.int x), M)
        | 2 => if x &&& 1 = x then some (some (.int x), M) else none
        | _ => none
      | _ => none
    | .lreturn => match st with
      | [.long x] => match rt with
        | 3 => some (some (.long x), M)
        | _ => none
      | _ => none
    | .return_ => match st with
      | [] => match rt with
        | 0 => some (none, M)
        | _ => none
      | _ => none
    | _ => none
def dk_run (cd : Nat → Option dk_R) (J : Nat → Option dk_K) : Nat → Nat → dk_K
  | 0, _, _, _, _, _, _ => none
  | n + 1, pc, loc, st, M, nc, ns => match cd pc with
    | none => none
    | some r => dk_step call tb mc ms rt r pc loc st M nc ns (fun pc' loc' st' M' nc' ns' => match J pc' with
      | some kk => kk loc' st' M' nc' ns'
      | none => dk_run cd J n pc' loc' st' M' nc' ns')
end DKM
def dk_loop (call : Nat → List Value → dk_M → dk_Res) (tb : Nat → Option (Nat × (Nat → Int32))) (me : dk_Me) : Nat → Nat → dk_K
  | 0, _, _, _, _, _, _ => none
  | n + 1, pc, loc, st, M, nc, ns => dk_run call tb me.2.2.2.2.1 me.2.2.2.2.2 me.2.2.2.1 me.1 (fun pc' => match me.2.1 pc' with
      | some mask => some (fun loc' st' M' nc' ns' => dk_loop call tb me n pc' (dk_cut mask loc') st' M' nc' ns')
      | none => none) 700 pc loc st M nc ns
def dk_exec (N : Nat) : Nat → Nat → List Value → dk_M → dk_Res
  | 0, _, _, _ => none
  | d + 1, y, av, M => match Nat.blt y dk_N with
    | true => dk_loop (dk_exec N d) dk_tb (dk_in y).2.2.2.2.2.2.2 N 0 (dk_ent0 (dk_in y).2.2.2.2.2.2.2.2.2.1 av) [] M 0 0
    | false => none
theorem dk_done : True := trivial
