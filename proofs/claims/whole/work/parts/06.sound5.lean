/-! runs and loops -/
section DKU
variable {p : Program} {l : Launch} {e : Env} {R : Room} {s : State} {m : MethodId} {args : Array Value} {below : List Frame} {meth : Method} {c : Code} {Q : State → Prop}
variable {cc : ByteArray} {own : String} {ini : Bool} {nL mc ms rt d : Nat} {sc : Nat × (Nat → Int32)} {D : va_G} {ca : Nat → ClassId} {A : Nat → Prop} {ad0 : Nat → Nat} {n0 : Nat} {res : Option Value × dk_M} {call : Nat → List Value → dk_M → dk_Res}
theorem dk_run_ok (F : dk_Fix p R s m args meth c cc own ini nL mc ms d sc D ca A ad0) (hcall : dk_CallOk l sc D ca d call) {cd : Nat → Option dk_R} (hcd : ∀ pc r, cd pc = some r → dk_rok own ini nL cc pc r = true) {J : Nat → Option dk_K}
    (hJ : ∀ pc k loc st M nc ns, J pc = some k → k loc st M nc ns = some res → dk_Go p l e R s m args below meth c Q nL mc ms D ca A ad0 n0 pc loc st M nc ns)
    (hret : dk_Rh p l e R s m args below meth c Q cc rt mc ms D ca A ad0 n0 res) : ∀ (n pc : Nat) (loc : dk_L) (st : List Value) (M : dk_M) (nc ns : Nat), dk_run call (dk_tb sc) mc ms rt cd J n pc loc st M nc ns = some res → dk_Go p l e R s m args below meth c Q nL mc ms D ca A ad0 n0 pc loc st M nc ns
  | 0, pc, loc, st, M, nc, ns, h => by cases h
  | n + 1, pc, loc, st, M, nc, ns, h => by
    rw [dk_run] at h
    split at h
    · cases h
    · rename_i r hr
      refine dk_step_ok F hcall (hcd pc r hr) h (fun pc' loc' st' M' nc' ns' h' => ?_) hret
      split at h'
      · rename_i kk hkk
        exact hJ _ _ _ _ _ _ _ hkk h'
      · exact dk_run_ok F hcall hcd hJ hret n _ _ _ _ _ _ h'
theorem dk_loop_ok {me : dk_Me} (F : dk_Fix p R s m args meth c cc own ini nL me.2.2.2.2.1 me.2.2.2.2.2 d sc D ca A ad0) (hcall : dk_CallOk l sc D ca d call) (hcd : ∀ pc r, (fun pc => cond (Nat.blt pc 700) (me.1 pc) none) pc = some r → dk_rok own ini nL cc pc r = true)
    (hret : dk_Rh p l e R s m args below meth c Q cc me.2.2.2.1 me.2.2.2.2.1 me.2.2.2.2.2 D ca A ad0 n0 res) : ∀ (n pc : Nat) (loc : dk_L) (st : List Value) (M : dk_M) (nc ns : Nat), dk_loop call (dk_tb sc) me n pc loc st M nc ns = some res → dk_Go p l e R s m args below meth c Q nL me.2.2.2.2.1 me.2.2.2.2.2 D ca A ad0 n0 pc loc st M nc ns
  | 0, pc, loc, st, M, nc, ns, h => by cases h
  | n + 1, pc, loc, st, M, nc, ns, h => by
    rw [dk_loop] at h
    refine dk_run_ok F hcall hcd (fun pc' k loc' st' M' nc' ns' hk h' => ?_) hret _ _ _ _ _ _ _ h
    split at hk
    · rename_i mask hm
      cases hk
      intro ad H locs ls hl I
      exact dk_loop_ok F hcall hcd hret n pc' (dk_cut mask loc') st' M' nc' ns' h' ad H locs ls (dk_sub hl dk_cut_en) I
    · cases hk
end DKU
theorem dk_rows_cd {y : Nat} (h : dk_rows y = true) : ∀ pc r, (fun pc => cond (Nat.blt pc 700) ((dk_mr y).1 pc) none) pc = some r → dk_rok (dk_nm y).cls (decide ((dk_nm y).name = "<init>")) (dk_ml y) (dk_by y) pc r = true := by
  intro pc r hr
  dsimp only at hr
  cases hb : Nat.blt pc 700 with
  | false => rw [hb] at hr; cases hr
  | true =>
    rw [hb] at hr
    have := List.all_eq_true.mp h pc (List.mem_range.mpr (Nat.blt_eq.mp hb))
    rw [show (dk_mr y).1 pc = some r from hr] at this
    exact this
