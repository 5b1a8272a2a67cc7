section QE
variable {sc : Nat × (Nat → Int32)} {d : Nat} {L : Nat → Nat} {σ : Nat → Int32} {α : Nat → Nat → Int32} {τ : Nat → Int32} {β : Nat → Nat → Int32} {γ : Nat → Nat → Int64} {r : Option Value × dk_M}
-- 1 DominoParlour$Line.clear()V
set_option maxRecDepth 50000 in
theorem q_1_0 (h : r = (none, (mem L (upd (upd σ 10 (28 : Int32)) 11 (0 : Int32)) α τ β γ))) : EvL sc d me_1 0 [some (.ref 3)] [] (mem L σ α τ β γ) 0 0 r := e_of (e_ret h) (fun _ _ => rfl)
-- 2 DominoParlour$Line.isEmpty()Z
set_option maxRecDepth 50000 in
theorem q_2_0 (h : if (σ 11) = 0 then r = (some (.int (1 : Int32)), (mem L σ α τ β γ)) else r = (some (.int (0 : Int32)), (mem L σ α τ β γ))) : EvL sc d me_2 0 [some (.ref 3)] [] (mem L σ α τ β γ) 0 0 r := e_of (e_ite (e_ret) (e_ret) h) (fun _ _ => rfl)
-- 3 DominoParlour$Line.tileAt(I)I
set_option maxRecDepth 50000 in
theorem q_3_0 {x1 : Int32} (h : if x1 < 0 then r = (some (.int (-1 : Int32)), (mem L σ α τ β γ)) else if x1 < (σ 11) then if ((σ 10) + x1) < 0 then r = (some (.int (-1 : Int32)), (mem L σ α τ β γ)) else if ((σ 10) + x1) < (Int32.ofNat 56) then if ((σ 10) + x1) < 0 ∨ 56 ≤ ((σ 10) + x1).toNatClampNeg then False else r = (some (.int ((α 4) ((σ 10) + x1).toNatClampNeg)), (mem L σ α τ β γ)) else r = (some (.int (-1 : Int32)), (mem L σ α τ β γ)) else r = (some (.int (-1 : Int32)), (mem L σ α τ β γ))) : EvL sc d me_3 0 [some (.ref 3), some (.int x1), none] [] (mem L σ α τ β γ) 0 0 r := e_of (e_ite (e_ret) (e_ite (e_ite (e_ret) (e_ite (e_ite (e_no) (e_ret)) (e_ret))) (e_ret)) h) (fun _ _ => rfl)
-- 4 DominoParlour$Line.pipsAt(I)I
set_option maxRecDepth 50000 in
theorem q_4_0 {x1 : Int32} (h : Cli sc d 2 [.ref 3] (mem L σ α τ β γ) (fun y M2 => EvL sc d me_4 4 [some (.ref 3), some (.int x1)] [.int y] M2 0 0 r)) : EvL sc d me_4 0 [some (.ref 3), some (.int x1)] [] (mem L σ α τ β γ) 0 0 r := e_of (e_ci h) (fun _ _ => rfl)
set_option maxRecDepth 50000 in
theorem q_4_4 {x1 : Int32} {s0 : Int32} (h : if s0 = 0 then if x1 = 0 then Cli sc d 3 [.ref 3, .int (0 : Int32)] (mem L σ α τ β γ) (fun y M2 => EvL sc d me_4 18 [none, none] [.int y] M2 0 0 r) else Cli sc d 3 [.ref 3, .int ((σ 11) - (1 : Int32))] (mem L σ α τ β γ) (fun y M2 => EvL sc d me_4 34 [none, none] [.int y] M2 0 0 r) else r = (some (.int (-1 : Int32)), (mem L σ α τ β γ))) : EvL sc d me_4 4 [some (.ref 3), some (.int x1)] [.int s0] (mem L σ α τ β γ) 0 0 r := e_of (e_ite (e_ite (e_ci) (e_ci)) (e_ret) h) (fun _ _ => rfl)
set_option maxRecDepth 50000 in
theorem q_4_34 {s0 : Int32} (h : r = (some (.int (s0 - s0 / (10 : Int32) * (10 : Int32))), (mem L σ α τ β γ))) : EvL sc d me_4 34 [none, none] [.int s0] (mem L σ α τ β γ) 0 0 r := e_of (e_ret h) (fun _ _ => rfl)
set_option maxRecDepth 50000 in
theorem q_4_18 {s0 : Int32} (h : r = (some (.int (s0 / (10 : Int32))), (mem L σ α τ β γ))) : EvL sc d me_4 18 [none, none] [.int s0] (mem L σ α τ β γ) 0 0 r := e_of (e_ret h) (fun _ _ => rfl)
-- 5 DominoParlour$Line.add(II)V
set_option maxRecDepth 50000 in
theorem q_5_0 {x1 : Int32} {x2 : Int32} (h : Cli sc d 2 [.ref 3] (mem L σ α τ β γ) (fun y M2 => EvL sc d me_5 4 [some (.ref 3), some (.int x1), some (.int x2), none, none] [.int y] M2 0 0 r)) : EvL sc d me_5 0 [some (.ref 3), some (.int x1), some (.int x2), none, none] [] (mem L σ α τ β γ) 0 0 r := e_of (e_ci h) (fun _ _ => rfl)
set_option maxRecDepth 50000 in
theorem q_5_4 {x1 : Int32} {x2 : Int32} {s0 : Int32} (h : if s0 = 0 then Cli sc d 4 [.ref 3, .int x2] (mem L σ α τ β γ) (fun y M2 => EvL sc d me_5 29 [some (.ref 3), some (.int x1), some (.int x2), none, none] [.int y] M2 0 0 r) else Cli sc d 90 [.int x1] (mem L σ α τ β γ) (fun y M2 => EvL sc d me_5 14 [none, some (.int x1), none, none, none] [.int y, .int (10 : Int32), .ref 3] M2 0 0 r)) : EvL sc d me_5 4 [some (.ref 3), some (.int x1), some (.int x2), none, none] [.int s0] (mem L σ α τ β γ) 0 0 r := e_of (e_ite (e_ci) (e_ci) h) (fun _ _ => rfl)
set_option maxRecDepth 50000 in
theorem q_5_29 {x1 : Int32} {x2 : Int32} {s0 : Int32} (h : Cli sc d 90 [.int x1] (mem L σ α τ β γ) (fun y M2 => EvL sc d me_5 34 [some (.ref 3), some (.int x1), some (.int x2), some (.int s0), none] [.int y] M2 0 0 r)) : EvL sc d me_5 29 [some (.ref 3), some (.int x1), some (.int x2), none, none] [.int s0] (mem L σ α τ β γ) 0 0 r := e_of (e_ci h) (fun _ _ => rfl)
set_option maxRecDepth 50000 in
theorem q_5_14 {x1 : Int32} {s0 : Int32} {s1 : Int32} (h : Cli sc d 91 [.int x1] (mem L σ α τ β γ) (fun y M2 => EvL sc d me_5 19 [none, none, none, none, none] [.int y, .int (s1 * s0), .ref 3] M2 0 0 r)) : EvL sc d me_5 14 [none, some (.int x1), none, none, none] [.int s0, .int s1, .ref 3] (mem L σ α τ β γ) 0 0 r := e_of (e_ci h) (fun _ _ => rfl)
set_option maxRecDepth 50000 in
theorem q_5_34 {x1 : Int32} {x2 : Int32} {x3 : Int32} {s0 : Int32} (h : if s0 = x3 then Cli sc d 91 [.int x1] (mem L σ α τ β γ) (fun y M2 => EvL sc d me_5 42 [some (.ref 3), none, some (.int x2), some (.int x3), none] [.int y] M2 0 0 r) else Cli sc d 90 [.int x1] (mem L σ α τ β γ) (fun y M2 => EvL sc d me_5 49 [some (.ref 3), none, some (.int x2), some (.int x3), none] [.int y] M2 0 0 r)) : EvL sc d me_5 34 [some (.ref 3), some (.int x1), some (.int x2), some (.int x3), none] [.int s0] (mem L σ α τ β γ) 0 0 r := e_of (e_ite (e_ci) (e_ci) h) (fun _ _ => rfl)
set_option maxRecDepth 50000 in
theorem q_5_19 {s0 : Int32} {s1 : Int32} (h : Clv sc d 6 [.ref 3, .int (s1 + s0)] (mem L σ α τ β γ) (fun M2 => EvL sc d me_5 23 [none, none, none, none, none] [] M2 0 0 r)) : EvL sc d me_5 19 [none, none, none, none, none] [.int s0, .int s1, .ref 3] (mem L σ α τ β γ) 0 0 r := e_of (e_cv h) (fun _ _ => rfl)
set_option maxRecDepth 50000 in
theorem q_5_49 {x2 : Int32} {x3 : Int32} {s0 : Int32} (h : if x2 = 0 then Clv sc d 6 [.ref 3, .int (((10 : Int32) * s0) + x3)] (mem L σ α τ β γ) (fun M2 => EvL sc d me_5 66 [none, none, none, none, none] [] M2 0 0 r) else Clv sc d 7 [.ref 3, .int (((10 : Int32) * x3) + s0)] (mem L σ α τ β γ) (fun M2 => EvL sc d me_5 80 [none, none, none, none, none] [] M2 0 0 r)) : EvL sc d me_5 49 [some (.ref 3), none, some (.int x2), some (.int x3), none] [.int s0] (mem L σ α τ β γ) 0 0 r := e_of (e_ite (e_cv) (e_cv) h) (fun _ _ => rfl)
set_option maxRecDepth 50000 in
theorem q_5_42 {x2 : Int32} {x3 : Int32} {s0 : Int32} (h : EvL sc d me_5 49 [some (.ref 3), none, some (.int x2), some (.int x3), none] [.int s0] (mem L σ α τ β γ) 0 0 r) : EvL sc d me_5 42 [some (.ref 3), none, some (.int x2), some (.int x3), none] [.int s0] (mem L σ α τ β γ) 0 0 r := e_of (e_loop h) (fun _ _ => rfl)
set_option maxRecDepth 50000 in
theorem q_5_23 (h : r = (none, (mem L σ α τ β γ))) : EvL sc d me_5 23 [none, none, none, none, none] [] (mem L σ α τ β γ) 0 0 r := e_of (e_ret h) (fun _ _ => rfl)
set_option maxRecDepth 50000 in
theorem q_5_80 (h : r = (none, (mem L σ α τ β γ))) : EvL sc d me_5 80 [none, none, none, none, none] [] (mem L σ α τ β γ) 0 0 r := e_of (e_ret h) (fun _ _ => rfl)
set_option maxRecDepth 50000 in
theorem q_5_66 (h : EvL sc d me_5 80 [none, none, none, none, none] [] (mem L σ α τ β γ) 0 0 r) : EvL sc d me_5 66 [none, none, none, none, none] [] (mem L σ α τ β γ) 0 0 r := e_of (e_loop h) (fun _ _ => rfl)
-- 6 DominoParlour$Line.addLeft(I)V
set_option maxRecDepth 50000 in
theorem q_6_0 {x1 : Int32} (h : if ((σ 10) - (1 : Int32)) < 0 then r = (none, (mem L σ α τ β γ)) else if ((σ 10) - (1 : Int32)) < (Int32.ofNat 56) then if ((σ 10) - (1 : Int32)) < 0 ∨ 56 ≤ ((σ 10) - (1 : Int32)).toNatClampNeg then False else r = (none, (mem L (upd (upd σ 10 ((σ 10) - (1 : Int32))) 11 ((σ 11) + (1 : Int32))) (va_up α 4 (upd (α 4) ((σ 10) - (1 : Int32)).toNatClampNeg x1)) τ β γ)) else r = (none, (mem L σ α τ β γ))) : EvL sc d me_6 0 [some (.ref 3), some (.int x1), none] [] (mem L σ α τ β γ) 0 0 r := e_of (e_ite (e_ret) (e_ite (e_ite (e_no) (e_ret)) (e_ret)) h) (fun _ _ => rfl)
-- 7 DominoParlour$Line.addRight(I)V
set_option maxRecDepth 50000 in
theorem q_7_0 {x1 : Int32} (h : if ((σ 10) + (σ 11)) < 0 then r = (none, (mem L σ α τ β γ)) else if ((σ 10) + (σ 11)) < (Int32.ofNat 56) then if ((σ 10) + (σ 11)) < 0 ∨ 56 ≤ ((σ 10) + (σ 11)).toNatClampNeg then False else r = (none, (mem L (upd σ 11 ((σ 11) + (1 : Int32))) (va_up α 4 (upd (α 4) ((σ 10) + (σ 11)).toNatClampNeg x1)) τ β γ)) else r = (none, (mem L σ α τ β γ))) : EvL sc d me_7 0 [some (.ref 3), some (.int x1), none] [] (mem L σ α τ β γ) 0 0 r := e_of (e_ite (e_ret) (e_ite (e_ite (e_no) (e_ret)) (e_ret)) h) (fun _ _ => rfl)
-- 8 DominoParlour$Line.drop(I)V
set_option maxRecDepth 50000 in
theorem q_8_0 {x1 : Int32} (h : Cli sc d 2 [.ref 3] (mem L σ α τ β γ) (fun y M2 => EvL sc d me_8 4 [some (.ref 3), some (.int x1)] [.int y] M2 0 0 r)) : EvL sc d me_8 0 [some (.ref 3), some (.int x1)] [] (mem L σ α τ β γ) 0 0 r := e_of (e_ci h) (fun _ _ => rfl)
set_option maxRecDepth 50000 in
theorem q_8_4 {x1 : Int32} {s0 : Int32} (h : if s0 = 0 then if x1 = 0 then r = (none, (mem L (upd (upd σ 10 ((σ 10) + (1 : Int32))) 11 ((σ 11) - (1 : Int32))) α τ β γ)) else r = (none, (mem L (upd σ 11 ((σ 11) - (1 : Int32))) α τ β γ)) else r = (none, (mem L σ α τ β γ))) : EvL sc d me_8 4 [some (.ref 3), some (.int x1)] [.int s0] (mem L σ α τ β γ) 0 0 r := e_of (e_ite (e_ite (e_ret) (e_ret)) (e_ret) h) (fun _ _ => rfl)
-- 10 DominoParlour$Search.ahead(I)I
set_option maxRecDepth 50000 in
theorem q_10_0 {x1 : Int32} (h : Cli sc d 16 [.ref 1, .int (σ 7)] (mem L σ α τ β γ) (fun y M2 => EvL sc d me_10 15 [some (.ref 20), some (.int x1)] [.int y, .ref 20] M2 0 0 r)) : EvL sc d me_10 0 [some (.ref 20), some (.int x1)] [] (mem L σ α τ β γ) 0 0 r := e_of (e_ci h) (fun _ _ => rfl)
set_option maxRecDepth 50000 in
theorem q_10_15 {x1 : Int32} {s0 : Int32} (h : Cli sc d 11 [.ref 20, .int x1] (mem L (upd (upd σ 13 s0) 14 (0 : Int32)) α τ β γ) (fun y M2 => EvL sc d me_10 28 [none, none] [.int y] M2 0 0 r)) : EvL sc d me_10 15 [some (.ref 20), some (.int x1)] [.int s0, .ref 20] (mem L σ α τ β γ) 0 0 r := e_of (e_ci h) (fun _ _ => rfl)
set_option maxRecDepth 50000 in
theorem q_10_28 {s0 : Int32} (h : r = (some (.int s0), (mem L σ α τ β γ))) : EvL sc d me_10 28 [none, none] [.int s0] (mem L σ α τ β γ) 0 0 r := e_of (e_ret h) (fun _ _ => rfl)
-- 11 DominoParlour$Search.best(I)I
set_option maxRecDepth 50000 in
theorem q_11_0 {x1 : Int32} (h : if 0 < x1 then if (4 : Int32) < x1 then Cli sc d 39 [.ref 1, .int (σ 13)] (mem L σ α τ β γ) (fun y M2 => EvL sc d me_11 31 [none, none, none, none, none, none, none, none, none] [.int y] M2 0 0 r) else if (σ 4) = (2 : Int32) then Cli sc d 16 [.ref 1, .int (σ 7)] (mem L σ α τ β γ) (fun y M2 => EvL sc d me_11 46 [some (.ref 20), some (.int x1), none, none, none, none, none, none, none] [.int y] M2 0 0 r) else Cli sc d 39 [.ref 1, .int (σ 13)] (mem L σ α τ β γ) (fun y M2 => EvL sc d me_11 31 [none, none, none, none, none, none, none, none, none] [.int y] M2 0 0 r) else Cli sc d 39 [.ref 1, .int (σ 13)] (mem L σ α τ β γ) (fun y M2 => EvL sc d me_11 31 [none, none, none, none, none, none, none, none, none] [.int y] M2 0 0 r)) : EvL sc d me_11 0 [some (.ref 20), some (.int x1), none, none, none, none, none, none, none] [] (mem L σ α τ β γ) 0 0 r := e_of (e_ite (e_ite (e_ci) (e_ite (e_ci) (e_ci))) (e_ci) h) (fun _ _ => rfl)
set_option maxRecDepth 50000 in
theorem q_11_31 {s0 : Int32} (h : r = (some (.int s0), (mem L σ α τ β γ))) : EvL sc d me_11 31 [none, none, none, none, none, none, none, none, none] [.int s0] (mem L σ α τ β γ) 0 0 r := e_of (e_ret h) (fun _ _ => rfl)
set_option maxRecDepth 50000 in
theorem q_11_46 {x1 : Int32} {s0 : Int32} (h : if s0 = (σ 13) then Cli sc d 31 [.ref 1, .int (0 : Int32)] (mem L σ α τ β γ) (fun y M2 => EvL sc d me_11 72 [some (.ref 20), some (.int x1), some (.int (1 : Int32)), some (.int (-1 : Int32)), some (.int (0 : Int32)), none, none, none, none] [.int y] M2 0 0 r) else Cli sc d 31 [.ref 1, .int (0 : Int32)] (mem L σ α τ β γ) (fun y M2 => EvL sc d me_11 72 [some (.ref 20), some (.int x1), some (.int (0 : Int32)), some (.int (-1 : Int32)), some (.int (0 : Int32)), none, none, none, none] [.int y] M2 0 0 r)) : EvL sc d me_11 46 [some (.ref 20), some (.int x1), none, none, none, none, none, none, none] [.int s0] (mem L σ α τ β γ) 0 0 r := e_of (e_ite (e_ci) (e_ci) h) (fun _ _ => rfl)
set_option maxRecDepth 50000 in
theorem q_11_72 {x1 : Int32} {x2 : Int32} {x3 : Int32} {x4 : Int32} {s0 : Int32} (h : Cli sc d 31 [.ref 1, .int (1 : Int32)] (mem L σ α τ β γ) (fun y M2 => EvL sc d me_11 82 [some (.ref 20), some (.int x1), some (.int x2), some (.int x3), some (.int x4), some (.int s0), none, none, none] [.int y] M2 0 0 r)) : EvL sc d me_11 72 [some (.ref 20), some (.int x1), some (.int x2), some (.int x3), some (.int x4), none, none, none, none] [.int s0] (mem L σ α τ β γ) 0 0 r := e_of (e_ci h) (fun _ _ => rfl)
set_option maxRecDepth 50000 in
theorem q_11_82 {x1 : Int32} {x2 : Int32} {x3 : Int32} {x4 : Int32} {x5 : Int32} {s0 : Int32} (h : EvL sc d me_11 87 [some (.ref 20), some (.int x1), some (.int x2), some (.int x3), some (.int x4), some (.int x5), some (.int s0), some (.int (0 : Int32)), none] [] (mem L σ α τ β γ) 0 0 r) : EvL sc d me_11 82 [some (.ref 20), some (.int x1), some (.int x2), some (.int x3), some (.int x4), some (.int x5), none, none, none] [.int s0] (mem L σ α τ β γ) 0 0 r := e_of (e_loop h) (fun _ _ => rfl)
set_option maxRecDepth 50000 in
theorem q_11_87 {x1 : Int32} {x2 : Int32} {x3 : Int32} {x4 : Int32} {x5 : Int32} {x6 : Int32} {x7 : Int32} (h : if x7 < ((2 : Int32) * (σ 3)) then Cli sc d 94 [.int x7, .int x5, .int x6] (mem L σ α τ β γ) (fun y M2 => EvL sc d me_11 110 [some (.ref 20), some (.int x1), some (.int x2), some (.int x3), some (.int x4), some (.int x5), some (.int x6), some (.int x7), none] [.int y] M2 0 0 r) else if x3 = (-1 : Int32) then Clv sc d 33 [.ref 1] (mem L σ α τ β γ) (fun M2 => EvL sc d me_11 186 [some (.ref 20), some (.int x1), none, some (.int x3), none, none, none, none, none] [] M2 0 0 r) else r = (some (.int x4), (mem L (upd σ 15 x3) α τ β γ))) : EvL sc d me_11 87 [some (.ref 20), some (.int x1), some (.int x2), some (.int x3), some (.int x4), some (.int x5), some (.int x6), some (.int x7), none] [] (mem L σ α τ β γ) 0 0 r := e_of (e_ite (e_ci) (e_ite (e_cv) (e_ret)) h) (fun _ _ => rfl)
set_option maxRecDepth 50000 in
theorem q_11_186 {x1 : Int32} {x3 : Int32} (h : Cli sc d 12 [.ref 20, .int x1] (mem L σ α τ β γ) (fun y M2 => EvL sc d me_11 191 [some (.ref 20), none, none, some (.int x3), none, none, none, none, none] [.int y] M2 0 0 r)) : EvL sc d me_11 186 [some (.ref 20), some (.int x1), none, some (.int x3), none, none, none, none, none] [] (mem L σ α τ β γ) 0 0 r := e_of (e_ci h) (fun _ _ => rfl)
set_option maxRecDepth 50000 in
theorem q_11_110 {x1 : Int32} {x2 : Int32} {x3 : Int32} {x4 : Int32} {x5 : Int32} {x6 : Int32} {x7 : Int32} {s0 : Int32} (h : if s0 = 0 then EvL sc d me_11 87 [some (.ref 20), some (.int x1), some (.int x2), some (.int x3), some (.int x4), some (.int x5), some (.int x6), some (.int (x7 + (1 : Int32))), none] [] (mem L σ α τ β γ) 0 0 r else Clv sc d 32 [.ref 1, .int (x7 >>> ((1 : Int32) &&& 31)), .int (x7 &&& (1 : Int32))] (mem L σ α τ β γ) (fun M2 => EvL sc d me_11 128 [some (.ref 20), some (.int x1), some (.int x2), some (.int x3), some (.int x4), some (.int x5), some (.int x6), some (.int x7), none] [] M2 0 0 r)) : EvL sc d me_11 110 [some (.ref 20), some (.int x1), some (.int x2), some (.int x3), some (.int x4), some (.int x5), some (.int x6), some (.int x7), none] [.int s0] (mem L σ α τ β γ) 0 0 r := e_of (e_ite (e_loop) (e_cv) h) (fun _ _ => rfl)
set_option maxRecDepth 50000 in
theorem q_11_191 {x3 : Int32} {s0 : Int32} (h : r = (some (.int s0), (mem L (upd σ 15 x3) α τ β γ))) : EvL sc d me_11 191 [some (.ref 20), none, none, some (.int x3), none, none, none, none, none] [.int s0] (mem L σ α τ β γ) 0 0 r := e_of (e_ret h) (fun _ _ => rfl)
set_option maxRecDepth 50000 in
theorem q_11_128 {x1 : Int32} {x2 : Int32} {x3 : Int32} {x4 : Int32} {x5 : Int32} {x6 : Int32} {x7 : Int32} (h : Cli sc d 12 [.ref 20, .int x1] (mem L σ α τ β γ) (fun y M2 => EvL sc d me_11 133 [some (.ref 20), some (.int x1), some (.int x2), some (.int x3), some (.int x4), some (.int x5), some (.int x6), some (.int x7), none] [.int y] M2 0 0 r)) : EvL sc d me_11 128 [some (.ref 20), some (.int x1), some (.int x2), some (.int x3), some (.int x4), some (.int x5), some (.int x6), some (.int x7), none] [] (mem L σ α τ β γ) 0 0 r := e_of (e_ci h) (fun _ _ => rfl)
set_option maxRecDepth 50000 in
theorem q_11_133 {x1 : Int32} {x2 : Int32} {x3 : Int32} {x4 : Int32} {x5 : Int32} {x6 : Int32} {x7 : Int32} {s0 : Int32} (h : if x3 = (-1 : Int32) then EvL sc d me_11 87 [some (.ref 20), some (.int x1), some (.int x2), some (.int x7), some (.int s0), some (.int x5), some (.int x6), some (.int (x7 + (1 : Int32))), none] [] (mem L σ α τ β γ) 0 0 r else if x2 = 0 then if s0 < x4 then EvL sc d me_11 87 [some (.ref 20), some (.int x1), some (.int x2), some (.int x7), some (.int s0), some (.int x5), some (.int x6), some (.int (x7 + (1 : Int32))), none] [] (mem L σ α τ β γ) 0 0 r else EvL sc d me_11 87 [some (.ref 20), some (.int x1), some (.int x2), some (.int x3), some (.int x4), some (.int x5), some (.int x6), some (.int (x7 + (1 : Int32))), none] [] (mem L σ α τ β γ) 0 0 r else if x4 < s0 then EvL sc d me_11 87 [some (.ref 20), some (.int x1), some (.int x2), some (.int x7), some (.int s0), some (.int x5), some (.int x6), some (.int (x7 + (1 : Int32))), none] [] (mem L σ α τ β γ) 0 0 r else EvL sc d me_11 87 [some (.ref 20), some (.int x1), some (.int x2), some (.int x3), some (.int x4), some (.int x5), some (.int x6), some (.int (x7 + (1 : Int32))), none] [] (mem L σ α τ β γ) 0 0 r) : EvL sc d me_11 133 [some (.ref 20), some (.int x1), some (.int x2), some (.int x3), some (.int x4), some (.int x5), some (.int x6), some (.int x7), none] [.int s0] (mem L σ α τ β γ) 0 0 r := e_of (e_ite (e_loop) (e_ite (e_ite (e_loop) (e_loop)) (e_ite (e_loop) (e_loop))) h) (fun _ _ => rfl)
-- 12 DominoParlour$Search.behindTurn(I)I
set_option maxRecDepth 50000 in
theorem q_12_0 {x1 : Int32} (h : Cli sc d 11 [.ref 20, .int (x1 - (1 : Int32))] (mem L (upd σ 14 ((σ 14) + (1 : Int32))) α τ β γ) (fun y M2 => EvL sc d me_12 17 [some (.ref 20), none, none] [.int y] M2 0 0 r)) : EvL sc d me_12 0 [some (.ref 20), some (.int x1), none] [] (mem L σ α τ β γ) 0 0 r := e_of (e_ci h) (fun _ _ => rfl)
set_option maxRecDepth 50000 in
theorem q_12_17 {s0 : Int32} (h : Cli sc d 34 [.ref 1] (mem L σ α τ β γ) (fun y M2 => EvL sc d me_12 25 [none, none, some (.int s0)] [.int y] M2 0 0 r)) : EvL sc d me_12 17 [some (.ref 20), none, none] [.int s0] (mem L σ α τ β γ) 0 0 r := e_of (e_ci h) (fun _ _ => rfl)
set_option maxRecDepth 50000 in
theorem q_12_25 {x2 : Int32} {s0 : Int32} (h : r = (some (.int x2), (mem L σ α τ β γ))) : EvL sc d me_12 25 [none, none, some (.int x2)] [.int s0] (mem L σ α τ β γ) 0 0 r := e_of (e_ret h) (fun _ _ => rfl)
-- 14 DominoParlour$Table.isSeat(I)Z
set_option maxRecDepth 50000 in
theorem q_14_0 {x1 : Int32} (h : if x1 < 0 then r = (some (.int (0 : Int32)), (mem L σ α τ β γ)) else if x1 < (Int32.ofNat (L 0)) then r = (some (.int (1 : Int32)), (mem L σ α τ β γ)) else r = (some (.int (0 : Int32)), (mem L σ α τ β γ))) : EvL sc d me_14 0 [some (.ref 1), some (.int x1)] [] (mem L σ α τ β γ) 0 0 r := e_of (e_ite (e_ret) (e_ite (e_ret) (e_ret)) h) (fun _ _ => rfl)
-- 15 DominoParlour$Table.seatBehind(I)I
set_option maxRecDepth 50000 in
theorem q_15_0 {x1 : Int32} (h : if (x1 + (1 : Int32)) < (σ 2) then r = (some (.int (x1 + (1 : Int32))), (mem L σ α τ β γ)) else r = (some (.int (0 : Int32)), (mem L σ α τ β γ))) : EvL sc d me_15 0 [some (.ref 1), some (.int x1)] [] (mem L σ α τ β γ) 0 0 r := e_of (e_ite (e_ret) (e_ret) h) (fun _ _ => rfl)
-- 16 DominoParlour$Table.sideOf(I)I
set_option maxRecDepth 50000 in
theorem q_16_0 {x1 : Int32} (h : if (σ 2) = (4 : Int32) then r = (some (.int (x1 &&& (1 : Int32))), (mem L σ α τ β γ)) else r = (some (.int x1), (mem L σ α τ β γ))) : EvL sc d me_16 0 [some (.ref 1), some (.int x1)] [] (mem L σ α τ β γ) 0 0 r := e_of (e_ite (e_ret) (e_ret) h) (fun _ _ => rfl)
-- 17 DominoParlour$Table.sides()I
set_option maxRecDepth 50000 in
theorem q_17_0 (h : if (σ 2) = (4 : Int32) then r = (some (.int (2 : Int32)), (mem L σ α τ β γ)) else r = (some (.int (σ 2)), (mem L σ α τ β γ))) : EvL sc d me_17 0 [some (.ref 1)] [] (mem L σ α τ β γ) 0 0 r := e_of (e_ite (e_ret) (e_ret) h) (fun _ _ => rfl)
-- 18 DominoParlour$Table.handOf(I)I
set_option maxRecDepth 50000 in
theorem q_18_0 {x1 : Int32} (h : Cli sc d 14 [.ref 1, .int x1] (mem L σ α τ β γ) (fun y M2 => EvL sc d me_18 5 [some (.ref 1), some (.int x1)] [.int y] M2 0 0 r)) : EvL sc d me_18 0 [some (.ref 1), some (.int x1)] [] (mem L σ α τ β γ) 0 0 r := e_of (e_ci h) (fun _ _ => rfl)
set_option maxRecDepth 50000 in
theorem q_18_5 {x1 : Int32} {s0 : Int32} (h : if s0 = 0 then r = (some (.int (0 : Int32)), (mem L σ α τ β γ)) else if x1 < 0 ∨ (L 0) ≤ x1.toNatClampNeg then False else r = (some (.int ((α 11) x1.toNatClampNeg)), (mem L σ α τ β γ))) : EvL sc d me_18 5 [some (.ref 1), some (.int x1)] [.int s0] (mem L σ α τ β γ) 0 0 r := e_of (e_ite (e_ret) (e_ite (e_no) (e_ret)) h) (fun _ _ => rfl)
-- 19 DominoParlour$Table.heldBy(I)I
set_option maxRecDepth 50000 in
theorem q_19_0 {x1 : Int32} (h : Cli sc d 18 [.ref 1, .int x1] (mem L σ α τ β γ) (fun y M2 => EvL sc d me_19 5 [none, none] [.int y] M2 0 0 r)) : EvL sc d me_19 0 [some (.ref 1), some (.int x1)] [] (mem L σ α τ β γ) 0 0 r := e_of (e_ci h) (fun _ _ => rfl)
set_option maxRecDepth 50000 in
theorem q_19_5 {s0 : Int32} (h : Cli sc d 145 [.int s0] (mem L σ α τ β γ) (fun y M2 => EvL sc d me_19 8 [none, none] [.int y] M2 0 0 r)) : EvL sc d me_19 5 [none, none] [.int s0] (mem L σ α τ β γ) 0 0 r := e_of (e_ci h) (fun _ _ => rfl)
set_option maxRecDepth 50000 in
theorem q_19_8 {s0 : Int32} (h : r = (some (.int s0), (mem L σ α τ β γ))) : EvL sc d me_19 8 [none, none] [.int s0] (mem L σ α τ β γ) 0 0 r := e_of (e_ret h) (fun _ _ => rfl)
-- 20 DominoParlour$Table.placeOf(I)I
set_option maxRecDepth 50000 in
theorem q_20_0 {x1 : Int32} (h : if (σ 4) = 0 then r = (some (.int (-1 : Int32)), (mem L σ α τ β γ)) else if x1 < 0 then r = (some (.int (-1 : Int32)), (mem L σ α τ β γ)) else if x1 < (σ 3) then EvL sc d me_20 23 [some (.ref 1), some (.int x1), some (.int (0 : Int32))] [] (mem L σ α τ β γ) 0 0 r else r = (some (.int (-1 : Int32)), (mem L σ α τ β γ))) : EvL sc d me_20 0 [some (.ref 1), some (.int x1), none] [] (mem L σ α τ β γ) 0 0 r := e_of (e_ite (e_ret) (e_ite (e_ret) (e_ite (e_loop) (e_ret))) h) (fun _ _ => rfl)
set_option maxRecDepth 50000 in
theorem q_20_23 {x1 : Int32} {x2 : Int32} (h : if x2 < (Int32.ofNat (L 0)) then if x2 < 0 ∨ (L 0) ≤ x2.toNatClampNeg then False else Cli sc d 92 [.int ((α 11) x2.toNatClampNeg), .int x1] (mem L σ α τ β γ) (fun y M2 => EvL sc d me_20 42 [some (.ref 1), some (.int x1), some (.int x2)] [.int y] M2 0 0 r) else Cli sc d 92 [.int (σ 6), .int x1] (mem L σ α τ β γ) (fun y M2 => EvL sc d me_20 61 [none, none, none] [.int y] M2 0 0 r)) : EvL sc d me_20 23 [some (.ref 1), some (.int x1), some (.int x2)] [] (mem L σ α τ β γ) 0 0 r := e_of (e_ite (e_ite (e_no) (e_ci)) (e_ci) h) (fun _ _ => rfl)
set_option maxRecDepth 50000 in
theorem q_20_61 {s0 : Int32} (h : if s0 = 0 then r = (some (.int (11 : Int32)), (mem L σ α τ β γ)) else r = (some (.int (10 : Int32)), (mem L σ α τ β γ))) : EvL sc d me_20 61 [none, none, none] [.int s0] (mem L σ α τ β γ) 0 0 r := e_of (e_ite (e_ret) (e_ret) h) (fun _ _ => rfl)
set_option maxRecDepth 50000 in
theorem q_20_42 {x1 : Int32} {x2 : Int32} {s0 : Int32} (h : if s0 = 0 then EvL sc d me_20 23 [some (.ref 1), some (.int x1), some (.int (x2 + (1 : Int32)))] [] (mem L σ α τ β γ) 0 0 r else r = (some (.int x2), (mem L σ α τ β γ))) : EvL sc d me_20 42 [some (.ref 1), some (.int x1), some (.int x2)] [.int s0] (mem L σ α τ β γ) 0 0 r := e_of (e_ite (e_loop) (e_ret) h) (fun _ _ => rfl)
-- 21 DominoParlour$Table.allows(I)Z
set_option maxRecDepth 50000 in
theorem q_21_0 {x1 : Int32} (h : if x1 < (1 : Int32) then r = (some (.int (0 : Int32)), (mem L σ α τ β γ)) else if (σ 3) < x1 then r = (some (.int (0 : Int32)), (mem L σ α τ β γ)) else if (σ 3) < (x1 * (σ 2)) then r = (some (.int (0 : Int32)), (mem L σ α τ β γ)) else r = (some (.int (1 : Int32)), (mem L σ α τ β γ))) : EvL sc d me_21 0 [some (.ref 1), some (.int x1)] [] (mem L σ α τ β γ) 0 0 r := e_of (e_ite (e_ret) (e_ite (e_ret) (e_ite (e_ret) (e_ret))) h) (fun _ _ => rfl)
-- 22 DominoParlour$Table.layOut(I)V
set_option maxRecDepth 50000 in
theorem q_22_0 {x1 : Int32} (h : Clv sc d 146 [.ref 11, .int (0 : Int32)] (mem L (upd (upd (upd σ 4 (1 : Int32)) 5 x1) 6 (((1 : Int32) <<< ((σ 3) &&& 31)) - (1 : Int32))) α τ β γ) (fun M2 => EvL sc d me_22 30 [some (.ref 1), none] [] M2 0 0 r)) : EvL sc d me_22 0 [some (.ref 1), some (.int x1)] [] (mem L σ α τ β γ) 0 0 r := e_of (e_cv h) (fun _ _ => rfl)
set_option maxRecDepth 50000 in
theorem q_22_30 (h : Clv sc d 146 [.ref 12, .int (0 : Int32)] (mem L σ α τ β γ) (fun M2 => EvL sc d me_22 38 [some (.ref 1), none] [] M2 0 0 r)) : EvL sc d me_22 30 [some (.ref 1), none] [] (mem L σ α τ β γ) 0 0 r := e_of (e_cv h) (fun _ _ => rfl)
set_option maxRecDepth 50000 in
theorem q_22_38 (h : Clv sc d 1 [.ref 3] (mem L σ α τ β γ) (fun M2 => EvL sc d me_22 45 [some (.ref 1), none] [] M2 0 0 r)) : EvL sc d me_22 38 [some (.ref 1), none] [] (mem L σ α τ β γ) 0 0 r := e_of (e_cv h) (fun _ _ => rfl)
set_option maxRecDepth 50000 in
theorem q_22_45 (h : Clv sc d 54 [.ref 5] (mem L σ α τ β γ) (fun M2 => EvL sc d me_22 52 [some (.ref 1), none] [] M2 0 0 r)) : EvL sc d me_22 45 [some (.ref 1), none] [] (mem L σ α τ β γ) 0 0 r := e_of (e_cv h) (fun _ _ => rfl)
set_option maxRecDepth 50000 in
theorem q_22_52 (h : r = (none, (mem L (upd (upd (upd σ 7 (-1 : Int32)) 8 (-1 : Int32)) 9 (0 : Int32)) α τ β γ))) : EvL sc d me_22 52 [some (.ref 1), none] [] (mem L σ α τ β γ) 0 0 r := e_of (e_ret h) (fun _ _ => rfl)
-- 23 DominoParlour$Table.takeFromStock(II)V
set_option maxRecDepth 50000 in
theorem q_23_0 {x1 : Int32} {x2 : Int32} (h : Cli sc d 92 [.int (σ 6), .int x2] (mem L σ α τ β γ) (fun y M2 => EvL sc d me_23 8 [some (.ref 1), some (.int x1), some (.int x2)] [.int y] M2 0 0 r)) : EvL sc d me_23 0 [some (.ref 1), some (.int x1), some (.int x2)] [] (mem L σ α τ β γ) 0 0 r := e_of (e_ci h) (fun _ _ => rfl)
set_option maxRecDepth 50000 in
theorem q_23_8 {x1 : Int32} {x2 : Int32} {s0 : Int32} (h : if s0 = 0 then EvL sc d me_23 31 [none, none, none] [] (mem L σ α τ β γ) 0 0 r else Clv sc d 148 [.ref 1, .int x1, .int x2] (mem L (upd σ 6 ((σ 6) &&& (((1 : Int32) <<< (x2 &&& 31)) ^^^ (-1 : Int32)))) α τ β γ) (fun M2 => EvL sc d me_23 31 [none, none, none] [] M2 0 0 r)) : EvL sc d me_23 8 [some (.ref 1), some (.int x1), some (.int x2)] [.int s0] (mem L σ α τ β γ) 0 0 r := e_of (e_ite (e_loop) (e_cv) h) (fun _ _ => rfl)
set_option maxRecDepth 50000 in
theorem q_23_31 (h : r = (none, (mem L σ α τ β γ))) : EvL sc d me_23 31 [none, none, none] [] (mem L σ α τ β γ) 0 0 r := e_of (e_ret h) (fun _ _ => rfl)
-- 24 DominoParlour$Table.dealOut(J)V
set_option maxRecDepth 50000 in
theorem q_24_0 {x1 : Int64} (h : Clv sc d 25 [.ref 1, .long x1] (mem L σ α τ β γ) (fun M2 => EvL sc d me_24 5 [some (.ref 1), none, none, none, none] [] M2 0 0 r)) : EvL sc d me_24 0 [some (.ref 1), some (.long x1), none, none, none] [] (mem L σ α τ β γ) 0 0 r := e_of (e_cv h) (fun _ _ => rfl)
set_option maxRecDepth 50000 in
theorem q_24_5 (h : Clv sc d 22 [.ref 1, .int (σ 5)] (mem L σ α τ β γ) (fun M2 => EvL sc d me_24 13 [some (.ref 1), none, none, none, none] [] M2 0 0 r)) : EvL sc d me_24 5 [some (.ref 1), none, none, none, none] [] (mem L σ α τ β γ) 0 0 r := e_of (e_cv h) (fun _ _ => rfl)
set_option maxRecDepth 50000 in
theorem q_24_13 (h : EvL sc d me_24 15 [some (.ref 1), none, none, some (.int (0 : Int32)), none] [] (mem L σ α τ β γ) 0 0 r) : EvL sc d me_24 13 [some (.ref 1), none, none, none, none] [] (mem L σ α τ β γ) 0 0 r := e_of (e_loop h) (fun _ _ => rfl)
set_option maxRecDepth 50000 in
theorem q_24_15 {x3 : Int32} (h : if x3 < (Int32.ofNat (L 0)) then EvL sc d me_24 32 [some (.ref 1), none, none, some (.int x3), some (.int (x3 * (σ 5)))] [] (mem L σ α τ β γ) 0 0 r else r = (none, (mem L σ α τ β γ))) : EvL sc d me_24 15 [some (.ref 1), none, none, some (.int x3), none] [] (mem L σ α τ β γ) 0 0 r := e_of (e_ite (e_loop) (e_ret) h) (fun _ _ => rfl)
set_option maxRecDepth 50000 in
theorem q_24_32 {x3 : Int32} {x4 : Int32} (h : if x4 < ((x3 + (1 : Int32)) * (σ 5)) then if x4 < (Int32.ofNat (L 1)) then if x4 < 0 ∨ (L 1) ≤ x4.toNatClampNeg then False else Clv sc d 23 [.ref 1, .int x3, .int ((α 12) x4.toNatClampNeg)] (mem L σ α τ β γ) (fun M2 => EvL sc d me_24 67 [some (.ref 1), none, none, some (.int x3), some (.int x4)] [] M2 0 0 r) else EvL sc d me_24 15 [some (.ref 1), none, none, some (.int (x3 + (1 : Int32))), none] [] (mem L σ α τ β γ) 0 0 r else EvL sc d me_24 15 [some (.ref 1), none, none, some (.int (x3 + (1 : Int32))), none] [] (mem L σ α τ β γ) 0 0 r) : EvL sc d me_24 32 [some (.ref 1), none, none, some (.int x3), some (.int x4)] [] (mem L σ α τ β γ) 0 0 r := e_of (e_ite (e_ite (e_ite (e_no) (e_cv)) (e_loop)) (e_loop) h) (fun _ _ => rfl)
set_option maxRecDepth 50000 in
theorem q_24_67 {x3 : Int32} {x4 : Int32} (h : EvL sc d me_24 32 [some (.ref 1), none, none, some (.int x3), some (.int (x4 + (1 : Int32)))] [] (mem L σ α τ β γ) 0 0 r) : EvL sc d me_24 67 [some (.ref 1), none, none, some (.int x3), some (.int x4)] [] (mem L σ α τ β γ) 0 0 r := e_of (e_loop h) (fun _ _ => rfl)
-- 25 DominoParlour$Table.mix(J)V
set_option maxRecDepth 50000 in
theorem q_25_0 {x1 : Int64} (h : EvL sc d me_25 2 [some (.ref 1), some (.long x1), none, some (.int (0 : Int32)), none, none, none, none] [] (mem L σ α τ β γ) 0 0 r) : EvL sc d me_25 0 [some (.ref 1), some (.long x1), none, none, none, none, none, none] [] (mem L σ α τ β γ) 0 0 r := e_of (e_loop h) (fun _ _ => rfl)
set_option maxRecDepth 50000 in
theorem q_25_2 {x1 : Int64} {x3 : Int32} (h : if x3 < (Int32.ofNat (L 1)) then if x3 < 0 ∨ (L 1) ≤ x3.toNatClampNeg then False else EvL sc d me_25 2 [some (.ref 1), some (.long x1), none, some (.int (x3 + (1 : Int32))), none, none, none, none] [] (mem L σ (va_up α 12 (upd (α 12) x3.toNatClampNeg x3)) τ β γ) 0 0 r else EvL sc d me_25 35 [some (.ref 1), none, none, some (.long x1), none, some (.int ((Int32.ofNat (L 1)) - (1 : Int32))), none, none] [] (mem L σ α τ β γ) 0 0 r) : EvL sc d me_25 2 [some (.ref 1), some (.long x1), none, some (.int x3), none, none, none, none] [] (mem L σ α τ β γ) 0 0 r := e_of (e_ite (e_ite (e_no) (e_loop)) (e_loop) h) (fun _ _ => rfl)
set_option maxRecDepth 50000 in
theorem q_25_35 {x3 : Int64} {x5 : Int32} (h : if x5 < (1 : Int32) then r = (none, (mem L σ α τ β γ)) else EvL sc d me_25 51 [some (.ref 1), none, none, some (.long ((x3 * (6364136223846793005 : Int64)) + (1442695040888963407 : Int64))), none, some (.int x5), none, none] [] (mem L σ α τ β γ) 0 0 r) : EvL sc d me_25 35 [some (.ref 1), none, none, some (.long x3), none, some (.int x5), none, none] [] (mem L σ α τ β γ) 0 0 r := e_of (e_ite (e_ret) (e_loop) h) (fun _ _ => rfl)
set_option maxRecDepth 50000 in
theorem q_25_51 {x3 : Int64} {x5 : Int32} (h : if (x5 + (1 : Int32)).toInt64 = 0 then False else EvL sc d me_25 64 [some (.ref 1), none, none, some (.long x3), none, some (.int x5), some (.int ((x3.toUInt64 >>> ((33 : Int32).toInt64.toUInt64 &&& Int64.toUInt64 63)).toInt64 - (x3.toUInt64 >>> ((33 : Int32).toInt64.toUInt64 &&& Int64.toUInt64 63)).toInt64 / (x5 + (1 : Int32)).toInt64 * (x5 + (1 : Int32)).toInt64).toInt32), none] [] (mem L σ α τ β γ) 0 0 r) : EvL sc d me_25 51 [some (.ref 1), none, none, some (.long x3), none, some (.int x5), none, none] [] (mem L σ α τ β γ) 0 0 r := e_of (e_ite (e_no) (e_loop) h) (fun _ _ => rfl)
set_option maxRecDepth 50000 in
theorem q_25_64 {x3 : Int64} {x5 : Int32} {x6 : Int32} (h : if x6 < 0 then EvL sc d me_25 35 [some (.ref 1), none, none, some (.long x3), none, some (.int (x5 + (-1 : Int32))), none, none] [] (mem L σ α τ β γ) 0 0 r else if x6 < (Int32.ofNat (L 1)) then if x5 < 0 ∨ (L 1) ≤ x5.toNatClampNeg then False else if x6 < 0 ∨ (L 1) ≤ x6.toNatClampNeg then False else if x5 < 0 ∨ (L 1) ≤ x5.toNatClampNeg then False else if x6 < 0 ∨ (L 1) ≤ x6.toNatClampNeg then False else EvL sc d me_25 35 [some (.ref 1), none, none, some (.long x3), none, some (.int (x5 + (-1 : Int32))), none, none] [] (mem L σ (va_up α 12 (upd (upd (α 12) x5.toNatClampNeg ((α 12) x6.toNatClampNeg)) x6.toNatClampNeg ((α 12) x5.toNatClampNeg))) τ β γ) 0 0 r else EvL sc d me_25 35 [some (.ref 1), none, none, some (.long x3), none, some (.int (x5 + (-1 : Int32))), none, none] [] (mem L σ α τ β γ) 0 0 r) : EvL sc d me_25 64 [some (.ref 1), none, none, some (.long x3), none, some (.int x5), some (.int x6), none] [] (mem L σ α τ β γ) 0 0 r := e_of (e_ite (e_loop) (e_ite (e_ite (e_no) (e_ite (e_no) (e_ite (e_no) (e_ite (e_no) (e_loop))))) (e_loop)) h) (fun _ _ => rfl)
-- 26 DominoParlour$Table.isDealt()Z
set_option maxRecDepth 50000 in
theorem q_26_0 (h : EvL sc d me_26 2 [some (.ref 1), some (.int (0 : Int32))] [] (mem L σ α τ β γ) 0 0 r) : EvL sc d me_26 0 [some (.ref 1), none] [] (mem L σ α τ β γ) 0 0 r := e_of (e_loop h) (fun _ _ => rfl)
set_option maxRecDepth 50000 in
theorem q_26_2 {x1 : Int32} (h : if x1 < (Int32.ofNat (L 0)) then Cli sc d 19 [.ref 1, .int x1] (mem L σ α τ β γ) (fun y M2 => EvL sc d me_26 16 [some (.ref 1), some (.int x1)] [.int y] M2 0 0 r) else r = (some (.int (1 : Int32)), (mem L σ α τ β γ))) : EvL sc d me_26 2 [some (.ref 1), some (.int x1)] [] (mem L σ α τ β γ) 0 0 r := e_of (e_ite (e_ci) (e_ret) h) (fun _ _ => rfl)
set_option maxRecDepth 50000 in
theorem q_26_16 {x1 : Int32} {s0 : Int32} (h : if s0 = (σ 5) then EvL sc d me_26 2 [some (.ref 1), some (.int (x1 + (1 : Int32)))] [] (mem L σ α τ β γ) 0 0 r else r = (some (.int (0 : Int32)), (mem L σ α τ β γ))) : EvL sc d me_26 16 [some (.ref 1), some (.int x1)] [.int s0] (mem L σ α τ β γ) 0 0 r := e_of (e_ite (e_loop) (e_ret) h) (fun _ _ => rfl)
-- 27 DominoParlour$Table.open(I)V
set_option maxRecDepth 50000 in
theorem q_27_0 {x1 : Int32} (h : r = (none, (mem L (upd (upd σ 4 (2 : Int32)) 7 x1) α τ β γ))) : EvL sc d me_27 0 [some (.ref 1), some (.int x1)] [] (mem L σ α τ β γ) 0 0 r := e_of (e_ret h) (fun _ _ => rfl)
-- 28 DominoParlour$Table.bonesBearing(I)I
set_option maxRecDepth 50000 in
theorem q_28_0 {x1 : Int32} (h : if x1 < 0 then r = (some (.int (0 : Int32)), (mem L σ α τ β γ)) else if x1 < (Int32.ofNat 7) then if x1 < 0 ∨ 7 ≤ x1.toNatClampNeg then False else r = (some (.int ((α 2) x1.toNatClampNeg)), (mem L σ α τ β γ)) else r = (some (.int (0 : Int32)), (mem L σ α τ β γ))) : EvL sc d me_28 0 [some (.ref 1), some (.int x1)] [] (mem L σ α τ β γ) 0 0 r := e_of (e_ite (e_ret) (e_ite (e_ite (e_no) (e_ret)) (e_ret)) h) (fun _ _ => rfl)
-- 29 DominoParlour$Table.openBones()I
set_option maxRecDepth 50000 in
theorem q_29_0 (h : Cli sc d 4 [.ref 3, .int (0 : Int32)] (mem L σ α τ β γ) (fun y M2 => EvL sc d me_29 9 [some (.ref 1)] [.int y, .ref 1] M2 0 0 r)) : EvL sc d me_29 0 [some (.ref 1)] [] (mem L σ α τ β γ) 0 0 r := e_of (e_ci h) (fun _ _ => rfl)
set_option maxRecDepth 50000 in
theorem q_29_9 {s0 : Int32} (h : Cli sc d 28 [.ref 1, .int s0] (mem L σ α τ β γ) (fun y M2 => EvL sc d me_29 12 [some (.ref 1)] [.int y] M2 0 0 r)) : EvL sc d me_29 9 [some (.ref 1)] [.int s0, .ref 1] (mem L σ α τ β γ) 0 0 r := e_of (e_ci h) (fun _ _ => rfl)
set_option maxRecDepth 50000 in
theorem q_29_12 {s0 : Int32} (h : Cli sc d 4 [.ref 3, .int (1 : Int32)] (mem L σ α τ β γ) (fun y M2 => EvL sc d me_29 21 [none] [.int y, .ref 1, .int s0] M2 0 0 r)) : EvL sc d me_29 12 [some (.ref 1)] [.int s0] (mem L σ α τ β γ) 0 0 r := e_of (e_ci h) (fun _ _ => rfl)
set_option maxRecDepth 50000 in
theorem q_29_21 {s0 : Int32} {s2 : Int32} (h : Cli sc d 28 [.ref 1, .int s0] (mem L σ α τ β γ) (fun y M2 => EvL sc d me_29 24 [none] [.int y, .int s2] M2 0 0 r)) : EvL sc d me_29 21 [none] [.int s0, .ref 1, .int s2] (mem L σ α τ β γ) 0 0 r := e_of (e_ci h) (fun _ _ => rfl)
set_option maxRecDepth 50000 in
theorem q_29_24 {s0 : Int32} {s1 : Int32} (h : r = (some (.int (s1 ||| s0)), (mem L σ α τ β γ))) : EvL sc d me_29 24 [none] [.int s0, .int s1] (mem L σ α τ β γ) 0 0 r := e_of (e_ret h) (fun _ _ => rfl)
-- 30 DominoParlour$Table.canPut(II)Z
set_option maxRecDepth 50000 in
theorem q_30_0 {x1 : Int32} {x2 : Int32} (h : if (σ 4) = (2 : Int32) then Cli sc d 18 [.ref 1, .int (σ 7)] (mem L σ α τ β γ) (fun y M2 => EvL sc d me_30 16 [some (.ref 1), some (.int x1), some (.int x2)] [.int y] M2 0 0 r) else r = (some (.int (0 : Int32)), (mem L σ α τ β γ))) : EvL sc d me_30 0 [some (.ref 1), some (.int x1), some (.int x2)] [] (mem L σ α τ β γ) 0 0 r := e_of (e_ite (e_ci) (e_ret) h) (fun _ _ => rfl)
set_option maxRecDepth 50000 in
theorem q_30_16 {x1 : Int32} {x2 : Int32} {s0 : Int32} (h : Cli sc d 92 [.int s0, .int x1] (mem L σ α τ β γ) (fun y M2 => EvL sc d me_30 20 [some (.ref 1), some (.int x1), some (.int x2)] [.int y] M2 0 0 r)) : EvL sc d me_30 16 [some (.ref 1), some (.int x1), some (.int x2)] [.int s0] (mem L σ α τ β γ) 0 0 r := e_of (e_ci h) (fun _ _ => rfl)
set_option maxRecDepth 50000 in
theorem q_30_20 {x1 : Int32} {x2 : Int32} {s0 : Int32} (h : if s0 = 0 then r = (some (.int (0 : Int32)), (mem L σ α τ β γ)) else Cli sc d 2 [.ref 3] (mem L σ α τ β γ) (fun y M2 => EvL sc d me_30 32 [some (.ref 1), some (.int x1), some (.int x2)] [.int y] M2 0 0 r)) : EvL sc d me_30 20 [some (.ref 1), some (.int x1), some (.int x2)] [.int s0] (mem L σ α τ β γ) 0 0 r := e_of (e_ite (e_ret) (e_ci) h) (fun _ _ => rfl)
set_option maxRecDepth 50000 in
theorem q_30_32 {x1 : Int32} {x2 : Int32} {s0 : Int32} (h : if s0 = 0 then if x2 = 0 then Cli sc d 4 [.ref 3, .int x2] (mem L σ α τ β γ) (fun y M2 => EvL sc d me_30 55 [none, some (.int x1), none] [.int y, .ref 1] M2 0 0 r) else if x2 = (1 : Int32) then Cli sc d 4 [.ref 3, .int x2] (mem L σ α τ β γ) (fun y M2 => EvL sc d me_30 55 [none, some (.int x1), none] [.int y, .ref 1] M2 0 0 r) else r = (some (.int (0 : Int32)), (mem L σ α τ β γ)) else r = (some (.int (1 : Int32)), (mem L σ α τ β γ))) : EvL sc d me_30 32 [some (.ref 1), some (.int x1), some (.int x2)] [.int s0] (mem L σ α τ β γ) 0 0 r := e_of (e_ite (e_ite (e_ci) (e_ite (e_ci) (e_ret))) (e_ret) h) (fun _ _ => rfl)
set_option maxRecDepth 50000 in
theorem q_30_55 {x1 : Int32} {s0 : Int32} (h : Cli sc d 28 [.ref 1, .int s0] (mem L σ α τ β γ) (fun y M2 => EvL sc d me_30 58 [none, some (.int x1), none] [.int y] M2 0 0 r)) : EvL sc d me_30 55 [none, some (.int x1), none] [.int s0, .ref 1] (mem L σ α τ β γ) 0 0 r := e_of (e_ci h) (fun _ _ => rfl)
set_option maxRecDepth 50000 in
theorem q_30_58 {x1 : Int32} {s0 : Int32} (h : Cli sc d 92 [.int s0, .int x1] (mem L σ α τ β γ) (fun y M2 => EvL sc d me_30 62 [none, none, none] [.int y] M2 0 0 r)) : EvL sc d me_30 58 [none, some (.int x1), none] [.int s0] (mem L σ α τ β γ) 0 0 r := e_of (e_ci h) (fun _ _ => rfl)
set_option maxRecDepth 50000 in
theorem q_30_62 {s0 : Int32} (h : if s0 = 0 then r = (some (.int (0 : Int32)), (mem L σ α τ β γ)) else r = (some (.int (1 : Int32)), (mem L σ α τ β γ))) : EvL sc d me_30 62 [none, none, none] [.int s0] (mem L σ α τ β γ) 0 0 r := e_of (e_ite (e_ret) (e_ret) h) (fun _ _ => rfl)
-- 31 DominoParlour$Table.playsAt(I)I
set_option maxRecDepth 50000 in
theorem q_31_0 {x1 : Int32} (h : if (σ 4) = (2 : Int32) then Cli sc d 2 [.ref 3] (mem L σ α τ β γ) (fun y M2 => EvL sc d me_31 17 [some (.ref 1), some (.int x1), none] [.int y] M2 0 0 r) else r = (some (.int (0 : Int32)), (mem L σ α τ β γ))) : EvL sc d me_31 0 [some (.ref 1), some (.int x1), none] [] (mem L σ α τ β γ) 0 0 r := e_of (e_ite (e_ci) (e_ret) h) (fun _ _ => rfl)
set_option maxRecDepth 50000 in
theorem q_31_17 {x1 : Int32} {s0 : Int32} (h : if s0 = 0 then Cli sc d 4 [.ref 3, .int x1] (mem L σ α τ β γ) (fun y M2 => EvL sc d me_31 41 [some (.ref 1), none, none] [.int y, .ref 1] M2 0 0 r) else if x1 = 0 then EvL sc d me_31 44 [some (.ref 1), none, none] [.int (-1 : Int32)] (mem L σ α τ β γ) 0 0 r else EvL sc d me_31 44 [some (.ref 1), none, none] [.int (0 : Int32)] (mem L σ α τ β γ) 0 0 r) : EvL sc d me_31 17 [some (.ref 1), some (.int x1), none] [.int s0] (mem L σ α τ β γ) 0 0 r := e_of (e_ite (e_ci) (e_ite (e_loop) (e_loop)) h) (fun _ _ => rfl)
set_option maxRecDepth 50000 in
theorem q_31_41 {s0 : Int32} (h : Cli sc d 28 [.ref 1, .int s0] (mem L σ α τ β γ) (fun y M2 => EvL sc d me_31 44 [some (.ref 1), none, none] [.int y] M2 0 0 r)) : EvL sc d me_31 41 [some (.ref 1), none, none] [.int s0, .ref 1] (mem L σ α τ β γ) 0 0 r := e_of (e_ci h) (fun _ _ => rfl)
set_option maxRecDepth 50000 in
theorem q_31_44 {s0 : Int32} (h : Cli sc d 18 [.ref 1, .int (σ 7)] (mem L σ α τ β γ) (fun y M2 => EvL sc d me_31 53 [none, none, some (.int s0)] [.int y] M2 0 0 r)) : EvL sc d me_31 44 [some (.ref 1), none, none] [.int s0] (mem L σ α τ β γ) 0 0 r := e_of (e_ci h) (fun _ _ => rfl)
set_option maxRecDepth 50000 in
theorem q_31_53 {x2 : Int32} {s0 : Int32} (h : r = (some (.int (s0 &&& x2)), (mem L σ α τ β γ))) : EvL sc d me_31 53 [none, none, some (.int x2)] [.int s0] (mem L σ α τ β γ) 0 0 r := e_of (e_ret h) (fun _ _ => rfl)
-- 32 DominoParlour$Table.put(II)V
set_option maxRecDepth 50000 in
theorem q_32_0 {x1 : Int32} {x2 : Int32} (h : Cli sc d 30 [.ref 1, .int x1, .int x2] (mem L σ α τ β γ) (fun y M2 => EvL sc d me_32 6 [some (.ref 1), some (.int x1), some (.int x2), none, none] [.int y] M2 0 0 r)) : EvL sc d me_32 0 [some (.ref 1), some (.int x1), some (.int x2), none, none] [] (mem L σ α τ β γ) 0 0 r := e_of (e_ci h) (fun _ _ => rfl)
set_option maxRecDepth 50000 in
theorem q_32_6 {x1 : Int32} {x2 : Int32} {s0 : Int32} (h : if s0 = 0 then r = (none, (mem L σ α τ β γ)) else Cli sc d 14 [.ref 1, .int (σ 7)] (mem L σ α τ β γ) (fun y M2 => EvL sc d me_32 17 [some (.ref 1), some (.int x1), some (.int x2), none, none] [.int y] M2 0 0 r)) : EvL sc d me_32 6 [some (.ref 1), some (.int x1), some (.int x2), none, none] [.int s0] (mem L σ α τ β γ) 0 0 r := e_of (e_ite (e_ret) (e_ci) h) (fun _ _ => rfl)
set_option maxRecDepth 50000 in
theorem q_32_17 {x1 : Int32} {x2 : Int32} {s0 : Int32} (h : if s0 = 0 then r = (none, (mem L σ α τ β γ)) else Cli sc d 2 [.ref 3] (mem L σ α τ β γ) (fun y M2 => EvL sc d me_32 28 [some (.ref 1), some (.int x1), some (.int x2), none, none] [.int y] M2 0 0 r)) : EvL sc d me_32 17 [some (.ref 1), some (.int x1), some (.int x2), none, none] [.int s0] (mem L σ α τ β γ) 0 0 r := e_of (e_ite (e_ret) (e_ci) h) (fun _ _ => rfl)
set_option maxRecDepth 50000 in
theorem q_32_28 {x1 : Int32} {x2 : Int32} {s0 : Int32} (h : if s0 = 0 then Clv sc d 5 [.ref 3, .int x1, .int x2] (mem L σ α τ β γ) (fun M2 => EvL sc d me_32 46 [some (.ref 1), some (.int x1), none, some (.int x2), none] [] M2 0 0 r) else Clv sc d 5 [.ref 3, .int x1, .int (0 : Int32)] (mem L σ α τ β γ) (fun M2 => EvL sc d me_32 46 [some (.ref 1), some (.int x1), none, some (.int (0 : Int32)), none] [] M2 0 0 r)) : EvL sc d me_32 28 [some (.ref 1), some (.int x1), some (.int x2), none, none] [.int s0] (mem L σ α τ β γ) 0 0 r := e_of (e_ite (e_cv) (e_cv) h) (fun _ _ => rfl)
set_option maxRecDepth 50000 in
theorem q_32_46 {x1 : Int32} {x3 : Int32} (h : Clv sc d 149 [.ref 1, .int (σ 7), .int x1] (mem L σ α τ β γ) (fun M2 => EvL sc d me_32 55 [some (.ref 1), some (.int x1), none, some (.int x3), none] [] M2 0 0 r)) : EvL sc d me_32 46 [some (.ref 1), some (.int x1), none, some (.int x3), none] [] (mem L σ α τ β γ) 0 0 r := e_of (e_cv h) (fun _ _ => rfl)
set_option maxRecDepth 50000 in
theorem q_32_55 {x1 : Int32} {x3 : Int32} (h : Clv sc d 55 [.ref 5, .int (σ 7), .int x1, .int x3] (mem L σ α τ β γ) (fun M2 => EvL sc d me_32 68 [some (.ref 1), none, none, none, none] [] M2 0 0 r)) : EvL sc d me_32 55 [some (.ref 1), some (.int x1), none, some (.int x3), none] [] (mem L σ α τ β γ) 0 0 r := e_of (e_cv h) (fun _ _ => rfl)
set_option maxRecDepth 50000 in
theorem q_32_68 (h : if (σ 7) < 0 ∨ (L 0) ≤ (σ 7).toNatClampNeg then False else if ((α 11) (σ 7).toNatClampNeg) = 0 then Cli sc d 16 [.ref 1, .int (σ 7)] (mem L σ α τ β γ) (fun y M2 => EvL sc d me_32 88 [some (.ref 1), none, none, none, none] [.int y] M2 0 0 r) else Cli sc d 15 [.ref 1, .int (σ 7)] (mem L σ α τ β γ) (fun y M2 => EvL sc d me_32 114 [none, none, none, none, none] [.int y, .ref 1] M2 0 0 r)) : EvL sc d me_32 68 [some (.ref 1), none, none, none, none] [] (mem L σ α τ β γ) 0 0 r := e_of (e_ite (e_no) (e_ite (e_ci) (e_ci)) h) (fun _ _ => rfl)
set_option maxRecDepth 50000 in
theorem q_32_114 {s0 : Int32} (h : r = (none, (mem L (upd σ 7 s0) α τ β γ))) : EvL sc d me_32 114 [none, none, none, none, none] [.int s0, .ref 1] (mem L σ α τ β γ) 0 0 r := e_of (e_ret h) (fun _ _ => rfl)
set_option maxRecDepth 50000 in
theorem q_32_88 {s0 : Int32} (h : Cli sc d 36 [.ref 1, .int s0] (mem L σ α τ β γ) (fun y M2 => EvL sc d me_32 99 [none, none, none, none, none] [.int y, .int s0, .ref 1] M2 0 0 r)) : EvL sc d me_32 88 [some (.ref 1), none, none, none, none] [.int s0] (mem L σ α τ β γ) 0 0 r := e_of (e_ci h) (fun _ _ => rfl)
set_option maxRecDepth 50000 in
theorem q_32_99 {s0 : Int32} {s1 : Int32} (h : Clv sc d 37 [.ref 1, .int s1, .int s0] (mem L σ α τ β γ) (fun M2 => EvL sc d me_32 102 [none, none, none, none, none] [] M2 0 0 r)) : EvL sc d me_32 99 [none, none, none, none, none] [.int s0, .int s1, .ref 1] (mem L σ α τ β γ) 0 0 r := e_of (e_cv h) (fun _ _ => rfl)
set_option maxRecDepth 50000 in
theorem q_32_102 (h : r = (none, (mem L σ α τ β γ))) : EvL sc d me_32 102 [none, none, none, none, none] [] (mem L σ α τ β γ) 0 0 r := e_of (e_ret h) (fun _ _ => rfl)
-- 33 DominoParlour$Table.skip()V
set_option maxRecDepth 50000 in
theorem q_33_0 (h : Cli sc d 29 [.ref 1] (mem L σ α τ β γ) (fun y M2 => EvL sc d me_33 4 [some (.ref 1), none] [.int y] M2 0 0 r)) : EvL sc d me_33 0 [some (.ref 1), none] [] (mem L σ α τ β γ) 0 0 r := e_of (e_ci h) (fun _ _ => rfl)
set_option maxRecDepth 50000 in
theorem q_33_4 {s0 : Int32} (h : Cli sc d 18 [.ref 1, .int (σ 7)] (mem L σ α τ β γ) (fun y M2 => EvL sc d me_33 22 [some (.ref 1), some (.int s0)] [.int y, .int s0, .int (σ 7), .ref 5] M2 0 0 r)) : EvL sc d me_33 4 [some (.ref 1), none] [.int s0] (mem L σ α τ β γ) 0 0 r := e_of (e_ci h) (fun _ _ => rfl)
set_option maxRecDepth 50000 in
theorem q_33_22 {x1 : Int32} {s0 : Int32} {s1 : Int32} {s2 : Int32} (h : if (s0 &&& x1) = 0 then Clv sc d 56 [.ref 5, .int s2, .int s1, .int (0 : Int32)] (mem L σ α τ β γ) (fun M2 => EvL sc d me_33 35 [some (.ref 1), none] [] M2 0 0 r) else Clv sc d 56 [.ref 5, .int s2, .int s1, .int (1 : Int32)] (mem L σ α τ β γ) (fun M2 => EvL sc d me_33 35 [some (.ref 1), none] [] M2 0 0 r)) : EvL sc d me_33 22 [some (.ref 1), some (.int x1)] [.int s0, .int s1, .int s2, .ref 5] (mem L σ α τ β γ) 0 0 r := e_of (e_ite (e_cv) (e_cv) h) (fun _ _ => rfl)
set_option maxRecDepth 50000 in
theorem q_33_35 (h : Cli sc d 62 [.ref 5] (mem L σ α τ β γ) (fun y M2 => EvL sc d me_33 42 [some (.ref 1), none] [.int y] M2 0 0 r)) : EvL sc d me_33 35 [some (.ref 1), none] [] (mem L σ α τ β γ) 0 0 r := e_of (e_ci h) (fun _ _ => rfl)
set_option maxRecDepth 50000 in
theorem q_33_42 {s0 : Int32} (h : if s0 < (σ 2) then Cli sc d 15 [.ref 1, .int (σ 7)] (mem L σ α τ β γ) (fun y M2 => EvL sc d me_33 65 [none, none] [.int y, .ref 1] M2 0 0 r) else Clv sc d 38 [.ref 1] (mem L σ α τ β γ) (fun M2 => EvL sc d me_33 53 [none, none] [] M2 0 0 r)) : EvL sc d me_33 42 [some (.ref 1), none] [.int s0] (mem L σ α τ β γ) 0 0 r := e_of (e_ite (e_ci) (e_cv) h) (fun _ _ => rfl)
set_option maxRecDepth 50000 in
theorem q_33_65 {s0 : Int32} (h : r = (none, (mem L (upd σ 7 s0) α τ β γ))) : EvL sc d me_33 65 [none, none] [.int s0, .ref 1] (mem L σ α τ β γ) 0 0 r := e_of (e_ret h) (fun _ _ => rfl)
set_option maxRecDepth 50000 in
theorem q_33_53 (h : r = (none, (mem L σ α τ β γ))) : EvL sc d me_33 53 [none, none] [] (mem L σ α τ β γ) 0 0 r := e_of (e_ret h) (fun _ _ => rfl)
-- 34 DominoParlour$Table.undo()Z
set_option maxRecDepth 50000 in
theorem q_34_0 (h : Cli sc d 59 [.ref 5, .int ((σ 12) - (1 : Int32))] (mem L σ α τ β γ) (fun y M2 => EvL sc d me_34 18 [some (.ref 1), some (.int ((σ 12) - (1 : Int32))), none, none] [.int y] M2 0 0 r)) : EvL sc d me_34 0 [some (.ref 1), none, none, none] [] (mem L σ α τ β γ) 0 0 r := e_of (e_ci h) (fun _ _ => rfl)
set_option maxRecDepth 50000 in
theorem q_34_18 {x1 : Int32} {s0 : Int32} (h : Cli sc d 60 [.ref 5, .int x1] (mem L σ α τ β γ) (fun y M2 => EvL sc d me_34 27 [some (.ref 1), some (.int x1), some (.int s0), none] [.int y] M2 0 0 r)) : EvL sc d me_34 18 [some (.ref 1), some (.int x1), none, none] [.int s0] (mem L σ α τ β γ) 0 0 r := e_of (e_ci h) (fun _ _ => rfl)
set_option maxRecDepth 50000 in
theorem q_34_27 {x1 : Int32} {x2 : Int32} {s0 : Int32} (h : Cli sc d 14 [.ref 1, .int x2] (mem L σ α τ β γ) (fun y M2 => EvL sc d me_34 33 [some (.ref 1), some (.int x1), some (.int x2), some (.int s0)] [.int y] M2 0 0 r)) : EvL sc d me_34 27 [some (.ref 1), some (.int x1), some (.int x2), none] [.int s0] (mem L σ α τ β γ) 0 0 r := e_of (e_ci h) (fun _ _ => rfl)
set_option maxRecDepth 50000 in
theorem q_34_33 {x1 : Int32} {x2 : Int32} {x3 : Int32} {s0 : Int32} (h : if s0 = 0 then r = (some (.int (0 : Int32)), (mem L σ α τ β γ)) else if x3 = (-1 : Int32) then EvL sc d me_34 64 [some (.ref 1), none, some (.int x2), none] [] (mem L σ α τ β γ) 0 0 r else Cli sc d 61 [.ref 5, .int x1] (mem L σ α τ β γ) (fun y M2 => EvL sc d me_34 55 [some (.ref 1), none, some (.int x2), some (.int x3)] [.int y, .ref 3] M2 0 0 r)) : EvL sc d me_34 33 [some (.ref 1), some (.int x1), some (.int x2), some (.int x3)] [.int s0] (mem L σ α τ β γ) 0 0 r := e_of (e_ite (e_ret) (e_ite (e_loop) (e_ci)) h) (fun _ _ => rfl)
set_option maxRecDepth 50000 in
theorem q_34_64 {x2 : Int32} (h : Clv sc d 57 [.ref 5] (mem L σ α τ β γ) (fun M2 => EvL sc d me_34 71 [some (.ref 1), none, some (.int x2), none] [] M2 0 0 r)) : EvL sc d me_34 64 [some (.ref 1), none, some (.int x2), none] [] (mem L σ α τ β γ) 0 0 r := e_of (e_cv h) (fun _ _ => rfl)
set_option maxRecDepth 50000 in
theorem q_34_55 {x2 : Int32} {x3 : Int32} {s0 : Int32} (h : Clv sc d 8 [.ref 3, .int s0] (mem L σ α τ β γ) (fun M2 => EvL sc d me_34 58 [some (.ref 1), none, some (.int x2), some (.int x3)] [] M2 0 0 r)) : EvL sc d me_34 55 [some (.ref 1), none, some (.int x2), some (.int x3)] [.int s0, .ref 3] (mem L σ α τ β γ) 0 0 r := e_of (e_cv h) (fun _ _ => rfl)
set_option maxRecDepth 50000 in
theorem q_34_71 {x2 : Int32} (h : r = (some (.int (1 : Int32)), (mem L (upd (upd (upd (upd σ 4 (2 : Int32)) 7 x2) 8 (-1 : Int32)) 9 (0 : Int32)) α τ β γ))) : EvL sc d me_34 71 [some (.ref 1), none, some (.int x2), none] [] (mem L σ α τ β γ) 0 0 r := e_of (e_ret h) (fun _ _ => rfl)
set_option maxRecDepth 50000 in
theorem q_34_58 {x2 : Int32} {x3 : Int32} (h : Clv sc d 148 [.ref 1, .int x2, .int x3] (mem L σ α τ β γ) (fun M2 => EvL sc d me_34 64 [some (.ref 1), none, some (.int x2), none] [] M2 0 0 r)) : EvL sc d me_34 58 [some (.ref 1), none, some (.int x2), some (.int x3)] [] (mem L σ α τ β γ) 0 0 r := e_of (e_cv h) (fun _ _ => rfl)
-- 35 DominoParlour$Table.sideWeight(I)I
set_option maxRecDepth 50000 in
theorem q_35_0 {x1 : Int32} (h : if x1 < 0 then r = (some (.int (0 : Int32)), (mem L σ α τ β γ)) else if x1 < (Int32.ofNat (L 3)) then if x1 < 0 ∨ (L 3) ≤ x1.toNatClampNeg then False else r = (some (.int ((α 5) x1.toNatClampNeg)), (mem L σ α τ β γ)) else r = (some (.int (0 : Int32)), (mem L σ α τ β γ))) : EvL sc d me_35 0 [some (.ref 1), some (.int x1)] [] (mem L σ α τ β γ) 0 0 r := e_of (e_ite (e_ret) (e_ite (e_ite (e_no) (e_ret)) (e_ret)) h) (fun _ _ => rfl)
-- 36 DominoParlour$Table.othersWeight(I)I
set_option maxRecDepth 50000 in
theorem q_36_0 {x1 : Int32} (h : EvL sc d me_36 4 [some (.ref 1), some (.int x1), some (.int (0 : Int32)), some (.int (0 : Int32))] [] (mem L σ α τ β γ) 0 0 r) : EvL sc d me_36 0 [some (.ref 1), some (.int x1), none, none] [] (mem L σ α τ β γ) 0 0 r := e_of (e_loop h) (fun _ _ => rfl)
set_option maxRecDepth 50000 in
theorem q_36_4 {x1 : Int32} {x2 : Int32} {x3 : Int32} (h : if x3 < (Int32.ofNat (L 3)) then if x3 = x1 then EvL sc d me_36 4 [some (.ref 1), some (.int x1), some (.int x2), some (.int (x3 + (1 : Int32)))] [] (mem L σ α τ β γ) 0 0 r else if x3 < 0 ∨ (L 3) ≤ x3.toNatClampNeg then False else EvL sc d me_36 4 [some (.ref 1), some (.int x1), some (.int (x2 + ((α 5) x3.toNatClampNeg))), some (.int (x3 + (1 : Int32)))] [] (mem L σ α τ β γ) 0 0 r else r = (some (.int x2), (mem L σ α τ β γ))) : EvL sc d me_36 4 [some (.ref 1), some (.int x1), some (.int x2), some (.int x3)] [] (mem L σ α τ β γ) 0 0 r := e_of (e_ite (e_ite (e_loop) (e_ite (e_no) (e_loop))) (e_ret) h) (fun _ _ => rfl)
-- 37 DominoParlour$Table.finish(II)V
set_option maxRecDepth 50000 in
theorem q_37_0 {x1 : Int32} {x2 : Int32} (h : r = (none, (mem L (upd (upd (upd (upd σ 4 (3 : Int32)) 7 (-1 : Int32)) 8 x1) 9 x2) α τ β γ))) : EvL sc d me_37 0 [some (.ref 1), some (.int x1), some (.int x2)] [] (mem L σ α τ β γ) 0 0 r := e_of (e_ret h) (fun _ _ => rfl)
-- 38 DominoParlour$Table.finishStuck()V
set_option maxRecDepth 50000 in
theorem q_38_0 (h : EvL sc d me_38 6 [some (.ref 1), some (.int (-1 : Int32)), some (.int (0 : Int32)), some (.int (0 : Int32))] [] (mem L σ α τ β γ) 0 0 r) : EvL sc d me_38 0 [some (.ref 1), none, none, none] [] (mem L σ α τ β γ) 0 0 r := e_of (e_loop h) (fun _ _ => rfl)
set_option maxRecDepth 50000 in
theorem q_38_6 {x1 : Int32} {x2 : Int32} {x3 : Int32} (h : if x3 < (Int32.ofNat (L 3)) then if x1 = (-1 : Int32) then EvL sc d me_38 6 [some (.ref 1), some (.int x3), some (.int (0 : Int32)), some (.int (x3 + (1 : Int32)))] [] (mem L σ α τ β γ) 0 0 r else if x3 < 0 ∨ (L 3) ≤ x3.toNatClampNeg then False else Cli sc d 35 [.ref 1, .int x1] (mem L σ α τ β γ) (fun y M2 => EvL sc d me_38 31 [some (.ref 1), some (.int x1), some (.int x2), some (.int x3)] [.int y, .int ((α 5) x3.toNatClampNeg)] M2 0 0 r) else if x2 = 0 then Cli sc d 36 [.ref 1, .int x1] (mem L σ α τ β γ) (fun y M2 => EvL sc d me_38 83 [some (.ref 1), some (.int x1), none, none] [.int y, .int x1, .ref 1] M2 0 0 r) else Clv sc d 37 [.ref 1, .int (-1 : Int32), .int (0 : Int32)] (mem L σ α τ β γ) (fun M2 => EvL sc d me_38 73 [none, none, none, none] [] M2 0 0 r)) : EvL sc d me_38 6 [some (.ref 1), some (.int x1), some (.int x2), some (.int x3)] [] (mem L σ α τ β γ) 0 0 r := e_of (e_ite (e_ite (e_loop) (e_ite (e_no) (e_ci))) (e_ite (e_ci) (e_cv)) h) (fun _ _ => rfl)
set_option maxRecDepth 50000 in
theorem q_38_83 {x1 : Int32} {s0 : Int32} {s1 : Int32} (h : Cli sc d 35 [.ref 1, .int x1] (mem L σ α τ β γ) (fun y M2 => EvL sc d me_38 88 [none, none, none, none] [.int y, .int s0, .int s1, .ref 1] M2 0 0 r)) : EvL sc d me_38 83 [some (.ref 1), some (.int x1), none, none] [.int s0, .int s1, .ref 1] (mem L σ α τ β γ) 0 0 r := e_of (e_ci h) (fun _ _ => rfl)
set_option maxRecDepth 50000 in
theorem q_38_73 (h : EvL sc d me_38 92 [none, none, none, none] [] (mem L σ α τ β γ) 0 0 r) : EvL sc d me_38 73 [none, none, none, none] [] (mem L σ α τ β γ) 0 0 r := e_of (e_loop h) (fun _ _ => rfl)
set_option maxRecDepth 50000 in
theorem q_38_31 {x1 : Int32} {x2 : Int32} {x3 : Int32} {s0 : Int32} {s1 : Int32} (h : if s1 < s0 then EvL sc d me_38 6 [some (.ref 1), some (.int x3), some (.int (0 : Int32)), some (.int (x3 + (1 : Int32)))] [] (mem L σ α τ β γ) 0 0 r else if x3 < 0 ∨ (L 3) ≤ x3.toNatClampNeg then False else Cli sc d 35 [.ref 1, .int x1] (mem L σ α τ β γ) (fun y M2 => EvL sc d me_38 52 [some (.ref 1), some (.int x1), some (.int x2), some (.int x3)] [.int y, .int ((α 5) x3.toNatClampNeg)] M2 0 0 r)) : EvL sc d me_38 31 [some (.ref 1), some (.int x1), some (.int x2), some (.int x3)] [.int s0, .int s1] (mem L σ α τ β γ) 0 0 r := e_of (e_ite (e_loop) (e_ite (e_no) (e_ci)) h) (fun _ _ => rfl)
set_option maxRecDepth 50000 in
theorem q_38_88 {s0 : Int32} {s1 : Int32} {s2 : Int32} (h : Clv sc d 37 [.ref 1, .int s2, .int (s1 - s0)] (mem L σ α τ β γ) (fun M2 => EvL sc d me_38 92 [none, none, none, none] [] M2 0 0 r)) : EvL sc d me_38 88 [none, none, none, none] [.int s0, .int s1, .int s2, .ref 1] (mem L σ α τ β γ) 0 0 r := e_of (e_cv h) (fun _ _ => rfl)
set_option maxRecDepth 50000 in
theorem q_38_92 (h : r = (none, (mem L σ α τ β γ))) : EvL sc d me_38 92 [none, none, none, none] [] (mem L σ α τ β γ) 0 0 r := e_of (e_ret h) (fun _ _ => rfl)
set_option maxRecDepth 50000 in
theorem q_38_52 {x1 : Int32} {x2 : Int32} {x3 : Int32} {s0 : Int32} {s1 : Int32} (h : if s1 = s0 then EvL sc d me_38 6 [some (.ref 1), some (.int x1), some (.int (1 : Int32)), some (.int (x3 + (1 : Int32)))] [] (mem L σ α τ β γ) 0 0 r else EvL sc d me_38 6 [some (.ref 1), some (.int x1), some (.int x2), some (.int (x3 + (1 : Int32)))] [] (mem L σ α τ β γ) 0 0 r) : EvL sc d me_38 52 [some (.ref 1), some (.int x1), some (.int x2), some (.int x3)] [.int s0, .int s1] (mem L σ α τ β γ) 0 0 r := e_of (e_ite (e_loop) (e_loop) h) (fun _ _ => rfl)
-- 39 DominoParlour$Table.worthFor(I)I
set_option maxRecDepth 50000 in
theorem q_39_0 {x1 : Int32} (h : if (σ 4) = (3 : Int32) then if (σ 8) = (-1 : Int32) then r = (some (.int (0 : Int32)), (mem L σ α τ β γ)) else if (σ 8) = x1 then r = (some (.int ((1000 : Int32) + (σ 9))), (mem L σ α τ β γ)) else r = (some (.int ((-1000 : Int32) - (σ 9))), (mem L σ α τ β γ)) else Cli sc d 36 [.ref 1, .int x1] (mem L σ α τ β γ) (fun y M2 => EvL sc d me_39 13 [some (.ref 1), some (.int x1)] [.int y] M2 0 0 r)) : EvL sc d me_39 0 [some (.ref 1), some (.int x1)] [] (mem L σ α τ β γ) 0 0 r := e_of (e_ite (e_ite (e_ret) (e_ite (e_ret) (e_ret))) (e_ci) h) (fun _ _ => rfl)
set_option maxRecDepth 50000 in
theorem q_39_13 {x1 : Int32} {s0 : Int32} (h : Cli sc d 35 [.ref 1, .int x1] (mem L σ α τ β γ) (fun y M2 => EvL sc d me_39 18 [none, none] [.int y, .int s0] M2 0 0 r)) : EvL sc d me_39 13 [some (.ref 1), some (.int x1)] [.int s0] (mem L σ α τ β γ) 0 0 r := e_of (e_ci h) (fun _ _ => rfl)
set_option maxRecDepth 50000 in
theorem q_39_18 {s0 : Int32} {s1 : Int32} (h : r = (some (.int (s1 - s0)), (mem L σ α τ β γ))) : EvL sc d me_39 18 [none, none] [.int s0, .int s1] (mem L σ α τ β γ) 0 0 r := e_of (e_ret h) (fun _ _ => rfl)
end QE
