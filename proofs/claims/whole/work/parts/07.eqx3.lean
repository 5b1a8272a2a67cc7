section QE
variable {sc : Nat × (Nat → Int32)} {d : Nat} {L : Nat → Nat} {σ : Nat → Int32} {α : Nat → Nat → Int32} {τ : Nat → Int32} {β : Nat → Nat → Int32} {γ : Nat → Nat → Int64} {r : Option Value × dk_M}
-- 66 DominoParlour.lay(I)I
set_option maxRecDepth 50000 in
theorem q_66_0 {x1 : Int32} (h : if (σ 4) = (2 : Int32) then r = (some (.int (-1 : Int32)), (mem L σ α τ β γ)) else Cli sc d 86 [.ref 0] (mem L σ α τ β γ) (fun y M2 => EvL sc d me_66 15 [some (.ref 0), some (.int x1)] [.int y] M2 0 0 r)) : EvL sc d me_66 0 [some (.ref 0), some (.int x1)] [] (mem L σ α τ β γ) 0 0 r := e_of (e_ite (e_ret) (e_ci) h) (fun _ _ => rfl)
set_option maxRecDepth 50000 in
theorem q_66_15 {x1 : Int32} {s0 : Int32} (h : if s0 = (-1 : Int32) then Cli sc d 21 [.ref 1, .int x1] (mem L σ α τ β γ) (fun y M2 => EvL sc d me_66 27 [some (.ref 0), some (.int x1)] [.int y] M2 0 0 r) else r = (some (.int (-1 : Int32)), (mem L σ α τ β γ))) : EvL sc d me_66 15 [some (.ref 0), some (.int x1)] [.int s0] (mem L σ α τ β γ) 0 0 r := e_of (e_ite (e_ci) (e_ret) h) (fun _ _ => rfl)
set_option maxRecDepth 50000 in
theorem q_66_27 {x1 : Int32} {s0 : Int32} (h : if s0 = 0 then r = (some (.int (-1 : Int32)), (mem L σ α τ β γ)) else Clv sc d 22 [.ref 1, .int x1] (mem L σ α τ β γ) (fun M2 => EvL sc d me_66 40 [some (.ref 0), some (.int x1)] [] M2 0 0 r)) : EvL sc d me_66 27 [some (.ref 0), some (.int x1)] [.int s0] (mem L σ α τ β γ) 0 0 r := e_of (e_ite (e_ret) (e_cv) h) (fun _ _ => rfl)
set_option maxRecDepth 50000 in
theorem q_66_40 {x1 : Int32} (h : r = (some (.int ((σ 3) - (x1 * (σ 2)))), (mem L σ α τ β γ))) : EvL sc d me_66 40 [some (.ref 0), some (.int x1)] [] (mem L σ α τ β γ) 0 0 r := e_of (e_ret h) (fun _ _ => rfl)
-- 67 DominoParlour.give(II)I
set_option maxRecDepth 50000 in
theorem q_67_0 {x1 : Int32} {x2 : Int32} (h : if (σ 4) = (1 : Int32) then Cli sc d 14 [.ref 1, .int x1] (mem L σ α τ β γ) (fun y M2 => EvL sc d me_67 19 [some (.ref 0), some (.int x1), some (.int x2)] [.int y] M2 0 0 r) else r = (some (.int (-1 : Int32)), (mem L σ α τ β γ))) : EvL sc d me_67 0 [some (.ref 0), some (.int x1), some (.int x2)] [] (mem L σ α τ β γ) 0 0 r := e_of (e_ite (e_ci) (e_ret) h) (fun _ _ => rfl)
set_option maxRecDepth 50000 in
theorem q_67_19 {x1 : Int32} {x2 : Int32} {s0 : Int32} (h : if s0 = 0 then r = (some (.int (-1 : Int32)), (mem L σ α τ β γ)) else Cli sc d 20 [.ref 1, .int x2] (mem L σ α τ β γ) (fun y M2 => EvL sc d me_67 30 [some (.ref 0), some (.int x1), some (.int x2)] [.int y] M2 0 0 r)) : EvL sc d me_67 19 [some (.ref 0), some (.int x1), some (.int x2)] [.int s0] (mem L σ α τ β γ) 0 0 r := e_of (e_ite (e_ret) (e_ci) h) (fun _ _ => rfl)
set_option maxRecDepth 50000 in
theorem q_67_30 {x1 : Int32} {x2 : Int32} {s0 : Int32} (h : if s0 = (10 : Int32) then Cli sc d 19 [.ref 1, .int x1] (mem L σ α τ β γ) (fun y M2 => EvL sc d me_67 45 [some (.ref 0), some (.int x1), some (.int x2)] [.int y] M2 0 0 r) else r = (some (.int (-1 : Int32)), (mem L σ α τ β γ))) : EvL sc d me_67 30 [some (.ref 0), some (.int x1), some (.int x2)] [.int s0] (mem L σ α τ β γ) 0 0 r := e_of (e_ite (e_ci) (e_ret) h) (fun _ _ => rfl)
set_option maxRecDepth 50000 in
theorem q_67_45 {x1 : Int32} {x2 : Int32} {s0 : Int32} (h : if s0 < (σ 5) then Clv sc d 23 [.ref 1, .int x1, .int x2] (mem L σ α τ β γ) (fun M2 => EvL sc d me_67 66 [some (.ref 0), some (.int x1), none] [] M2 0 0 r) else r = (some (.int (-1 : Int32)), (mem L σ α τ β γ))) : EvL sc d me_67 45 [some (.ref 0), some (.int x1), some (.int x2)] [.int s0] (mem L σ α τ β γ) 0 0 r := e_of (e_ite (e_cv) (e_ret) h) (fun _ _ => rfl)
set_option maxRecDepth 50000 in
theorem q_67_66 {x1 : Int32} (h : Cli sc d 19 [.ref 1, .int x1] (mem L σ α τ β γ) (fun y M2 => EvL sc d me_67 74 [none, none, none] [.int y] M2 0 0 r)) : EvL sc d me_67 66 [some (.ref 0), some (.int x1), none] [] (mem L σ α τ β γ) 0 0 r := e_of (e_ci h) (fun _ _ => rfl)
set_option maxRecDepth 50000 in
theorem q_67_74 {s0 : Int32} (h : r = (some (.int s0), (mem L σ α τ β γ))) : EvL sc d me_67 74 [none, none, none] [.int s0] (mem L σ α τ β γ) 0 0 r := e_of (e_ret h) (fun _ _ => rfl)
-- 68 DominoParlour.shuffle(J)Z
set_option maxRecDepth 50000 in
theorem q_68_0 {x1 : Int64} (h : if (σ 4) = (1 : Int32) then Clv sc d 24 [.ref 1, .long x1] (mem L σ α τ β γ) (fun M2 => EvL sc d me_68 21 [none, none, none] [] M2 0 0 r) else r = (some (.int (0 : Int32)), (mem L σ α τ β γ))) : EvL sc d me_68 0 [some (.ref 0), some (.long x1), none] [] (mem L σ α τ β γ) 0 0 r := e_of (e_ite (e_cv) (e_ret) h) (fun _ _ => rfl)
set_option maxRecDepth 50000 in
theorem q_68_21 (h : r = (some (.int (1 : Int32)), (mem L σ α τ β γ))) : EvL sc d me_68 21 [none, none, none] [] (mem L σ α τ β γ) 0 0 r := e_of (e_ret h) (fun _ _ => rfl)
-- 69 DominoParlour.begin(I)Z
set_option maxRecDepth 50000 in
theorem q_69_0 {x1 : Int32} (h : if (σ 4) = (1 : Int32) then Cli sc d 14 [.ref 1, .int x1] (mem L σ α τ β γ) (fun y M2 => EvL sc d me_69 19 [some (.ref 0), some (.int x1)] [.int y] M2 0 0 r) else r = (some (.int (0 : Int32)), (mem L σ α τ β γ))) : EvL sc d me_69 0 [some (.ref 0), some (.int x1)] [] (mem L σ α τ β γ) 0 0 r := e_of (e_ite (e_ci) (e_ret) h) (fun _ _ => rfl)
set_option maxRecDepth 50000 in
theorem q_69_19 {x1 : Int32} {s0 : Int32} (h : if s0 = 0 then r = (some (.int (0 : Int32)), (mem L σ α τ β γ)) else Cli sc d 26 [.ref 1] (mem L σ α τ β γ) (fun y M2 => EvL sc d me_69 29 [some (.ref 0), some (.int x1)] [.int y] M2 0 0 r)) : EvL sc d me_69 19 [some (.ref 0), some (.int x1)] [.int s0] (mem L σ α τ β γ) 0 0 r := e_of (e_ite (e_ret) (e_ci) h) (fun _ _ => rfl)
set_option maxRecDepth 50000 in
theorem q_69_29 {x1 : Int32} {s0 : Int32} (h : if s0 = 0 then r = (some (.int (0 : Int32)), (mem L σ α τ β γ)) else Clv sc d 27 [.ref 1, .int x1] (mem L σ α τ β γ) (fun M2 => EvL sc d me_69 42 [some (.ref 0), none] [] M2 0 0 r)) : EvL sc d me_69 29 [some (.ref 0), some (.int x1)] [.int s0] (mem L σ α τ β γ) 0 0 r := e_of (e_ite (e_ret) (e_cv) h) (fun _ _ => rfl)
set_option maxRecDepth 50000 in
theorem q_69_42 (h : r = (some (.int (1 : Int32)), (mem L (upd σ 1 ((σ 1) + (1 : Int32))) α τ β γ))) : EvL sc d me_69 42 [some (.ref 0), none] [] (mem L σ α τ β γ) 0 0 r := e_of (e_ret h) (fun _ _ => rfl)
-- 70 DominoParlour.play(II)I
set_option maxRecDepth 50000 in
theorem q_70_0 {x1 : Int32} {x2 : Int32} (h : Cli sc d 30 [.ref 1, .int x1, .int x2] (mem L σ α τ β γ) (fun y M2 => EvL sc d me_70 9 [some (.ref 0), some (.int x1), some (.int x2)] [.int y] M2 0 0 r)) : EvL sc d me_70 0 [some (.ref 0), some (.int x1), some (.int x2)] [] (mem L σ α τ β γ) 0 0 r := e_of (e_ci h) (fun _ _ => rfl)
set_option maxRecDepth 50000 in
theorem q_70_9 {x1 : Int32} {x2 : Int32} {s0 : Int32} (h : if s0 = 0 then r = (some (.int (-1 : Int32)), (mem L σ α τ β γ)) else Clv sc d 32 [.ref 1, .int x1, .int x2] (mem L σ α τ β γ) (fun M2 => EvL sc d me_70 23 [some (.ref 0), none, none] [] M2 0 0 r)) : EvL sc d me_70 9 [some (.ref 0), some (.int x1), some (.int x2)] [.int s0] (mem L σ α τ β γ) 0 0 r := e_of (e_ite (e_ret) (e_cv) h) (fun _ _ => rfl)
set_option maxRecDepth 50000 in
theorem q_70_23 (h : Cli sc d 87 [.ref 0] (mem L σ α τ β γ) (fun y M2 => EvL sc d me_70 27 [none, none, none] [.int y] M2 0 0 r)) : EvL sc d me_70 23 [some (.ref 0), none, none] [] (mem L σ α τ β γ) 0 0 r := e_of (e_ci h) (fun _ _ => rfl)
set_option maxRecDepth 50000 in
theorem q_70_27 {s0 : Int32} (h : r = (some (.int s0), (mem L σ α τ β γ))) : EvL sc d me_70 27 [none, none, none] [.int s0] (mem L σ α τ β γ) 0 0 r := e_of (e_ret h) (fun _ _ => rfl)
-- 71 DominoParlour.pass()I
set_option maxRecDepth 50000 in
theorem q_71_0 (h : if (σ 4) = (2 : Int32) then Cli sc d 2 [.ref 3] (mem L σ α τ β γ) (fun y M2 => EvL sc d me_71 21 [some (.ref 0)] [.int y] M2 0 0 r) else r = (some (.int (-1 : Int32)), (mem L σ α τ β γ))) : EvL sc d me_71 0 [some (.ref 0)] [] (mem L σ α τ β γ) 0 0 r := e_of (e_ite (e_ci) (e_ret) h) (fun _ _ => rfl)
set_option maxRecDepth 50000 in
theorem q_71_21 {s0 : Int32} (h : if s0 = 0 then Clv sc d 33 [.ref 1] (mem L σ α τ β γ) (fun M2 => EvL sc d me_71 33 [some (.ref 0)] [] M2 0 0 r) else r = (some (.int (-1 : Int32)), (mem L σ α τ β γ))) : EvL sc d me_71 21 [some (.ref 0)] [.int s0] (mem L σ α τ β γ) 0 0 r := e_of (e_ite (e_cv) (e_ret) h) (fun _ _ => rfl)
set_option maxRecDepth 50000 in
theorem q_71_33 (h : Cli sc d 87 [.ref 0] (mem L σ α τ β γ) (fun y M2 => EvL sc d me_71 37 [none] [.int y] M2 0 0 r)) : EvL sc d me_71 33 [some (.ref 0)] [] (mem L σ α τ β γ) 0 0 r := e_of (e_ci h) (fun _ _ => rfl)
set_option maxRecDepth 50000 in
theorem q_71_37 {s0 : Int32} (h : r = (some (.int s0), (mem L σ α τ β γ))) : EvL sc d me_71 37 [none] [.int s0] (mem L σ α τ β γ) 0 0 r := e_of (e_ret h) (fun _ _ => rfl)
-- 72 DominoParlour.back()Z
set_option maxRecDepth 50000 in
theorem q_72_0 (h : if (σ 4) = (3 : Int32) then Clv sc d 88 [.ref 0, .int (σ 8), .int (-(σ 9))] (mem L σ α τ β γ) (fun M2 => EvL sc d me_72 30 [some (.ref 0)] [] M2 0 0 r) else EvL sc d me_72 30 [some (.ref 0)] [] (mem L σ α τ β γ) 0 0 r) : EvL sc d me_72 0 [some (.ref 0)] [] (mem L σ α τ β γ) 0 0 r := e_of (e_ite (e_cv) (e_loop) h) (fun _ _ => rfl)
set_option maxRecDepth 50000 in
theorem q_72_30 (h : Cli sc d 34 [.ref 1] (mem L σ α τ β γ) (fun y M2 => EvL sc d me_72 37 [none] [.int y] M2 0 0 r)) : EvL sc d me_72 30 [some (.ref 0)] [] (mem L σ α τ β γ) 0 0 r := e_of (e_ci h) (fun _ _ => rfl)
set_option maxRecDepth 50000 in
theorem q_72_37 {s0 : Int32} (h : if s0 &&& 1 = s0 then r = (some (.int s0), (mem L σ α τ β γ)) else False) : EvL sc d me_72 37 [none] [.int s0] (mem L σ α τ β γ) 0 0 r := e_of (e_ite (e_ret) (e_no) h) (fun _ _ => rfl)
-- 73 DominoParlour.about(I)I
set_option maxRecDepth 50000 in
theorem q_73_0 {x1 : Int32} (h : if x1 = (0 : Int32) then r = (some (.int (σ 4)), (mem L σ α τ β γ)) else if x1 = (1 : Int32) then r = (some (.int (σ 7)), (mem L σ α τ β γ)) else if x1 = (2 : Int32) then r = (some (.int (σ 5)), (mem L σ α τ β γ)) else if x1 = (3 : Int32) then Cli sc d 145 [.int (σ 6)] (mem L σ α τ β γ) (fun y M2 => EvL sc d me_73 106 [none, none] [.int y] M2 0 0 r) else if x1 = (4 : Int32) then r = (some (.int (σ 11)), (mem L σ α τ β γ)) else if x1 = (5 : Int32) then Cli sc d 4 [.ref 3, .int (0 : Int32)] (mem L σ α τ β γ) (fun y M2 => EvL sc d me_73 129 [none, none] [.int y] M2 0 0 r) else if x1 = (6 : Int32) then Cli sc d 4 [.ref 3, .int (1 : Int32)] (mem L σ α τ β γ) (fun y M2 => EvL sc d me_73 141 [none, none] [.int y] M2 0 0 r) else if x1 = (7 : Int32) then r = (some (.int (σ 12)), (mem L σ α τ β γ)) else if x1 = (8 : Int32) then r = (some (.int (σ 8)), (mem L σ α τ β γ)) else if x1 = (9 : Int32) then r = (some (.int (σ 9)), (mem L σ α τ β γ)) else if x1 = (10 : Int32) then Cli sc d 86 [.ref 0] (mem L σ α τ β γ) (fun y M2 => EvL sc d me_73 173 [none, none] [.int y] M2 0 0 r) else if x1 = (11 : Int32) then r = (some (.int (σ 3)), (mem L σ α τ β γ)) else if x1 = (12 : Int32) then r = (some (.int (σ 2)), (mem L σ α τ β γ)) else if x1 = (13 : Int32) then r = (some (.int (σ 1)), (mem L σ α τ β γ)) else r = (some (.int (-1 : Int32)), (mem L σ α τ β γ))) : EvL sc d me_73 0 [some (.ref 0), some (.int x1)] [] (mem L σ α τ β γ) 0 0 r := e_of (e_ite (e_ret) (e_ite (e_ret) (e_ite (e_ret) (e_ite (e_ci) (e_ite (e_ret) (e_ite (e_ci) (e_ite (e_ci) (e_ite (e_ret) (e_ite (e_ret) (e_ite (e_ret) (e_ite (e_ci) (e_ite (e_ret) (e_ite (e_ret) (e_ite (e_ret) (e_ret)))))))))))))) h) (fun _ _ => rfl)
set_option maxRecDepth 50000 in
theorem q_73_173 {s0 : Int32} (h : r = (some (.int s0), (mem L σ α τ β γ))) : EvL sc d me_73 173 [none, none] [.int s0] (mem L σ α τ β γ) 0 0 r := e_of (e_ret h) (fun _ _ => rfl)
set_option maxRecDepth 50000 in
theorem q_73_141 {s0 : Int32} (h : r = (some (.int s0), (mem L σ α τ β γ))) : EvL sc d me_73 141 [none, none] [.int s0] (mem L σ α τ β γ) 0 0 r := e_of (e_ret h) (fun _ _ => rfl)
set_option maxRecDepth 50000 in
theorem q_73_129 {s0 : Int32} (h : r = (some (.int s0), (mem L σ α τ β γ))) : EvL sc d me_73 129 [none, none] [.int s0] (mem L σ α τ β γ) 0 0 r := e_of (e_ret h) (fun _ _ => rfl)
set_option maxRecDepth 50000 in
theorem q_73_106 {s0 : Int32} (h : r = (some (.int s0), (mem L σ α τ β γ))) : EvL sc d me_73 106 [none, none] [.int s0] (mem L σ α τ β γ) 0 0 r := e_of (e_ret h) (fun _ _ => rfl)
-- 74 DominoParlour.score(I)I
set_option maxRecDepth 50000 in
theorem q_74_0 {x1 : Int32} (h : if x1 < 0 then r = (some (.int (-1 : Int32)), (mem L σ α τ β γ)) else if x1 < (Int32.ofNat (L 2)) then if x1 < 0 ∨ (L 2) ≤ x1.toNatClampNeg then False else r = (some (.int ((α 13) x1.toNatClampNeg)), (mem L σ α τ β γ)) else r = (some (.int (-1 : Int32)), (mem L σ α τ β γ))) : EvL sc d me_74 0 [some (.ref 0), some (.int x1)] [] (mem L σ α τ β γ) 0 0 r := e_of (e_ite (e_ret) (e_ite (e_ite (e_no) (e_ret)) (e_ret)) h) (fun _ _ => rfl)
-- 75 DominoParlour.hand(II)I
set_option maxRecDepth 50000 in
theorem q_75_0 {x1 : Int32} {x2 : Int32} (h : if x2 < 0 then EvL sc d me_75 20 [none, none, none] [.int (-1 : Int32)] (mem L σ α τ β γ) 0 0 r else Cli sc d 18 [.ref 1, .int x1] (mem L σ α τ β γ) (fun y M2 => EvL sc d me_75 16 [none, none, some (.int x2)] [.int y] M2 0 0 r)) : EvL sc d me_75 0 [some (.ref 0), some (.int x1), some (.int x2)] [] (mem L σ α τ β γ) 0 0 r := e_of (e_ite (e_loop) (e_ci) h) (fun _ _ => rfl)
set_option maxRecDepth 50000 in
theorem q_75_16 {x2 : Int32} {s0 : Int32} (h : Cli sc d 93 [.int s0, .int x2] (mem L σ α τ β γ) (fun y M2 => EvL sc d me_75 20 [none, none, none] [.int y] M2 0 0 r)) : EvL sc d me_75 16 [none, none, some (.int x2)] [.int s0] (mem L σ α τ β γ) 0 0 r := e_of (e_ci h) (fun _ _ => rfl)
set_option maxRecDepth 50000 in
theorem q_75_20 {s0 : Int32} (h : r = (some (.int s0), (mem L σ α τ β γ))) : EvL sc d me_75 20 [none, none, none] [.int s0] (mem L σ α τ β γ) 0 0 r := e_of (e_ret h) (fun _ _ => rfl)
-- 76 DominoParlour.where(I)I
set_option maxRecDepth 50000 in
theorem q_76_0 {x1 : Int32} (h : Cli sc d 20 [.ref 1, .int x1] (mem L σ α τ β γ) (fun y M2 => EvL sc d me_76 8 [none, none] [.int y] M2 0 0 r)) : EvL sc d me_76 0 [some (.ref 0), some (.int x1)] [] (mem L σ α τ β γ) 0 0 r := e_of (e_ci h) (fun _ _ => rfl)
set_option maxRecDepth 50000 in
theorem q_76_8 {s0 : Int32} (h : r = (some (.int s0), (mem L σ α τ β γ))) : EvL sc d me_76 8 [none, none] [.int s0] (mem L σ α τ β γ) 0 0 r := e_of (e_ret h) (fun _ _ => rfl)
-- 77 DominoParlour.row(I)I
set_option maxRecDepth 50000 in
theorem q_77_0 {x1 : Int32} (h : Cli sc d 3 [.ref 3, .int x1] (mem L σ α τ β γ) (fun y M2 => EvL sc d me_77 11 [none, none] [.int y] M2 0 0 r)) : EvL sc d me_77 0 [some (.ref 0), some (.int x1)] [] (mem L σ α τ β γ) 0 0 r := e_of (e_ci h) (fun _ _ => rfl)
set_option maxRecDepth 50000 in
theorem q_77_11 {s0 : Int32} (h : r = (some (.int s0), (mem L σ α τ β γ))) : EvL sc d me_77 11 [none, none] [.int s0] (mem L σ α τ β γ) 0 0 r := e_of (e_ret h) (fun _ _ => rfl)
-- 78 DominoParlour.turn(II)I
set_option maxRecDepth 50000 in
theorem q_78_0 {x1 : Int32} {x2 : Int32} (h : if x2 = (0 : Int32) then Cli sc d 59 [.ref 5, .int x1] (mem L σ α τ β γ) (fun y M2 => EvL sc d me_78 39 [none, none, none] [.int y] M2 0 0 r) else if x2 = (1 : Int32) then Cli sc d 60 [.ref 5, .int x1] (mem L σ α τ β γ) (fun y M2 => EvL sc d me_78 51 [none, none, none] [.int y] M2 0 0 r) else if x2 = (2 : Int32) then Cli sc d 61 [.ref 5, .int x1] (mem L σ α τ β γ) (fun y M2 => EvL sc d me_78 63 [none, none, none] [.int y] M2 0 0 r) else r = (some (.int (-1 : Int32)), (mem L σ α τ β γ))) : EvL sc d me_78 0 [some (.ref 0), some (.int x1), some (.int x2)] [] (mem L σ α τ β γ) 0 0 r := e_of (e_ite (e_ci) (e_ite (e_ci) (e_ite (e_ci) (e_ret))) h) (fun _ _ => rfl)
set_option maxRecDepth 50000 in
theorem q_78_63 {s0 : Int32} (h : r = (some (.int s0), (mem L σ α τ β γ))) : EvL sc d me_78 63 [none, none, none] [.int s0] (mem L σ α τ β γ) 0 0 r := e_of (e_ret h) (fun _ _ => rfl)
set_option maxRecDepth 50000 in
theorem q_78_51 {s0 : Int32} (h : r = (some (.int s0), (mem L σ α τ β γ))) : EvL sc d me_78 51 [none, none, none] [.int s0] (mem L σ α τ β γ) 0 0 r := e_of (e_ret h) (fun _ _ => rfl)
set_option maxRecDepth 50000 in
theorem q_78_39 {s0 : Int32} (h : r = (some (.int s0), (mem L σ α τ β γ))) : EvL sc d me_78 39 [none, none, none] [.int s0] (mem L σ α τ β γ) 0 0 r := e_of (e_ret h) (fun _ _ => rfl)
-- 79 DominoParlour.deals(I)J
set_option maxRecDepth 50000 in
theorem q_79_0 {x1 : Int32} (h : Cli sc d 85 [.ref 0, .int x1] (mem L σ α τ β γ) (fun y M2 => EvL sc d me_79 5 [some (.ref 0), some (.int x1)] [.int y] M2 0 0 r)) : EvL sc d me_79 0 [some (.ref 0), some (.int x1)] [] (mem L σ α τ β γ) 0 0 r := e_of (e_ci h) (fun _ _ => rfl)
set_option maxRecDepth 50000 in
theorem q_79_5 {x1 : Int32} {s0 : Int32} (h : if s0 = 0 then r = (some (.long (-1 : Int64)), (mem L σ α τ β γ)) else Cll sc d 41 [.ref 15, .int x1] (mem L σ α τ β γ) (fun y M2 => EvL sc d me_79 16 [none, none] [.long y] M2 0 0 r)) : EvL sc d me_79 5 [some (.ref 0), some (.int x1)] [.int s0] (mem L σ α τ β γ) 0 0 r := e_of (e_ite (e_ret) (e_cl) h) (fun _ _ => rfl)
set_option maxRecDepth 50000 in
theorem q_79_16 {s0 : Int64} (h : r = (some (.long s0), (mem L σ α τ β γ))) : EvL sc d me_79 16 [none, none] [.long s0] (mem L σ α τ β γ) 0 0 r := e_of (e_ret h) (fun _ _ => rfl)
-- 80 DominoParlour.chance(III)J
set_option maxRecDepth 50000 in
theorem q_80_0 {x1 : Int32} {x2 : Int32} {x3 : Int32} (h : Cli sc d 20 [.ref 1, .int x2] (mem L σ α τ β γ) (fun y M2 => EvL sc d me_80 8 [some (.ref 0), some (.int x1), some (.int x2), some (.int x3), none, none] [.int y] M2 0 0 r)) : EvL sc d me_80 0 [some (.ref 0), some (.int x1), some (.int x2), some (.int x3), none, none] [] (mem L σ α τ β γ) 0 0 r := e_of (e_ci h) (fun _ _ => rfl)
set_option maxRecDepth 50000 in
theorem q_80_8 {x1 : Int32} {x2 : Int32} {x3 : Int32} {s0 : Int32} (h : Cli sc d 14 [.ref 1, .int x3] (mem L σ α τ β γ) (fun y M2 => EvL sc d me_80 18 [some (.ref 0), some (.int x1), some (.int x2), some (.int x3), some (.int s0), none] [.int y] M2 0 0 r)) : EvL sc d me_80 8 [some (.ref 0), some (.int x1), some (.int x2), some (.int x3), none, none] [.int s0] (mem L σ α τ β γ) 0 0 r := e_of (e_ci h) (fun _ _ => rfl)
set_option maxRecDepth 50000 in
theorem q_80_18 {x1 : Int32} {x2 : Int32} {x3 : Int32} {x4 : Int32} {s0 : Int32} (h : if s0 = 0 then if x3 = (10 : Int32) then Cli sc d 85 [.ref 0, .int x1] (mem L σ α τ β γ) (fun y M2 => EvL sc d me_80 45 [some (.ref 0), some (.int x1), some (.int x2), some (.int x3), some (.int x4), some (.int (1 : Int32))] [.int y] M2 0 0 r) else if x3 = (11 : Int32) then Cli sc d 85 [.ref 0, .int x1] (mem L σ α τ β γ) (fun y M2 => EvL sc d me_80 45 [some (.ref 0), some (.int x1), some (.int x2), some (.int x3), some (.int x4), some (.int (1 : Int32))] [.int y] M2 0 0 r) else Cli sc d 85 [.ref 0, .int x1] (mem L σ α τ β γ) (fun y M2 => EvL sc d me_80 45 [some (.ref 0), some (.int x1), some (.int x2), some (.int x3), some (.int x4), some (.int (0 : Int32))] [.int y] M2 0 0 r) else Cli sc d 85 [.ref 0, .int x1] (mem L σ α τ β γ) (fun y M2 => EvL sc d me_80 45 [some (.ref 0), some (.int x1), some (.int x2), some (.int x3), some (.int x4), some (.int (1 : Int32))] [.int y] M2 0 0 r)) : EvL sc d me_80 18 [some (.ref 0), some (.int x1), some (.int x2), some (.int x3), some (.int x4), none] [.int s0] (mem L σ α τ β γ) 0 0 r := e_of (e_ite (e_ite (e_ci) (e_ite (e_ci) (e_ci))) (e_ci) h) (fun _ _ => rfl)
set_option maxRecDepth 50000 in
theorem q_80_45 {x1 : Int32} {x2 : Int32} {x3 : Int32} {x4 : Int32} {x5 : Int32} {s0 : Int32} (h : if s0 = 0 then r = (some (.long (-1 : Int64)), (mem L σ α τ β γ)) else if x4 = (-1 : Int32) then r = (some (.long (-1 : Int64)), (mem L σ α τ β γ)) else if x5 = 0 then r = (some (.long (-1 : Int64)), (mem L σ α τ β γ)) else if x4 = x1 then if x4 = x3 then Cll sc d 41 [.ref 15, .int x1] (mem L σ α τ β γ) (fun y M2 => EvL sc d me_80 90 [none, none, none, none, none, none] [.long y] M2 0 0 r) else r = (some (.long (0 : Int64)), (mem L σ α τ β γ)) else if x4 = (11 : Int32) then if x4 = x3 then Cll sc d 41 [.ref 15, .int x1] (mem L σ α τ β γ) (fun y M2 => EvL sc d me_80 90 [none, none, none, none, none, none] [.long y] M2 0 0 r) else r = (some (.long (0 : Int64)), (mem L σ α τ β γ)) else if x3 = x1 then r = (some (.long (0 : Int64)), (mem L σ α τ β γ)) else if x3 = (11 : Int32) then r = (some (.long (0 : Int64)), (mem L σ α τ β γ)) else Cll sc d 43 [.ref 15, .int x1, .int x2, .int x3] (mem L σ α τ β γ) (fun y M2 => EvL sc d me_80 118 [none, none, none, none, none, none] [.long y] M2 0 0 r)) : EvL sc d me_80 45 [some (.ref 0), some (.int x1), some (.int x2), some (.int x3), some (.int x4), some (.int x5)] [.int s0] (mem L σ α τ β γ) 0 0 r := e_of (e_ite (e_ret) (e_ite (e_ret) (e_ite (e_ret) (e_ite (e_ite (e_cl) (e_ret)) (e_ite (e_ite (e_cl) (e_ret)) (e_ite (e_ret) (e_ite (e_ret) (e_cl))))))) h) (fun _ _ => rfl)
set_option maxRecDepth 50000 in
theorem q_80_90 {s0 : Int64} (h : r = (some (.long s0), (mem L σ α τ β γ))) : EvL sc d me_80 90 [none, none, none, none, none, none] [.long s0] (mem L σ α τ β γ) 0 0 r := e_of (e_ret h) (fun _ _ => rfl)
set_option maxRecDepth 50000 in
theorem q_80_118 {s0 : Int64} (h : r = (some (.long s0), (mem L σ α τ β γ))) : EvL sc d me_80 118 [none, none, none, none, none, none] [.long s0] (mem L σ α τ β γ) 0 0 r := e_of (e_ret h) (fun _ _ => rfl)
-- 81 DominoParlour.held(II)J
set_option maxRecDepth 50000 in
theorem q_81_0 {x1 : Int32} {x2 : Int32} (h : Cli sc d 30 [.ref 1, .int x1, .int x2] (mem L σ α τ β γ) (fun y M2 => EvL sc d me_81 9 [some (.ref 0), some (.int x1), some (.int x2)] [.int y] M2 0 0 r)) : EvL sc d me_81 0 [some (.ref 0), some (.int x1), some (.int x2)] [] (mem L σ α τ β γ) 0 0 r := e_of (e_ci h) (fun _ _ => rfl)
set_option maxRecDepth 50000 in
theorem q_81_9 {x1 : Int32} {x2 : Int32} {s0 : Int32} (h : if s0 = 0 then r = (some (.long (-1 : Int64)), (mem L σ α τ β γ)) else Cll sc d 89 [.ref 0, .int x1, .int x2] (mem L σ α τ β γ) (fun y M2 => EvL sc d me_81 18 [none, none, none] [.long y] M2 0 0 r)) : EvL sc d me_81 9 [some (.ref 0), some (.int x1), some (.int x2)] [.int s0] (mem L σ α τ β γ) 0 0 r := e_of (e_ite (e_ret) (e_cl) h) (fun _ _ => rfl)
set_option maxRecDepth 50000 in
theorem q_81_18 {s0 : Int64} (h : r = (some (.long s0), (mem L σ α τ β γ))) : EvL sc d me_81 18 [none, none, none] [.long s0] (mem L σ α τ β γ) 0 0 r := e_of (e_ret h) (fun _ _ => rfl)
-- 82 DominoParlour.safest()I
set_option maxRecDepth 50000 in
theorem q_82_0 (h : Cli sc d 31 [.ref 1, .int (0 : Int32)] (mem L σ α τ β γ) (fun y M2 => EvL sc d me_82 14 [some (.ref 0), some (.int (-1 : Int32)), some (.long (-1 : Int64)), none, none, none, none, none, none] [.int y] M2 0 0 r)) : EvL sc d me_82 0 [some (.ref 0), none, none, none, none, none, none, none, none] [] (mem L σ α τ β γ) 0 0 r := e_of (e_ci h) (fun _ _ => rfl)
set_option maxRecDepth 50000 in
theorem q_82_14 {x1 : Int32} {x2 : Int64} {s0 : Int32} (h : Cli sc d 31 [.ref 1, .int (1 : Int32)] (mem L σ α τ β γ) (fun y M2 => EvL sc d me_82 24 [some (.ref 0), some (.int x1), some (.long x2), none, some (.int s0), none, none, none, none] [.int y] M2 0 0 r)) : EvL sc d me_82 14 [some (.ref 0), some (.int x1), some (.long x2), none, none, none, none, none, none] [.int s0] (mem L σ α τ β γ) 0 0 r := e_of (e_ci h) (fun _ _ => rfl)
set_option maxRecDepth 50000 in
theorem q_82_24 {x1 : Int32} {x2 : Int64} {x4 : Int32} {s0 : Int32} (h : EvL sc d me_82 29 [some (.ref 0), some (.int x1), some (.long x2), none, some (.int x4), some (.int s0), some (.int (0 : Int32)), none, none] [] (mem L σ α τ β γ) 0 0 r) : EvL sc d me_82 24 [some (.ref 0), some (.int x1), some (.long x2), none, some (.int x4), none, none, none, none] [.int s0] (mem L σ α τ β γ) 0 0 r := e_of (e_loop h) (fun _ _ => rfl)
set_option maxRecDepth 50000 in
theorem q_82_29 {x1 : Int32} {x2 : Int64} {x4 : Int32} {x5 : Int32} {x6 : Int32} (h : if x6 < ((2 : Int32) * (σ 3)) then Cli sc d 94 [.int x6, .int x4, .int x5] (mem L σ α τ β γ) (fun y M2 => EvL sc d me_82 52 [some (.ref 0), some (.int x1), some (.long x2), none, some (.int x4), some (.int x5), some (.int x6), none, none] [.int y] M2 0 0 r) else r = (some (.int x1), (mem L σ α τ β γ))) : EvL sc d me_82 29 [some (.ref 0), some (.int x1), some (.long x2), none, some (.int x4), some (.int x5), some (.int x6), none, none] [] (mem L σ α τ β γ) 0 0 r := e_of (e_ite (e_ci) (e_ret) h) (fun _ _ => rfl)
set_option maxRecDepth 50000 in
theorem q_82_52 {x1 : Int32} {x2 : Int64} {x4 : Int32} {x5 : Int32} {x6 : Int32} {s0 : Int32} (h : if s0 = 0 then EvL sc d me_82 29 [some (.ref 0), some (.int x1), some (.long x2), none, some (.int x4), some (.int x5), some (.int (x6 + (1 : Int32))), none, none] [] (mem L σ α τ β γ) 0 0 r else Cll sc d 89 [.ref 0, .int (x6 >>> ((1 : Int32) &&& 31)), .int (x6 &&& (1 : Int32))] (mem L σ α τ β γ) (fun y M2 => EvL sc d me_82 67 [some (.ref 0), some (.int x1), some (.long x2), none, some (.int x4), some (.int x5), some (.int x6), none, none] [.long y] M2 0 0 r)) : EvL sc d me_82 52 [some (.ref 0), some (.int x1), some (.long x2), none, some (.int x4), some (.int x5), some (.int x6), none, none] [.int s0] (mem L σ α τ β γ) 0 0 r := e_of (e_ite (e_loop) (e_cl) h) (fun _ _ => rfl)
set_option maxRecDepth 50000 in
theorem q_82_67 {x1 : Int32} {x2 : Int64} {x4 : Int32} {x5 : Int32} {x6 : Int32} {s0 : Int64} (h : if 0 < (lg_cmp s0 x2) then EvL sc d me_82 29 [some (.ref 0), some (.int x6), some (.long s0), none, some (.int x4), some (.int x5), some (.int (x6 + (1 : Int32))), none, none] [] (mem L σ α τ β γ) 0 0 r else EvL sc d me_82 29 [some (.ref 0), some (.int x1), some (.long x2), none, some (.int x4), some (.int x5), some (.int (x6 + (1 : Int32))), none, none] [] (mem L σ α τ β γ) 0 0 r) : EvL sc d me_82 67 [some (.ref 0), some (.int x1), some (.long x2), none, some (.int x4), some (.int x5), some (.int x6), none, none] [.long s0] (mem L σ α τ β γ) 0 0 r := e_of (e_ite (e_loop) (e_loop) h) (fun _ _ => rfl)
-- 83 DominoParlour.look(II)I
set_option maxRecDepth 50000 in
theorem q_83_0 {x1 : Int32} {x2 : Int32} (h : if (σ 4) = (2 : Int32) then if x1 < (1 : Int32) then r = (some (.int (-100000 : Int32)), (mem L σ α τ β γ)) else if (4 : Int32) < x1 then r = (some (.int (-100000 : Int32)), (mem L σ α τ β γ)) else if x2 < 0 then r = (some (.int (-100000 : Int32)), (mem L σ α τ β γ)) else if (2 : Int32) < x2 then r = (some (.int (-100000 : Int32)), (mem L σ α τ β γ)) else Cli sc d 10 [.ref 20, .int x1] (mem L σ α τ β γ) (fun y M2 => EvL sc d me_83 41 [some (.ref 0), none, some (.int x2), none] [.int y] M2 0 0 r) else r = (some (.int (-100000 : Int32)), (mem L σ α τ β γ))) : EvL sc d me_83 0 [some (.ref 0), some (.int x1), some (.int x2), none] [] (mem L σ α τ β γ) 0 0 r := e_of (e_ite (e_ite (e_ret) (e_ite (e_ret) (e_ite (e_ret) (e_ite (e_ret) (e_ci))))) (e_ret) h) (fun _ _ => rfl)
set_option maxRecDepth 50000 in
theorem q_83_41 {x2 : Int32} {s0 : Int32} (h : if x2 = 0 then r = (some (.int s0), (mem L σ α τ β γ)) else if x2 = (1 : Int32) then r = (some (.int (σ 15)), (mem L σ α τ β γ)) else r = (some (.int (σ 14)), (mem L σ α τ β γ))) : EvL sc d me_83 41 [some (.ref 0), none, some (.int x2), none] [.int s0] (mem L σ α τ β γ) 0 0 r := e_of (e_ite (e_ret) (e_ite (e_ret) (e_ret)) h) (fun _ _ => rfl)
-- 84 DominoParlour.judge()I
set_option maxRecDepth 50000 in
theorem q_84_0 (h : if (σ 4) = (3 : Int32) then Cli sc d 64 [.ref 5] (mem L σ α τ β γ) (fun y M2 => EvL sc d me_84 21 [none] [.int y] M2 0 0 r) else r = (some (.int (-1 : Int32)), (mem L σ α τ β γ))) : EvL sc d me_84 0 [some (.ref 0)] [] (mem L σ α τ β γ) 0 0 r := e_of (e_ite (e_ci) (e_ret) h) (fun _ _ => rfl)
set_option maxRecDepth 50000 in
theorem q_84_21 {s0 : Int32} (h : r = (some (.int s0), (mem L σ α τ β γ))) : EvL sc d me_84 21 [none] [.int s0] (mem L σ α τ β γ) 0 0 r := e_of (e_ret h) (fun _ _ => rfl)
-- 85 DominoParlour.isShown(I)Z
set_option maxRecDepth 50000 in
theorem q_85_0 {x1 : Int32} (h : if (σ 4) = (2 : Int32) then Cli sc d 14 [.ref 1, .int x1] (mem L σ α τ β γ) (fun y M2 => EvL sc d me_85 30 [none, none] [.int y] M2 0 0 r) else if (σ 4) = (3 : Int32) then Cli sc d 14 [.ref 1, .int x1] (mem L σ α τ β γ) (fun y M2 => EvL sc d me_85 30 [none, none] [.int y] M2 0 0 r) else r = (some (.int (0 : Int32)), (mem L σ α τ β γ))) : EvL sc d me_85 0 [some (.ref 0), some (.int x1)] [] (mem L σ α τ β γ) 0 0 r := e_of (e_ite (e_ci) (e_ite (e_ci) (e_ret)) h) (fun _ _ => rfl)
set_option maxRecDepth 50000 in
theorem q_85_30 {s0 : Int32} (h : if s0 = 0 then r = (some (.int (0 : Int32)), (mem L σ α τ β γ)) else r = (some (.int (1 : Int32)), (mem L σ α τ β γ))) : EvL sc d me_85 30 [none, none] [.int s0] (mem L σ α τ β γ) 0 0 r := e_of (e_ite (e_ret) (e_ret) h) (fun _ _ => rfl)
-- 86 DominoParlour.winner()I
set_option maxRecDepth 50000 in
theorem q_86_0 (h : EvL sc d me_86 2 [some (.ref 0), some (.int (0 : Int32))] [] (mem L σ α τ β γ) 0 0 r) : EvL sc d me_86 0 [some (.ref 0), none] [] (mem L σ α τ β γ) 0 0 r := e_of (e_loop h) (fun _ _ => rfl)
set_option maxRecDepth 50000 in
theorem q_86_2 {x1 : Int32} (h : if x1 < (Int32.ofNat (L 2)) then if x1 < 0 ∨ (L 2) ≤ x1.toNatClampNeg then False else if ((α 13) x1.toNatClampNeg) < (σ 0) then EvL sc d me_86 2 [some (.ref 0), some (.int (x1 + (1 : Int32)))] [] (mem L σ α τ β γ) 0 0 r else r = (some (.int x1), (mem L σ α τ β γ)) else r = (some (.int (-1 : Int32)), (mem L σ α τ β γ))) : EvL sc d me_86 2 [some (.ref 0), some (.int x1)] [] (mem L σ α τ β γ) 0 0 r := e_of (e_ite (e_ite (e_no) (e_ite (e_loop) (e_ret))) (e_ret) h) (fun _ _ => rfl)
-- 87 DominoParlour.scoreIfOver()I
set_option maxRecDepth 50000 in
theorem q_87_0 (h : if (σ 4) = (3 : Int32) then Clv sc d 88 [.ref 0, .int (σ 8), .int (σ 9)] (mem L σ α τ β γ) (fun M2 => EvL sc d me_87 31 [none] [] M2 0 0 r) else r = (some (.int (0 : Int32)), (mem L σ α τ β γ))) : EvL sc d me_87 0 [some (.ref 0)] [] (mem L σ α τ β γ) 0 0 r := e_of (e_ite (e_cv) (e_ret) h) (fun _ _ => rfl)
set_option maxRecDepth 50000 in
theorem q_87_31 (h : r = (some (.int (1 : Int32)), (mem L σ α τ β γ))) : EvL sc d me_87 31 [none] [] (mem L σ α τ β γ) 0 0 r := e_of (e_ret h) (fun _ _ => rfl)
-- 88 DominoParlour.addToScore(II)V
set_option maxRecDepth 50000 in
theorem q_88_0 {x1 : Int32} {x2 : Int32} (h : if x1 < 0 then r = (none, (mem L σ α τ β γ)) else if x1 < (Int32.ofNat (L 2)) then if x1 < 0 ∨ (L 2) ≤ x1.toNatClampNeg then False else if x1 < 0 ∨ (L 2) ≤ x1.toNatClampNeg then False else r = (none, (mem L σ (va_up α 13 (upd (α 13) x1.toNatClampNeg (((α 13) x1.toNatClampNeg) + x2))) τ β γ)) else r = (none, (mem L σ α τ β γ))) : EvL sc d me_88 0 [some (.ref 0), some (.int x1), some (.int x2)] [] (mem L σ α τ β γ) 0 0 r := e_of (e_ite (e_ret) (e_ite (e_ite (e_no) (e_ite (e_no) (e_ret))) (e_ret)) h) (fun _ _ => rfl)
-- 89 DominoParlour.dealsBlocking(II)J
set_option maxRecDepth 50000 in
theorem q_89_0 {x1 : Int32} {x2 : Int32} (h : Clv sc d 32 [.ref 1, .int x1, .int x2] (mem L σ α τ β γ) (fun M2 => EvL sc d me_89 17 [some (.ref 0), none, none, some (.int (σ 7)), none] [] M2 0 0 r)) : EvL sc d me_89 0 [some (.ref 0), some (.int x1), some (.int x2), none, none] [] (mem L σ α τ β γ) 0 0 r := e_of (e_cv h) (fun _ _ => rfl)
set_option maxRecDepth 50000 in
theorem q_89_17 {x3 : Int32} (h : Cli sc d 29 [.ref 1] (mem L σ α τ β γ) (fun y M2 => EvL sc d me_89 24 [some (.ref 0), none, none, some (.int x3), none] [.int y] M2 0 0 r)) : EvL sc d me_89 17 [some (.ref 0), none, none, some (.int x3), none] [] (mem L σ α τ β γ) 0 0 r := e_of (e_ci h) (fun _ _ => rfl)
set_option maxRecDepth 50000 in
theorem q_89_24 {x3 : Int32} {s0 : Int32} (h : Cli sc d 34 [.ref 1] (mem L σ α τ β γ) (fun y M2 => EvL sc d me_89 33 [some (.ref 0), none, none, some (.int x3), some (.int s0)] [.int y] M2 0 0 r)) : EvL sc d me_89 24 [some (.ref 0), none, none, some (.int x3), none] [.int s0] (mem L σ α τ β γ) 0 0 r := e_of (e_ci h) (fun _ _ => rfl)
set_option maxRecDepth 50000 in
theorem q_89_33 {x3 : Int32} {x4 : Int32} {s0 : Int32} (h : Cli sc d 15 [.ref 1, .int x3] (mem L σ α τ β γ) (fun y M2 => EvL sc d me_89 47 [none, none, none, none, some (.int x4)] [.int y, .int x3, .ref 15] M2 0 0 r)) : EvL sc d me_89 33 [some (.ref 0), none, none, some (.int x3), some (.int x4)] [.int s0] (mem L σ α τ β γ) 0 0 r := e_of (e_ci h) (fun _ _ => rfl)
set_option maxRecDepth 50000 in
theorem q_89_47 {x4 : Int32} {s0 : Int32} {s1 : Int32} (h : Cll sc d 42 [.ref 15, .int s1, .int s0, .int x4] (mem L σ α τ β γ) (fun y M2 => EvL sc d me_89 52 [none, none, none, none, none] [.long y] M2 0 0 r)) : EvL sc d me_89 47 [none, none, none, none, some (.int x4)] [.int s0, .int s1, .ref 15] (mem L σ α τ β γ) 0 0 r := e_of (e_cl h) (fun _ _ => rfl)
set_option maxRecDepth 50000 in
theorem q_89_52 {s0 : Int64} (h : r = (some (.long s0), (mem L σ α τ β γ))) : EvL sc d me_89 52 [none, none, none, none, none] [.long s0] (mem L σ α τ β γ) 0 0 r := e_of (e_ret h) (fun _ _ => rfl)
-- 90 DominoParlour.lowOf(I)I
set_option maxRecDepth 50000 in
theorem q_90_0 {M : dk_M} {x0 : Int32} (h : if x0 < 0 then r = (some (.int (-1 : Int32)), M) else if x0 < (Int32.ofNat 28) then if x0 < 0 ∨ 28 ≤ x0.toNatClampNeg then False else r = (some (.int (dk_low x0.toNatClampNeg)), M) else r = (some (.int (-1 : Int32)), M)) : EvL sc d me_90 0 [some (.int x0)] [] M 0 0 r := e_of (e_ite (e_ret) (e_ite (e_ite (e_no) (e_ret)) (e_ret)) h) (fun _ _ => rfl)
-- 91 DominoParlour.highOf(I)I
set_option maxRecDepth 50000 in
theorem q_91_0 {M : dk_M} {x0 : Int32} (h : if x0 < 0 then r = (some (.int (-1 : Int32)), M) else if x0 < (Int32.ofNat 28) then if x0 < 0 ∨ 28 ≤ x0.toNatClampNeg then False else r = (some (.int (dk_high x0.toNatClampNeg)), M) else r = (some (.int (-1 : Int32)), M)) : EvL sc d me_91 0 [some (.int x0)] [] M 0 0 r := e_of (e_ite (e_ret) (e_ite (e_ite (e_no) (e_ret)) (e_ret)) h) (fun _ _ => rfl)
-- 92 DominoParlour.isIn(II)Z
set_option maxRecDepth 50000 in
theorem q_92_0 {M : dk_M} {x0 : Int32} {x1 : Int32} (h : if x1 < 0 then r = (some (.int (0 : Int32)), M) else if x1 < (28 : Int32) then if (x0 &&& ((1 : Int32) <<< (x1 &&& 31))) = 0 then r = (some (.int (0 : Int32)), M) else r = (some (.int (1 : Int32)), M) else r = (some (.int (0 : Int32)), M)) : EvL sc d me_92 0 [some (.int x0), some (.int x1)] [] M 0 0 r := e_of (e_ite (e_ret) (e_ite (e_ite (e_ret) (e_ret)) (e_ret)) h) (fun _ _ => rfl)
-- 93 DominoParlour.boneInOrder(II)I
set_option maxRecDepth 50000 in
theorem q_93_0 {M : dk_M} {x0 : Int32} {x1 : Int32} (h : EvL sc d me_93 4 [some (.int x0), some (.int x1), some (.int (0 : Int32)), some (.int (0 : Int32))] [] M 0 0 r) : EvL sc d me_93 0 [some (.int x0), some (.int x1), none, none] [] M 0 0 r := e_of (e_loop h) (fun _ _ => rfl)
set_option maxRecDepth 50000 in
theorem q_93_4 {M : dk_M} {x0 : Int32} {x1 : Int32} {x2 : Int32} {x3 : Int32} (h : if x3 < (28 : Int32) then Cli sc d 92 [.int x0, .int x3] M (fun y M2 => EvL sc d me_93 15 [some (.int x0), some (.int x1), some (.int x2), some (.int x3)] [.int y] M2 0 0 r) else r = (some (.int (-1 : Int32)), M)) : EvL sc d me_93 4 [some (.int x0), some (.int x1), some (.int x2), some (.int x3)] [] M 0 0 r := e_of (e_ite (e_ci) (e_ret) h) (fun _ _ => rfl)
set_option maxRecDepth 50000 in
theorem q_93_15 {M : dk_M} {x0 : Int32} {x1 : Int32} {x2 : Int32} {x3 : Int32} {s0 : Int32} (h : if s0 = 0 then EvL sc d me_93 4 [some (.int x0), some (.int x1), some (.int x2), some (.int (x3 + (1 : Int32)))] [] M 0 0 r else if x2 = x1 then r = (some (.int x3), M) else EvL sc d me_93 4 [some (.int x0), some (.int x1), some (.int (x2 + (1 : Int32))), some (.int (x3 + (1 : Int32)))] [] M 0 0 r) : EvL sc d me_93 15 [some (.int x0), some (.int x1), some (.int x2), some (.int x3)] [.int s0] M 0 0 r := e_of (e_ite (e_loop) (e_ite (e_ret) (e_loop)) h) (fun _ _ => rfl)
-- 94 DominoParlour.isPlay(III)Z
set_option maxRecDepth 50000 in
theorem q_94_0 {M : dk_M} {x0 : Int32} {x1 : Int32} {x2 : Int32} (h : if (x0 &&& (1 : Int32)) = 0 then Cli sc d 92 [.int x1, .int (x0 >>> ((1 : Int32) &&& 31))] M (fun y M2 => EvL sc d me_94 17 [none, none, none] [.int y] M2 0 0 r) else Cli sc d 92 [.int x2, .int (x0 >>> ((1 : Int32) &&& 31))] M (fun y M2 => EvL sc d me_94 17 [none, none, none] [.int y] M2 0 0 r)) : EvL sc d me_94 0 [some (.int x0), some (.int x1), some (.int x2)] [] M 0 0 r := e_of (e_ite (e_ci) (e_ci) h) (fun _ _ => rfl)
set_option maxRecDepth 50000 in
theorem q_94_17 {M : dk_M} {s0 : Int32} (h : if s0 &&& 1 = s0 then r = (some (.int s0), M) else False) : EvL sc d me_94 17 [none, none, none] [.int s0] M 0 0 r := e_of (e_ite (e_ret) (e_no) h) (fun _ _ => rfl)
end QE
