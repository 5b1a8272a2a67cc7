/-! the beginning: both objects are made -/
def c14 (L : Nat → Nat) (σ : Nat → Int32) (α : Nat → Nat → Int32) : dk_M := [.inr (5, [.int (σ 0), .null, .null, .null, .null, .int (σ 1)]), .inr (2, [.int (σ 2), .int (σ 3), .ref 11, .ref 12, .ref 2, .ref 13, .ref 3, .ref 5, .int (σ 4), .int (σ 5), .int (σ 6), .int (σ 7), .int (σ 8), .int (σ 9)]), .inl (0, 7, .inl (α 2)), .inr (0, [.ref 4, .int (σ 10), .int (σ 11)]), .inl (0, 56, .inl (α 4)), .inr (4, [.ref 6, .ref 7, .ref 8, .ref 9, .ref 10, .int (σ 12)]), .inl (0, 140, .inl (α 6)), .inl (0, 140, .inl (α 7)), .inl (0, 140, .inl (α 8)), .inl (0, 140, .inl (α 9)), .inl (2, 140, .inl (α 10)), .inl (0, (L 0), .inl (α 11)), .inl (0, (L 3), .inl (α 5)), .inl (0, (L 1), .inl (α 12))]
def c18 (L : Nat → Nat) (σ : Nat → Int32) (α : Nat → Nat → Int32) : dk_M := [.inr (5, [.int (σ 0), .ref 14, .ref 1, .null, .null, .int (σ 1)]), .inr (2, [.int (σ 2), .int (σ 3), .ref 11, .ref 12, .ref 2, .ref 13, .ref 3, .ref 5, .int (σ 4), .int (σ 5), .int (σ 6), .int (σ 7), .int (σ 8), .int (σ 9)]), .inl (0, 7, .inl (α 2)), .inr (0, [.ref 4, .int (σ 10), .int (σ 11)]), .inl (0, 56, .inl (α 4)), .inr (4, [.ref 6, .ref 7, .ref 8, .ref 9, .ref 10, .int (σ 12)]), .inl (0, 140, .inl (α 6)), .inl (0, 140, .inl (α 7)), .inl (0, 140, .inl (α 8)), .inl (0, 140, .inl (α 9)), .inl (2, 140, .inl (α 10)), .inl (0, (L 0), .inl (α 11)), .inl (0, (L 3), .inl (α 5)), .inl (0, (L 1), .inl (α 12)), .inl (0, (L 2), .inl (α 13)), .inr (3, [.ref 1, .ref 16, .ref 17, .ref 18, .ref 19]), .inl (0, 435, .inl (α 15)), .inl (0, 3, .inl (α 16)), .inl (0, 3, .inl (α 17)), .inl (0, 8, .inl (α 18))]
def c28 (L : Nat → Nat) (σ : Nat → Int32) (α : Nat → Nat → Int32) : dk_M := [.inr (5, [.int (σ 0), .ref 14, .ref 1, .ref 15, .ref 20, .int (σ 1)]), .inr (2, [.int (σ 2), .int (σ 3), .ref 11, .ref 12, .ref 2, .ref 13, .ref 3, .ref 5, .int (σ 4), .int (σ 5), .int (σ 6), .int (σ 7), .int (σ 8), .int (σ 9)]), .inl (0, 7, .inl (α 2)), .inr (0, [.ref 4, .int (σ 10), .int (σ 11)]), .inl (0, 56, .inl (α 4)), .inr (4, [.ref 6, .ref 7, .ref 8, .ref 9, .ref 10, .int (σ 12)]), .inl (0, 140, .inl (α 6)), .inl (0, 140, .inl (α 7)), .inl (0, 140, .inl (α 8)), .inl (0, 140, .inl (α 9)), .inl (2, 140, .inl (α 10)), .inl (0, (L 0), .inl (α 11)), .inl (0, (L 3), .inl (α 5)), .inl (0, (L 1), .inl (α 12)), .inl (0, (L 2), .inl (α 13)), .inr (3, [.ref 1, .ref 16, .ref 17, .ref 18, .ref 19]), .inl (0, 435, .inl (α 15)), .inl (0, 3, .inl (α 16)), .inl (0, 3, .inl (α 17)), .inl (0, 8, .inl (α 18)), .inr (1, [.ref 1, .int (σ 13), .int (σ 14), .int (σ 15)])]
/-- a number held between two bounds -/
def clp (x a b : Int32) : Int32 := if a < (if x < b then x else b) then (if x < b then x else b) else a
theorem clp_ok (x : Int32) {a b : Nat} (hab : a ≤ b) (hb : b < 2 ^ 31) : ∃ n, a ≤ n ∧ n ≤ b ∧ clp x (nI a) (nI b) = nI n := by
  unfold clp
  by_cases c : x < nI b
  · rw [if_pos c]
    by_cases c2 : nI a < x
    · rw [if_pos c2]
      rcases any_nI x with q | ⟨n, hn, rfl⟩
      · exfalso
        have : ¬ nI a < 0 := nI_pos (by omega)
        rw [Int32.lt_iff_toInt_lt] at q c2 this
        omega
      · refine ⟨n, ?_, ?_, rfl⟩
        · exact Decidable.byContradiction fun z => nI_nlt (show n ≤ a by omega) (by omega) c2
        · exact Decidable.byContradiction fun z => nI_nlt (show b ≤ n by omega) hn c
    · rw [if_neg c2]; exact ⟨a, Nat.le_refl _, hab, rfl⟩
  · rw [if_neg c]
    by_cases c2 : a < b
    · rw [if_pos (nI_lt c2 hb)]; exact ⟨b, hab, Nat.le_refl _, rfl⟩
    · rw [if_neg (nI_nlt (by omega) (by omega))]; exact ⟨a, Nat.le_refl _, hab, rfl⟩
section CA
variable {sc : Nat × (Nat → Int32)} {d : Nat}
theorem x_read (hn : sc.1 ≤ 2051) {j : Nat} (hj : j < 10) {M : dk_M} : Ev sc (d + 1) 147 [.ref 1002, .int (nI j)] M (some (.int (if j < sc.1 then sc.2 j else 0)), M) := by
  refine e_start rfl rfl rfl (q_147_0 ?_)
  rw [nI_lit]
  by_cases c : j < sc.1
  · rw [if_pos (nI_lt c (by omega)), if_neg (in_nI c (by omega)), cl_nI (by omega), if_pos c]
  · rw [if_neg (nI_nlt (by omega) (by omega)), if_neg c]
/-- which bones bear a pip number: the pips below p are done, of p the bones below b -/
def KB (B p b : Nat) (α : Nat → Nat → Int32) : Prop := ∀ q, q < 7 → ∀ i, i < 32 → bt (α 2 q) i = (decide (q < p ∨ (q = p ∧ i < b)) && (decide (i < B) && hasP i q))
theorem tb_loop {L : Nat → Nat} {σ : Nat → Int32} {α : Nat → Nat → Int32} {B : Nat} (h3 : σ 3 = nI B) (hB : B ≤ 28) : ∀ m p, p + m = 7 → ∀ α1, KB B p 0 α1 → (∀ c, c ≠ 2 → α1 c = α c) → ∃ α', EvL sc (d + 1) me_13 123 [some (.ref 1), none, none, some (.int (nI p)), none] [] (c14 L σ α1) 12 808 (none, c14 L σ α') ∧ KB B 7 0 α' ∧ ∀ c, c ≠ 2 → α' c = α c := by
  intro m
  induction m with
  | zero =>
    intro p hp α1 hK ha
    have ep : p = 7 := by omega
    subst ep
    refine ⟨α1, q_13_123 ?_, hK, ha⟩
    rw [if_neg (show ¬ nI 7 < Int32.ofNat 7 by decide)]
    rfl
  | succ m ih =>
    intro p hp α1 hK ha
    have hp7 : p < 7 := by omega
    have inner : ∀ k b, b + k = B → ∀ α2, KB B p b α2 → (∀ c, c ≠ 2 → α2 c = α c) → ∃ α', EvL sc (d + 1) me_13 135 [some (.ref 1), none, none, some (.int (nI p)), some (.int (nI b))] [] (c14 L σ α2) 12 808 (none, c14 L σ α') ∧ KB B 7 0 α' ∧ ∀ c, c ≠ 2 → α' c = α c := by
      intro k
      induction k with
      | zero =>
        intro b hb α2 hK2 ha2
        obtain ⟨α', hE, r⟩ := ih (p + 1) (by omega) α2 (fun q hq i hi => by
          rw [hK2 q hq i hi]
          by_cases c : i < B
          · rw [decide_eq_true c, Bool.true_and, show decide (q < p ∨ q = p ∧ i < b) = decide (q < p + 1 ∨ q = p + 1 ∧ i < 0) from decide_eq_decide.mpr (by omega)]
          · rw [decide_eq_false c, Bool.false_and, Bool.and_false, Bool.and_false]) ha2
        refine ⟨α', q_13_135 ?_, r⟩
        rw [if_neg (show ¬ nI b < σ 3 by rw [h3]; exact nI_nlt (by omega) (by omega)), nI_1]
        exact hE
      | succ k ihk =>
        intro b hb α2 hK2 ha2
        have hb28 : b < 28 := by omega
        have el : dk_low b = nI (lo b) := lo_ok b hb28
        have eh : dk_high b = nI (hi b) := hi_ok b hb28
        have l6 := lo_le b hb28
        have q1 : nI (lo b) = nI p ↔ lo b = p := nI_eq (by omega) (by omega)
        have q2 : nI (hi b) = nI p ↔ hi b = p := nI_eq (by omega) (by omega)
        have yes : hasP b p = true → ∃ α', EvL sc (d + 1) me_13 135 [some (.ref 1), none, none, some (.int (nI p)), some (.int (nI b + 1))] [] (c14 L σ (va_up α2 2 (upd (α2 2) p (α2 2 p ||| ((1 : Int32) <<< (nI b &&& 31)))))) 12 808 (none, c14 L σ α') ∧ KB B 7 0 α' ∧ ∀ c, c ≠ 2 → α' c = α c := by
          intro hh
          rw [nI_1]
          refine ihk (b + 1) (by omega) _ (fun q hq i hi => ?_) (fun c hc => by simp only [va_up, if_neg hc]; exact ha2 c hc)
          simp only [va_up, if_true, upd]
          by_cases e : q = p
          · rw [if_pos e, e, b_put (by omega) hi, hK2 p hp7 i hi]
            by_cases e2 : i = b
            · rw [e2, hh, decide_eq_true (show b < B by omega), decide_eq_true (show b = b from rfl), decide_eq_true (show p < p ∨ p = p ∧ b < b + 1 from Or.inr ⟨rfl, by omega⟩)]; simp
            · rw [decide_eq_false e2, Bool.or_false, show decide (p < p ∨ p = p ∧ i < b) = decide (p < p ∨ p = p ∧ i < b + 1) from decide_eq_decide.mpr (by omega)]
          · rw [if_neg e, hK2 q hq i hi, show decide (q < p ∨ q = p ∧ i < b) = decide (q < p ∨ q = p ∧ i < b + 1) from decide_eq_decide.mpr (by omega)]
        have no : hasP b p = false → ∃ α', EvL sc (d + 1) me_13 135 [some (.ref 1), none, none, some (.int (nI p)), some (.int (nI b + 1))] [] (c14 L σ α2) 12 808 (none, c14 L σ α') ∧ KB B 7 0 α' ∧ ∀ c, c ≠ 2 → α' c = α c := by
          intro hh
          rw [nI_1]
          refine ihk (b + 1) (by omega) α2 (fun q hq i hi => ?_) ha2
          rw [hK2 q hq i hi]
          by_cases e : q = p ∧ i = b
          · rw [e.1, e.2, hh, Bool.and_false, Bool.and_false, Bool.and_false]
          · rw [show decide (q < p ∨ q = p ∧ i < b) = decide (q < p ∨ q = p ∧ i < b + 1) from decide_eq_decide.mpr (by omega)]
        have top : ∀ r, EvL sc (d + 1) me_13 156 [some (.ref 1), none, none, some (.int (nI p)), some (.int (nI b))] [.int (nI (lo b))] (c14 L σ α2) 12 808 r → EvL sc (d + 1) me_13 135 [some (.ref 1), none, none, some (.int (nI p)), some (.int (nI b))] [] (c14 L σ α2) 12 808 r := by
          intro r H
          refine q_13_135 ?_
          rw [if_pos (show nI b < σ 3 by rw [h3]; exact nI_lt (by omega) (by omega)), if_pos (show nI b < 28 from nI_lt (b := 28) hb28 (by decide))]
          refine cli (x_low hb28) ?_
          rw [el]
          exact H
        by_cases c1 : lo b = p
        · obtain ⟨α', hE, r⟩ := yes (by simp [hasP, c1])
          refine ⟨α', top _ (q_13_156 ?_), r⟩
          rw [if_pos (q1.mpr c1), if_neg (in_nI hp7 (by decide)), if_neg (in_nI hp7 (by decide)), cl_nI (by omega)]
          exact hE
        · have top2 : ∀ r, EvL sc (d + 1) me_13 165 [some (.ref 1), none, none, some (.int (nI p)), some (.int (nI b))] [.int (nI (hi b))] (c14 L σ α2) 12 808 r → EvL sc (d + 1) me_13 135 [some (.ref 1), none, none, some (.int (nI p)), some (.int (nI b))] [] (c14 L σ α2) 12 808 r := by
            intro r H
            refine top r (q_13_156 ?_)
            rw [if_neg (fun z => c1 (q1.mp z))]
            refine cli (x_high hb28) ?_
            rw [eh]
            exact H
          by_cases c2 : hi b = p
          · obtain ⟨α', hE, r⟩ := yes (by simp [hasP, c2])
            refine ⟨α', top2 _ (q_13_165 ?_), r⟩
            rw [if_pos (q2.mpr c2), if_neg (in_nI hp7 (by decide)), if_neg (in_nI hp7 (by decide)), cl_nI (by omega)]
            exact hE
          · obtain ⟨α', hE, r⟩ := no (by simp [hasP, c1, c2])
            refine ⟨α', top2 _ (q_13_165 ?_), r⟩
            rw [if_neg (fun z => c2 (q2.mp z))]
            exact hE
    obtain ⟨α', hE, r⟩ := inner B 0 (by omega) α1 hK ha
    refine ⟨α', q_13_123 ?_, r⟩
    rw [if_pos (show nI p < Int32.ofNat 7 from nI_lt (b := 7) hp7 (by decide))]
    exact hE
def iL (S B s : Nat) : Nat → Nat := fun k => if k = 0 then S else if k = 1 then B else s
def iS (t : Int32) (S B : Nat) : Nat → Int32 := fun k => if k = 0 then t else if k = 2 then nI S else if k = 3 then nI B else if k = 7 then -1 else if k = 8 then -1 else if k = 10 then 28 else if k = 13 then -1 else if k = 15 then -1 else 0
theorem x_table {t : Int32} {P S : Nat} (hP : 2 ≤ P ∧ P ≤ 6) (hS : 2 ≤ S ∧ S ≤ 4) : ∃ α', Ev sc (d + 2) 13 [.ref 1, .int (nI P), .int (nI S)] [.inr (5, [.int t, .null, .null, .null, .null, .int 0]), .inr (2, [.int 0, .int 0, .null, .null, .null, .null, .null, .null, .int 0, .int 0, .int 0, .int 0, .int 0, .int 0])] (none, c14 (iL S ((P + 1) * (P + 2) / 2) (sides S)) (iS t S ((P + 1) * (P + 2) / 2)) α') ∧ KB ((P + 1) * (P + 2) / 2) 7 0 α' ∧ ∀ c, c ≠ 2 → α' c = fun _ => 0 := by
  have hB : (P + 1) * (P + 2) / 2 ≤ 28 := by
    have : ∀ p, p ≤ 6 → (p + 1) * (p + 2) / 2 ≤ 28 := by decide
    exact this P hP.2
  have eB : (nI P + 1) * (nI P + 2) / 2 = nI ((P + 1) * (P + 2) / 2) := by
    have : ∀ p, p ≤ 6 → (nI p + 1) * (nI p + 2) / 2 = nI ((p + 1) * (p + 2) / 2) := by decide
    exact this P hP.2
  generalize (P + 1) * (P + 2) / 2 = B at hB eB ⊢
  obtain ⟨α', hE, hK, ha⟩ := tb_loop (sc := sc) (d := d) (L := iL S B (sides S)) (σ := iS t S B) (α := fun _ _ => 0) (B := B) rfl hB 7 0 (by omega) (fun _ _ => 0) (fun q hq i hi => by rw [b_0]; simp) (fun _ _ => rfl)
  refine ⟨α', e_start rfl rfl rfl ?_, hK, ha⟩
  refine q_13_0 (σ := fun k => if k = 0 then t else 0) ?_
  refine clv (e_start rfl rfl rfl (q_0_0 (σ := fun k => if k = 0 then t else 0) (α := fun _ _ => 0) rfl)) ?_
  refine q_13_20 (σ := fun k => if k = 0 then t else if k = 10 then 28 else 0) (α := fun _ _ => 0) ?_
  refine clv (e_start rfl rfl rfl (q_53_0 (σ := fun k => if k = 0 then t else if k = 10 then 28 else 0) (α := fun _ _ => 0) rfl)) ?_
  refine q_13_31 (σ := fun k => if k = 0 then t else if k = 10 then 28 else 0) (α := fun _ _ => 0) ?_
  rw [eB, if_pos (show (0 : Int32) < nI S from nI_lt (a := 0) (by omega) (by omega))]
  refine q_13_88 (σ := iS t S B) (α := fun _ _ => 0) ?_
  have o4 : ¬ (nI S < 0 ∨ 4 < (nI S).toNatClampNeg) := by
    rw [cl_nI (by omega)]; intro z; rcases z with z | z
    · exact nI_pos (by omega) z
    · omega
  rw [if_neg o4, cl_nI (by omega)]
  have hss := sides_le hS
  have e4 : nI S = (4 : Int32) ↔ S = 4 := nI_eq (b := 4) (by omega) (by decide)
  refine cli (x := nI (sides S)) (e_start rfl rfl rfl (q_17c_0 (L := iL S B (sides S)) (σ := iS t S B) (α := fun _ _ => 0) ?_)) (q_13_99 (L := iL S B (sides S)) (σ := iS t S B) (α := fun _ _ => 0) ?_)
  · show if nI S = 4 then _ else _
    by_cases c4 : S = 4
    · rw [if_pos (e4.mpr c4), c4]; rfl
    · rw [if_neg (fun z => c4 (e4.mp z)), show sides S = S by unfold sides; rw [if_neg c4]]; rfl
  rw [if_pos (show (0 : Int32) < nI (sides S) from nI_lt (a := 0) (by omega) (by omega))]
  refine q_13_102 (L := iL S B (sides S)) (σ := iS t S B) (α := fun _ _ => 0) ?_
  have o4' : ¬ (nI (sides S) < 0 ∨ 4 < (nI (sides S)).toNatClampNeg) := by
    rw [cl_nI (by omega)]; intro z; rcases z with z | z
    · exact nI_pos (by omega) z
    · omega
  rw [if_neg o4', cl_nI (by omega)]
  show EvL sc (d + 1) me_13 116 _ [.int (if (0 : Int32) < nI B then nI B else (0 : Int32)), .ref 1] _ 11 780 _
  have eB2 : (if (0 : Int32) < nI B then nI B else (0 : Int32)) = nI B := by
    by_cases z : 0 < B
    · rw [if_pos (show (0 : Int32) < nI B from nI_lt (a := 0) z (by omega))]
    · rw [show B = 0 by omega]; rfl
  rw [eB2]
  refine q_13_116 (L := iL S B (sides S)) (σ := iS t S B) (α := fun _ _ => 0) ?_
  have o28 : ¬ (nI B < 0 ∨ 28 < (nI B).toNatClampNeg) := by
    rw [cl_nI (by omega)]; intro z; rcases z with z | z
    · exact nI_pos (by omega) z
    · omega
  rw [if_neg o28, cl_nI (by omega)]
  exact hE
end CA
