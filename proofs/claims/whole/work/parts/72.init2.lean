/-! the beginning: the tally, the object, the reference, the law -/
def c17 (L : Nat → Nat) (σ : Nat → Int32) (α : Nat → Nat → Int32) : dk_M := [.inr (5, [.int (σ 0), .ref 14, .ref 1, .null, .null, .int (σ 1)]), .inr (2, [.int (σ 2), .int (σ 3), .ref 11, .ref 12, .ref 2, .ref 13, .ref 3, .ref 5, .int (σ 4), .int (σ 5), .int (σ 6), .int (σ 7), .int (σ 8), .int (σ 9)]), .inl (0, 7, .inl (α 2)), .inr (0, [.ref 4, .int (σ 10), .int (σ 11)]), .inl (0, 56, .inl (α 4)), .inr (4, [.ref 6, .ref 7, .ref 8, .ref 9, .ref 10, .int (σ 12)]), .inl (0, 140, .inl (α 6)), .inl (0, 140, .inl (α 7)), .inl (0, 140, .inl (α 8)), .inl (0, 140, .inl (α 9)), .inl (2, 140, .inl (α 10)), .inl (0, (L 0), .inl (α 11)), .inl (0, (L 3), .inl (α 5)), .inl (0, (L 1), .inl (α 12)), .inl (0, (L 2), .inl (α 13)), .inr (3, [.null, .null, .null, .null, .null])]
def c31 (L : Nat → Nat) (σ : Nat → Int32) (α : Nat → Nat → Int32) : dk_M := [.inr (5, [.int (σ 0), .ref 14, .ref 1, .ref 15, .ref 20, .int (σ 1)]), .inr (2, [.int (σ 2), .int (σ 3), .ref 11, .ref 12, .ref 2, .ref 13, .ref 3, .ref 5, .int (σ 4), .int (σ 5), .int (σ 6), .int (σ 7), .int (σ 8), .int (σ 9)]), .inl (0, 7, .inl (α 2)), .inr (0, [.ref 4, .int (σ 10), .int (σ 11)]), .inl (0, 56, .inl (α 4)), .inr (4, [.ref 6, .ref 7, .ref 8, .ref 9, .ref 10, .int (σ 12)]), .inl (0, 140, .inl (α 6)), .inl (0, 140, .inl (α 7)), .inl (0, 140, .inl (α 8)), .inl (0, 140, .inl (α 9)), .inl (2, 140, .inl (α 10)), .inl (0, (L 0), .inl (α 11)), .inl (0, (L 3), .inl (α 5)), .inl (0, (L 1), .inl (α 12)), .inl (0, (L 2), .inl (α 13)), .inr (3, [.ref 1, .ref 16, .ref 17, .ref 18, .ref 19]), .inl (0, 435, .inl (α 15)), .inl (0, 3, .inl (α 16)), .inl (0, 3, .inl (α 17)), .inl (0, 8, .inl (α 18)), .inr (1, [.ref 1, .int (σ 13), .int (σ 14), .int (σ 15)]), .inr (6, [.int 0, .int 0, .int 0, .int 0, .int 0, .null, .null, .int 0, .int 0, .int 0, .int 0, .int 0, .null, .null, .int 0, .int 0, .null, .null, .null, .null, .null, .null, .int 0, .int 0, .int 0, .null, .int 0, .int 0, .null, .null, .null, .null, .null, .int 0, .int 0, .int 0, .int 0, .int 0, .int 0])]
def tri (n : Nat) : Nat := n * (n + 1) / 2
theorem tri_s (n : Nat) : tri (n + 1) = tri n + n + 1 := by
  unfold tri
  have : (n + 1) * (n + 1 + 1) = n * (n + 1) + 2 * (n + 1) := by rw [Nat.mul_comm (n + 1) (n + 1 + 1), show n + 1 + 1 = n + 2 from rfl, Nat.add_mul]
  rw [this]; omega
theorem tri_lt {n : Nat} : ∀ m, n < m → tri n + n < tri m
  | 0, h => by omega
  | m + 1, h => by
    rw [tri_s]
    by_cases e : n = m
    · subst e; omega
    · have := tri_lt (n := n) m (by omega); omega
theorem tri_bd {n k : Nat} (hn : n < 29) (hk : k ≤ n) : tri n + k < 435 := by
  have := tri_lt (n := n) 29 hn
  have e : tri 29 = 435 := by decide
  omega
theorem tri_nI {n k : Nat} (hn : n < 29) : nI n * (nI n + 1) / 2 + nI k = nI (tri n + k) := by
  have m1 : n * (n + 1) ≤ n * 29 := Nat.mul_le_mul_left n (by omega)
  have n2 : (2 : Int32) = nI 2 := rfl
  rw [nI_1, pk_mul, n2, pk_div (by omega) (by omega) (by omega), nI_add]
  rfl
def TP (n k : Nat) (α : Nat → Nat → Int32) : Prop := ∀ a b, b ≤ a → (a < n ∨ (a = n ∧ b < k)) → α 15 (tri a + b) = nI (ch a b)
section CB
variable {sc : Nat × (Nat → Int32)} {d : Nat} {L : Nat → Nat} {σ : Nat → Int32}
theorem x_chooseC {α : Nat → Nat → Int32} {n k : Nat} (hn : n < 29) (hk : k < 2 ^ 31) (hr : k ≤ n → α 15 (tri n + k) = nI (ch n k)) : Ev sc (d + 1) 52 [.ref 15, .int (nI n), .int (nI k)] (c18 L σ α) (some (.int (nI (ch n k))), c18 L σ α) := by
  refine e_start rfl rfl rfl (q_52c_0 (L := L) (σ := σ) (α := α) ?_)
  rw [if_neg (nI_pos (by omega)), if_pos (show nI n < 29 from nI_lt (b := 29) hn (by decide)), if_neg (nI_pos hk)]
  by_cases c : n < k
  · rw [if_pos (nI_lt c hk), ch_gt n k c]; rfl
  · have hb := tri_bd hn (show k ≤ n by omega)
    rw [if_neg (nI_nlt (by omega) (by omega)), tri_nI hn, if_neg (in_nI hb (by decide)), cl_nI (by omega), hr (by omega)]
    rfl
theorem x_chooseN {α : Nat → Nat → Int32} {x y : Int32} (h : x < 0 ∨ y < 0) : Ev sc (d + 1) 52 [.ref 15, .int x, .int y] (c18 L σ α) (some (.int 0), c18 L σ α) := by
  refine e_start rfl rfl rfl (q_52c_0 (L := L) (σ := σ) (α := α) ?_)
  by_cases c : x < 0
  · rw [if_pos c]; rfl
  · rw [if_neg c]
    by_cases c2 : x < 29
    · rw [if_pos c2, if_pos (h.resolve_left c)]; rfl
    · rw [if_neg c2]; rfl
theorem ta_loop {α : Nat → Nat → Int32} : ∀ m n, n + m = 29 → ∀ α1, TP n 0 α1 → (∀ c, c ≠ 15 → α1 c = α c) → ∃ α', EvL sc (d + 1) me_40 42 [some (.ref 15), none, some (.int (nI n)), none, none] [] (c18 L σ α1) 4 449 (none, c18 L σ α') ∧ TP 29 0 α' ∧ ∀ c, c ≠ 15 → α' c = α c := by
  intro m
  induction m with
  | zero =>
    intro n hn α1 hT ha
    have en : n = 29 := by omega
    subst en
    refine ⟨α1, q_40_42 (L := L) (σ := σ) (α := α1) ?_, hT, ha⟩
    rw [if_neg (show ¬ nI 29 < 29 by decide)]; rfl
  | succ m ih =>
    intro n hn α1 hT ha
    have hn29 : n < 29 := by omega
    have inner : ∀ q k, k + q = n + 1 → ∀ α2, TP n k α2 → (∀ c, c ≠ 15 → α2 c = α c) → ∃ α', EvL sc (d + 1) me_40 50 [some (.ref 15), none, some (.int (nI n)), some (.int (nI k)), none] [] (c18 L σ α2) 4 449 (none, c18 L σ α') ∧ TP 29 0 α' ∧ ∀ c, c ≠ 15 → α' c = α c := by
      intro q
      induction q with
      | zero =>
        intro k hk α2 hT2 ha2
        obtain ⟨α', hE, r⟩ := ih (n + 1) (by omega) α2 (fun a b hab h => hT2 a b hab (by omega)) ha2
        refine ⟨α', q_40_50 (L := L) (σ := σ) (α := α2) ?_, r⟩
        rw [if_pos (nI_lt (by omega) (by omega)), nI_1]
        exact hE
      | succ q ihq =>
        intro k hk α2 hT2 ha2
        have hkn : k ≤ n := by omega
        have hb := tri_bd hn29 hkn
        have key := ihq (k + 1) (by omega) (va_up α2 15 (upd (α2 15) (tri n + k) (nI (ch n k)))) (fun a b hab h => by
          simp only [va_up, if_true, upd]
          by_cases e : tri a + b = tri n + k
          · rw [if_pos e]
            have : a = n ∧ b = k := by
              rcases Nat.lt_trichotomy a n with l | l | l
              · have := tri_lt n l; omega
              · subst l; omega
              · have := tri_lt a l; omega
            rw [this.1, this.2]
          · rw [if_neg e]
            refine hT2 a b hab ?_
            rcases h with h | ⟨h1, h2⟩
            · exact Or.inl h
            · exact Or.inr ⟨h1, by
                by_cases e2 : b = k
                · subst h1; subst e2; exact absurd rfl e
                · omega⟩) (fun c hc => by simp only [va_up, if_neg hc]; exact ha2 c hc)
        obtain ⟨α', hE, r⟩ := key
        refine ⟨α', q_40_50 (L := L) (σ := σ) (α := α2) ?_, r⟩
        rw [if_neg (nI_nlt hkn (by omega))]
        by_cases z : n = 0
        · subst z
          have k0 : k = 0 := by omega
          subst k0
          refine cli (x_chooseN (Or.inl (by decide))) (q_40_65 (L := L) (σ := σ) (α := α2) (cli (x_chooseN (Or.inl (by decide))) (q_40_73 (L := L) (σ := σ) (α := α2) ?_)))
          rw [if_pos (show nI 0 = 0 from rfl), tri_nI hn29, if_neg (in_nI hb (by decide)), cl_nI (by omega), nI_1]
          exact hE
        · obtain ⟨n1, rfl⟩ : ∃ n1, n = n1 + 1 := ⟨n - 1, by omega⟩
          have en : nI (n1 + 1) - 1 = nI n1 := pk_sub (b := 1) (by omega)
          have ez : ¬ nI (n1 + 1) = 0 := fun q => by
            have := (nI_eq (a := n1 + 1) (b := 0) (by omega) (by decide)).mp q
            omega
          have second := x_chooseC (sc := sc) (d := d) (L := L) (σ := σ) (α := α2) (n := n1) (k := k) (by omega) (by omega) (fun h => hT2 n1 k h (Or.inl (by omega)))
          have fin : ∀ s1 : Int32, s1 + nI (ch n1 k) = nI (ch (n1 + 1) k) → Cli sc (d + 1) 52 [.ref 15, .int (nI n1), .int (nI k)] (c18 L σ α2) (fun y M2 => EvL sc (d + 1) me_40 73 [some (.ref 15), none, some (.int (nI (n1 + 1))), some (.int (nI k)), none] [.int y, .int s1] M2 4 449 (none, c18 L σ α')) := by
            intro s1 hs
            refine cli second (q_40_73 (L := L) (σ := σ) (α := α2) ?_)
            rw [if_neg ez, tri_nI hn29, if_neg (in_nI hb (by decide)), cl_nI (by omega), nI_1, hs]
            exact hE
          rw [en]
          by_cases k0 : k = 0
          · subst k0
            refine cli (x_chooseN (Or.inr (by decide))) (q_40_65 (L := L) (σ := σ) (α := α2) ?_)
            rw [en]
            exact fin 0 (by rw [ch_0, ch_0]; rfl)
          · obtain ⟨k1, rfl⟩ : ∃ k1, k = k1 + 1 := ⟨k - 1, by omega⟩
            rw [show nI (k1 + 1) - 1 = nI k1 from pk_sub (b := 1) (by omega)]
            refine cli (x_chooseC (by omega) (by omega) (fun h => hT2 n1 k1 h (Or.inl (by omega)))) (q_40_65 (L := L) (σ := σ) (α := α2) ?_)
            rw [en]
            exact fin _ (by rw [nI_add]; rfl)
    obtain ⟨α', hE, r⟩ := inner (n + 1) 0 (by omega) α1 (fun a b hab h => hT a b hab (by omega)) ha
    refine ⟨α', q_40_42 (L := L) (σ := σ) (α := α1) ?_, r⟩
    rw [if_pos (show nI n < 29 from nI_lt (b := 29) hn29 (by decide))]
    exact hE
theorem x_tally (α : Nat → Nat → Int32) : ∃ α', Ev sc (d + 2) 40 [.ref 15, .ref 1] (c17 L σ α) (none, c18 L σ α') ∧ RP α' ∧ ∀ c, c < 15 → α' c = α c := by
  obtain ⟨α', hE, hT, ha⟩ := ta_loop (sc := sc) (d := d) (L := L) (σ := σ) (α := fun c => if c < 15 then α c else fun _ => 0) 29 0 (by omega) (fun c => if c < 15 then α c else fun _ => 0) (fun a b hab h => by omega) (fun _ _ => rfl)
  refine ⟨α', e_start rfl rfl rfl (q_40_0 (L := L) (σ := σ) (α := α) ?_), fun n k hn hk => hT n k hk (Or.inl hn), fun c hc => by rw [ha c (by omega), if_pos hc]⟩
  exact hE
theorem x_init (x1 x2 x3 : Int32) {P S : Nat} {t : Int32} (hP : 2 ≤ P ∧ P ≤ 6) (hS : 2 ≤ S ∧ S ≤ 4) (e1 : clp x1 (nI 2) (nI 6) = nI P) (e2 : clp x2 (nI 2) (nI 4) = nI S) (e3 : clp x3 (nI 1) (nI 1000) = t) : ∃ α', Ev sc (d + 3) 65 [.ref 0, .int x1, .int x2, .int x3] [.inr (5, [.int 0, .null, .null, .null, .null, .int 0])] (none, c28 (iL S ((P + 1) * (P + 2) / 2) (sides S)) (iS t S ((P + 1) * (P + 2) / 2)) α') ∧ KB ((P + 1) * (P + 2) / 2) 7 0 α' ∧ RP α' ∧ ∀ c, 4 ≤ c → c < 14 → α' c = fun _ => 0 := by
  obtain ⟨α1, hE1, hK, ha⟩ := x_table (sc := sc) (d := d) (t := t) hP hS
  have f1 : (if (2 : Int32) < (if x1 < (6 : Int32) then x1 else (6 : Int32)) then (if x1 < (6 : Int32) then x1 else (6 : Int32)) else (2 : Int32)) = nI P := e1
  have f2 : (if (2 : Int32) < (if x2 < (4 : Int32) then x2 else (4 : Int32)) then (if x2 < (4 : Int32) then x2 else (4 : Int32)) else (2 : Int32)) = nI S := e2
  have f3 : (if (1 : Int32) < (if x3 < (1000 : Int32) then x3 else (1000 : Int32)) then (if x3 < (1000 : Int32) then x3 else (1000 : Int32)) else (1 : Int32)) = t := e3
  generalize (P + 1) * (P + 2) / 2 = B at hE1 hK ⊢
  obtain ⟨α2, hE2, hRP, ha2⟩ := x_tally (sc := sc) (d := d) (L := iL S B (sides S)) (σ := iS t S B) (fun c => if c = 13 then fun _ => 0 else α1 c)
  have a2 : α2 2 = α1 2 := by rw [ha2 2 (by decide)]; rfl
  refine ⟨α2, e_start rfl rfl rfl (q_65_0 (σ := fun _ => 0) ?_), fun q hq i hi => by rw [a2]; exact hK q hq i hi, hRP, fun c h1 h2 => ?_⟩
  · rw [f1, f2, f3]
    refine clv hE1 (q_65_54 (L := iL S B (sides S)) (σ := iS t S B) (α := α1) ?_)
    have rest : ∀ r, r = (none, c28 (iL S B (sides S)) (iS t S B) α2) → Clv sc (d + 2) 40 [.ref 15, .ref 1] (c17 (iL S B (sides S)) (iS t S B) (fun c => if c = 13 then fun _ => 0 else α1 c)) (fun M2 => EvL sc (d + 2) me_65 86 [some (.ref 0), none, none, none, none, none] [.ref 15, .ref 0] M2 19 1280 r) := by
      intro r hr
      subst hr
      refine clv hE2 (q_65_86 (L := iL S B (sides S)) (σ := iS t S B) (α := α2) ?_)
      refine clv (e_start rfl rfl rfl (q_9_0 (L := iL S B (sides S)) (σ := fun k => if k < 13 then iS t S B k else 0) (α := α2) rfl)) ?_
      exact q_65_101 (L := iL S B (sides S)) (σ := iS t S B) (α := α2) rfl
    have hss := sides_le hS
    have e4 : nI S = (4 : Int32) ↔ S = 4 := nI_eq (b := 4) (by omega) (by decide)
    refine cli (x := nI (sides S)) (e_start rfl rfl rfl (q_17d_0 (L := iL S B (sides S)) (σ := iS t S B) (α := α1) ?_)) (q_65_66 (L := iL S B (sides S)) (σ := iS t S B) (α := α1) ?_)
    · show if nI S = 4 then _ else _
      by_cases c4 : S = 4
      · rw [if_pos (e4.mpr c4), c4]; rfl
      · rw [if_neg (fun z => c4 (e4.mp z)), show sides S = S by unfold sides; rw [if_neg c4]]; rfl
    rw [if_pos (show (0 : Int32) < nI (sides S) from nI_lt (a := 0) (by omega) (by omega))]
    refine q_65_69 (L := iL S B (sides S)) (σ := iS t S B) (α := α1) ?_
    have o4 : ¬ (nI (sides S) < 0 ∨ 4 < (nI (sides S)).toNatClampNeg) := by
      rw [cl_nI (by omega)]; intro z; rcases z with z | z
      · exact nI_pos (by omega) z
      · omega
    rw [if_neg o4, cl_nI (by omega)]
    exact rest _ rfl
  · rw [ha2 c (by omega)]
    show (if c = 13 then fun _ => 0 else α1 c) = fun _ => 0
    by_cases e : c = 13
    · rw [if_pos e]
    · rw [if_neg e]; exact ha c (by omega)
theorem x_clip (x a b : Int32) {M : dk_M} : Ev sc (d + 1) 96 [.int x, .int a, .int b] M (some (.int (clp x a b)), M) := e_start rfl rfl rfl (q_96_0 rfl)
def iT (P S T B : Nat) : Nat → Int32 := fun k => if k = 0 then nI P else if k = 1 then nI S else if k = 2 then nI T else if k = 3 then nI B else if k = 4 then nI (sides S) else if k = 11 then -1 else if k = 14 then 30 else if k = 15 then 30 else if k = 23 then -1 else 0
theorem x_ref (α : Nat → Nat → Int32) (x1 x2 x3 : Int32) {P S T : Nat} (hP : 2 ≤ P ∧ P ≤ 6) (hS : 2 ≤ S ∧ S ≤ 4) (e1 : clp x1 (nI 2) (nI 6) = nI P) (e2 : clp x2 (nI 2) (nI 4) = nI S) (e3 : clp x3 (nI 1) (nI 1000) = nI T) : Ev sc (d + 2) 95 [.ref 21, .int x1, .int x2, .int x3] (c31 L σ α) (none, mem L σ α (iT P S T ((P + 1) * (P + 2) / 2)) (fun _ _ => 0) (fun _ _ => 0)) := by
  have eB : (nI P + 1) * (nI P + 2) / 2 = nI ((P + 1) * (P + 2) / 2) := by
    have : ∀ p, p ≤ 6 → (nI p + 1) * (nI p + 2) / 2 = nI ((p + 1) * (p + 2) / 2) := by decide
    exact this P hP.2
  refine e_start rfl rfl rfl ?_
  refine q_95_0 (L := L) (σ := σ) (α := α) (τ := fun _ => 0) ?_
  refine q_95_12 (L := L) (σ := σ) (α := α) (τ := fun _ => 0) (β := fun _ _ => 0) ?_
  refine q_95_19 (L := L) (σ := σ) (α := α) (τ := fun _ => 0) (β := fun _ _ => 0) ?_
  refine q_95_32 (L := L) (σ := σ) (α := α) (τ := fun k => if k = 11 then -1 else 0) (β := fun _ _ => 0) ?_
  refine q_95_40 (L := L) (σ := σ) (α := α) (τ := fun k => if k = 11 then -1 else 0) (β := fun _ _ => 0) ?_
  refine q_95_61 (L := L) (σ := σ) (α := α) (τ := fun k => if k = 11 then -1 else if k = 14 then 30 else if k = 15 then 30 else 0) (β := fun _ _ => 0) ?_
  refine q_95_70 (L := L) (σ := σ) (α := α) (τ := fun k => if k = 11 then -1 else if k = 14 then 30 else if k = 15 then 30 else 0) (β := fun _ _ => 0) ?_
  refine q_95_79 (L := L) (σ := σ) (α := α) (τ := fun k => if k = 11 then -1 else if k = 14 then 30 else if k = 15 then 30 else 0) (β := fun _ _ => 0) ?_
  refine q_95_88 (L := L) (σ := σ) (α := α) (τ := fun k => if k = 11 then -1 else if k = 14 then 30 else if k = 15 then 30 else 0) (β := fun _ _ => 0) ?_
  refine q_95_97 (L := L) (σ := σ) (α := α) (τ := fun k => if k = 11 then -1 else if k = 14 then 30 else if k = 15 then 30 else 0) (β := fun _ _ => 0) ?_
  refine q_95_106 (L := L) (σ := σ) (α := α) (τ := fun k => if k = 11 then -1 else if k = 14 then 30 else if k = 15 then 30 else 0) (β := fun _ _ => 0) ?_
  refine q_95_119 (L := L) (σ := σ) (α := α) (τ := fun k => if k = 11 then -1 else if k = 14 then 30 else if k = 15 then 30 else if k = 23 then -1 else 0) (β := fun _ _ => 0) ?_
  refine q_95_128 (L := L) (σ := σ) (α := α) (τ := fun k => if k = 11 then -1 else if k = 14 then 30 else if k = 15 then 30 else if k = 23 then -1 else 0) (β := fun _ _ => 0) ?_
  refine q_95_135 (L := L) (σ := σ) (α := α) (τ := fun k => if k = 11 then -1 else if k = 14 then 30 else if k = 15 then 30 else if k = 23 then -1 else 0) (β := fun _ _ => 0) ?_
  refine q_95_142 (L := L) (σ := σ) (α := α) (τ := fun k => if k = 11 then -1 else if k = 14 then 30 else if k = 15 then 30 else if k = 23 then -1 else 0) (β := fun _ _ => 0) ?_
  refine q_95_151 (L := L) (σ := σ) (α := α) (τ := fun k => if k = 11 then -1 else if k = 14 then 30 else if k = 15 then 30 else if k = 23 then -1 else 0) (β := fun _ _ => 0) (γ := fun _ _ => 0) ?_
  refine q_95_160 (L := L) (σ := σ) (α := α) (τ := fun k => if k = 11 then -1 else if k = 14 then 30 else if k = 15 then 30 else if k = 23 then -1 else 0) (β := fun _ _ => 0) (γ := fun _ _ => 0) ?_
  refine cli (x_clip x1 2 6) ?_
  rw [show clp x1 2 6 = nI P from e1]
  refine q_95_168 (L := L) (σ := σ) (α := α) (τ := fun k => if k = 11 then -1 else if k = 14 then 30 else if k = 15 then 30 else if k = 23 then -1 else 0) (β := fun _ _ => 0) (γ := fun _ _ => 0) ?_
  refine cli (x_clip x2 2 4) ?_
  rw [show clp x2 2 4 = nI S from e2]
  refine q_95_178 (L := L) (σ := σ) (α := α) (τ := fun k => if k = 0 then nI P else if k = 11 then -1 else if k = 14 then 30 else if k = 15 then 30 else if k = 23 then -1 else 0) (β := fun _ _ => 0) (γ := fun _ _ => 0) ?_
  refine cli (x_clip x3 1 1000) ?_
  rw [show clp x3 1 1000 = nI T from e3]
  refine q_95_190 (L := L) (σ := σ) (α := α) (τ := fun k => if k = 0 then nI P else if k = 1 then nI S else if k = 11 then -1 else if k = 14 then 30 else if k = 15 then 30 else if k = 23 then -1 else 0) (β := fun _ _ => 0) (γ := fun _ _ => 0) ?_
  show if nI S = 4 then _ else _
  have e4 : nI S = (4 : Int32) ↔ S = 4 := nI_eq (b := 4) (by omega) (by decide)
  by_cases c4 : S = 4
  · rw [if_pos (e4.mpr c4)]
    have es : nI (sides S) = 2 := by rw [c4]; rfl
    show _ = (none, _)
    simp only [if_true, show ¬ (1 : Nat) = 0 by decide, if_false]
    unfold mem iT
    simp [eB, es]
  · rw [if_neg (fun z => c4 (e4.mp z))]
    have es : sides S = S := by unfold sides; rw [if_neg c4]
    show _ = (none, _)
    unfold mem iT
    simp [eB, es]
end CB
