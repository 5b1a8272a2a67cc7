/-! the class counts deals: binomials, the sums, the kinds -/
def RP (α : Nat → Nat → Int32) : Prop := ∀ n k, n < 29 → k ≤ n → α 15 (n * (n + 1) / 2 + k) = nI (ch n k)
theorem ch_le : ∀ n k, ch n k ≤ 2 ^ n
  | 0, 0 => by decide
  | 0, k + 1 => by simp [ch]
  | n + 1, 0 => by rw [ch_0]; exact Nat.one_le_two_pow
  | n + 1, k + 1 => by have := ch_le n k; have := ch_le n (k + 1); simp only [ch]; rw [Nat.pow_succ]; omega
theorem toL {n : Nat} (h : n < 2 ^ 31) : (nI n).toInt64 = lN n := by
  apply Int64.toInt_inj.mp
  rw [Int32.toInt_toInt64]
  unfold nI lN
  rw [Int32.toInt_ofNat_of_lt h, Int64.toInt_ofNat_of_lt (by omega)]
theorem toL_ch {n : Nat} (h : n < 29) (k : Nat) : (nI (ch n k)).toInt64 = lN (ch n k) := by
  have a := ch_le n k
  have b : 2 ^ n ≤ 2 ^ 28 := Nat.pow_le_pow_right (by decide) (by omega)
  exact toL (by omega)
section TA
variable {sc : Nat × (Nat → Int32)} {d : Nat} {L : Nat → Nat} {σ : Nat → Int32} {α : Nat → Nat → Int32} {τ : Nat → Int32} {β : Nat → Nat → Int32} {γ : Nat → Nat → Int64} {g : Nat → Nat} {w : Nat → Nat → Nat}
theorem x_choose (hP : RP α) {n k : Nat} (hn : n < 29) (hk : k < 2 ^ 31) : Ev sc (d + 1) 52 [.ref 15, .int (nI n), .int (nI k)] (mem L σ α τ β γ) (some (.int (nI (ch n k))), mem L σ α τ β γ) := by
  refine e_start rfl rfl rfl (q_52_0 ?_)
  rw [if_neg (nI_pos (by omega)), if_pos (show nI n < 29 from nI_lt (b := 29) hn (by decide)), if_neg (nI_pos hk)]
  by_cases c : n < k
  · rw [if_pos (nI_lt c hk), ch_gt n k c]; rfl
  · have m1 : n * (n + 1) ≤ n * 29 := Nat.mul_le_mul_left n (by omega)
    have e : nI n * (nI n + 1) / 2 + nI k = nI (n * (n + 1) / 2 + k) := by
      have n2 : (2 : Int32) = nI 2 := rfl
      rw [nI_1, pk_mul, n2, pk_div (by omega) (by omega) (by omega), nI_add]
    rw [if_neg (nI_nlt (by omega) (by omega)), e, if_neg (in_nI (by omega) (by decide)), cl_nI (by omega), hP n k hn (by omega)]
theorem x_waysOfOthers (hP : RP α) {s t v n1 n2 : Nat} (hs : s < 29) (hv : v + t < 29) (e1 : α 16 1 = nI n1) (e2 : α 16 2 = nI n2) (h1 : n1 < 2 ^ 30) (h2 : n2 < 2 ^ 30) : Ev sc (d + 2) 51 [.ref 15, .int (nI s), .int (nI t), .int (nI v)] (mem L σ α τ β γ) (some (.long (lN (OO s t v n1 n2))), mem L σ α τ β γ) := by
  have c1 : (1 : Int32).toNatClampNeg = 1 := rfl
  have c2 : (2 : Int32).toNatClampNeg = 2 := rfl
  have loop : ∀ m j, j + m = n1 + 1 → j ≤ v + 1 → EvL sc (d + 1) me_51 6 [some (.ref 15), some (.int (nI s)), some (.int (nI t)), some (.int (nI v)), some (.long (lN (sm (fun j => ch v j * (ch s (n1 - j) * ch (v - j + t) n2)) j))), none, some (.int (nI j)), none, none] [] (mem L σ α τ β γ) 0 0 (some (.long (lN (OO s t v n1 n2))), mem L σ α τ β γ) := by
    intro m
    induction m with
    | zero =>
      intro j hj hjv
      refine q_51_6 ?_
      rw [c1, e1, if_pos (nI_lt (by omega) (by omega)), show j = n1 + 1 by omega]
      rfl
    | succ m ih =>
      intro j hj hjv
      refine q_51_6 ?_
      rw [c1, e1, if_neg (nI_nlt (by omega) (by omega))]
      by_cases c : v < j
      · rw [if_pos (nI_lt c (by omega))]
        unfold OO
        rw [sm_tail (a := j) (n1 + 1) (by omega) (fun i a b => by rw [ch_gt v i (by omega), Nat.zero_mul])]
      · rw [if_neg (nI_nlt (by omega) (by omega))]
        refine cli (x_choose hP (by omega) (by omega)) (q_51_30 ?_)
        rw [c1, e1, pk_sub (show j ≤ n1 by omega)]
        refine cli (x_choose hP hs (by omega)) (q_51_45 ?_)
        rw [c2, e2, pk_sub (show j ≤ v by omega), nI_add]
        refine cli (x_choose hP (by omega) (by omega)) (q_51_69 ?_)
        rw [toL_ch (by omega), toL_ch hs, toL_ch (by omega), lN_mul, lN_mul, lN_add, nI_1, Nat.mul_assoc]
        exact ih (j + 1) (by omega) (by omega)
  exact e_start rfl rfl rfl (q_51_0 (loop (n1 + 1) 0 (by omega) (by omega)))
theorem x_waysOfTaking (hP : RP α) {k : Nat → Nat} (hk : ∀ j, j < 8 → α 18 j = nI (k j)) (hS : k 1 + k 2 + k 3 + k 4 + k 5 + k 6 + k 7 ≤ 28) {n1 n2 a b c e : Nat} (e1 : α 16 1 = nI n1) (e2 : α 16 2 = nI n2) (h1 : n1 < 2 ^ 30) (h2 : n2 < 2 ^ 30) (ha : a < 2 ^ 30) (hb : b ≤ k 3) (hc : c ≤ k 5) (he : e < 2 ^ 30) : Ev sc (d + 3) 50 [.ref 15, .int (nI a), .int (nI b), .int (nI c), .int (nI e)] (mem L σ α τ β γ) (some (.long (lN (ch (k 1) a * ch (k 3) b * ch (k 5) c * ch (k 7) e * OO (k 2 + k 3 - b) (k 4 + k 5 - c) (k 6 + k 7 - e) n1 n2))), mem L σ α τ β γ) := by
  have c1 : (1 : Int32).toNatClampNeg = 1 := rfl
  have c2 : (2 : Int32).toNatClampNeg = 2 := rfl
  have c3 : (3 : Int32).toNatClampNeg = 3 := rfl
  have c4 : (4 : Int32).toNatClampNeg = 4 := rfl
  have c5 : (5 : Int32).toNatClampNeg = 5 := rfl
  have c6 : (6 : Int32).toNatClampNeg = 6 := rfl
  have c7 : (7 : Int32).toNatClampNeg = 7 := rfl
  refine e_start rfl rfl rfl (q_50_0 ?_)
  rw [c1, hk 1 (by decide)]
  refine cli (x_choose hP (by omega) (by omega)) (q_50_11 ?_)
  rw [c3, hk 3 (by decide)]
  refine cli (x_choose hP (by omega) (by omega)) (q_50_23 ?_)
  rw [c5, hk 5 (by decide)]
  refine cli (x_choose hP (by omega) (by omega)) (q_50_36 ?_)
  rw [c7, hk 7 (by decide)]
  refine cli (x_choose hP (by omega) (by omega)) (q_50_51 ?_)
  rw [toL_ch (by omega), toL_ch (by omega), toL_ch (by omega), toL_ch (by omega), lN_mul, lN_mul, lN_mul]
  by_cases z : lN (ch (k 1) a * ch (k 3) b * ch (k 5) c * ch (k 7) e) = 0
  · rw [if_pos ((lg_cmp_eq _ _).mpr z), ← lN_mul, z, Int64.zero_mul]
  · rw [if_neg (fun q => z ((lg_cmp_eq _ _).mp q))]
    have he7 : e ≤ k 7 := Decidable.byContradiction fun q => z (by rw [ch_gt (k 7) e (by omega)]; rfl)
    rw [c2, c3, c4, c5, c6, c7, hk 2 (by decide), hk 3 (by decide), hk 4 (by decide), hk 5 (by decide), hk 6 (by decide), hk 7 (by decide), nI_add, nI_add, nI_add, pk_sub (show b ≤ k 2 + k 3 by omega), pk_sub (show c ≤ k 4 + k 5 by omega), pk_sub (show e ≤ k 6 + k 7 by omega)]
    refine cll (x_waysOfOthers hP (by omega) (by omega) e1 e2 h1 h2) (q_50_118 ?_)
    rw [lN_mul]
theorem x_waysOfFirst (hP : RP α) {k : Nat → Nat} (hk : ∀ j, j < 8 → α 18 j = nI (k j)) (hS : k 1 + k 2 + k 3 + k 4 + k 5 + k 6 + k 7 ≤ 28) {x n1 n2 : Nat} (e0 : α 16 0 = nI x) (e1 : α 16 1 = nI n1) (e2 : α 16 2 = nI n2) (h0 : x < 2 ^ 30) (h1 : n1 < 2 ^ 30) (h2 : n2 < 2 ^ 30) : Ev sc (d + 4) 49 [.ref 15] (mem L σ α τ β γ) (some (.long (lN (PH (k 1) (k 2) (k 3) (k 4) (k 5) (k 6) (k 7) x n1 n2))), mem L σ α τ β γ) := by
  have c0 : (0 : Int32).toNatClampNeg = 0 := rfl
  have c1 : (1 : Int32).toNatClampNeg = 1 := rfl
  have c3 : (3 : Int32).toNatClampNeg = 3 := rfl
  have c5 : (5 : Int32).toNatClampNeg = 5 := rfl
  have hz0 : ∀ (fc : Nat → Nat → Nat → Nat) a b, k 3 < b → (∀ c, fc a b c = ch (k 1) a * ch (k 3) b * ch (k 5) c * ch (k 7) (x - a - b - c) * OO (k 2 + k 3 - b) (k 4 + k 5 - c) (k 6 + k 7 - (x - a - b - c)) n1 n2) → sm (fc a b) (x - a - b + 1) = 0 := by
    intro fc a b hb hf
    exact sm_0 _ (fun c _ => by rw [hf c, ch_gt (k 3) b hb]; simp)
  obtain ⟨fc, hfc⟩ : ∃ fc : Nat → Nat → Nat → Nat, ∀ a b c, fc a b c = ch (k 1) a * ch (k 3) b * ch (k 5) c * ch (k 7) (x - a - b - c) * OO (k 2 + k 3 - b) (k 4 + k 5 - c) (k 6 + k 7 - (x - a - b - c)) n1 n2 := ⟨_, fun _ _ _ => rfl⟩
  have ePH : PH (k 1) (k 2) (k 3) (k 4) (k 5) (k 6) (k 7) x n1 n2 = sm (fun a => sm (fun b => sm (fc a b) (x - a - b + 1)) (x - a + 1)) (x + 1) := by
    unfold PH
    refine sm_cong (fun a _ => sm_cong (fun b _ => sm_cong (fun c _ => ?_)))
    rw [hfc]
  rw [ePH]
  -- the third kind
  have lc : ∀ a b A r, a + b ≤ x → b ≤ k 3 → EvL sc (d + 3) me_49 27 [some (.ref 15), some (.long (lN (A + sm (fc a b) (x - a - b + 1)))), none, some (.int (nI a)), some (.int (nI (b + 1))), none] [] (mem L σ α τ β γ) 0 0 r → ∀ m c, c + m = x - a - b + 1 → c ≤ k 5 + 1 → EvL sc (d + 3) me_49 54 [some (.ref 15), some (.long (lN (A + sm (fc a b) c))), none, some (.int (nI a)), some (.int (nI b)), some (.int (nI c))] [] (mem L σ α τ β γ) 0 0 r := by
    intro a b A r hab hb H m
    induction m with
    | zero =>
      intro c hc hc5
      refine q_49_54 ?_
      rw [c0, e0, nI_add, nI_add, if_pos (nI_lt (by omega) (by omega)), nI_1, show c = x - a - b + 1 by omega]
      exact H
    | succ m ih =>
      intro c hc hc5
      refine q_49_54 ?_
      rw [c0, e0, nI_add, nI_add, if_neg (nI_nlt (by omega) (by omega)), c5, hk 5 (by decide)]
      by_cases q : k 5 < c
      · rw [if_pos (nI_lt q (by omega)), nI_1]
        rw [sm_tail (a := c) (x - a - b + 1) (by omega) (fun i p _ => by rw [hfc, ch_gt (k 5) i (by omega)]; simp)] at H
        exact H
      · rw [if_neg (nI_nlt (by omega) (by omega)), pk_sub (show a ≤ x by omega), pk_sub (show b ≤ x - a by omega), pk_sub (show c ≤ x - a - b by omega)]
        refine cll (x_waysOfTaking hP hk hS e1 e2 h1 h2 (by omega) hb (by omega) (by omega)) (q_49_105 ?_)
        rw [lN_add, nI_1, ← hfc, Nat.add_assoc, ← sm_succ]
        exact ih (c + 1) (by omega) (by omega)
  -- the second kind
  have lb : ∀ a A r, a ≤ x → EvL sc (d + 3) me_49 4 [some (.ref 15), some (.long (lN (A + sm (fun b => sm (fc a b) (x - a - b + 1)) (x - a + 1)))), none, some (.int (nI (a + 1))), none, none] [] (mem L σ α τ β γ) 0 0 r → ∀ m b, b + m = x - a + 1 → b ≤ k 3 + 1 → EvL sc (d + 3) me_49 27 [some (.ref 15), some (.long (lN (A + sm (fun b => sm (fc a b) (x - a - b + 1)) b))), none, some (.int (nI a)), some (.int (nI b)), none] [] (mem L σ α τ β γ) 0 0 r := by
    intro a A r hax H m
    induction m with
    | zero =>
      intro b hb hb3
      refine q_49_27 ?_
      rw [c0, e0, nI_add, if_pos (nI_lt (by omega) (by omega)), nI_1, show b = x - a + 1 by omega]
      exact H
    | succ m ih =>
      intro b hb hb3
      refine q_49_27 ?_
      rw [c0, e0, nI_add, if_neg (nI_nlt (by omega) (by omega)), c3, hk 3 (by decide)]
      by_cases q : k 3 < b
      · rw [if_pos (nI_lt q (by omega)), nI_1]
        rw [sm_tail (a := b) (x - a + 1) (by omega) (fun i p _ => hz0 fc a i (by omega) (hfc a i))] at H
        exact H
      · rw [if_neg (nI_nlt (by omega) (by omega))]
        have ih := ih (b + 1) (by omega) (by omega)
        rw [sm_succ, ← Nat.add_assoc] at ih
        have := lc a b (A + sm (fun b => sm (fc a b) (x - a - b + 1)) b) r (by omega) (by omega) ih (x - a - b + 1) 0 (by omega) (by omega)
        exact this
  -- the first kind
  have la : ∀ m a, a + m = x + 1 → a ≤ k 1 + 1 → EvL sc (d + 3) me_49 4 [some (.ref 15), some (.long (lN (sm (fun a => sm (fun b => sm (fc a b) (x - a - b + 1)) (x - a + 1)) a))), none, some (.int (nI a)), none, none] [] (mem L σ α τ β γ) 0 0 (some (.long (lN (sm (fun a => sm (fun b => sm (fc a b) (x - a - b + 1)) (x - a + 1)) (x + 1)))), mem L σ α τ β γ) := by
    intro m
    induction m with
    | zero =>
      intro a ha ha1
      refine q_49_4 ?_
      rw [c0, e0, if_pos (nI_lt (by omega) (by omega)), show a = x + 1 by omega]
    | succ m ih =>
      intro a ha ha1
      refine q_49_4 ?_
      rw [c0, e0, if_neg (nI_nlt (by omega) (by omega)), c1, hk 1 (by decide)]
      by_cases q : k 1 < a
      · rw [if_pos (nI_lt q (by omega)), sm_tail (a := a) (x + 1) (by omega) (fun i p _ => sm_0 _ (fun b _ => sm_0 _ (fun c _ => by rw [hfc, ch_gt (k 1) i (by omega)]; simp)))]
      · rw [if_neg (nI_nlt (by omega) (by omega))]
        have ih := ih (a + 1) (by omega) (by omega)
        rw [sm_succ] at ih
        exact lb a (sm (fun a => sm (fun b => sm (fc a b) (x - a - b + 1)) (x - a + 1)) a) _ (by omega) ih (x - a + 1) 0 (by omega) (by omega)
  exact e_start rfl rfl rfl (q_49_0 (la (x + 1) 0 (by omega) (by omega)))
theorem kd_sum (u : Nat → Bool) (m : Nat → Nat → Bool) : ∀ B, kd u m true false false B + kd u m false true false B + kd u m true true false B + kd u m false false true B + kd u m true false true B + kd u m false true true B + kd u m true true true B ≤ B
  | 0 => by simp [kd, cn]
  | B + 1 => by
    have := kd_sum u m B
    simp only [kd_s]
    cases u B <;> cases m B 0 <;> cases m B 1 <;> cases m B 2 <;> simp <;> omega
theorem mask_bt : ∀ j, j < 8 → bt (nI j) 0 = (j % 2 == 1) ∧ bt (nI j) 1 = (j / 2 % 2 == 1) ∧ bt (nI j) 2 = (j / 4 == 1) := by decide +kernel
theorem x_count (hP : RP α) {u : Nat → Bool} {m : Nat → Nat → Bool} {X : Int32} {B n0 n1 n2 : Nat} (hB : B ≤ 28) (hX : ∀ i, i < 32 → bt X i = (decide (i < B) && u i)) (hm : ∀ k, k < 3 → ∀ i, i < B → u i = true → bt (α 17 k) i = m i k) (h4 : ∀ i, i < B → u i = true → m i 4 = true) (e0 : α 16 0 = nI n0) (e1 : α 16 1 = nI n1) (e2 : α 16 2 = nI n2) (b0 : n0 < 2 ^ 30) (b1 : n1 < 2 ^ 30) (b2 : n2 < 2 ^ 30) : ∃ α', Ev sc (d + 5) 48 [.ref 15, .int X] (mem L σ α τ β γ) (some (.long (lN (gw u m B n0 n1 n2))), mem L σ α' τ β γ) ∧ ∀ c, c ≠ 18 → α' c = α c := by
  obtain ⟨kk, hkk⟩ : ∃ kk : Nat → Nat, ∀ j, kk j = kd u m (j % 2 == 1) (j / 2 % 2 == 1) (j / 4 == 1) B := ⟨_, fun _ => rfl⟩
  have setE : ∀ j, j < 8 → ∀ S : Int32, (∀ i, i < 32 → bt S i = (bt X i && ((bt (α 17 0) i == (j % 2 == 1)) && ((bt (α 17 1) i == (j / 2 % 2 == 1)) && (bt (α 17 2) i == (j / 4 == 1)))))) → cn (bt S) 32 = kk j := by
    intro j hj S hS
    rw [hkk]
    unfold kd
    rw [cn_ext (n := B) 32 (by omega) (fun i p q => by rw [hS i q, hX i q, decide_eq_false (by omega)]; rfl)]
    refine cn_cong (fun i hi => ?_)
    rw [hS i (by omega), hX i (by omega), decide_eq_true hi, Bool.true_and]
    cases hu : u i with
    | false => rfl
    | true => rw [hm 0 (by decide) i hi hu, hm 1 (by decide) i hi hu, hm 2 (by decide) i hi hu]
  have step : ∀ j, j < 8 → ∀ α1 : Nat → Nat → Int32, α1 17 = α 17 → ∀ r, EvL sc (d + 4) me_48 2 [some (.ref 15), some (.int X), some (.int (nI (j + 1))), none, none] [] (mem L σ (va_up α1 18 (upd (α1 18) j (nI (kk j)))) τ β γ) 0 0 r → EvL sc (d + 4) me_48 2 [some (.ref 15), some (.int X), some (.int (nI j)), none, none] [] (mem L σ α1 τ β γ) 0 0 r := by
    intro j hj α1 h17 r H
    obtain ⟨m0, m1, m2⟩ := mask_bt j hj
    have inA : ∀ k, k < 3 → inB (nI j) (nI k) = bt (nI j) k := fun k hk => by rw [inB_nI (by omega), decide_eq_true (by omega), Bool.true_and]
    have i0 := inA 0 (by decide)
    have i1 := inA 1 (by decide)
    have i2 := inA 2 (by decide)
    have k0 : (nI 0).toNatClampNeg = 0 := rfl
    have k1 : (nI 1).toNatClampNeg = 1 := rfl
    have k2 : (nI 2).toNatClampNeg = 2 := rfl
    have one : ∀ k, k < 3 → ∀ (b : Bool), inB (nI j) (nI k) = b → ∀ S : Int32, (∀ S', (∀ i, i < 32 → bt S' i = (bt S i && (bt (α 17 k) i == b))) → EvL sc (d + 4) me_48 13 [some (.ref 15), some (.int X), some (.int (nI j)), some (.int S'), some (.int (nI (k + 1)))] [] (mem L σ α1 τ β γ) 0 0 r) → EvL sc (d + 4) me_48 13 [some (.ref 15), some (.int X), some (.int (nI j)), some (.int S), some (.int (nI k))] [] (mem L σ α1 τ β γ) 0 0 r := by
      intro k hk b hb S H'
      refine q_48_13 ?_
      rw [if_pos (show nI k < 3 from nI_lt (b := 3) hk (by decide))]
      refine cli (x_isIn _ _) (q_48_26 ?_)
      rw [hb, h17, nI_1]
      cases b
      · rw [if_pos (by decide), if_neg (in_nI hk (by decide)), cl_nI (by omega)]
        refine H' _ (fun i hi => ?_)
        rw [b_and, b_not hi]; cases bt (α 17 k) i <;> rfl
      · rw [if_neg (by decide), if_neg (in_nI hk (by decide)), cl_nI (by omega)]
        refine H' _ (fun i hi => ?_)
        rw [b_and]; cases bt (α 17 k) i <;> rfl
    refine q_48_2 ?_
    rw [if_pos (show nI j < 8 from nI_lt (b := 8) hj (by decide))]
    refine one 0 (by decide) _ (i0.trans m0) X (fun S0 h0 => one 1 (by decide) _ (i1.trans m1) S0 (fun S1 h1 => one 2 (by decide) _ (i2.trans m2) S1 (fun S2 h2 => ?_)))
    refine q_48_13 ?_
    rw [if_neg (show ¬ nI (2 + 1) < 3 from nI_nlt (b := 3) (by omega) (by decide))]
    refine cli (x_bitCount S2) (q_48_65 ?_)
    rw [if_neg (in_nI hj (by decide)), cl_nI (by omega), nI_1, setE j hj S2 (fun i hi => by rw [h2 i hi, h1 i hi, h0 i hi]; cases bt X i <;> simp [Bool.and_assoc])]
    exact H
  have loop : ∀ p j, j + p = 8 → ∀ α1 : Nat → Nat → Int32, (∀ c, c ≠ 18 → α1 c = α c) → (∀ i, i < j → α1 18 i = nI (kk i)) → ∃ α', EvL sc (d + 4) me_48 2 [some (.ref 15), some (.int X), some (.int (nI j)), none, none] [] (mem L σ α1 τ β γ) 0 0 (some (.long (lN (gw u m B n0 n1 n2))), mem L σ α' τ β γ) ∧ ∀ c, c ≠ 18 → α' c = α c := by
    intro p
    induction p with
    | zero =>
      intro j hj α1 ha hi
      refine ⟨α1, q_48_2 ?_, ha⟩
      rw [if_neg (show ¬ nI j < 8 from nI_nlt (b := 8) (by omega) (by omega))]
      have hP1 : RP α1 := by unfold RP; rw [ha 15 (by decide)]; exact hP
      have hsum := kd_sum u m B
      have q1 := hkk 1
      have q2 := hkk 2
      have q3 := hkk 3
      have q4 := hkk 4
      have q5 := hkk 5
      have q6 := hkk 6
      have q7 := hkk 7
      simp only [show ((1 % 2 == 1) : Bool) = true from rfl, show ((1 / 2 % 2 == 1) : Bool) = false from rfl, show ((1 / 4 == 1) : Bool) = false from rfl] at q1
      simp only [show ((2 % 2 == 1) : Bool) = false from rfl, show ((2 / 2 % 2 == 1) : Bool) = true from rfl, show ((2 / 4 == 1) : Bool) = false from rfl] at q2
      simp only [show ((3 % 2 == 1) : Bool) = true from rfl, show ((3 / 2 % 2 == 1) : Bool) = true from rfl, show ((3 / 4 == 1) : Bool) = false from rfl] at q3
      simp only [show ((4 % 2 == 1) : Bool) = false from rfl, show ((4 / 2 % 2 == 1) : Bool) = false from rfl, show ((4 / 4 == 1) : Bool) = true from rfl] at q4
      simp only [show ((5 % 2 == 1) : Bool) = true from rfl, show ((5 / 2 % 2 == 1) : Bool) = false from rfl, show ((5 / 4 == 1) : Bool) = true from rfl] at q5
      simp only [show ((6 % 2 == 1) : Bool) = false from rfl, show ((6 / 2 % 2 == 1) : Bool) = true from rfl, show ((6 / 4 == 1) : Bool) = true from rfl] at q6
      simp only [show ((7 % 2 == 1) : Bool) = true from rfl, show ((7 / 2 % 2 == 1) : Bool) = true from rfl, show ((7 / 4 == 1) : Bool) = true from rfl] at q7
      rw [gw_PH u m h4, ← q1, ← q2, ← q3, ← q4, ← q5, ← q6, ← q7]
      rw [← q1, ← q2, ← q3, ← q4, ← q5, ← q6, ← q7] at hsum
      exact cll (x_waysOfFirst hP1 (fun i h => hi i (by omega)) (by omega) (by rw [ha 16 (by decide)]; exact e0) (by rw [ha 16 (by decide)]; exact e1) (by rw [ha 16 (by decide)]; exact e2) b0 b1 b2) (q_48_76 rfl)
    | succ p ih =>
      intro j hj α1 ha hi
      obtain ⟨α', hE, f⟩ := ih (j + 1) (by omega) (va_up α1 18 (upd (α1 18) j (nI (kk j)))) (fun c hc => by simp only [va_up, if_neg hc]; exact ha c hc) (fun i hij => by
        simp only [va_up, if_true, upd]
        by_cases e : i = j
        · rw [if_pos e, e]
        · rw [if_neg e]; exact hi i (by omega))
      exact ⟨α', step j (by omega) α1 (ha 17 (by decide)) _ hE, f⟩
  obtain ⟨α', hE, f⟩ := loop 8 0 (by omega) α (fun _ _ => rfl) (fun i hi => by omega)
  exact ⟨α', e_start rfl rfl rfl (q_48_0 hE), f⟩
end TA
