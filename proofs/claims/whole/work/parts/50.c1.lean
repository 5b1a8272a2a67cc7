/-! how the class holds the common state; what it reads of it -/
def RT (g : Nat → Nat) (w : Nat → Nat → Nat) (L : Nat → Nat) (σ : Nat → Int32) (α : Nat → Nat → Int32) : Prop :=
  (L 0 = g 1 ∧ L 1 = g 3 ∧ L 3 = sides (g 1) ∧ (1 ≤ g 7 → ∀ s, s < sides (g 1) → α 5 s = nI (own g w s))) ∧
  (σ 2 = nI (g 1) ∧ σ 3 = nI (g 3) ∧ σ 4 = nI (g 7) ∧ σ 5 = nI (g 8) ∧ σ 7 = (if g 7 = 2 then nI (g 9) else -1) ∧ σ 8 = mI (g 23) ∧ σ 9 = nI (g 24) ∧ σ 10 = (if g 14 = g 15 then 28 else nI (g 14 - 3)) ∧ σ 11 = nI (g 15 - g 14) ∧ σ 12 = nI (g 22)) ∧
  (∀ i, i < 32 → bt (σ 6) i = (decide (1 ≤ g 7) && (decide (i < g 3) && decide (w 21 i = 10)))) ∧
  (∀ s, s < g 1 → ∀ i, i < 32 → bt (α 11 s) i = (decide (1 ≤ g 7) && (decide (i < g 3) && decide (w 21 i = s)))) ∧
  (∀ i, g 14 ≤ i → i < g 15 → α 4 (i - 3) = nI (10 * w 23 i + w 24 i)) ∧
  (∀ t, t < g 22 → α 6 t = nI (w 25 t) ∧ α 7 t = mI (w 26 t) ∧ α 8 t = mI (w 27 t) ∧ α 10 t = nI (w 30 t) ∧ ∀ i, i < 32 → bt (α 9 t) i = (decide (w 26 t = 0) && (decide (i < g 3) && (hs i (w 28 t) || hs i (w 29 t))))) ∧
  (∀ p, p < 7 → ∀ i, i < 32 → bt (α 2 p) i = (decide (i < g 3) && hasP i p))
theorem row_one {g : Nat → Nat} {w : Nat → Nat → Nat} (ht : ∀ t, t < g 22 → TR g w t) : ∀ n, n ≤ g 22 → cn (plP w) n = 0 ∨ 1 ≤ cn (rtP w) n
  | 0, _ => Or.inl rfl
  | n + 1, hn => by
    have ih := row_one ht n (by omega)
    simp only [cn]
    rcases ih with z | z
    · by_cases hp : w 26 n = 0
      · left; rw [z, if_neg (by simp [plP, hp])]
      · right
        have := (ht n (by omega)).2.2.2.1.mpr z
        rw [if_pos (by simp [rtP, hp, this])]; omega
    · right; omega
theorem row3 {g : Nat → Nat} {w : Nat → Nat → Nat} (h : Bs g w) (hne : ¬ g 14 = g 15) : 3 ≤ g 14 := by
  obtain ⟨⟨h1, h22, h3, h7', h9⟩, hp, hD, h8, ⟨e14, e15, e11⟩, ht, hd, hr⟩ := h
  have hs := pl_sum w (g 22)
  have hm := many_le g w 11
  rcases row_one ht (g 22) (Nat.le_refl _) with z | z <;> omega
section XB
variable {sc : Nat × (Nat → Int32)} {d : Nat} {L : Nat → Nat} {σ : Nat → Int32} {α : Nat → Nat → Int32} {τ : Nat → Int32} {β : Nat → Nat → Int32} {γ : Nat → Nat → Int64} {g : Nat → Nat} {w : Nat → Nat → Nat}
theorem x_isEmpty (h : RT g w L σ α) (hB : Bs g w) : Ev sc (d + 1) 2 [.ref 3] (mem L σ α τ β γ) (some (.int (bI (decide (g 14 = g 15)))), mem L σ α τ β γ) := by
  have hr := (Bs_Bd hB).2.2.2.2.2.2.2.1
  refine e_start rfl rfl rfl (q_2_0 ?_)
  rw [h.2.1.2.2.2.2.2.2.2.2.1]
  have e : nI (g 15 - g 14) = (0 : Int32) ↔ g 15 - g 14 = 0 := nI_eq (b := 0) (by omega) (by decide)
  by_cases c : g 14 = g 15
  · rw [if_pos (e.mpr (by omega))]; simp [c, bI]
  · rw [if_neg (fun z => c (by have := e.mp z; omega))]; simp [c, bI]
theorem x_tileAt (h : RT g w L σ α) (hB : Bs g w) (x : Int32) : Ev sc (d + 1) 3 [.ref 3, .int x] (mem L σ α τ β γ) (some (.int (aRow g w x)), mem L σ α τ β γ) := by
  have hr := (Bs_Bd hB).2.2.2.2.2.2.2.1
  refine e_start rfl rfl rfl (q_3_0 ?_)
  rw [h.2.1.2.2.2.2.2.2.2.2.1, h.2.1.2.2.2.2.2.2.2.1]
  unfold aRow
  rcases bel_cases x (n := g 15 - g 14) (by omega) with ⟨h1, h2⟩ | ⟨k, h1, rfl, h2, h3⟩ | ⟨k, h1, hk, rfl, h2⟩
  · rw [if_pos h1, h2]; rfl
  · have hne : ¬ g 14 = g 15 := by omega
    have h14 := row3 hB hne
    have hv := h.2.2.2.2.1 (g 14 + k) (by omega) (by omega)
    rw [if_neg (nI_pos (by omega)), if_pos (nI_lt h1 (by omega)), if_neg hne, nI_add, if_neg (nI_pos (by omega)), nI_lit, if_pos (nI_lt (by omega) (by decide)), if_neg (in_nI (by omega) (by decide)), h3, h2, if_pos rfl, cl_nI (by omega), show g 14 - 3 + k = g 14 + k - 3 by omega, hv]
  · rw [if_neg (nI_pos hk), if_neg (nI_nlt h1 hk), h2]; rfl
theorem aRow_at {k : Nat} (hk : k < g 15 - g 14) (hB : Bs g w) : aRow g w (nI k) = nI (10 * w 23 (g 14 + k) + w 24 (g 14 + k)) := by
  have hr := (Bs_Bd hB).2.2.2.2.2.2.2.1
  unfold aRow
  rw [bel_nI (by omega) (by omega), decide_eq_true hk, if_pos rfl, cl_nI (by omega)]
/-- the pips at an end: 0 is the left one, any other number the right one -/
theorem x_pipsAt (h : RT g w L σ α) (hB : Bs g w) (x : Int32) : Ev sc (d + 2) 4 [.ref 3, .int x] (mem L σ α τ β γ) (some (.int (mI (if x = 0 then lp g w else rp g w))), mem L σ α τ β γ) := by
  obtain ⟨-, -, -, -, -, -, -, hr, -, hrow, -⟩ := Bs_Bd hB
  refine e_start rfl rfl rfl (q_4_0 (cli (x_isEmpty h hB) (q_4_4 ?_)))
  have n10 : (10 : Int32) = nI 10 := rfl
  unfold lp rp
  by_cases hw : g 14 = g 15
  · rw [if_neg (by simp [hw, bI]), if_pos hw, if_pos hw]; simp [mI_0]
  · rw [if_pos (by simp [hw, bI]), if_neg hw, if_neg hw]
    by_cases hx : x = 0
    · rw [if_pos hx, if_pos hx, mI_succ]
      have ha := aRow_at (g := g) (w := w) (k := 0) (by omega) hB
      have hc := hrow (g 14) (by omega) (by omega)
      refine cli (x_tileAt h hB 0) (q_4_18 ?_)
      rw [show aRow g w 0 = nI (10 * w 23 (g 14 + 0) + w 24 (g 14 + 0)) from ha, Nat.add_zero, n10, pk_div (by omega) (by omega) (by omega), show (10 * w 23 (g 14) + w 24 (g 14)) / 10 = w 23 (g 14) by omega]
    · rw [if_neg hx, if_neg hx, mI_succ, h.2.1.2.2.2.2.2.2.2.2.1, show nI (g 15 - g 14) - 1 = nI (g 15 - g 14 - 1) from pk_sub (b := 1) (by omega)]
      have ha := aRow_at (g := g) (w := w) (k := g 15 - g 14 - 1) (by omega) hB
      have hc := hrow (g 15 - 1) (by omega) (by omega)
      refine cli (x_tileAt h hB _) (q_4_34 ?_)
      rw [ha, show g 14 + (g 15 - g 14 - 1) = g 15 - 1 by omega, n10, pk_rem (by omega) (by omega) (by omega), show (10 * w 23 (g 15 - 1) + w 24 (g 15 - 1)) % 10 = w 24 (g 15 - 1) by omega]
theorem x_isSeat (h : RT g w L σ α) (hB : Bs g w) (x : Int32) : Ev sc (d + 1) 14 [.ref 1, .int x] (mem L σ α τ β γ) (some (.int (bI (bel x (g 1)))), mem L σ α τ β γ) := by
  refine e_start rfl rfl rfl (q_14_0 ?_)
  rw [h.1.1, nI_lit]
  unfold bel
  split
  · rename_i h1; simp [h1, bI]
  · rename_i h1
    split
    · rename_i h2; simp [h1, h2, bI]
    · rename_i h2; simp [h2, bI]
theorem x_seatBehind (h : RT g w L σ α) (hB : Bs g w) {s : Nat} (hs : s < g 1) : Ev sc (d + 1) 15 [.ref 1, .int (nI s)] (mem L σ α τ β γ) (some (.int (nI ((s + 1) % g 1))), mem L σ α τ β γ) := by
  have h1 := hB.1.1
  refine e_start rfl rfl rfl (q_15_0 ?_)
  rw [h.2.1.1, nI_1]
  by_cases c : s + 1 < g 1
  · rw [if_pos (nI_lt c (by omega)), Nat.mod_eq_of_lt c]
  · rw [if_neg (nI_nlt (by omega) (by omega)), show s + 1 = g 1 by omega, Nat.mod_self]; rfl
theorem x_sideOf (h : RT g w L σ α) (hB : Bs g w) {s : Nat} (hs : s < 100) : Ev sc (d + 1) 16 [.ref 1, .int (nI s)] (mem L σ α τ β γ) (some (.int (nI (side (g 1) s))), mem L σ α τ β γ) := by
  have h1 := hB.1.1
  have e4 : nI (g 1) = (4 : Int32) ↔ g 1 = 4 := nI_eq (b := 4) (by omega) (by decide)
  refine e_start rfl rfl rfl (q_16_0 ?_)
  rw [h.2.1.1]
  unfold side
  by_cases c : g 1 = 4
  · rw [if_pos (e4.mpr c), if_pos c, pk_andN (by omega) (m := 1) 1 (by decide)]
  · rw [if_neg (fun z => c (e4.mp z)), if_neg c]
theorem x_sides (h : RT g w L σ α) (hB : Bs g w) : Ev sc (d + 1) 17 [.ref 1] (mem L σ α τ β γ) (some (.int (nI (sides (g 1)))), mem L σ α τ β γ) := by
  have h1 := hB.1.1
  have e4 : nI (g 1) = (4 : Int32) ↔ g 1 = 4 := nI_eq (b := 4) (by omega) (by decide)
  refine e_start rfl rfl rfl (q_17_0 ?_)
  rw [h.2.1.1]
  unfold sides
  by_cases c : g 1 = 4
  · rw [if_pos (e4.mpr c), if_pos c]; rfl
  · rw [if_neg (fun z => c (e4.mp z)), if_neg c]
theorem x_handOf (h : RT g w L σ α) (hB : Bs g w) (x : Int32) : Ev sc (d + 2) 18 [.ref 1, .int x] (mem L σ α τ β γ) (some (.int (if bel x (g 1) then α 11 x.toNatClampNeg else 0)), mem L σ α τ β γ) := by
  have h1 := hB.1.1
  refine e_start rfl rfl rfl (q_18_0 (cli (x_isSeat h hB x) (q_18_5 ?_)))
  rcases bel_cases x (n := g 1) (by omega) with ⟨h1, h2⟩ | ⟨k, h1, rfl, h2, h3⟩ | ⟨k, h1, hk, rfl, h2⟩
  · rw [h2, if_pos (by decide)]; rfl
  · rw [h2, if_neg (by decide), h.1.1, h3, if_neg (in_cl h1 (by omega))]; rfl
  · rw [h2, if_pos (by decide)]; rfl
theorem x_hand (h : RT g w L σ α) (hB : Bs g w) {s : Nat} (hs : s < g 1) : Ev sc (d + 2) 18 [.ref 1, .int (nI s)] (mem L σ α τ β γ) (some (.int (α 11 s)), mem L σ α τ β γ) := by
  have h1 := hB.1.1
  have := x_handOf (sc := sc) (d := d) (τ := τ) (β := β) (γ := γ) h hB (nI s)
  rw [bel_nI (by omega) (by omega), decide_eq_true hs, if_pos rfl, cl_nI (by omega)] at this
  exact this
theorem hand_cn (h : RT g w L σ α) (hB : Bs g w) (h7 : 1 ≤ g 7) {s : Nat} (hs : s < g 1) : cn (bt (α 11 s)) 32 = many g w s := by
  have h3 := hB.1.2.2.1
  rw [cn_ext (p := bt (α 11 s)) (n := g 3) 32 (by omega) (fun i a b => by rw [h.2.2.2.1 s hs i b]; simp; omega)]
  unfold many
  exact cn_cong (fun i hi => by rw [h.2.2.2.1 s hs i (by omega)]; simp [h7, hi])
theorem stock_cn (h : RT g w L σ α) (hB : Bs g w) (h7 : 1 ≤ g 7) : cn (bt (σ 6)) 32 = many g w 10 := by
  have h3 := hB.1.2.2.1
  rw [cn_ext (p := bt (σ 6)) (n := g 3) 32 (by omega) (fun i a b => by rw [h.2.2.1 i b]; simp; omega)]
  unfold many
  exact cn_cong (fun i hi => by rw [h.2.2.1 i (by omega)]; simp [h7, hi])
theorem x_heldBy (h : RT g w L σ α) (hB : Bs g w) (h7 : 1 ≤ g 7) {s : Nat} (hs : s < g 1) : Ev sc (d + 3) 19 [.ref 1, .int (nI s)] (mem L σ α τ β γ) (some (.int (nI (many g w s))), mem L σ α τ β γ) := by
  refine e_start rfl rfl rfl (q_19_0 (cli (x_hand h hB hs) (q_19_5 (cli (x_bitCount _) (q_19_8 ?_)))))
  rw [hand_cn h hB h7 hs]
theorem x_placeOf (h : RT g w L σ α) (hB : Bs g w) (x : Int32) : Ev sc (d + 2) 20 [.ref 1, .int x] (mem L σ α τ β γ) (some (.int (aWhere g w x)), mem L σ α τ β γ) := by
  obtain ⟨⟨h1, -, h3, h7', -⟩, hp, hD, -⟩ := id hB
  have e7 : nI (g 7) = (0 : Int32) ↔ g 7 = 0 := nI_eq (b := 0) (by omega) (by decide)
  refine e_start rfl rfl rfl (q_20_0 ?_)
  rw [h.2.1.2.2.1, h.2.1.2.1]
  unfold aWhere
  by_cases z : g 7 = 0
  · rw [if_pos (e7.mpr z), if_pos z]
  · rw [if_neg (fun q => z (e7.mp q)), if_neg z]
    have h7 : 1 ≤ g 7 := by omega
    rcases bel_cases x (n := g 3) (by omega) with ⟨q1, q2⟩ | ⟨b, q1, rfl, q2, q3⟩ | ⟨k, q1, hk, rfl, q2⟩
    · rw [if_pos q1, q2]; rfl
    · rw [if_neg (nI_pos (by omega)), if_pos (nI_lt q1 (by omega)), q2, if_pos rfl, q3]
      have hpl := (hD h7).2.2.1 b q1
      have key : ∀ m j, j + m = g 1 → (∀ s, s < j → ¬ w 21 b = s) → EvL sc (d + 1) me_20 23 [some (.ref 1), some (.int (nI b)), some (.int (nI j))] [] (mem L σ α τ β γ) 0 0 (some (.int (nI (w 21 b))), mem L σ α τ β γ) := by
        intro m
        induction m with
        | zero =>
          intro j hj hno
          refine q_20_23 ?_
          rw [h.1.1, nI_lit, if_neg (nI_nlt (by omega) (by omega))]
          refine cli (x_isIn _ _) (q_20_61 ?_)
          rw [inB_nI (by omega), h.2.2.1 b (by omega)]
          rcases hpl with q | q | q
          · exact absurd rfl (hno (w 21 b) (by omega))
          · rw [if_neg (by simp [bI, q1, q, h7]; omega), q]; rfl
          · rw [if_pos (by simp [bI, q]), q]; rfl
        | succ m ih =>
          intro j hj hno
          refine q_20_23 ?_
          rw [h.1.1, nI_lit, if_pos (nI_lt (by omega) (by omega)), if_neg (in_nI (by omega) (by omega)), cl_nI (by omega)]
          refine cli (x_isIn _ _) (q_20_42 ?_)
          rw [inB_nI (by omega), h.2.2.2.1 j (by omega) b (by omega)]
          by_cases e : w 21 b = j
          · rw [if_neg (by simp [bI, q1, e, h7]; omega), e]
          · rw [if_pos (by simp [bI, e]), nI_1]
            exact ih (j + 1) (by omega) (fun s hs => by
              by_cases q : s = j
              · rw [q]; exact e
              · exact hno s (by omega))
      exact key (g 1) 0 (by omega) (fun s hs => by omega)
    · rw [if_neg (nI_pos hk), if_neg (nI_nlt q1 hk), q2]; rfl
/-- the bones with given pips, told one higher -/
theorem x_bearing (h : RT g w L σ α) {q : Nat} (hq : q ≤ 7) : ∃ x, Ev sc (d + 1) 28 [.ref 1, .int (mI q)] (mem L σ α τ β γ) (some (.int x), mem L σ α τ β γ) ∧ ∀ i, i < 32 → bt x i = (decide (i < g 3) && hs i q) := by
  cases q with
  | zero =>
    refine ⟨0, e_start rfl rfl rfl (q_28_0 ?_), fun i hi => ?_⟩
    · rw [mI_0, if_pos (by decide)]
    · rw [b_0]; simp [hs]
  | succ p =>
    refine ⟨α 2 p, e_start rfl rfl rfl (q_28_0 ?_), fun i hi => ?_⟩
    · rw [mI_succ, if_neg (nI_pos (by omega)), nI_lit, if_pos (nI_lt (by omega) (by decide)), if_neg (in_nI (by omega) (by decide)), cl_nI (by omega)]
    · exact h.2.2.2.2.2.2 p (by omega) i hi
theorem x_openBones (h : RT g w L σ α) (hB : Bs g w) : ∃ x, Ev sc (d + 3) 29 [.ref 1] (mem L σ α τ β γ) (some (.int x), mem L σ α τ β γ) ∧ ∀ i, i < 32 → bt x i = (decide (i < g 3) && (hs i (lp g w) || hs i (rp g w))) := by
  have hl := lp_le (Bs_Bd hB)
  obtain ⟨x1, hE1, hb1⟩ := x_bearing (sc := sc) (d := d + 1) (τ := τ) (β := β) (γ := γ) h hl.1
  obtain ⟨x2, hE2, hb2⟩ := x_bearing (sc := sc) (d := d + 1) (τ := τ) (β := β) (γ := γ) h hl.2
  have p1 := x_pipsAt (sc := sc) (d := d) (τ := τ) (β := β) (γ := γ) h hB 0
  have p2 := x_pipsAt (sc := sc) (d := d) (τ := τ) (β := β) (γ := γ) h hB 1
  rw [if_pos rfl] at p1
  rw [if_neg (by decide)] at p2
  refine ⟨x1 ||| x2, e_start rfl rfl rfl (q_29_0 (cli p1 (q_29_9 (cli hE1 (q_29_12 (cli p2 (q_29_21 (cli hE2 (q_29_24 rfl))))))))), fun i hi => ?_⟩
  rw [b_or, hb1 i hi, hb2 i hi]
  cases decide (i < g 3) <;> simp
theorem canE_lim {b : Nat} {x : Int32} (h3 : g 3 ≤ 28) (h : ¬ b < 28) : canE g w b x = false := by
  unfold canE
  rw [decide_eq_false (p := b < g 3) (by omega)]
  simp
theorem x_canPut (h : RT g w L σ α) (hB : Bs g w) {b : Nat} (hb : b < 2 ^ 31) (x : Int32) : Ev sc (d + 3) 30 [.ref 1, .int (nI b), .int x] (mem L σ α τ β γ) (some (.int (bI (canE g w b x))), mem L σ α τ β γ) := by
  obtain ⟨⟨h1, -, h3, h7', h9⟩, -⟩ := id hB
  have hl := lp_le (Bs_Bd hB)
  have e7 : nI (g 7) = (2 : Int32) ↔ g 7 = 2 := nI_eq (b := 2) (by omega) (by decide)
  refine e_start rfl rfl rfl (q_30_0 ?_)
  rw [h.2.1.2.2.1, h.2.1.2.2.2.2.1]
  by_cases c7 : g 7 = 2
  · rw [if_pos (e7.mpr c7), if_pos c7]
    refine cli (x_hand h hB h9) (q_30_16 (cli (x_isIn _ _) (q_30_20 ?_)))
    rw [inB_nI hb]
    by_cases b28 : b < 28
    · rw [h.2.2.2.1 (g 9) h9 b (by omega)]
      by_cases c1 : b < g 3 ∧ w 21 b = g 9
      · rw [if_neg (by simp [bI, b28, c1, c7])]
        refine cli (x_isEmpty h hB) (q_30_32 ?_)
        have fin : ∀ q, q ≤ 7 → ∀ {r}, r = (some (Value.int (bI (hs b q))), mem L σ α τ β γ) → EvL sc (d + 2) me_30 55 [none, some (.int (nI b)), none] [.int (mI q), .ref 1] (mem L σ α τ β γ) 0 0 r := by
          intro q hq r hr
          obtain ⟨y, hE, hy⟩ := x_bearing (sc := sc) (d := d + 1) (τ := τ) (β := β) (γ := γ) h hq
          refine q_30_55 (cli hE (q_30_58 (cli (x_isIn _ _) (q_30_62 ?_))))
          rw [inB_nI hb, hy b (by omega), decide_eq_true b28, decide_eq_true c1.1, hr]
          cases hs b q
          · rw [if_pos (by decide)]; rfl
          · rw [if_neg (by decide)]; rfl
        have ec : canE g w b x = fitE g w b x := by simp [canE, c7, c1]
        rw [ec]
        unfold fitE
        by_cases em : g 14 = g 15
        · rw [if_neg (by simp [em, bI])]; simp [em, bI]
        · rw [if_pos (by simp [em, bI])]
          by_cases x0 : x = 0
          · rw [if_pos x0, x0]
            have p1 := x_pipsAt (sc := sc) (d := d) (τ := τ) (β := β) (γ := γ) h hB 0
            rw [if_pos rfl] at p1
            exact cli p1 (fin _ hl.1 (by simp [em]))
          · rw [if_neg x0]
            by_cases x1 : x = 1
            · rw [if_pos x1, x1]
              have p1 := x_pipsAt (sc := sc) (d := d) (τ := τ) (β := β) (γ := γ) h hB 1
              rw [if_neg (by decide)] at p1
              exact cli p1 (fin _ hl.2 (by simp [em]))
            · rw [if_neg x1]; simp [em, x0, x1, bI]
      · have ec : canE g w b x = false := by
          unfold canE
          by_cases q : b < g 3
          · simp [show ¬ w 21 b = g 9 from fun z => c1 ⟨q, z⟩]
          · simp [q]
        rw [ec, if_pos (by
          rw [bI_eq0]
          by_cases q : b < g 3
          · simp [show ¬ w 21 b = g 9 from fun z => c1 ⟨q, z⟩]
          · simp [q])]; rfl
    · rw [canE_lim h3.2 b28, decide_eq_false b28, if_pos (by rfl)]; rfl
  · rw [if_neg (fun z => c7 (e7.mp z))]
    simp [canE, c7, bI]
theorem x_canPut_neg (h : RT g w L σ α) (hB : Bs g w) {y : Int32} (hy : y < 0) (x : Int32) : Ev sc (d + 3) 30 [.ref 1, .int y, .int x] (mem L σ α τ β γ) (some (.int 0), mem L σ α τ β γ) := by
  obtain ⟨⟨h1, -, h3, h7', h9⟩, -⟩ := id hB
  have e7 : nI (g 7) = (2 : Int32) ↔ g 7 = 2 := nI_eq (b := 2) (by omega) (by decide)
  refine e_start rfl rfl rfl (q_30_0 ?_)
  rw [h.2.1.2.2.1, h.2.1.2.2.2.2.1]
  by_cases c7 : g 7 = 2
  · rw [if_pos (e7.mpr c7), if_pos c7]
    refine cli (x_hand h hB h9) (q_30_16 (cli (x_isIn _ _) (q_30_20 ?_)))
    rw [inB_neg hy, if_pos (by rfl)]
  · rw [if_neg (fun z => c7 (e7.mp z))]
/-- the bones that the seat on turn can play at an end -/
theorem x_playsAt (h : RT g w L σ α) (hB : Bs g w) {e : Nat} (he : e ≤ 1) : ∃ x, Ev sc (d + 3) 31 [.ref 1, .int (nI e)] (mem L σ α τ β γ) (some (.int x), mem L σ α τ β γ) ∧ ∀ i, i < 32 → bt x i = plB g w (2 * i + e) := by
  obtain ⟨⟨h1, -, h3, h7', h9⟩, -⟩ := id hB
  have hl := lp_le (Bs_Bd hB)
  have e7 : nI (g 7) = (2 : Int32) ↔ g 7 = 2 := nI_eq (b := 2) (by omega) (by decide)
  have en1 : ∀ i, (2 * i + e) % 2 = e := fun i => by omega
  have en2 : ∀ i, (2 * i + e) / 2 = i := fun i => by omega
  by_cases c7 : g 7 = 2
  · have fin : ∀ a : Int32, EvL sc (d + 2) me_31 44 [some (.ref 1), none, none] [.int a] (mem L σ α τ β γ) 0 0 (some (.int (α 11 (g 9) &&& a)), mem L σ α τ β γ) := by
      intro a
      refine q_31_44 ?_
      rw [h.2.1.2.2.2.2.1, if_pos c7]
      exact cli (x_hand h hB h9) (q_31_53 rfl)
    have bits : ∀ a : Int32, (∀ i, i < 32 → i < g 3 → bt a i = ((decide (e = 0) || decide (¬ g 14 = g 15)) && fitE g w i (nI e))) → ∀ i, i < 32 → bt (α 11 (g 9) &&& a) i = plB g w (2 * i + e) := by
      intro a ha i hi
      rw [b_and, h.2.2.2.1 (g 9) h9 i hi]
      unfold plB canE
      rw [en1, en2]
      by_cases q : i < g 3
      · rw [ha i hi q, c7, decide_eq_true q]
        cases decide (w 21 i = g 9) <;> simp
      · simp [q]
    have n0 : nI 0 = (0 : Int32) := rfl
    have n1 : nI 1 = (1 : Int32) := rfl
    have n01 : ¬ (0 : Int32) = 1 := by decide
    have n10 : ¬ (1 : Int32) = 0 := by decide
    have start : ∀ {r}, EvL sc (d + 2) me_31 17 [some (.ref 1), some (.int (nI e)), none] [.int (bI (decide (g 14 = g 15)))] (mem L σ α τ β γ) 0 0 r → Ev sc (d + 3) 31 [.ref 1, .int (nI e)] (mem L σ α τ β γ) r := by
      intro r hr
      refine e_start rfl rfl rfl (q_31_0 ?_)
      rw [h.2.1.2.2.1, if_pos (e7.mpr c7)]
      exact cli (x_isEmpty h hB) hr
    by_cases em : g 14 = g 15
    · rcases (show e = 0 ∨ e = 1 by omega) with e0 | e1
      · subst e0
        refine ⟨_, start (q_31_17 ?_), bits (-1) (fun i hi q => ?_)⟩
        · rw [if_neg (by simp [em, bI]), n0, if_pos rfl]
          exact fin (-1)
        · rw [b_m1 i hi]; simp [fitE, em]
      · subst e1
        refine ⟨_, start (q_31_17 ?_), bits 0 (fun i hi q => ?_)⟩
        · rw [if_neg (by simp [em, bI]), n1, if_neg n10]
          exact fin 0
        · rw [b_0]; simp [em]
    · have p := x_pipsAt (sc := sc) (d := d) (τ := τ) (β := β) (γ := γ) h hB (nI e)
      rcases (show e = 0 ∨ e = 1 by omega) with e0 | e1
      · subst e0
        rw [if_pos n0] at p
        obtain ⟨y, hE, hy⟩ := x_bearing (sc := sc) (d := d + 1) (τ := τ) (β := β) (γ := γ) h hl.1
        refine ⟨_, start (q_31_17 ?_), bits y (fun i hi q => ?_)⟩
        · rw [if_pos (by simp [em, bI])]
          exact cli p (q_31_41 (cli hE (fin y)))
        · rw [hy i hi, n0]; simp [fitE, em, q, n01]
      · subst e1
        rw [if_neg (by decide)] at p
        obtain ⟨y, hE, hy⟩ := x_bearing (sc := sc) (d := d + 1) (τ := τ) (β := β) (γ := γ) h hl.2
        refine ⟨_, start (q_31_17 ?_), bits y (fun i hi q => ?_)⟩
        · rw [if_pos (by simp [em, bI])]
          exact cli p (q_31_41 (cli hE (fin y)))
        · rw [hy i hi, n1]; simp [fitE, em, q, n10]
  · refine ⟨0, e_start rfl rfl rfl (q_31_0 ?_), fun i hi => ?_⟩
    · rw [h.2.1.2.2.1, if_neg (fun z => c7 (e7.mp z))]
    · rw [b_0]; simp [plB, canE, c7]
theorem x_isPl {M : dk_M} (h3 : g 3 ≤ 28) {l r : Int32} (hl : ∀ i, i < 32 → bt l i = plB g w (2 * i + 0)) (hr : ∀ i, i < 32 → bt r i = plB g w (2 * i + 1)) {p : Nat} (hp : p < 100) : Ev sc (d + 2) 94 [.int (nI p), .int l, .int r] M (some (.int (bI (plB g w p))), M) := by
  have e1 : nI p &&& 1 = nI (p % 2) := pk_andN (by omega) 1 (by decide)
  have e2 : nI p >>> ((1 : Int32) &&& 31) = nI (p / 2) := pk_shrN (n := p) (by omega) ((1 : Int32) &&& 31) 1 (by decide)
  have e0 : nI (p % 2) = (0 : Int32) ↔ p % 2 = 0 := nI_eq (b := 0) (by omega) (by decide)
  have lim : ¬ p / 2 < 28 → plB g w p = false := fun z => by unfold plB; rw [canE_lim h3 z, Bool.and_false]
  refine e_start rfl rfl rfl (q_94_0 ?_)
  rw [e1, e2]
  have fin : ∀ y : Int32, inB y (nI (p / 2)) = plB g w p → Cli sc (d + 1) 92 [.int y, .int (nI (p / 2))] M (fun y M2 => EvL sc (d + 1) me_94 17 [none, none, none] [.int y] M2 0 0 (some (.int (bI (plB g w p))), M)) := by
    intro y hy
    refine cli (x_isIn _ _) (q_94_17 ?_)
    rw [hy]
    cases plB g w p
    · rw [if_pos (by decide)]
    · rw [if_pos (by decide)]
  by_cases o : p % 2 = 0
  · rw [if_pos (e0.mpr o)]
    refine fin l ?_
    rw [inB_nI (by omega)]
    by_cases b28 : p / 2 < 28
    · rw [hl _ (by omega), show 2 * (p / 2) + 0 = p by omega, decide_eq_true b28, Bool.true_and]
    · rw [lim b28, decide_eq_false b28, Bool.false_and]
  · rw [if_neg (fun z => o (e0.mp z))]
    refine fin r ?_
    rw [inB_nI (by omega)]
    by_cases b28 : p / 2 < 28
    · rw [hr _ (by omega), show 2 * (p / 2) + 1 = p by omega, decide_eq_true b28, Bool.true_and]
    · rw [lim b28, decide_eq_false b28, Bool.false_and]
end XB
