/-! the class: turns, and a bone at an end of the row -/
def aTr (g : Nat → Nat) (v : Nat → Int32) (x : Int32) : Int32 := if bel x (g 22) then v x.toNatClampNeg else -1
section XD
variable {sc : Nat × (Nat → Int32)} {d : Nat} {L : Nat → Nat} {σ : Nat → Int32} {α : Nat → Nat → Int32} {τ : Nat → Int32} {β : Nat → Nat → Int32} {γ : Nat → Nat → Int64} {g : Nat → Nat} {w : Nat → Nat → Nat}
theorem x_isTurn (h : RT g w L σ α) (hB : Bs g w) (x : Int32) : Ev sc (d + 1) 58 [.ref 5, .int x] (mem L σ α τ β γ) (some (.int (bI (bel x (g 22)))), mem L σ α τ β γ) := by
  have h22 := (Bs_Bd hB).2.2.2.2.2.2.2.2.1
  have n140 : (140 : Int32) = nI 140 := rfl
  refine e_start rfl rfl rfl (q_58_0 ?_)
  rw [h.2.1.2.2.2.2.2.2.2.2.2, n140]
  rcases bel_cases x (n := g 22) (by omega) with ⟨h1, h2⟩ | ⟨k, h1, rfl, h2, h3⟩ | ⟨k, h1, hk, rfl, h2⟩
  · rw [if_pos h1, h2]; rfl
  · rw [if_neg (nI_pos (by omega)), if_pos (nI_lt h1 (by omega)), if_pos (nI_lt (by omega) (by omega)), h2]; rfl
  · rw [if_neg (nI_pos hk), if_neg (nI_nlt h1 hk), h2]; rfl
theorem x_seatOf (h : RT g w L σ α) (hB : Bs g w) (x : Int32) : Ev sc (d + 2) 59 [.ref 5, .int x] (mem L σ α τ β γ) (some (.int (aTr g (fun t => nI (w 25 t)) x)), mem L σ α τ β γ) := by
  have h22 := (Bs_Bd hB).2.2.2.2.2.2.2.2.1
  refine e_start rfl rfl rfl (q_59_0 (cli (x_isTurn h hB x) (q_59_5 ?_)))
  unfold aTr
  rcases bel_cases x (n := g 22) (by omega) with ⟨h1, h2⟩ | ⟨k, h1, rfl, h2, h3⟩ | ⟨k, h1, hk, rfl, h2⟩
  · rw [h2, if_pos (by decide)]; rfl
  · rw [h2, if_neg (by decide), h3, if_neg (in_cl (by omega) (by decide)), (h.2.2.2.2.2.1 k h1).1]; rfl
  · rw [h2, if_pos (by decide)]; rfl
theorem x_boneOf (h : RT g w L σ α) (hB : Bs g w) (x : Int32) : Ev sc (d + 2) 60 [.ref 5, .int x] (mem L σ α τ β γ) (some (.int (aTr g (fun t => mI (w 26 t)) x)), mem L σ α τ β γ) := by
  have h22 := (Bs_Bd hB).2.2.2.2.2.2.2.2.1
  refine e_start rfl rfl rfl (q_60_0 (cli (x_isTurn h hB x) (q_60_5 ?_)))
  unfold aTr
  rcases bel_cases x (n := g 22) (by omega) with ⟨h1, h2⟩ | ⟨k, h1, rfl, h2, h3⟩ | ⟨k, h1, hk, rfl, h2⟩
  · rw [h2, if_pos (by decide)]; rfl
  · rw [h2, if_neg (by decide), h3, if_neg (in_cl (by omega) (by decide)), (h.2.2.2.2.2.1 k h1).2.1]; rfl
  · rw [h2, if_pos (by decide)]; rfl
theorem x_endOf (h : RT g w L σ α) (hB : Bs g w) (x : Int32) : Ev sc (d + 2) 61 [.ref 5, .int x] (mem L σ α τ β γ) (some (.int (aTr g (fun t => mI (w 27 t)) x)), mem L σ α τ β γ) := by
  have h22 := (Bs_Bd hB).2.2.2.2.2.2.2.2.1
  refine e_start rfl rfl rfl (q_61_0 (cli (x_isTurn h hB x) (q_61_5 ?_)))
  unfold aTr
  rcases bel_cases x (n := g 22) (by omega) with ⟨h1, h2⟩ | ⟨k, h1, rfl, h2, h3⟩ | ⟨k, h1, hk, rfl, h2⟩
  · rw [h2, if_pos (by decide)]; rfl
  · rw [h2, if_neg (by decide), h3, if_neg (in_cl (by omega) (by decide)), (h.2.2.2.2.2.1 k h1).2.2.1]; rfl
  · rw [h2, if_pos (by decide)]; rfl
theorem aTr_nI {v : Nat → Int32} {t : Nat} (h22 : g 22 ≤ 120) (ht : t < g 22) : aTr g v (nI t) = v t := by
  unfold aTr
  rw [bel_nI (by omega) (by omega), decide_eq_true ht, if_pos rfl, cl_nI (by omega)]
theorem x_passesAtEnd (h : RT g w L σ α) (hB : Bs g w) : Ev sc (d + 3) 62 [.ref 5] (mem L σ α τ β γ) (some (.int (nI (tp w (g 22)))), mem L σ α τ β γ) := by
  obtain ⟨-, -, ⟨-, h3⟩, -, -, -, -, -, h22, -, ht⟩ := Bs_Bd hB
  have hle := tp_le w (g 22)
  have key : ∀ k j, j + k = tp w (g 22) → EvL sc (d + 2) me_62 9 [some (.ref 5), some (.int (nI j)), some (.int (nI (g 22) - 1 - nI j))] [] (mem L σ α τ β γ) 0 0 (some (.int (nI (tp w (g 22)))), mem L σ α τ β γ) := by
    intro k
    induction k with
    | zero =>
      intro j hj
      have e : j = tp w (g 22) := by omega
      refine q_62_9 ?_
      by_cases hlt : j < g 22
      · have e1 : nI (g 22) - 1 - nI j = nI (g 22 - 1 - j) := by
          have : nI (g 22) - 1 = nI (g 22 - 1) := pk_sub (b := 1) (by omega)
          rw [this, pk_sub (by omega)]
        have hb := ht (g 22 - 1 - j) (by omega)
        rw [e1, if_neg (nI_pos (by omega))]
        refine cli (x_boneOf h hB _) (q_62_18 ?_)
        rw [aTr_nI h22 (by omega), if_neg (fun z => by
          have z := (mI_eq_m1 (by omega)).mp z
          subst e
          exact tp_stop w hlt z), e]
      · have e1 : nI (g 22) - 1 - nI j = -1 := by
          rw [show j = g 22 by omega, Int32.sub_sub, Int32.add_comm, ← Int32.sub_sub, Int32.sub_self]; rfl
        rw [e1, if_pos (by decide), e]
    | succ k ih =>
      intro j hj
      obtain ⟨h1, h2, h4⟩ := tp_at w (g 22) j (by omega)
      have h4 := h4 (by omega)
      have e1 : nI (g 22) - 1 - nI j = nI (g 22 - 1 - j) := by
        have : nI (g 22) - 1 = nI (g 22 - 1) := pk_sub (b := 1) (by omega)
        rw [this, pk_sub (by omega)]
      have e2 : nI (g 22) - 1 - nI (j + 1) = nI (g 22 - 1 - j) + -1 := by
        rw [← e1, ← nI_1, ← Int32.sub_sub, Int32.sub_eq_add_neg (nI (g 22) - 1 - nI j)]
      have ih := ih (j + 1) (by omega)
      rw [e2] at ih
      refine q_62_9 ?_
      rw [e1, if_neg (nI_pos (by omega))]
      refine cli (x_boneOf h hB _) (q_62_18 ?_)
      rw [aTr_nI h22 (by omega), h4, if_pos mI_0, nI_1]
      exact ih
  have k0 := key (tp w (g 22)) 0 (by omega)
  rw [nI_0, Int32.sub_zero] at k0
  refine e_start rfl rfl rfl (q_62_0 ?_)
  rw [h.2.1.2.2.2.2.2.2.2.2.2]
  exact k0
theorem x_firstFalse (h : RT g w L σ α) (hB : Bs g w) : Ev sc (d + 1) 64 [.ref 5] (mem L σ α τ β γ) (some (.int (mI (fd (fun t => decide (¬ w 30 t = 0)) (g 22) 0 0))), mem L σ α τ β γ) := by
  obtain ⟨-, -, ⟨-, h3⟩, -, -, -, -, -, h22, -, ht⟩ := Bs_Bd hB
  have n140 : (140 : Int32) = nI 140 := rfl
  have loop : ∀ m j, j + m = g 22 → EvL sc d me_64 2 [some (.ref 5), some (.int (nI j))] [] (mem L σ α τ β γ) 0 0 (some (.int (mI (fd (fun t => decide (¬ w 30 t = 0)) m 0 j))), mem L σ α τ β γ) := by
    intro m
    induction m with
    | zero =>
      intro j hj
      refine q_64_2 ?_
      rw [h.2.1.2.2.2.2.2.2.2.2.2, if_neg (nI_nlt (by omega) (by omega))]
      simp only [fd]
      rw [mI_0]
    | succ m ih =>
      intro j hj
      have hf := (ht j (by omega)).2.2.2.2.2
      have e : nI (w 30 j) = (0 : Int32) ↔ w 30 j = 0 := nI_eq (b := 0) (by omega) (by decide)
      refine q_64_2 ?_
      rw [h.2.1.2.2.2.2.2.2.2.2.2, if_pos (nI_lt (by omega) (by omega)), n140, if_pos (nI_lt (by omega) (by omega)), if_neg (in_nI (by omega) (by decide)), cl_nI (by omega), (h.2.2.2.2.2.1 j (by omega)).2.2.2.1]
      by_cases hw : w 30 j = 0
      · rw [if_pos (e.mpr hw), show fd (fun t => decide (¬ w 30 t = 0)) (m + 1) 0 j = fd (fun t => decide (¬ w 30 t = 0)) m 0 (j + 1) from by simp [fd, hw], nI_1]
        exact ih (j + 1) (by omega)
      · rw [if_neg (fun z => hw (e.mp z)), show fd (fun t => decide (¬ w 30 t = 0)) (m + 1) 0 j = j + 1 from by simp [fd, hw], mI_succ]
  exact e_start rfl rfl rfl (q_64_0 (loop (g 22) 0 (by omega)))
theorem cn_pos_succ (p : Nat → Bool) (j : Nat) : decide (0 < cn p (j + 1)) = (decide (0 < cn p j) || p j) := by
  have e : cn p (j + 1) = cn p j + (if p j then 1 else 0) := rfl
  cases hp : p j with
  | true => rw [decide_eq_true (by rw [e, hp]; simp)]; simp
  | false =>
    rw [Bool.or_false]
    have : cn p (j + 1) = cn p j := by rw [e, hp]; simp
    rw [this]
/-- all bones that a seat has refused -/
theorem x_refusedBy (h : RT g w L σ α) (hB : Bs g w) {s : Nat} (hs4 : s < 100) : ∃ x, Ev sc (d + 1) 63 [.ref 5, .int (nI s)] (mem L σ α τ β γ) (some (.int x), mem L σ α τ β γ) ∧ ∀ i, i < 32 → bt x i = (decide (i < g 3) && shB g w s i) := by
  obtain ⟨⟨h1', h1''⟩, -, ⟨-, h3⟩, -, -, -, -, -, h22, -, ht⟩ := Bs_Bd hB
  have n140 : (140 : Int32) = nI 140 := rfl
  have loop : ∀ m j, j + m = g 22 → ∀ v : Int32, (∀ i, i < 32 → bt v i = (decide (i < g 3) && decide (0 < cn (shP w s i) j))) → ∃ x, EvL sc d me_63 4 [some (.ref 5), some (.int (nI s)), some (.int v), some (.int (nI j))] [] (mem L σ α τ β γ) 0 0 (some (.int x), mem L σ α τ β γ) ∧ ∀ i, i < 32 → bt x i = (decide (i < g 3) && shB g w s i) := by
    intro m
    induction m with
    | zero =>
      intro j hj v hv
      have ej : j = g 22 := by omega
      subst ej
      refine ⟨v, q_63_4 ?_, hv⟩
      rw [h.2.1.2.2.2.2.2.2.2.2.2, if_neg (nI_nlt (by omega) (by omega))]
    | succ m ih =>
      intro j hj v hv
      have hb := ht j (by omega)
      have e : nI (w 25 j) = nI s ↔ w 25 j = s := nI_eq (by omega) (by omega)
      obtain ⟨r1, r2, r3, r4, r5⟩ := h.2.2.2.2.2.1 j (by omega)
      by_cases q : w 25 j = s
      · obtain ⟨x, hE, hx⟩ := ih (j + 1) (by omega) (v ||| α 9 j) (fun i hi => by
          rw [b_or, hv i hi, r5 i hi, cn_pos_succ]
          have es : shP w s i j = (decide (w 26 j = 0) && (hs i (w 28 j) || hs i (w 29 j))) := by simp [shP, q]
          rw [es]
          cases decide (i < g 3) <;> simp)
        refine ⟨x, q_63_4 ?_, hx⟩
        rw [h.2.1.2.2.2.2.2.2.2.2.2, if_pos (nI_lt (by omega) (by omega)), n140, if_pos (nI_lt (by omega) (by omega)), if_neg (in_nI (by omega) (by decide)), cl_nI (by omega), r1, if_pos (e.mpr q), if_neg (in_cl (by omega) (by decide)), nI_1]
        exact hE
      · obtain ⟨x, hE, hx⟩ := ih (j + 1) (by omega) v (fun i hi => by
          have es : shP w s i j = false := by simp [shP, q]
          rw [hv i hi, cn_pos_succ, es, Bool.or_false])
        refine ⟨x, q_63_4 ?_, hx⟩
        rw [h.2.1.2.2.2.2.2.2.2.2.2, if_pos (nI_lt (by omega) (by omega)), n140, if_pos (nI_lt (by omega) (by omega)), if_neg (in_nI (by omega) (by decide)), cl_nI (by omega), r1, if_neg (fun z => q (e.mp z)), nI_1]
        exact hE
  obtain ⟨x, hE, hx⟩ := loop (g 22) 0 (by omega) 0 (fun i hi => by rw [b_0]; simp [cn])
  exact ⟨x, e_start rfl rfl rfl (q_63_0 hE), hx⟩
/-- a bone is added to the row -/
theorem x_add (h : RT g w L σ α) (hB : Bs g w) {b e : Nat} {x : Int32} (hb : b < 28) (he : e ≤ 1) (hx : x = nI (mpE g e)) (hf : fitE g w b (nI e) = true) (hB' : Bs (mpG g e) (mpW g w b e)) : ∃ σ' α', Ev sc (d + 3) 5 [.ref 3, .int (nI b), .int x] (mem L σ α τ β γ) (none, mem L σ' α' τ β γ) ∧ σ' 10 = nI (mpG g e 14 - 3) ∧ σ' 11 = nI (mpG g e 15 - mpG g e 14) ∧ (∀ k, k ≠ 10 → k ≠ 11 → σ' k = σ k) ∧ (∀ c, c ≠ 4 → α' c = α c) ∧ (∀ i, mpG g e 14 ≤ i → i < mpG g e 15 → α' 4 (i - 3) = nI (10 * mpW g w b e 23 i + mpW g w b e 24 i)) := by
  have hr := (Bs_Bd hB).2.2.2.2.2.2.2.1
  have hr' := (Bs_Bd hB').2.2.2.2.2.2.2.1
  have hl := lp_le (Bs_Bd hB)
  have hpip := lo_le b hb
  have n10 : (10 : Int32) = nI 10 := rfl
  have n28 : (28 : Int32) = nI 28 := rfl
  have r14 : mpG g e 14 = if ¬ g 14 = g 15 ∧ e = 0 then g 14 - 1 else g 14 := by unfold mpG; split <;> simp [va_up, wrG]
  have r15 : mpG g e 15 = if ¬ g 14 = g 15 ∧ e = 0 then g 15 else g 15 + 1 := by unfold mpG; split <;> simp [va_up, wrG]
  have w23 : ∀ i, mpW g w b e 23 i = if i = mpI g e then plL g w b e else w 23 i := fun i => by simp [mpW, wrW, tw, va_up]
  have w24 : ∀ i, mpW g w b e 24 i = if i = mpI g e then plR g w b e else w 24 i := fun i => by simp [mpW, wrW, tw, va_up]
  have hne' : ¬ mpG g e 14 = mpG g e 15 := by rw [r14, r15]; split <;> omega
  have r3' := row3 hB' hne'
  by_cases em : g 14 = g 15
  · -- the first bone
    have e14 : g 14 = 30 := by omega
    have q14 : mpG g e 14 = 30 := by rw [r14, if_neg (fun z => z.1 em)]; exact e14
    have q15 : mpG g e 15 = 31 := by rw [r15, if_neg (fun z => z.1 em)]; omega
    have qI : mpI g e = 30 := by unfold mpI; rw [if_neg (fun z => z.1 em)]; omega
    have pl : plL g w b e = lo b ∧ plR g w b e = hi b := by unfold plL plR; rw [if_pos em, if_pos em]; exact ⟨rfl, rfl⟩
    have s10 : σ 10 = 28 := by rw [h.2.1.2.2.2.2.2.2.2.1, if_pos em]
    have s11 : σ 11 = 0 := by rw [h.2.1.2.2.2.2.2.2.2.2.1, show g 15 - g 14 = 0 by omega]; rfl
    refine ⟨upd (upd σ 10 27) 11 1, va_up α 4 (upd (α 4) 27 (nI (10 * lo b + hi b))), e_start rfl rfl rfl (q_5_0 (cli (x_isEmpty h hB) (q_5_4 ?_))), by simp [upd, q14]; rfl, by simp [upd, q14, q15]; rfl, fun k a c => by simp [upd, a, c], fun c hc => by simp [va_up, hc], fun i a c => ?_⟩
    · rw [if_neg (by simp [em, bI])]
      refine cli (x_low hb) (q_5_14 (cli (x_high hb) (q_5_19 ?_)))
      rw [lo_ok b hb, hi_ok b hb, n10, pk_mul, nI_add]
      refine clv (e_start rfl rfl rfl (q_6_0 ?_)) (q_5_23 rfl)
      rw [s10, s11, show (28 : Int32) - 1 = nI 27 from by decide, if_neg (nI_pos (by decide)), nI_lit, if_pos (nI_lt (by decide) (by decide)), if_neg (in_nI (by decide) (by decide)), cl_nI (by decide)]
      rfl
    · rw [q14] at a
      rw [q15] at c
      have ei : i = 30 := by omega
      subst ei
      rw [w23, w24, qI, if_pos rfl, if_pos rfl, pl.1, pl.2]
      simp [va_up, upd]
  · have hxe : x = nI e := by rw [hx]; unfold mpE; rw [if_neg em]
    have s10 : σ 10 = nI (g 14 - 3) := by rw [h.2.1.2.2.2.2.2.2.2.1, if_neg em]
    have s11 : σ 11 = nI (g 15 - g 14) := h.2.1.2.2.2.2.2.2.2.2.1
    have r3 := row3 hB em
    have hpe := x_pipsAt (sc := sc) (d := d) (τ := τ) (β := β) (γ := γ) h hB x
    have lz := lp_zero (g := g) (w := w) ⟨hr.2.1, hr.2.2.1⟩
    by_cases e0 : e = 0
    · subst e0
      have hx0 : x = 0 := hxe
      rw [if_pos hx0] at hpe
      obtain ⟨p, hp⟩ : ∃ p, lp g w = p + 1 := ⟨lp g w - 1, by have : ¬ lp g w = 0 := fun z => em (lz.mp z); omega⟩
      rw [hp, mI_succ] at hpe
      have hf' : hi b = p ∨ lo b = p := by
        unfold fitE at hf
        simp [em, hp, hs, hasP] at hf
        rcases hf with q | q
        · exact q.2
        · exact absurd q.1 (by decide)
      have q14 : mpG g 0 14 = g 14 - 1 := by rw [r14, if_pos ⟨em, rfl⟩]
      have q15 : mpG g 0 15 = g 15 := by rw [r15, if_pos ⟨em, rfl⟩]
      have qI : mpI g 0 = g 14 - 1 := by unfold mpI; rw [if_pos ⟨em, rfl⟩]
      have elo : nI (lo b) = nI p ↔ lo b = p := nI_eq (by omega) (by omega)
      have pl : plL g w b 0 = (if lo b = p then hi b else lo b) ∧ plR g w b 0 = p := by
        unfold plL plR
        rw [if_neg em, if_neg em, if_pos rfl, if_pos rfl, hp]
        by_cases q : hi b = p
        · rw [if_pos (c := hi b + 1 = p + 1) (by omega), if_pos (c := hi b + 1 = p + 1) (by omega)]
          refine ⟨?_, q⟩
          split <;> omega
        · rw [if_neg (c := hi b + 1 = p + 1) (by omega), if_neg (c := hi b + 1 = p + 1) (by omega)]
          refine ⟨?_, by omega⟩
          rw [if_pos (by omega)]
      rw [q14] at r3'
      refine ⟨upd (upd σ 10 (nI (g 14 - 1 - 3))) 11 (nI (g 15 - g 14) + 1), va_up α 4 (upd (α 4) (g 14 - 1 - 3) (nI (10 * plL g w b 0 + plR g w b 0))), e_start rfl rfl rfl (q_5_0 (cli (x_isEmpty h hB) (q_5_4 ?_))), by simp [upd, q14], by simp [upd, q14, q15]; rw [nI_1]; congr 1; omega, fun k a c => by simp [upd, a, c], fun c hc => by simp [va_up, hc], fun i a c => ?_⟩
      · rw [if_pos (by simp [em, bI])]
        refine cli hpe (q_5_29 (cli (x_low hb) (q_5_34 ?_)))
        have tail : ∀ v, v = plL g w b 0 → EvL sc (d + 2) me_5 49 [some (.ref 3), none, some (.int x), some (.int (nI p)), none] [.int (nI v)] (mem L σ α τ β γ) 0 0 (none, mem L (upd (upd σ 10 (nI (g 14 - 1 - 3))) 11 (nI (g 15 - g 14) + 1)) (va_up α 4 (upd (α 4) (g 14 - 1 - 3) (nI (10 * plL g w b 0 + plR g w b 0)))) τ β γ) := by
          intro v hv
          refine q_5_49 ?_
          rw [if_pos hx0, n10, pk_mul, nI_add]
          refine clv (e_start rfl rfl rfl (q_6_0 ?_)) (q_5_66 (q_5_80 rfl))
          rw [s10, s11, show nI (g 14 - 3) - 1 = nI (g 14 - 1 - 3) from by rw [show nI (g 14 - 3) - 1 = nI (g 14 - 3 - 1) from pk_sub (b := 1) (by omega), show g 14 - 3 - 1 = g 14 - 1 - 3 by omega], if_neg (nI_pos (by omega)), nI_lit, if_pos (nI_lt (by omega) (by decide)), if_neg (in_nI (by omega) (by decide)), cl_nI (by omega), hv, pl.2]
        rw [lo_ok b hb]
        by_cases q : lo b = p
        · rw [if_pos (elo.mpr q)]
          refine cli (x_high hb) (q_5_42 ?_)
          rw [hi_ok b hb]
          exact tail _ (by rw [pl.1, if_pos q])
        · rw [if_neg (fun z => q (elo.mp z))]
          refine cli (x_low hb) ?_
          rw [lo_ok b hb]
          exact tail _ (by rw [pl.1, if_neg q])
      · rw [q14] at a
        rw [q15] at c
        rw [w23, w24, qI]
        by_cases ei : i = g 14 - 1
        · rw [if_pos ei, if_pos ei, ei]; simp [va_up, upd]
        · have : ¬ i - 3 = g 14 - 1 - 3 := by omega
          rw [if_neg ei, if_neg ei]
          simp only [va_up, upd, if_true, if_neg this]
          exact h.2.2.2.2.1 i (by omega) c
    · have e1 : e = 1 := by omega
      subst e1
      have hx0 : ¬ x = 0 := by rw [hxe]; decide
      rw [if_neg hx0] at hpe
      have rz : ¬ rp g w = 0 := by unfold rp; rw [if_neg em]; omega
      obtain ⟨p, hp⟩ : ∃ p, rp g w = p + 1 := ⟨rp g w - 1, by omega⟩
      rw [hp, mI_succ] at hpe
      have hf' : hi b = p ∨ lo b = p := by
        unfold fitE at hf
        simp [em, hp, hs, hasP] at hf
        rcases hf with q | q
        · exact absurd q.1 (by decide)
        · exact q.2
      have q14 : mpG g 1 14 = g 14 := by rw [r14, if_neg (fun z => by omega)]
      have q15 : mpG g 1 15 = g 15 + 1 := by rw [r15, if_neg (fun z => by omega)]
      have qI : mpI g 1 = g 15 := by unfold mpI; rw [if_neg (fun z => by omega)]
      have elo : nI (lo b) = nI p ↔ lo b = p := nI_eq (by omega) (by omega)
      have pl : plL g w b 1 = p ∧ plR g w b 1 = (if lo b = p then hi b else lo b) := by
        unfold plL plR
        rw [if_neg em, if_neg em, if_neg e0, if_neg e0, hp]
        by_cases q : lo b = p
        · rw [if_pos (c := lo b + 1 = p + 1) (by omega), if_pos (c := lo b + 1 = p + 1) (by omega), if_pos q]
          exact ⟨q, rfl⟩
        · rw [if_neg (c := lo b + 1 = p + 1) (by omega), if_neg (c := lo b + 1 = p + 1) (by omega), if_neg q]
          exact ⟨by omega, rfl⟩
      rw [q15] at hr'
      have es : σ 10 + σ 11 = nI (g 15 - 3) := by rw [s10, s11, nI_add]; congr 1; omega
      refine ⟨upd σ 11 (nI (g 15 - g 14) + 1), va_up α 4 (upd (α 4) (g 15 - 3) (nI (10 * plL g w b 1 + plR g w b 1))), e_start rfl rfl rfl (q_5_0 (cli (x_isEmpty h hB) (q_5_4 ?_))), by simp [upd, q14, s10], by simp [upd, q14, q15]; rw [nI_1]; congr 1; omega, fun k a c => by simp [upd, c], fun c hc => by simp [va_up, hc], fun i a c => ?_⟩
      · rw [if_pos (by simp [em, bI])]
        refine cli hpe (q_5_29 (cli (x_low hb) (q_5_34 ?_)))
        have tail : ∀ v, v = plR g w b 1 → EvL sc (d + 2) me_5 49 [some (.ref 3), none, some (.int x), some (.int (nI p)), none] [.int (nI v)] (mem L σ α τ β γ) 0 0 (none, mem L (upd σ 11 (nI (g 15 - g 14) + 1)) (va_up α 4 (upd (α 4) (g 15 - 3) (nI (10 * plL g w b 1 + plR g w b 1)))) τ β γ) := by
          intro v hv
          refine q_5_49 ?_
          rw [if_neg hx0, n10, pk_mul, nI_add]
          refine clv (e_start rfl rfl rfl (q_7_0 ?_)) (q_5_80 rfl)
          rw [es, if_neg (nI_pos (by omega)), nI_lit, if_pos (nI_lt (by omega) (by decide)), if_neg (in_nI (by omega) (by decide)), cl_nI (by omega), hv, pl.1, s11]
        rw [lo_ok b hb]
        by_cases q : lo b = p
        · rw [if_pos (elo.mpr q)]
          refine cli (x_high hb) (q_5_42 ?_)
          rw [hi_ok b hb]
          exact tail _ (by rw [pl.2, if_pos q])
        · rw [if_neg (fun z => q (elo.mp z))]
          refine cli (x_low hb) ?_
          rw [lo_ok b hb]
          exact tail _ (by rw [pl.2, if_neg q])
      · rw [q14] at a
        rw [q15] at c
        rw [w23, w24, qI]
        by_cases ei : i = g 15
        · rw [if_pos ei, if_pos ei, ei]; simp [va_up, upd]
        · have : ¬ i - 3 = g 15 - 3 := by omega
          rw [if_neg ei, if_neg ei]
          simp only [va_up, upd, if_true, if_neg this]
          exact h.2.2.2.2.1 i a (by omega)
end XD
