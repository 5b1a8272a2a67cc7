/-! the class: play, pass, back; what it tells -/
section XJ
variable {sc : Nat × (Nat → Int32)} {d : Nat} {L : Nat → Nat} {σ : Nat → Int32} {α : Nat → Nat → Int32} {τ : Nat → Int32} {β : Nat → Nat → Int32} {γ : Nat → Nat → Int64} {g : Nat → Nat} {w : Nat → Nat → Nat} {M : dk_M}
theorem RT_a (h : RT g w L σ α) {α' : Nat → Nat → Int32} (ha : ∀ c, c < 12 → α' c = α c) : RT g w L σ α' := by
  obtain ⟨⟨l0, l1, lW, kW⟩, s, k6, kh, kr, kt, kb⟩ := h
  refine ⟨⟨l0, l1, lW, by rw [ha 5 (by decide)]; exact kW⟩, s, k6, ?_, ?_, ?_, ?_⟩
  · rw [ha 11 (by decide)]; exact kh
  · rw [ha 4 (by decide)]; exact kr
  · rw [ha 6 (by decide), ha 7 (by decide), ha 8 (by decide), ha 9 (by decide), ha 10 (by decide)]; exact kt
  · rw [ha 2 (by decide)]; exact kb
theorem RT_eq (h : RT g w L σ α) {G : Nat → Nat} {W : Nat → Nat → Nat} (h3 : g 3 ≤ 28) (hG : ∀ k, k ≠ 2 → k ≠ 10 → k ≠ 11 → G k = g k) (hW : agr g w W) : RT G W L σ α := by
  obtain ⟨⟨l0, l1, lW, kW⟩, ⟨s2, s3, s4, s5, s7, s8, s9, s10, s11, s12⟩, k6, kh, kr, kt, kb⟩ := h
  obtain ⟨a1, a2, a3, a4⟩ := hW
  have g1 := hG 1 (by decide) (by decide) (by decide)
  have g3 := hG 3 (by decide) (by decide) (by decide)
  have g7 := hG 7 (by decide) (by decide) (by decide)
  have g8 := hG 8 (by decide) (by decide) (by decide)
  have g9 := hG 9 (by decide) (by decide) (by decide)
  have g14 := hG 14 (by decide) (by decide) (by decide)
  have g15 := hG 15 (by decide) (by decide) (by decide)
  have g22 := hG 22 (by decide) (by decide) (by decide)
  have g23 := hG 23 (by decide) (by decide) (by decide)
  have g24 := hG 24 (by decide) (by decide) (by decide)
  have c21 : ∀ i x, (decide (i < g 3) && decide (W 21 i = x)) = (decide (i < g 3) && decide (w 21 i = x)) := by
    intro i x
    by_cases q : i < g 3
    · rw [a1 i (by omega)]
    · rw [decide_eq_false q]; rfl
  refine ⟨⟨by rw [g1]; exact l0, by rw [g3]; exact l1, by rw [g1]; exact lW, fun q s hs => by rw [g7] at q; rw [g1] at hs; rw [own_same g1 g3 (fun i hi => a1 i (by omega))]; exact kW q s hs⟩, ?_, ?_, ?_, ?_, ?_, ?_⟩
  · rw [g1, g3, g7, g8, g9, g14, g15, g22, g23, g24]
    exact ⟨s2, s3, s4, s5, s7, s8, s9, s10, s11, s12⟩
  · intro i hi
    rw [g7, g3, c21]; exact k6 i hi
  · intro s hs i hi
    rw [g1] at hs
    rw [g7, g3, c21]; exact kh s hs i hi
  · intro i p q
    rw [g14] at p
    rw [g15] at q
    rw [(a3 i p q).1, (a3 i p q).2]; exact kr i p q
  · intro t ht
    rw [g22] at ht
    obtain ⟨b1, b2, b3, b4, b5, b6⟩ := a4 t ht
    rw [g3, b1, b2, b3, b4, b5, b6]; exact kt t ht
  · intro p hp i hi
    rw [g3]; exact kb p hp i hi
theorem stG_tG {k : Nat} (hk : k ≠ 11) : stG g w k = tG g w k := by
  unfold stG tG
  split
  · split
    · simp [va_up, hk]
    · rfl
  · rfl
theorem tG_v {k : Nat} (h1 : k ≠ 7) (h2 : k ≠ 23) (h3 : k ≠ 24) : tG g w k = g k := by
  unfold tG
  split
  · simp [va_up, h1, h2, h3]
  · rfl
theorem x_addToScore_no {x : Int32} (hx : x < 0) (y : Int32) : Ev sc (d + 1) 88 [.ref 0, .int x, .int y] (mem L σ α τ β γ) (none, mem L σ α τ β γ) := by
  refine e_start rfl rfl rfl (q_88_0 ?_)
  rw [if_pos hx]
theorem x_addToScore {s n : Nat} (hL : L 2 = n) (hn : n < 100) (hs : s < n) (y : Int32) : Ev sc (d + 1) 88 [.ref 0, .int (nI s), .int y] (mem L σ α τ β γ) (none, mem L σ (va_up α 13 (upd (α 13) s (α 13 s + y))) τ β γ) := by
  refine e_start rfl rfl rfl (q_88_0 ?_)
  rw [hL, nI_lit, if_neg (nI_pos (by omega)), if_pos (nI_lt hs (by omega)), if_neg (in_nI hs (by omega)), if_neg (in_nI hs (by omega)), cl_nI (by omega)]
theorem x_scoreIfOver (h : RT (tG g w) w L σ α) (hR : RS g w L σ α) (hP : PS g w) : ∃ α', Ev sc (d + 2) 87 [.ref 0] (mem L σ α τ β γ) (some (.int (bI (overB g w))), mem L σ α' τ β γ) ∧ RT (stG g w) (stW g w) L σ α' ∧ RS (stG g w) (stW g w) L σ α' ∧ (∀ c, c ≠ 13 → α' c = α c) := by
  have hI := IN_st hP
  have h1 := hP.1.1.1
  have h7 := hP.2.1
  have ss := sides_le h1
  obtain ⟨r1, r2, r3, r4⟩ := hR
  have eG : ∀ k, k ≠ 7 → k ≠ 23 → k ≠ 24 → k ≠ 11 → stG g w k = g k := fun k a b c e => by rw [stG_tG e, tG_v a b c]
  have e7' : tG g w 7 = if overB g w then 3 else 2 := by
    unfold tG; split
    · simp [va_up]
    · exact h7
  have key : ∀ α', (∀ c, c ≠ 13 → α' c = α c) → (∀ s, s < sides (g 1) → α' 13 s = nI (stW g w 22 s)) → RT (stG g w) (stW g w) L σ α' ∧ RS (stG g w) (stW g w) L σ α' := by
    intro α' ha h13
    refine ⟨RT_a ?_ (fun c hc => ha c (by omega)), ?_⟩
    · refine RT_ch h ⟨stG_tG (by decide), stG_tG (by decide), stG_tG (by decide), stG_tG (by decide), stG_tG (by decide), stG_tG (by decide)⟩ ?_ ?_ ?_ (fun _ _ _ _ _ => rfl) ?_ ?_ ?_ ?_
      · rw [e7']; split <;> omega
      · rw [stG_tG (by decide), e7']; split <;> omega
      · intro c hc; unfold stW
        split
        · split
          · rfl
          · simp [tw, va_up, hc]
        · rfl
      · rw [stG_tG (by decide)]; exact h.2.1.2.2.1
      · rw [stG_tG (by decide), stG_tG (by decide)]; exact h.2.1.2.2.2.2.1
      · rw [stG_tG (by decide)]; exact h.2.1.2.2.2.2.2.1
      · rw [stG_tG (by decide)]; exact h.2.1.2.2.2.2.2.2.1
    · refine ⟨?_, ?_, ?_, ?_⟩
      · rw [eG 1 (by decide) (by decide) (by decide) (by decide)]; exact r1
      · rw [eG 2 (by decide) (by decide) (by decide) (by decide)]; exact r2
      · rw [eG 10 (by decide) (by decide) (by decide) (by decide)]; exact r3
      · rw [eG 1 (by decide) (by decide) (by decide) (by decide)]; exact h13
  by_cases ho : overB g w = true
  · have h4 : σ 4 = 3 := by rw [h.2.1.2.2.1, e7', if_pos ho]; rfl
    have h8 : σ 8 = mI (overT g w) := by rw [h.2.1.2.2.2.2.2.1]; unfold tG; rw [if_pos ho]; simp [va_up]
    have h9 : σ 9 = nI (overP g w) := by rw [h.2.1.2.2.2.2.2.2.1]; unfold tG; rw [if_pos ho]; simp [va_up]
    have hs7 : stG g w 7 = 3 := by rw [stG_tG (by decide), e7', if_pos ho]
    have hT : overT g w ≤ sides (g 1) := by
      have := (hI.2.2.2.2 hs7).2.1
      rw [stG_tG (by decide), eG 1 (by decide) (by decide) (by decide) (by decide)] at this
      unfold tG at this
      rw [if_pos ho] at this
      simpa [va_up] using this
    by_cases hz : overT g w = 0
    · obtain ⟨k1, k2⟩ := key α (fun _ _ => rfl) (fun s hs => by unfold stW; rw [if_pos ho, if_pos hz]; exact r4 s hs)
      refine ⟨α, e_start rfl rfl rfl (q_87_0 ?_), k1, k2, fun _ _ => rfl⟩
      rw [h4, if_pos rfl, ho]
      exact clv (x_addToScore_no (by rw [h8, hz]; decide) _) (q_87_31 rfl)
    · obtain ⟨t, ht⟩ : ∃ t, overT g w = t + 1 := ⟨overT g w - 1, by omega⟩
      have ht4 : t < sides (g 1) := by omega
      obtain ⟨k1, k2⟩ := key (va_up α 13 (upd (α 13) t (α 13 t + nI (overP g w)))) (fun c hc => by simp [va_up, hc]) (fun s hs => by
        unfold stW
        rw [if_pos ho, if_neg hz, ht, Nat.add_sub_cancel]
        by_cases e : s = t
        · subst e; simp only [va_up, tw, if_true, upd]; rw [r4 s hs, nI_add]
        · simp only [va_up, tw, if_true, upd, if_neg e]; exact r4 s hs)
      refine ⟨_, e_start rfl rfl rfl (q_87_0 ?_), k1, k2, fun c hc => by simp [va_up, hc]⟩
      rw [h4, if_pos rfl, ho, h8, h9, ht, mI_succ]
      exact clv (x_addToScore r1 (by omega) ht4 _) (q_87_31 rfl)
  · have ho' : overB g w = false := by simpa using ho
    obtain ⟨k1, k2⟩ := key α (fun _ _ => rfl) (fun s hs => by unfold stW; rw [if_neg ho]; exact r4 s hs)
    refine ⟨α, e_start rfl rfl rfl (q_87_0 ?_), k1, k2, fun _ _ => rfl⟩
    rw [h.2.1.2.2.1, e7', if_neg ho, if_neg (by decide), ho']; rfl
theorem x_play_no (h : RT g w L σ α) (hB : Bs g w) {b : Nat} (hb : b < 2 ^ 31) {x : Int32} (hc : canE g w b x = false) : Ev sc (d + 7) 70 [.ref 0, .int (nI b), .int x] (mem L σ α τ β γ) (some (.int (-1)), mem L σ α τ β γ) := by
  refine e_start rfl rfl rfl (q_70_0 (cli (x_canPut h hB hb x) (q_70_9 ?_)))
  rw [hc, if_pos (by decide)]
theorem x_play_neg (h : RT g w L σ α) (hB : Bs g w) {y x : Int32} (hy : y < 0) : Ev sc (d + 7) 70 [.ref 0, .int y, .int x] (mem L σ α τ β γ) (some (.int (-1)), mem L σ α τ β γ) := by
  refine e_start rfl rfl rfl (q_70_0 (cli (x_canPut_neg h hB hy x) (q_70_9 ?_)))
  rw [if_pos rfl]
theorem canE_b {b : Nat} {x : Int32} (hc : canE g w b x = true) : g 7 = 2 ∧ b < g 3 ∧ w 21 b = g 9 := by
  unfold canE at hc
  simp only [Bool.and_eq_true, decide_eq_true_eq] at hc
  exact ⟨hc.1, hc.2.1, hc.2.2.1⟩
theorem x_play_yes (h : RT g w L σ α) (hR : RS g w L σ α) (hI : IN g w) {b : Nat} {x : Int32} (hc : canE g w b x = true) : ∃ σ' α', Ev sc (d + 7) 70 [.ref 0, .int (nI b), .int x] (mem L σ α τ β γ) (some (.int (bI (overB (mpG g (endN x)) (mpW g w b (endN x))))), mem L σ' α' τ β γ) ∧ RT (stG (mpG g (endN x)) (mpW g w b (endN x))) (stW (mpG g (endN x)) (mpW g w b (endN x))) L σ' α' ∧ RS (stG (mpG g (endN x)) (mpW g w b (endN x))) (stW (mpG g (endN x)) (mpW g w b (endN x))) L σ' α' ∧ (∀ j, 13 ≤ j → σ' j = σ j) ∧ (∀ c, 14 ≤ c → α' c = α c) := by
  obtain ⟨c7, cb, cp⟩ := canE_b hc
  have h3 := hI.1.1.2.2.1
  obtain ⟨σ1, α1, hE1, hT1, f1, f2⟩ := x_put (sc := sc) (d := d) (τ := τ) (β := β) (γ := γ) h hI hc
  have hP := PS_mp hI (e := endN x) c7 cb cp (endN_le x)
  have hR1 : RS (mpG g (endN x)) (mpW g w b (endN x)) L σ1 α1 := RS_keep hR ⟨mpG_v _ _ (by decide) (by decide) (by decide) (by decide), mpG_v _ _ (by decide) (by decide) (by decide) (by decide), mpG_v _ _ (by decide) (by decide) (by decide) (by decide)⟩ (by simp [mpW, wrW, tw, va_up]) ⟨f1 0 (by omega), f1 1 (by omega)⟩ (f2 13 (by omega))
  obtain ⟨α2, hE2, hT2, hS2, f3⟩ := x_scoreIfOver (sc := sc) (d := d + 4) (τ := τ) (β := β) (γ := γ) hT1 hR1 hP
  refine ⟨σ1, α2, e_start rfl rfl rfl (q_70_0 (cli (x_canPut h hI.1 (by omega) x) (q_70_9 ?_))), hT2, hS2, fun j hj => f1 j (by omega), fun c hc => by rw [f3 c (by omega), f2 c (by omega)]⟩
  rw [hc, if_neg (by decide)]
  exact clv hE1 (q_70_23 (cli hE2 (q_70_27 rfl)))
theorem x_pass_no (h : RT g w L σ α) (hB : Bs g w) (hc : ¬ (g 7 = 2 ∧ ¬ g 14 = g 15)) : Ev sc (d + 7) 71 [.ref 0] (mem L σ α τ β γ) (some (.int (-1)), mem L σ α τ β γ) := by
  have h7 := hB.1.2.2.2.1
  have e7 : nI (g 7) = (2 : Int32) ↔ g 7 = 2 := nI_eq (b := 2) (by omega) (by decide)
  refine e_start rfl rfl rfl (q_71_0 ?_)
  rw [h.2.1.2.2.1]
  by_cases hw : g 7 = 2
  · rw [if_pos (e7.mpr hw)]
    refine cli (x_isEmpty h hB) (q_71_21 ?_)
    have : g 14 = g 15 := Decidable.byContradiction fun z => hc ⟨hw, z⟩
    rw [decide_eq_true this, if_neg (by decide)]
  · rw [if_neg (fun z => hw (e7.mp z))]
theorem x_pass_yes (h : RT g w L σ α) (hR : RS g w L σ α) (hI : IN g w) (h7 : g 7 = 2) (hne : ¬ g 14 = g 15) : ∃ σ' α', Ev sc (d + 7) 71 [.ref 0] (mem L σ α τ β γ) (some (.int (bI (overB (wrG g) (wrW g w 0 0 (if canA g w (g 9) then 1 else 0))))), mem L σ' α' τ β γ) ∧ RT (stG (wrG g) (wrW g w 0 0 (if canA g w (g 9) then 1 else 0))) (stW (wrG g) (wrW g w 0 0 (if canA g w (g 9) then 1 else 0))) L σ' α' ∧ RS (stG (wrG g) (wrW g w 0 0 (if canA g w (g 9) then 1 else 0))) (stW (wrG g) (wrW g w 0 0 (if canA g w (g 9) then 1 else 0))) L σ' α' ∧ (∀ j, 13 ≤ j → σ' j = σ j) ∧ (∀ c, 14 ≤ c → α' c = α c) := by
  have hf : (if canA g w (g 9) then 1 else 0) ≤ 1 := by split <;> omega
  obtain ⟨σ1, α1, hE1, hT1, f1, f2⟩ := x_skip (sc := sc) (d := d) (τ := τ) (β := β) (γ := γ) h hI h7 hne
  have hP := PS_wr hI h7 hne hf
  have hR1 : RS (wrG g) (wrW g w 0 0 (if canA g w (g 9) then 1 else 0)) L σ1 α1 := RS_keep hR (by simp [wrG, va_up]) (by simp [wrW, tw, va_up]) ⟨f1 0 (by omega), f1 1 (by omega)⟩ (f2 13 (by omega))
  obtain ⟨α2, hE2, hT2, hS2, f3⟩ := x_scoreIfOver (sc := sc) (d := d + 4) (τ := τ) (β := β) (γ := γ) hT1 hR1 hP
  refine ⟨σ1, α2, e_start rfl rfl rfl (q_71_0 ?_), hT2, hS2, fun j hj => f1 j (by omega), fun c hc => by rw [f3 c (by omega), f2 c (by omega)]⟩
  rw [h.2.1.2.2.1, h7, if_pos (by decide)]
  refine cli (x_isEmpty h hI.1) (q_71_21 ?_)
  rw [decide_eq_false hne, if_pos (by decide)]
  exact clv hE1 (q_71_33 (cli hE2 (q_71_37 rfl)))
theorem x_back_no (h : RT g w L σ α) (hI : IN g w) (hz : g 22 = 0) : Ev sc (d + 4) 72 [.ref 0] (mem L σ α τ β γ) (some (.int 0), mem L σ α τ β γ) := by
  have h7 := hI.1.1.2.2.2.1
  have e7 : nI (g 7) = (3 : Int32) ↔ g 7 = 3 := nI_eq (b := 3) (by omega) (by decide)
  refine e_start rfl rfl rfl (q_72_0 ?_)
  rw [h.2.1.2.2.1, if_neg (fun z => by have := (hI.2.2.2.2 (e7.mp z)).1; omega)]
  refine q_72_30 (cli (x_undo_no h hI.1 hz) (q_72_37 ?_))
  rw [if_pos (by decide)]
theorem x_back_yes (h : RT g w L σ α) (hR : RS g w L σ α) (hI : IN g w) (h7 : 2 ≤ g 7) (hn : 0 < g 22) : ∃ σ' α', Ev sc (d + 4) 72 [.ref 0] (mem L σ α τ β γ) (some (.int 1), mem L σ' α' τ β γ) ∧ RT (unG (bkG g) (bkW g w)) (unW (bkG g) (bkW g w)) L σ' α' ∧ RS (unG (bkG g) (bkW g w)) (unW (bkG g) (bkW g w)) L σ' α' ∧ (∀ j, 13 ≤ j → σ' j = σ j) ∧ (∀ c, 14 ≤ c → α' c = α c) := by
  have h1 := hI.1.1.1
  have ss := sides_le h1
  have h7' := hI.1.1.2.2.2.1
  have e7 : nI (g 7) = (3 : Int32) ↔ g 7 = 3 := nI_eq (b := 3) (by omega) (by decide)
  obtain ⟨r1, r2, r3, r4⟩ := id hR
  have kG : ∀ k, k ≠ 11 → bkG g k = bq g k := by
    intro k hk; unfold bkG bq; split
    · simp [va_up, hk]
    · rfl
  have kW : ∀ c, c ≠ 22 → bkW g w c = w c := by
    intro c hc; unfold bkW; split
    · simp [tw, va_up, hc]
    · rfl
  have b22 : bq g 22 = g 22 := by simp [bq, va_up]
  have uG : ∀ k, k ≠ 11 → unG (bkG g) (bkW g w) k = unG (bq g) w k := by
    intro k hk
    unfold unG
    rw [kG 22 (by decide), kG 14 (by decide), kG 15 (by decide), kW 26 (by decide), kW 25 (by decide), kW 27 (by decide), kW 28 (by decide)]
    split
    · simp only [va_up]; rw [kG k hk]
    · split
      · simp only [va_up]; rw [kG k hk]
      · simp only [va_up]; rw [kG k hk]
  have uW : ∀ c, c ≠ 22 → unW (bkG g) (bkW g w) c = unW g w c := by
    intro c hc
    unfold unW
    rw [kG 22 (by decide), b22, kW 26 (by decide), kW 25 (by decide)]
    split
    · exact kW c hc
    · simp only [tw, va_up]; rw [kW c hc, kW 21 (by decide)]
  have uB : ∀ k, k ≠ 7 → k ≠ 23 → k ≠ 24 → k ≠ 22 → k ≠ 9 → k ≠ 14 → k ≠ 15 → unG (bq g) w k = g k := by
    intro k a b c e f i j
    unfold unG bq
    split
    · simp [va_up, a, b, c, e, f]
    · split <;> simp [va_up, a, b, c, e, f, i, j]
  have u7 : unG (bq g) w 7 = 2 := by
    unfold unG bq
    split
    · simp [va_up]
    · split <;> simp [va_up]
  have fin : ∀ α1, (∀ c, c ≠ 13 → α1 c = α c) → (∀ s, s < sides (g 1) → α1 13 s = nI (bkW g w 22 s)) → ∃ σ' α', EvL sc (d + 3) me_72 30 [some (.ref 0)] [] (mem L σ α1 τ β γ) 0 0 (some (.int 1), mem L σ' α' τ β γ) ∧ RT (unG (bkG g) (bkW g w)) (unW (bkG g) (bkW g w)) L σ' α' ∧ RS (unG (bkG g) (bkW g w)) (unW (bkG g) (bkW g w)) L σ' α' ∧ (∀ j, 13 ≤ j → σ' j = σ j) ∧ (∀ c, 14 ≤ c → α' c = α c) := by
    intro α1 ha h13
    obtain ⟨σ2, α2, hE, hT, f1, f2⟩ := x_undo (sc := sc) (d := d) (τ := τ) (β := β) (γ := γ) (RT_a h (fun c hc => ha c (by omega))) hI.1 h7 hn
    refine ⟨σ2, α2, q_72_30 (cli hE (q_72_37 (by rw [if_pos (by decide)]))), ?_, ?_, fun j hj => f1 j (by omega), fun c hc => by rw [f2 c (by omega), ha c (by omega)]⟩
    · refine RT_ch hT ⟨uG _ (by decide), uG _ (by decide), uG _ (by decide), uG _ (by decide), uG _ (by decide), uG _ (by decide)⟩ (by rw [u7]; omega) (by rw [uG _ (by decide), u7]; omega) uW (fun _ _ _ _ _ => rfl) ?_ ?_ ?_ ?_
      · rw [uG 7 (by decide)]; exact hT.2.1.2.2.1
      · rw [uG 7 (by decide), uG 9 (by decide)]; exact hT.2.1.2.2.2.2.1
      · rw [uG 23 (by decide)]; exact hT.2.1.2.2.2.2.2.1
      · rw [uG 24 (by decide)]; exact hT.2.1.2.2.2.2.2.2.1
    · have u22 : unW (bkG g) (bkW g w) 22 = bkW g w 22 := by unfold unW; split <;> simp [tw, va_up]
      have v : ∀ k, k = 1 ∨ k = 2 ∨ k = 10 → unG (bkG g) (bkW g w) k = g k := fun k hk => by rw [uG k (by omega), uB k (by omega) (by omega) (by omega) (by omega) (by omega) (by omega) (by omega)]
      refine ⟨by rw [v 1 (by simp)]; exact r1, by rw [v 2 (by simp), f1 0 (by omega)]; exact r2, by rw [v 10 (by simp), f1 1 (by omega)]; exact r3, ?_⟩
      rw [v 1 (by simp), u22, f2 13 (by omega)]
      exact h13
  by_cases hb : g 7 = 3
  · obtain ⟨-, a0, -, -, c0, c1⟩ := hI.2.2.2.2 hb
    by_cases hz : g 23 = 0
    · obtain ⟨σ', α', hE, rest⟩ := fin α (fun _ _ => rfl) (fun s hs => by unfold bkW; rw [if_neg (fun z => z.2 hz)]; exact r4 s hs)
      refine ⟨σ', α', e_start rfl rfl rfl (q_72_0 ?_), rest⟩
      rw [h.2.1.2.2.1, if_pos (e7.mpr hb)]
      exact clv (x_addToScore_no (by rw [h.2.1.2.2.2.2.2.1, hz]; decide) _) hE
    · obtain ⟨t, ht⟩ : ∃ t, g 23 = t + 1 := ⟨g 23 - 1, by omega⟩
      obtain ⟨c2, -⟩ := c1 hz
      rw [ht, Nat.add_sub_cancel] at c2
      have ht4 : t < sides (g 1) := by omega
      obtain ⟨σ', α', hE, rest⟩ := fin (va_up α 13 (upd (α 13) t (α 13 t + -(nI (g 24))))) (fun c hc => by simp [va_up, hc]) (fun s hs => by
        unfold bkW
        rw [if_pos ⟨hb, hz⟩, ht, Nat.add_sub_cancel]
        by_cases e : s = t
        · subst e; simp only [va_up, tw, if_true, upd]; rw [r4 s hs, ← Int32.sub_eq_add_neg, pk_sub c2]
        · simp only [va_up, tw, if_true, upd, if_neg e]; exact r4 s hs)
      refine ⟨σ', α', e_start rfl rfl rfl (q_72_0 ?_), rest⟩
      rw [h.2.1.2.2.1, if_pos (e7.mpr hb), h.2.1.2.2.2.2.2.1, ht, mI_succ, h.2.1.2.2.2.2.2.2.1]
      exact clv (x_addToScore r1 (by omega) ht4 _) hE
  · obtain ⟨σ', α', hE, rest⟩ := fin α (fun _ _ => rfl) (fun s hs => by unfold bkW; rw [if_neg (fun z => hb z.1)]; exact r4 s hs)
    refine ⟨σ', α', e_start rfl rfl rfl (q_72_0 ?_), rest⟩
    rw [h.2.1.2.2.1, if_neg (fun z => hb (e7.mp z))]
    exact hE
/-! what it tells -/
theorem x_about (h : RT g w L σ α) (hR : RS g w L σ α) (hI : IN g w) (x : Int32) : Ev sc (d + 3) 73 [.ref 0, .int x] (mem L σ α τ β γ) (some (.int (aAbout g w x)), mem L σ α τ β γ) := by
  obtain ⟨l, ⟨s2, s3, s4, s5, s7, s8, s9, s10, s11, s12⟩, -⟩ := id h
  have h8 : (if g 7 = 0 then (0 : Int32) else nI (g 8)) = nI (g 8) := by
    by_cases z : g 7 = 0
    · rw [if_pos z, hI.1.2.2.2.1 z]; rfl
    · rw [if_neg z]
  have h3 : nI (cn (bt (σ 6)) 32) = (if g 7 = 0 then (0 : Int32) else nI (many g w 10)) := by
    by_cases z : g 7 = 0
    · rw [if_pos z, cn_zero.mpr (fun i hi => by rw [h.2.2.1 i hi, decide_eq_false (by omega)]; rfl)]; rfl
    · rw [if_neg z, stock_cn h hI.1 (by omega)]
  refine e_start rfl rfl rfl (q_73_0 ?_)
  unfold aAbout
  rw [h8]
  by_cases c0 : x = 0
  · rw [if_pos c0, if_pos c0, s4]
  rw [if_neg c0, if_neg c0]
  by_cases c1 : x = 1
  · rw [if_pos c1, if_pos c1, s7]
  rw [if_neg c1, if_neg c1]
  by_cases c2 : x = 2
  · rw [if_pos c2, if_pos c2, s5]
  rw [if_neg c2, if_neg c2]
  by_cases c3 : x = 3
  · rw [if_pos c3, if_pos c3, ← h3]
    exact cli (x_bitCount (σ 6)) (q_73_106 rfl)
  rw [if_neg c3, if_neg c3]
  by_cases c4 : x = 4
  · rw [if_pos c4, if_pos c4, s11]
  rw [if_neg c4, if_neg c4]
  by_cases c5 : x = 5
  · rw [if_pos c5, if_pos c5]
    exact cli (x_pipsAt h hI.1 0) (q_73_129 rfl)
  rw [if_neg c5, if_neg c5]
  by_cases c6 : x = 6
  · rw [if_pos c6, if_pos c6]
    exact cli (x_pipsAt h hI.1 1) (q_73_141 rfl)
  rw [if_neg c6, if_neg c6]
  by_cases c7 : x = 7
  · rw [if_pos c7, if_pos c7, s12]
  rw [if_neg c7, if_neg c7]
  by_cases c8 : x = 8
  · rw [if_pos c8, if_pos c8, s8]
  rw [if_neg c8, if_neg c8]
  by_cases c9 : x = 9
  · rw [if_pos c9, if_pos c9, s9]
  rw [if_neg c9, if_neg c9]
  by_cases c10 : x = 10
  · rw [if_pos c10, if_pos c10]
    exact cli (x_winner hR hI) (q_73_173 rfl)
  rw [if_neg c10, if_neg c10]
  by_cases c11 : x = 11
  · rw [if_pos c11, if_pos c11, s3]
  rw [if_neg c11, if_neg c11]
  by_cases c12 : x = 12
  · rw [if_pos c12, if_pos c12, s2]
  rw [if_neg c12, if_neg c12]
  by_cases c13 : x = 13
  · rw [if_pos c13, if_pos c13, hR.2.2.1]
  rw [if_neg c13, if_neg c13]
theorem x_score (hR : RS g w L σ α) (hI : IN g w) (x : Int32) : Ev sc (d + 1) 74 [.ref 0, .int x] (mem L σ α τ β γ) (some (.int (aScore g w x)), mem L σ α τ β γ) := by
  have ss := sides_le hI.1.1.1
  refine e_start rfl rfl rfl (q_74_0 ?_)
  unfold aScore
  rw [hR.1]
  rcases bel_cases x (n := sides (g 1)) (by omega) with ⟨q1, q2⟩ | ⟨k, q1, rfl, q2, q3⟩ | ⟨k, q1, hk, rfl, q2⟩
  · rw [if_pos q1, q2]; rfl
  · rw [nI_lit, if_neg (nI_pos (by omega)), if_pos (nI_lt q1 (by omega)), if_neg (in_nI q1 (by omega)), q2, q3, if_pos rfl, hR.2.2.2 k q1]
  · rw [nI_lit, if_neg (nI_pos hk), if_neg (nI_nlt q1 hk), q2]; rfl
theorem fd_none {p : Nat → Bool} : ∀ r k j, (∀ i, j ≤ i → i < j + r → p i = false) → fd p r k j = 0
  | 0, _, _, _ => rfl
  | r + 1, k, j, h => by
    simp only [fd]
    rw [h j (by omega) (by omega)]
    simp only [Bool.false_eq_true, if_false]
    exact fd_none r k (j + 1) (fun i a b => h i (by omega) (by omega))
theorem fd_ext {p : Nat → Bool} {s : Nat} : ∀ r k j, (∀ i, j + r ≤ i → i < j + r + s → p i = false) → fd p (r + s) k j = fd p r k j
  | 0, k, j, h => by rw [Nat.zero_add, fd_none s k j (fun i a b => h i (by omega) (by omega))]; rfl
  | r + 1, k, j, h => by
    rw [show r + 1 + s = (r + s) + 1 by omega]
    simp only [fd]
    rw [fd_ext r (k - 1) (j + 1) (fun i a b => h i (by omega) (by omega)), fd_ext r k (j + 1) (fun i a b => h i (by omega) (by omega))]
theorem x_boneInOrder (x : Int32) {k : Nat} (hk : k < 2 ^ 31) : Ev sc (d + 2) 93 [.int x, .int (nI k)] M (some (.int (mI (fd (bt x) 28 k 0))), M) := by
  have loop : ∀ r j q c, j + r = 28 → q + c = k → q ≤ j → EvL sc (d + 1) me_93 4 [some (.int x), some (.int (nI k)), some (.int (nI q)), some (.int (nI j))] [] M 0 0 (some (.int (mI (fd (bt x) r c j))), M) := by
    intro r
    induction r with
    | zero =>
      intro j q c hj hq hqj
      refine q_93_4 ?_
      rw [if_neg (show ¬ nI j < 28 from nI_nlt (b := 28) (by omega) (by omega))]
      simp only [fd]; rw [mI_0]
    | succ r ih =>
      intro j q c hj hq hqj
      refine q_93_4 ?_
      rw [if_pos (show nI j < 28 from nI_lt (b := 28) (by omega) (by decide))]
      refine cli (x_isIn x (nI j)) (q_93_15 ?_)
      rw [inB_nI (by omega), decide_eq_true (show j < 28 by omega), Bool.true_and, nI_1, nI_1]
      simp only [fd]
      cases hb : bt x j with
      | false => rw [if_pos (by decide)]; exact ih (j + 1) q c (by omega) hq (by omega)
      | true =>
        rw [if_neg (by decide)]
        have e : nI q = nI k ↔ q = k := nI_eq (by omega) hk
        by_cases hc : c = 0
        · rw [if_pos (e.mpr (by omega)), if_pos rfl, if_pos hc, mI_succ]
        · rw [if_neg (fun z => by have := e.mp z; omega), if_pos rfl, if_neg hc]
          exact ih (j + 1) (q + 1) (c - 1) (by omega) (by omega) (by omega)
  exact e_start rfl rfl rfl (q_93_0 (loop 28 0 0 k (by omega) (by omega) (by omega)))
theorem x_handCall (h : RT g w L σ α) (hB : Bs g w) (x y : Int32) : Ev sc (d + 3) 75 [.ref 0, .int x, .int y] (mem L σ α τ β γ) (some (.int (aHand g w x y)), mem L σ α τ β γ) := by
  have h1 := hB.1.1
  have h3 := hB.1.2.2.1
  refine e_start rfl rfl rfl (q_75_0 ?_)
  unfold aHand
  by_cases c : y < 0
  · rw [if_pos c]
    refine q_75_20 ?_
    rw [if_pos c]
    split
    · rfl
    · split <;> rfl
  rw [if_neg c]
  rcases any_nI y with q | ⟨k, hk, rfl⟩
  · exact absurd q c
  refine cli (x_handOf h hB x) (q_75_16 (cli (x_boneInOrder _ hk) (q_75_20 ?_)))
  rw [if_neg c, cl_nI hk]
  rcases bel_cases x (n := g 1) (by omega) with ⟨q1, q2⟩ | ⟨s, q1, rfl, q2, q3⟩ | ⟨k', q1, hk', rfl, q2⟩
  · have z0 : fd (bt 0) 28 k 0 = 0 := fd_none _ _ _ (fun i _ _ => b_0 i)
    simp [q2, z0, mI_0]
  · rw [q2, q3, if_pos rfl, if_pos rfl]
    by_cases z : g 7 = 0
    · rw [if_pos z, fd_none _ _ _ (fun i _ hi => by rw [h.2.2.2.1 s q1 i (by omega), decide_eq_false (by omega)]; rfl), mI_0]
    · rw [if_neg z, show (28 : Nat) = g 3 + (28 - g 3) by omega, fd_ext _ _ _ (fun i a b => by rw [h.2.2.2.1 s q1 i (by omega), decide_eq_false (show ¬ i < g 3 by omega)]; simp)]
      refine congrArg (fun q => (some (Value.int (mI q)), mem L σ α τ β γ)) (fd_cong (fun i _ hi => ?_))
      rw [h.2.2.2.1 s q1 i (by omega), decide_eq_true (show 1 ≤ g 7 by omega), decide_eq_true (show i < g 3 by omega)]; rfl
  · have z0 : fd (bt 0) 28 k 0 = 0 := fd_none _ _ _ (fun i _ _ => b_0 i)
    simp [q2, z0, mI_0]
theorem x_where (h : RT g w L σ α) (hB : Bs g w) (x : Int32) : Ev sc (d + 3) 76 [.ref 0, .int x] (mem L σ α τ β γ) (some (.int (aWhere g w x)), mem L σ α τ β γ) :=
  e_start rfl rfl rfl (q_76_0 (cli (x_placeOf h hB x) (q_76_8 rfl)))
theorem x_row (h : RT g w L σ α) (hB : Bs g w) (x : Int32) : Ev sc (d + 2) 77 [.ref 0, .int x] (mem L σ α τ β γ) (some (.int (aRow g w x)), mem L σ α τ β γ) :=
  e_start rfl rfl rfl (q_77_0 (cli (x_tileAt h hB x) (q_77_11 rfl)))
theorem x_turn (h : RT g w L σ α) (hB : Bs g w) (x y : Int32) : Ev sc (d + 3) 78 [.ref 0, .int x, .int y] (mem L σ α τ β γ) (some (.int (aTurn g w x y)), mem L σ α τ β γ) := by
  refine e_start rfl rfl rfl (q_78_0 ?_)
  unfold aTurn
  by_cases c0 : y = 0
  · rw [if_pos c0, if_pos c0]; exact cli (x_seatOf h hB x) (q_78_39 rfl)
  rw [if_neg c0, if_neg c0]
  by_cases c1 : y = 1
  · rw [if_pos c1, if_pos c1]; exact cli (x_boneOf h hB x) (q_78_51 rfl)
  rw [if_neg c1, if_neg c1]
  by_cases c2 : y = 2
  · rw [if_pos c2, if_pos c2]; exact cli (x_endOf h hB x) (q_78_63 rfl)
  rw [if_neg c2, if_neg c2]
  split <;> rfl
theorem x_judge (h : RT g w L σ α) (hB : Bs g w) : Ev sc (d + 2) 84 [.ref 0] (mem L σ α τ β γ) (some (.int (aJudge g w)), mem L σ α τ β γ) := by
  have h7 := hB.1.2.2.2.1
  have e7 : nI (g 7) = (3 : Int32) ↔ g 7 = 3 := nI_eq (b := 3) (by omega) (by decide)
  refine e_start rfl rfl rfl (q_84_0 ?_)
  rw [h.2.1.2.2.1]
  unfold aJudge
  by_cases c : g 7 = 3
  · rw [if_pos (e7.mpr c), if_pos c]; exact cli (x_firstFalse h hB) (q_84_21 rfl)
  · rw [if_neg (fun z => c (e7.mp z)), if_neg c]
theorem x_isShown (h : RT g w L σ α) (hB : Bs g w) (x : Int32) : Ev sc (d + 2) 85 [.ref 0, .int x] (mem L σ α τ β γ) (some (.int (bI (askB g x))), mem L σ α τ β γ) := by
  have h7 := hB.1.2.2.2.1
  have e7 : nI (g 7) = (3 : Int32) ↔ g 7 = 3 := nI_eq (b := 3) (by omega) (by decide)
  have e72 : nI (g 7) = (2 : Int32) ↔ g 7 = 2 := nI_eq (b := 2) (by omega) (by decide)
  have fin : Cli sc (d + 1) 14 [.ref 1, .int x] (mem L σ α τ β γ) (fun y M2 => EvL sc (d + 1) me_85 30 [none, none] [.int y] M2 0 0 (some (.int (bI (bel x (g 1)))), mem L σ α τ β γ)) := by
    refine cli (x_isSeat h hB x) (q_85_30 ?_)
    cases bel x (g 1)
    · rw [if_pos (by decide)]; rfl
    · rw [if_neg (by decide)]; rfl
  refine e_start rfl rfl rfl (q_85_0 ?_)
  rw [h.2.1.2.2.1]
  unfold askB
  by_cases c2 : g 7 = 2
  · rw [if_pos (e72.mpr c2), decide_eq_true (show 2 ≤ g 7 by omega), Bool.true_and]; exact fin
  · rw [if_neg (fun z => c2 (e72.mp z))]
    by_cases c3 : g 7 = 3
    · rw [if_pos (e7.mpr c3), decide_eq_true (show 2 ≤ g 7 by omega), Bool.true_and]; exact fin
    · rw [if_neg (fun z => c3 (e7.mp z)), decide_eq_false (show ¬ 2 ≤ g 7 by omega), Bool.false_and]; rfl
end XJ
