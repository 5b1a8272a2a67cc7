/-! the reference: settle, play, pass, back, lay, give, begin -/
def stG (g : Nat → Nat) (w : Nat → Nat → Nat) : Nat → Nat :=
  if overB g w then (if ¬ overT g w = 0 ∧ g 2 ≤ w 22 (overT g w - 1) + overP g w then va_up (va_up (va_up (va_up g 7 3) 23 (overT g w)) 24 (overP g w)) 11 (overT g w) else va_up (va_up (va_up g 7 3) 23 (overT g w)) 24 (overP g w)) else g
def stW (g : Nat → Nat) (w : Nat → Nat → Nat) : Nat → Nat → Nat :=
  if overB g w then (if overT g w = 0 then w else tw w 22 (overT g w - 1) (w 22 (overT g w - 1) + overP g w)) else w
section MG
variable {sc : Nat × (Nat → Int32)} {d : Nat} {L : Nat → Nat} {σ : Nat → Int32} {α : Nat → Nat → Int32} {τ : Nat → Int32} {β : Nat → Nat → Int32} {γ : Nat → Nat → Int64} {g : Nat → Nat} {w : Nat → Nat → Nat}
theorem overT_le (hg : Bd g w) (hn : 0 < g 22) : overT g w ≤ 4 := by
  have hS := sides_le hg.1
  have h1 := (hg.2.2.2.2.2.2.2.2.2.2 (g 22 - 1) (by omega)).1
  have h2 := side_lt hg.1 h1
  have h3 := (stk_le (g := g) (w := w) (sides (g 1))).2
  unfold overT
  split <;> omega
theorem m_settle (h : RM g w τ β) (hg : Bd g w) (hn : 0 < g 22) (hsc : ∀ i, i < 4 → w 22 i ≤ 100000) : ∃ τ' β', Ev sc (d + 6) 121 [.ref 21] (mem L σ α τ β γ) (some (.int (bI (overB g w))), mem L σ α τ' β' γ) ∧ RM (stG g w) (stW g w) τ' β' := by
  obtain ⟨τ1, hE, hR, hv, -⟩ := m_isOver (sc := sc) (d := d) (L := L) (σ := σ) (α := α) (γ := γ) h hg hn
  have hT := overT_le hg hn
  have hP := overP_le hg
  cases ho : overB g w with
  | false =>
    rw [ho] at hE
    refine ⟨τ1, β, e_start rfl rfl rfl (q_121_0 (cli hE (q_121_4 ?_))), ?_⟩
    · rw [if_pos (by decide)]; rfl
    · unfold stG stW; rw [ho]; exact hR
  | true =>
    rw [ho] at hE
    obtain ⟨v26, v27⟩ := hv ho
    have hg2 := hg.2.1
    obtain ⟨⟨k1, k2, k3, k4, k5, k6, k7, k8, k9, k10, k11, k12, k13, k14⟩, k15, k16, k17, k18⟩ := id hR
    have n3 : (3 : Int32) = nI 3 := rfl
    by_cases hz : overT g w = 0
    · refine ⟨upd (upd (upd τ1 7 3) 23 (τ1 26)) 24 (τ1 27), β, e_start rfl rfl rfl (q_121_0 (cli hE (q_121_4 ?_))), ?_⟩
      · rw [if_neg (by decide), v26, hz, if_pos mI_0]; rfl
      · unfold stG stW
        rw [if_pos ho, if_pos ho, if_pos hz, if_neg (fun z => z.1 hz)]
        refine ⟨by simp [upd, va_up, k1, k2, k3, k4, k6, k7, k8, k9, k10, k11, k12, v26, v27, n3], k15, k16, fun j a c => k17 j (by simpa [va_up] using a) (by simpa [va_up] using c), fun j hj => k18 j (by simpa [va_up] using hj)⟩
    · obtain ⟨T, hTe⟩ : ∃ T, overT g w = T + 1 := ⟨overT g w - 1, by omega⟩
      have hT4 : T < 4 := by omega
      have hsT := hsc T hT4
      rw [hTe, mI_succ] at v26
      have rows : ∀ (G : Nat → Nat) (X : Nat → Int32), (X 1 = nI (G 1) ∧ X 2 = nI (G 2) ∧ X 3 = nI (G 3) ∧ X 4 = nI (sides (G 1)) ∧ X 7 = nI (G 7) ∧ X 8 = nI (G 8) ∧ X 9 = nI (G 9) ∧ X 10 = nI (G 10) ∧ X 11 = mI (G 11) ∧ X 14 = nI (G 14) ∧ X 15 = nI (G 15) ∧ X 22 = nI (G 22) ∧ X 23 = mI (G 23) ∧ X 24 = nI (G 24)) → G 14 = g 14 → G 15 = g 15 → G 22 = g 22 → RM G (tw w 22 T (w 22 T + overP g w)) X (va_up β 22 (upd (β 22) T (nI (w 22 T + overP g w)))) := by
        intro G X hs q1 q2 q3
        refine ⟨hs, ?_, ?_, ?_, ?_⟩
        · intro j hj; simpa [va_up, upd, tw] using k15 j hj
        · intro j hj
          by_cases e : j = T
          · simp [va_up, upd, tw, e]
          · simpa [va_up, upd, tw, e] using k16 j hj
        · intro j a c; simpa [va_up, upd, tw] using k17 j (by omega) (by omega)
        · intro j hj; simpa [va_up, upd, tw] using k18 j (by omega)
      have hsum : β 22 T + τ1 27 = nI (w 22 T + overP g w) := by rw [k16 T hT4, v27, nI_add]
      have hin : ¬ (nI T < 0 ∨ 4 ≤ T) := in_cl hT4 (by decide)
      have eL : nI (w 22 T + overP g w) < nI (g 2) ↔ w 22 T + overP g w < g 2 := nI_ltI (by omega) (by omega)
      have eW : stW g w = tw w 22 T (w 22 T + overP g w) := by unfold stW; rw [if_pos ho, if_neg hz, hTe]; rfl
      rw [eW]
      by_cases hlt : w 22 T + overP g w < g 2
      · refine ⟨upd (upd (upd τ1 7 3) 23 (τ1 26)) 24 (τ1 27), va_up β 22 (upd (β 22) T (nI (w 22 T + overP g w))), e_start rfl rfl rfl (q_121_0 (cli hE (q_121_4 ?_))), ?_⟩
        · rw [if_neg (by decide), v26, if_neg (nI_ne_m1 (by omega)), cl_nI (by omega), if_neg hin, if_neg hin, if_neg hin, pk_us, hsum, k2, if_pos (eL.mpr hlt)]; rfl
        · unfold stG
          rw [if_pos ho, hTe, if_neg (fun z => by have := z.2; simp at this; omega)]
          exact rows _ _ (by simp [upd, va_up, k1, k2, k3, k4, k6, k7, k8, k9, k10, k11, k12, v26, v27, n3, mI_succ]) (by simp [va_up]) (by simp [va_up]) (by simp [va_up])
      · refine ⟨upd (upd (upd (upd τ1 7 3) 23 (τ1 26)) 24 (τ1 27)) 11 (τ1 26), va_up β 22 (upd (β 22) T (nI (w 22 T + overP g w))), e_start rfl rfl rfl (q_121_0 (cli hE (q_121_4 ?_))), ?_⟩
        · rw [if_neg (by decide), v26, if_neg (nI_ne_m1 (by omega)), cl_nI (by omega), if_neg hin, if_neg hin, if_neg hin, pk_us, hsum, k2, if_neg (fun z => hlt (eL.mp z))]; rfl
        · unfold stG
          rw [if_pos ho, hTe, if_pos ⟨by omega, by simp; omega⟩]
          exact rows _ _ (by simp [upd, va_up, k1, k2, k3, k4, k6, k7, k8, k10, k11, k12, v26, v27, n3, mI_succ]) (by simp [va_up]) (by simp [va_up]) (by simp [va_up])
theorem m_play_no (h : RM g w τ β) (hg : Bd g w) {b : Nat} (hb : b < 2 ^ 31) {x : Int32} (hc : canE g w b x = false) : Ev sc (d + 7) 122 [.ref 21, .int (nI b), .int x] (mem L σ α τ β γ) (some (.int (-1)), mem L σ α τ β γ) := by
  refine e_start rfl rfl rfl (q_122_0 (cli (m_canPlay h hg hb x) (q_122_6 ?_)))
  rw [hc, if_pos (by decide)]
theorem m_play_neg (h : RM g w τ β) (hg : Bd g w) {y x : Int32} (hy : y < 0) : Ev sc (d + 7) 122 [.ref 21, .int y, .int x] (mem L σ α τ β γ) (some (.int (-1)), mem L σ α τ β γ) := by
  refine e_start rfl rfl rfl (q_122_0 (cli (m_canPlay_neg h hg hy x) (q_122_6 ?_)))
  rw [if_pos rfl]
/-- the end of a play that can be made: 0 or 1 -/
def endN (x : Int32) : Nat := if x = 0 then 0 else 1
theorem endN_ok {b : Nat} {x : Int32} (hc : canE g w b x = true) (hne : ¬ g 14 = g 15) : x = nI (endN x) := by
  unfold canE fitE at hc
  simp only [Bool.and_eq_true, Bool.or_eq_true, decide_eq_true_eq] at hc
  unfold endN
  rcases hc.2.2.2 with z | z | z
  · exact absurd z hne
  · rw [if_pos z.1, z.1]; rfl
  · rw [z.1, if_neg (by decide)]; rfl
theorem endN_le (x : Int32) : endN x ≤ 1 := by unfold endN; split <;> omega
theorem m_play_yes (h : RM g w τ β) (hg : Bd g w) {b : Nat} {x : Int32} (hc : canE g w b x = true) (hg' : Bd (mpG g (endN x)) (mpW g w b (endN x))) (hsc : ∀ i, i < 4 → w 22 i ≤ 100000) : ∃ τ' β', Ev sc (d + 7) 122 [.ref 21, .int (nI b), .int x] (mem L σ α τ β γ) (some (.int (bI (overB (mpG g (endN x)) (mpW g w b (endN x))))), mem L σ α τ' β' γ) ∧ RM (stG (mpG g (endN x)) (mpW g w b (endN x))) (stW (mpG g (endN x)) (mpW g w b (endN x))) τ' β' := by
  have hb : b < g 3 := by
    unfold canE at hc
    simp only [Bool.and_eq_true, decide_eq_true_eq] at hc
    exact hc.2.1
  have h3 := hg.2.2.1
  obtain ⟨τ1, β1, hE1, hR1, -⟩ := m_makePlay (sc := sc) (d := d + 2) (L := L) (σ := σ) (α := α) (γ := γ) h hg (b := b) (by omega) (endN_le x) (endN_ok hc)
  have hn : 0 < mpG g (endN x) 22 := by
    unfold mpG
    split <;> simp [va_up, wrG]
  have hsc' : ∀ i, i < 4 → mpW g w b (endN x) 22 i ≤ 100000 := fun i hi => by
    unfold mpW wrW
    simpa [tw, va_up] using hsc i hi
  obtain ⟨τ2, β2, hE2, hR2⟩ := m_settle (sc := sc) (d := d) (L := L) (σ := σ) (α := α) (γ := γ) hR1 hg' hn hsc'
  refine ⟨τ2, β2, e_start rfl rfl rfl (q_122_0 (cli (m_canPlay h hg (by omega) x) (q_122_6 ?_))), hR2⟩
  rw [hc, if_neg (by decide)]
  exact clv hE1 (q_122_17 (cli hE2 (q_122_21 rfl)))
theorem m_pass_no (h : RM g w τ β) (hg : Bd g w) (hc : ¬ (g 7 = 2 ∧ ¬ g 14 = g 15)) : Ev sc (d + 7) 123 [.ref 21] (mem L σ α τ β γ) (some (.int (-1)), mem L σ α τ β γ) := by
  have h7 := hg.2.2.2.1
  have e7 : nI (g 7) = (2 : Int32) ↔ g 7 = 2 := nI_eq (b := 2) (by omega) (by decide)
  refine e_start rfl rfl rfl (q_123_0 ?_)
  rw [h.1.2.2.2.2.1]
  by_cases hw : g 7 = 2
  · rw [if_pos (e7.mpr hw)]
    refine cli (m_isEmpty h hg) (q_123_12 ?_)
    have : g 14 = g 15 := Decidable.byContradiction fun z => hc ⟨hw, z⟩
    rw [if_neg (by simp [this, bI])]
  · rw [if_neg (fun z => hw (e7.mp z))]
theorem m_pass_yes (h : RM g w τ β) (hg : Bd g w) (h2 : g 7 = 2) (hne : ¬ g 14 = g 15) (hg' : Bd (wrG g) (wrW g w 0 0 (if canA g w (g 9) then 1 else 0))) (hsc : ∀ i, i < 4 → w 22 i ≤ 100000) : ∃ τ' β', Ev sc (d + 7) 123 [.ref 21] (mem L σ α τ β γ) (some (.int (bI (overB (wrG g) (wrW g w 0 0 (if canA g w (g 9) then 1 else 0))))), mem L σ α τ' β' γ) ∧ RM (stG (wrG g) (wrW g w 0 0 (if canA g w (g 9) then 1 else 0))) (stW (wrG g) (wrW g w 0 0 (if canA g w (g 9) then 1 else 0))) τ' β' := by
  have h9 := hg.2.2.2.2.2.1
  have hS := hg.1
  obtain ⟨τ1, β1, hE1, hR1, -⟩ := m_write (sc := sc) (d := d + 3) (L := L) (σ := σ) (α := α) (γ := γ) h hg (bc := 0) (ec := 0) (by omega) (by omega) (canA g w (g 9))
  rw [mI_0] at hE1
  have hsc' : ∀ i, i < 4 → wrW g w 0 0 (if canA g w (g 9) then 1 else 0) 22 i ≤ 100000 := fun i hi => by
    unfold wrW
    simpa [tw, va_up] using hsc i hi
  obtain ⟨τ2, β2, hE2, hR2⟩ := m_settle (sc := sc) (d := d) (L := L) (σ := σ) (α := α) (γ := γ) hR1 hg' (by simp [wrG, va_up]) hsc'
  refine ⟨τ2, β2, e_start rfl rfl rfl (q_123_0 ?_), hR2⟩
  rw [h.1.2.2.2.2.1, h2, if_pos (by decide)]
  refine cli (m_isEmpty h hg) (q_123_12 ?_)
  rw [if_pos (by simp [hne, bI]), h.1.2.2.2.2.2.2.1]
  exact cli (m_canAnswer h hg (by omega)) (q_123_28 (clv hE1 (q_123_31 (cli hE2 (q_123_35 rfl)))))
end MG
