/-! the reference: a play is made and unmade -/
section MF
variable {sc : Nat × (Nat → Int32)} {d : Nat} {L : Nat → Nat} {σ : Nat → Int32} {α : Nat → Nat → Int32} {τ : Nat → Int32} {β : Nat → Nat → Int32} {γ : Nat → Nat → Int64} {g : Nat → Nat} {w : Nat → Nat → Nat}
theorem RM_put (h : RM g w τ β) {b i l r k v : Nat} {x : Int32} (hk : k = 14 ∨ k = 15) (hx : x = nI v) (hrow : ∀ j, va_up g k v 14 ≤ j → j < va_up g k v 15 → j ≠ i → g 14 ≤ j ∧ j < g 15) : RM (va_up g k v) (tw (tw (tw w 21 b 11) 23 i l) 24 i r) (upd τ k x) (va_up (va_up (va_up β 21 (upd (β 21) b 11)) 23 (upd (β 23) i (nI l))) 24 (upd (β 24) i (nI r))) := by
  subst hx
  obtain ⟨⟨k1, k2, k3, k4, k5, k6, k7, k8, k9, k10, k11, k12, k13, k14⟩, k15, k16, k17, k18⟩ := h
  have n11 : (11 : Int32) = nI 11 := rfl
  refine ⟨?_, ?_, ?_, ?_, ?_⟩
  · rcases hk with rfl | rfl <;> simp [upd, va_up, k1, k2, k3, k4, k5, k6, k7, k8, k9, k10, k11, k12, k13, k14]
  · intro j hj
    by_cases e : j = b
    · simp [va_up, upd, tw, e, n11]
    · simpa [va_up, upd, tw, e] using k15 j hj
  · intro j hj
    simpa [va_up, upd, tw] using k16 j hj
  · intro j a c
    by_cases e : j = i
    · simp [va_up, upd, tw, e]
    · obtain ⟨h1, h2⟩ := hrow j a c e
      simpa [va_up, upd, tw, e] using k17 j h1 h2
  · intro j hj
    have hj : j < g 22 := by rcases hk with rfl | rfl <;> simpa [va_up] using hj
    simpa [va_up, upd, tw] using k18 j hj
theorem wrG_v (g : Nat → Nat) {k : Nat} (h1 : k ≠ 22) (h2 : k ≠ 9) : wrG g k = g k := by simp [wrG, va_up, h1, h2]
theorem m_makePlay (h : RM g w τ β) (hg : Bd g w) {b e : Nat} (hb : b < 28) (he : e ≤ 1) {x : Int32} (hx : ¬ g 14 = g 15 → x = nI e) : ∃ τ' β', Ev sc (d + 4) 116 [.ref 21, .int (nI b), .int x] (mem L σ α τ β γ) (none, mem L σ α τ' β' γ) ∧ RM (mpG g e) (mpW g w b e) τ' β' ∧ (∀ k, 26 ≤ k → τ' k = τ k) ∧ ∀ c, 31 ≤ c → β' c = β c := by
  obtain ⟨hS, -, ⟨-, h3⟩, -, -, h9, -, ⟨r1, r2, r3, r4⟩, h22, -, -⟩ := id hg
  have hlp := lp_le hg
  have hpip := lo_le b hb
  have hE0 : mpE g e ≤ 1 := by unfold mpE; split <;> omega
  obtain ⟨τ1, β1, hW, hR1, hk1, hb1⟩ := m_write (sc := sc) (d := d) (L := L) (σ := σ) (α := α) (γ := γ) h hg (bc := b + 1) (ec := mpE g e + 1) (by omega) (by omega) false
  rw [mI_succ, mI_succ] at hW
  have hR1 : RM (wrG g) (wrW g w (b + 1) (mpE g e + 1) 0) τ1 β1 := hR1
  have g14 : τ1 14 = nI (g 14) := by rw [hR1.1.2.2.2.2.2.2.2.2.2.1, wrG_v g (by decide) (by decide)]
  have g15 : τ1 15 = nI (g 15) := by rw [hR1.1.2.2.2.2.2.2.2.2.2.2.1, wrG_v g (by decide) (by decide)]
  have e14 : nI (g 14) - 1 = nI (g 14 - 1) := pk_sub (b := 1) (by omega)
  have n11 : (11 : Int32) = nI 11 := rfl
  -- behind the row that is written: the bone is laid
  have lay : ∃ τ' β', EvL sc (d + 3) me_116 83 [some (.ref 21), some (.int (nI b)), some (.int x), some (.int (bI (decide (g 14 = g 15)))), some (.int (nI (plL g w b e))), some (.int (nI (plR g w b e))), none, none] [] (mem L σ α τ1 β1 γ) 0 0 (none, mem L σ α τ' β' γ) ∧ RM (mpG g e) (mpW g w b e) τ' β' ∧ (∀ k, 26 ≤ k → τ' k = τ1 k) ∧ ∀ c, 31 ≤ c → β' c = β1 c := by
    by_cases hem : g 14 = g 15
    · refine ⟨upd τ1 15 (nI (g 15) + 1), va_up (va_up (va_up β1 21 (upd (β1 21) b 11)) 23 (upd (β1 23) (g 15) (nI (plL g w b e)))) 24 (upd (β1 24) (g 15) (nI (plR g w b e))), q_116_83 ?_, ?_, fun k hk => pk_un (by omega), fun c hc => by simp only [va_up]; rw [if_neg (by omega), if_neg (by omega), if_neg (by omega)]⟩
      · rw [if_neg (in_nI hb (by decide)), if_neg (by simp [hem, bI]), g15, cl_nI (by omega), if_neg (in_cl (by omega) (by decide)), if_neg (in_cl (by omega) (by decide)), cl_nI (by omega)]
      · have := RM_put hR1 (b := b) (i := g 15) (l := plL g w b e) (r := plR g w b e) (k := 15) (v := g 15 + 1) (x := nI (g 15) + 1) (Or.inr rfl) (nI_1 _) (fun j a c hne => by
          simp [va_up, wrG] at a c ⊢; omega)
        unfold mpG mpW mpI
        simpa [hem] using this
    · have hx := hx hem
      by_cases h0 : e = 0
      · subst h0
        refine ⟨upd τ1 14 (nI (g 14) - 1), va_up (va_up (va_up β1 21 (upd (β1 21) b 11)) 23 (upd (β1 23) (g 14 - 1) (nI (plL g w b 0)))) 24 (upd (β1 24) (g 14 - 1) (nI (plR g w b 0))), q_116_83 ?_, ?_, fun k hk => pk_un (by omega), fun c hc => by simp only [va_up]; rw [if_neg (by omega), if_neg (by omega), if_neg (by omega)]⟩
        · rw [if_neg (in_nI hb (by decide)), if_pos (by simp [hem, bI]), if_pos (show x = 0 from hx), g14, e14, cl_nI (by omega), if_neg (in_cl (by omega) (by decide)), if_neg (in_cl (by omega) (by decide)), cl_nI (by omega)]
        · have := RM_put hR1 (b := b) (i := g 14 - 1) (l := plL g w b 0) (r := plR g w b 0) (k := 14) (v := g 14 - 1) (x := nI (g 14) - 1) (Or.inl rfl) e14 (fun j a c hne => by
            simp [va_up, wrG] at a c ⊢; omega)
          unfold mpG mpW mpI
          simpa [hem] using this
      · have h1 : e = 1 := by omega
        subst h1
        refine ⟨upd τ1 15 (nI (g 15) + 1), va_up (va_up (va_up β1 21 (upd (β1 21) b 11)) 23 (upd (β1 23) (g 15) (nI (plL g w b 1)))) 24 (upd (β1 24) (g 15) (nI (plR g w b 1))), q_116_83 ?_, ?_, fun k hk => pk_un (by omega), fun c hc => by simp only [va_up]; rw [if_neg (by omega), if_neg (by omega), if_neg (by omega)]⟩
        · rw [if_neg (in_nI hb (by decide)), if_pos (by simp [hem, bI]), hx, if_neg (by decide), g15, cl_nI (by omega), if_neg (in_cl (by omega) (by decide)), if_neg (in_cl (by omega) (by decide)), cl_nI (by omega)]
        · have := RM_put hR1 (b := b) (i := g 15) (l := plL g w b 1) (r := plR g w b 1) (k := 15) (v := g 15 + 1) (x := nI (g 15) + 1) (Or.inr rfl) (nI_1 _) (fun j a c hne => by
            simp [va_up, wrG] at a c ⊢; omega)
          unfold mpG mpW mpI
          simpa [hem] using this
  obtain ⟨τ2, β2, hL, hR2, hk2, hb2⟩ := lay
  refine ⟨τ2, β2, ?_, hR2, fun k hk => by rw [hk2 k hk, hk1 k hk], fun c hc => by rw [hb2 c hc, hb1 c hc]⟩
  refine e_start rfl rfl rfl (q_116_0 (cli (m_isEmpty h hg) (q_116_4 (cli (m_low hb) (q_116_9 (cli (m_high hb) (q_116_15 ?_)))))))
  by_cases hem : g 14 = g 15
  · rw [if_neg (by simp [hem, bI]), if_neg (by simp [hem, bI])]
    have hE : mpE g e = 0 := by unfold mpE; rw [if_pos hem]
    rw [hE] at hW
    refine clv hW ?_
    unfold plL plR at hL
    rw [if_pos hem, if_pos hem] at hL
    exact hL
  · have hx := hx hem
    have hE : mpE g e = e := by unfold mpE; rw [if_neg hem]
    rw [hE, ← hx] at hW
    rw [if_pos (by simp [hem, bI]), if_pos (by simp [hem, bI])]
    unfold plL plR at hL
    rw [if_neg hem, if_neg hem] at hL
    by_cases h0 : e = 0
    · rw [if_pos (by rw [hx, h0]; rfl)]
      refine cli (m_leftPips h hg) (q_116_42 ?_)
      rw [if_pos h0, if_pos h0] at hL
      have eq : nI (hi b) = mI (lp g w) ↔ hi b + 1 = lp g w := by rw [← mI_succ]; exact mI_inj (by omega) (by omega)
      by_cases hq : hi b + 1 = lp g w
      · rw [if_pos (eq.mpr hq)]
        rw [if_pos hq, if_pos hq] at hL
        exact clv hW hL
      · rw [if_neg (fun z => hq (eq.mp z))]
        rw [if_neg hq, if_neg hq] at hL
        exact cli (m_high hb) (q_116_61 (cli (m_low hb) (q_116_67 (clv hW hL))))
    · have h1 : e = 1 := by omega
      rw [if_neg (by rw [hx, h1]; decide)]
      refine cli (m_rightPips h hg) (q_116_54 ?_)
      rw [if_neg h0, if_neg h0] at hL
      have eq : nI (lo b) = mI (rp g w) ↔ lo b + 1 = rp g w := by rw [← mI_succ]; exact mI_inj (by omega) (by omega)
      by_cases hq : lo b + 1 = rp g w
      · rw [if_pos (eq.mpr hq)]
        rw [if_pos hq, if_pos hq] at hL
        exact clv hW hL
      · rw [if_neg (fun z => hq (eq.mp z))]
        rw [if_neg hq, if_neg hq] at hL
        exact cli (m_high hb) (q_116_61 (cli (m_low hb) (q_116_67 (clv hW hL))))
/-- the latest turn is taken back -/
def unG (g : Nat → Nat) (w : Nat → Nat → Nat) : Nat → Nat :=
  if w 26 (g 22 - 1) = 0 then va_up (va_up g 22 (g 22 - 1)) 9 (w 25 (g 22 - 1))
  else if ¬ w 28 (g 22 - 1) = 0 ∧ w 27 (g 22 - 1) = 1 then va_up (va_up (va_up g 22 (g 22 - 1)) 9 (w 25 (g 22 - 1))) 14 (g 14 + 1)
  else va_up (va_up (va_up g 22 (g 22 - 1)) 9 (w 25 (g 22 - 1))) 15 (g 15 - 1)
def unW (g : Nat → Nat) (w : Nat → Nat → Nat) : Nat → Nat → Nat := if w 26 (g 22 - 1) = 0 then w else tw w 21 (w 26 (g 22 - 1) - 1) (w 25 (g 22 - 1))
theorem m_unmake (h : RM g w τ β) (hg : Bd g w) (hn : 0 < g 22) (h14 : g 14 < g 15 ∨ w 26 (g 22 - 1) = 0) : ∃ τ' β', Ev sc (d + 1) 117 [.ref 21] (mem L σ α τ β γ) (none, mem L σ α τ' β' γ) ∧ RM (unG g w) (unW g w) τ' β' ∧ (∀ k, 26 ≤ k → τ' k = τ k) ∧ ∀ c, 31 ≤ c → β' c = β c := by
  obtain ⟨hS, -, ⟨-, h3⟩, -, -, h9, -, ⟨r1, r2, r3, r4⟩, h22, -, ht⟩ := id hg
  have e1 : nI (g 22) - 1 = nI (g 22 - 1) := pk_sub (b := 1) (by omega)
  have hc : (nI (g 22 - 1)).toNatClampNeg = g 22 - 1 := cl_nI (by omega)
  have hin : ¬ (nI (g 22 - 1) < 0 ∨ 200 ≤ g 22 - 1) := in_cl (by omega) (by decide)
  have e22 := h.1.2.2.2.2.2.2.2.2.2.2.2.1
  obtain ⟨t1, t2, t3, t4, t5, t6⟩ := ht (g 22 - 1) (by omega)
  obtain ⟨b1, b2, b3, b4, b5, b6⟩ := h.2.2.2.2 (g 22 - 1) (by omega)
  obtain ⟨⟨k1, k2, k3, k4, k5, k6, k7, k8, k9, k10, k11, k12, k13, k14⟩, k15, k16, k17, k18⟩ := id h
  by_cases hp : w 26 (g 22 - 1) = 0
  · refine ⟨upd (upd τ 22 (nI (g 22 - 1))) 9 (nI (w 25 (g 22 - 1))), β, e_start rfl rfl rfl (q_117_0 ?_), ?_, fun k hk => by rw [pk_un (by omega), pk_un (by omega)], fun _ _ => rfl⟩
    · rw [e22, e1, hc, if_neg hin, if_neg hin, b2, hp, if_pos mI_0, b1]
    · unfold unG unW
      rw [if_pos hp, if_pos hp]
      refine ⟨by simp [upd, va_up, k1, k2, k3, k4, k5, k6, k8, k9, k10, k11, k13, k14], k15, k16, fun j a c => k17 j (by simpa [va_up] using a) (by simpa [va_up] using c), fun j hj => k18 j (by simp [va_up] at hj; omega)⟩
  · obtain ⟨bn, hbn⟩ : ∃ bn, w 26 (g 22 - 1) = bn + 1 := ⟨w 26 (g 22 - 1) - 1, by omega⟩
    have hbl : bn < 28 := by omega
    have plc : ∀ (G : Nat → Nat) (T : Nat → Int32), (T 1 = nI (G 1) ∧ T 2 = nI (G 2) ∧ T 3 = nI (G 3) ∧ T 4 = nI (sides (G 1)) ∧ T 7 = nI (G 7) ∧ T 8 = nI (G 8) ∧ T 9 = nI (G 9) ∧ T 10 = nI (G 10) ∧ T 11 = mI (G 11) ∧ T 14 = nI (G 14) ∧ T 15 = nI (G 15) ∧ T 22 = nI (G 22) ∧ T 23 = mI (G 23) ∧ T 24 = nI (G 24)) → g 14 ≤ G 14 → G 15 ≤ g 15 → G 22 ≤ g 22 → RM G (tw w 21 bn (w 25 (g 22 - 1))) T (va_up β 21 (upd (β 21) bn (nI (w 25 (g 22 - 1))))) := by
      intro G T hs q1 q2 q3
      refine ⟨hs, ?_, ?_, ?_, ?_⟩
      · intro j hj
        by_cases e : j = bn
        · simp [va_up, upd, tw, e]
        · simpa [va_up, upd, tw, e] using k15 j hj
      · intro j hj; simpa [va_up, upd, tw] using k16 j hj
      · intro j a c; simpa [va_up, upd, tw] using k17 j (by omega) (by omega)
      · intro j hj; simpa [va_up, upd, tw] using k18 j (by omega)
    have e26 : ¬ mI (bn + 1) = (-1 : Int32) := by rw [mI_succ]; exact nI_ne_m1 (by omega)
    by_cases hl : w 28 (g 22 - 1) = 0
    · have e15 : nI (g 15) - 1 = nI (g 15 - 1) := pk_sub (b := 1) (by omega)
      refine ⟨upd (upd (upd τ 22 (nI (g 22 - 1))) 9 (nI (w 25 (g 22 - 1)))) 15 (nI (g 15 - 1)), va_up β 21 (upd (β 21) bn (nI (w 25 (g 22 - 1)))), e_start rfl rfl rfl (q_117_0 ?_), ?_, fun k hk => by rw [pk_un (by omega), pk_un (by omega), pk_un (by omega)], fun c hc => by simp only [va_up]; rw [if_neg (by omega)]⟩
      · rw [e22, e1, hc, if_neg hin, if_neg hin, b2, hbn, if_neg e26, if_neg hin, mI_succ, if_neg (in_nI hbl (by decide)), if_neg hin, b4, hl, if_pos mI_0, b1, k11, e15, cl_nI (by omega)]
      · unfold unG unW
        rw [if_neg hp, if_neg hp, if_neg (fun z => z.1 hl), hbn]
        exact plc _ _ (by simp [upd, va_up, k1, k2, k3, k4, k5, k6, k8, k9, k10, k13, k14]) (by simp [va_up]) (by simp [va_up]) (by simp [va_up])
    · have e28 : ¬ mI (w 28 (g 22 - 1)) = (-1 : Int32) := fun z => hl ((mI_eq_m1 (by omega)).mp z)
      have e27 : mI (w 27 (g 22 - 1)) = 0 ↔ w 27 (g 22 - 1) = 1 := by
        have : (0 : Int32) = mI 1 := by decide
        rw [this]; exact mI_inj (by omega) (by omega)
      by_cases hz : w 27 (g 22 - 1) = 1
      · refine ⟨upd (upd (upd τ 22 (nI (g 22 - 1))) 9 (nI (w 25 (g 22 - 1)))) 14 (nI (g 14) + 1), va_up β 21 (upd (β 21) bn (nI (w 25 (g 22 - 1)))), e_start rfl rfl rfl (q_117_0 ?_), ?_, fun k hk => by rw [pk_un (by omega), pk_un (by omega), pk_un (by omega)], fun c hc => by simp only [va_up]; rw [if_neg (by omega)]⟩
        · rw [e22, e1, hc, if_neg hin, if_neg hin, b2, hbn, if_neg e26, if_neg hin, mI_succ, if_neg (in_nI hbl (by decide)), if_neg hin, b4, if_neg e28, if_neg hin, b3, if_pos (e27.mpr hz), b1, k10, cl_nI (by omega)]
        · unfold unG unW
          rw [if_neg hp, if_neg hp, if_pos ⟨hl, hz⟩, hbn]
          exact plc _ _ (by simp [upd, va_up, k1, k2, k3, k4, k5, k6, k8, k9, k11, k13, k14]; exact nI_1 _) (by simp [va_up]) (by simp [va_up]) (by simp [va_up])
      · have e15 : nI (g 15) - 1 = nI (g 15 - 1) := pk_sub (b := 1) (by omega)
        refine ⟨upd (upd (upd τ 22 (nI (g 22 - 1))) 9 (nI (w 25 (g 22 - 1)))) 15 (nI (g 15 - 1)), va_up β 21 (upd (β 21) bn (nI (w 25 (g 22 - 1)))), e_start rfl rfl rfl (q_117_0 ?_), ?_, fun k hk => by rw [pk_un (by omega), pk_un (by omega), pk_un (by omega)], fun c hc => by simp only [va_up]; rw [if_neg (by omega)]⟩
        · rw [e22, e1, hc, if_neg hin, if_neg hin, b2, hbn, if_neg e26, if_neg hin, mI_succ, if_neg (in_nI hbl (by decide)), if_neg hin, b4, if_neg e28, if_neg hin, b3, if_neg (fun z => hz (e27.mp z)), b1, k11, e15, cl_nI (by omega)]
        · unfold unG unW
          rw [if_neg hp, if_neg hp, if_neg (fun z => hz z.2), hbn]
          exact plc _ _ (by simp [upd, va_up, k1, k2, k3, k4, k5, k6, k8, k9, k10, k13, k14]) (by simp [va_up]) (by simp [va_up]) (by simp [va_up])
end MF
