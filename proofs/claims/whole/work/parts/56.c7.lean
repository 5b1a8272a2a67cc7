/-! the class: hands are laid, given, shuffled, begun -/
section XH
variable {sc : Nat × (Nat → Int32)} {d : Nat} {L : Nat → Nat} {σ : Nat → Int32} {α : Nat → Nat → Int32} {τ : Nat → Int32} {β : Nat → Nat → Int32} {γ : Nat → Nat → Int64} {g : Nat → Nat} {w : Nat → Nat → Nat}
theorem x_fill11 (hL : L 0 < 100) (x : Int32) : ∃ α', Ev sc (d + 1) 146 [.ref 11, .int x] (mem L σ α τ β γ) (none, mem L σ α' τ β γ) ∧ (∀ c, c ≠ 11 → α' c = α c) ∧ ∀ s, s < L 0 → α' 11 s = x := by
  have loop : ∀ m j, j + m = L 0 → ∀ α1 : Nat → Nat → Int32, (∀ c, c ≠ 11 → α1 c = α c) → (∀ s, s < j → α1 11 s = x) → ∃ α', EvL sc d me_146 5 [some (.ref 11), some (.int x), some (.int (nI j)), some (.int (nI (L 0)))] [] (mem L σ α1 τ β γ) 0 0 (none, mem L σ α' τ β γ) ∧ (∀ c, c ≠ 11 → α' c = α c) ∧ ∀ s, s < L 0 → α' 11 s = x := by
    intro m
    induction m with
    | zero =>
      intro j hj α1 h1 h2
      refine ⟨α1, q_146a11_5 ?_, h1, fun s hs => h2 s (by omega)⟩
      rw [if_neg (nI_nlt (by omega) (by omega))]
    | succ m ih =>
      intro j hj α1 h1 h2
      obtain ⟨α', hE, hr⟩ := ih (j + 1) (by omega) (va_up α1 11 (upd (α1 11) j x)) (fun c hc => by simp [va_up, hc, h1 c hc]) (fun s hs => by
        by_cases e : s = j
        · simp [va_up, upd, e]
        · simp [va_up, upd, e]; exact h2 s (by omega))
      refine ⟨α', q_146a11_5 ?_, hr⟩
      rw [if_pos (nI_lt (by omega) (by omega)), if_neg (in_nI (by omega) (by omega)), cl_nI (by omega), nI_1]
      exact hE
  obtain ⟨α', hE, hr⟩ := loop (L 0) 0 (by omega) α (fun _ _ => rfl) (fun s hs => by omega)
  exact ⟨α', e_start rfl rfl rfl (q_146a11_0 hE), hr⟩
/-- the numbers under which a hand lies -/
theorem x_layOut (h : RT g w L σ α) (hB : Bs g w) {k : Nat} : ∃ σ' α', Ev sc (d + 2) 22 [.ref 1, .int (nI k)] (mem L σ α τ β γ) (none, mem L σ' α' τ β γ) ∧ RT (layG g k) (layW g w) L σ' α' ∧ (∀ j, j < 4 ∨ 13 ≤ j → σ' j = σ j) ∧ (∀ c, c = 2 ∨ 12 ≤ c → α' c = α c) := by
  obtain ⟨⟨h1, -, h3, -, h9⟩, -⟩ := id hB
  obtain ⟨⟨l0, l1⟩, ⟨s2, s3, s4, s5, s7, s8, s9, s10, s11, s12⟩, k6, kh, kr, kt, kb⟩ := id h
  obtain ⟨α1, hE1, a1, a2⟩ := x_fill11 (sc := sc) (d := d) (L := L) (σ := upd (upd (upd σ 4 1) 5 (nI k)) 6 (((1 : Int32) <<< (σ 3 &&& 31)) - 1)) (α := α) (τ := τ) (β := β) (γ := γ) (by omega) 0
  refine ⟨upd (upd (upd (upd (upd (upd (upd (upd (upd σ 4 1) 5 (nI k)) 6 (((1 : Int32) <<< (σ 3 &&& 31)) - 1)) 10 28) 11 0) 12 0) 7 (-1)) 8 (-1)) 9 0, α1, e_start rfl rfl rfl (q_22_0 (clv hE1 (q_22_30 (clv (e_start rfl rfl rfl (q_1_0 rfl)) (q_22_37 (clv (e_start rfl rfl rfl (q_54_0 rfl)) (q_22_44 rfl))))))), ?_, ?_, ?_⟩
  · have n1 : (1 : Int32) = nI 1 := rfl
    refine ⟨⟨by simp [layG, va_up, l0], by simp [layG, va_up, l1]⟩, by simp [layG, va_up, upd, s2, s3, mI_0, nI_0]; rfl, ?_, ?_, ?_, ?_, ?_⟩
    · intro i hi
      have e : (upd (upd (upd (upd (upd (upd (upd (upd (upd σ 4 1) 5 (nI k)) 6 (((1 : Int32) <<< (σ 3 &&& 31)) - 1)) 10 28) 11 0) 12 0) 7 (-1)) 8 (-1)) 9 0) 6 = ((1 : Int32) <<< (σ 3 &&& 31)) - 1 := by simp [upd]
      rw [e, s3, b_low (by omega) i hi]
      by_cases l : i < g 3
      · simp [layG, layW, va_up, l]
      · simp [layG, va_up, l]
    · intro s hs i hi
      have hs : s < g 1 := by simpa [layG, va_up] using hs
      rw [a2 s (by omega), b_0]
      by_cases l : i < g 3
      · have : ¬ (10 : Nat) = s := by omega
        simp [layG, layW, va_up, l, this]
      · simp [layG, va_up, l]
    · intro i a b
      simp [layG, va_up] at a b
      omega
    · intro t ht; simp [layG, va_up] at ht
    · intro p hp i hi
      rw [a1 2 (by decide)]
      simpa [layG, va_up] using kb p hp i hi
  · intro j hj
    rw [pk_un (by omega), pk_un (by omega), pk_un (by omega), pk_un (by omega), pk_un (by omega), pk_un (by omega), pk_un (by omega), pk_un (by omega), pk_un (by omega)]
  · intro c hc; exact a1 c (by omega)
/-- a bone goes from the stock to a seat -/
theorem RT_give (h : RT g w L σ α) (hB : Bs g w) (h7 : 1 ≤ g 7) {s b : Nat} (hs : s < g 1) (hb : b < g 3) (h10 : w 21 b = 10) : RT g (tw w 21 b s) L (upd σ 6 (σ 6 &&& (((1 : Int32) <<< (nI b &&& 31)) ^^^ (-1)))) (va_up α 11 (upd (α 11) s (α 11 s ||| ((1 : Int32) <<< (nI b &&& 31))))) := by
  obtain ⟨⟨h1, -, h3, -, h9⟩, -⟩ := id hB
  obtain ⟨⟨l0, l1⟩, ⟨s2, s3, s4, s5, s7, s8, s9, s10, s11, s12⟩, k6, kh, kr, kt, kb⟩ := id h
  have pl : ∀ i, tw w 21 b s 21 i = if i = b then s else w 21 i := fun i => by simp [tw, va_up]
  refine ⟨⟨l0, l1⟩, by simp [upd]; exact ⟨s2, s3, s4, s5, s7, s8, s9, s10, s11, s12⟩, ?_, ?_, ?_, ?_, ?_⟩
  · intro i hi
    rw [pk_us, b_off (by omega) hi, k6 i hi, pl]
    by_cases z : i = b
    · have : ¬ s = 10 := by omega
      simp [z, this]
    · simp [z]
  · intro u hu i hi
    rw [pl]
    simp only [va_up, if_true]
    by_cases q : u = s
    · rw [q, pk_us, b_put (by omega) hi, kh s hs i hi]
      by_cases z : i = b
      · simp [z, hb, h7]
      · simp [z]
    · rw [pk_un q, kh u hu i hi]
      by_cases z : i = b
      · have a1 : ¬ s = u := fun r => q r.symm
        have a2 : ¬ (10 : Nat) = u := by omega
        simp [z, h10, a1, a2]
      · simp [z]
  · intro i a c; simpa [va_up, tw] using kr i a c
  · intro t ht; simpa [va_up, tw] using kt t ht
  · intro p hp i hi; simpa [va_up] using kb p hp i hi
theorem x_take (h : RT g w L σ α) (hB : Bs g w) (h7 : 1 ≤ g 7) {s b : Nat} (hs : s < g 1) (hb : b < g 3) (h10 : w 21 b = 10) : Ev sc (d + 2) 23 [.ref 1, .int (nI s), .int (nI b)] (mem L σ α τ β γ) (none, mem L (upd σ 6 (σ 6 &&& (((1 : Int32) <<< (nI b &&& 31)) ^^^ (-1)))) (va_up α 11 (upd (α 11) s (α 11 s ||| ((1 : Int32) <<< (nI b &&& 31))))) τ β γ) := by
  obtain ⟨⟨h1, -, h3, -, h9⟩, -⟩ := id hB
  refine e_start rfl rfl rfl (q_23_0 (cli (x_isSeat h hB _) (q_23_5 ?_)))
  rw [bel_nI (by omega) (by omega), decide_eq_true hs, if_neg (by decide)]
  refine cli (x_isIn _ _) (q_23_16 ?_)
  rw [inB_nI (by omega), h.2.2.1 b (by omega), if_neg (by simp [bI, hb, h7, h10]; omega), h.1.1, if_neg (in_nI hs (by omega)), if_neg (in_nI hs (by omega)), cl_nI (by omega)]
theorem x_mix (h : RT g w L σ α) (hB : Bs g w) (x : Int64) : ∃ α', Ev sc (d + 1) 25 [.ref 1, .long x] (mem L σ α τ β γ) (none, mem L σ α' τ β γ) ∧ (∀ c, c ≠ 12 → α' c = α c) ∧ ∀ i, i < g 3 → α' 12 i = nI (mixF (g 3 - 1) x (fun i => i) i) := by
  obtain ⟨⟨h1, -, h3, -, h9⟩, -⟩ := id hB
  have l1 := h.1.2
  have n1 : (1 : Int32) = nI 1 := rfl
  have swap : ∀ i, i < g 3 → ∀ (y : Int64) (o : Nat → Nat), (∀ k, k < g 3 → o k < g 3) → ∀ α1 : Nat → Nat → Int32, (∀ c, c ≠ 12 → α1 c = α c) → (∀ k, k < g 3 → α1 12 k = nI (o k)) → ∃ α', EvL sc d me_25 35 [some (.ref 1), none, none, some (.long y), none, some (.int (nI i)), none, none] [] (mem L σ α1 τ β γ) 0 0 (none, mem L σ α' τ β γ) ∧ (∀ c, c ≠ 12 → α' c = α c) ∧ ∀ k, k < g 3 → α' 12 k = nI (mixF i y o k) := by
    intro i
    induction i with
    | zero =>
      intro hi y o ho α1 c1 c2
      refine ⟨α1, q_25_35 ?_, c1, fun k hk => by rw [c2 k hk]; rfl⟩
      rw [n1, if_pos (nI_lt (by omega) (by omega))]
    | succ i ih =>
      intro hi y o ho α1 c1 c2
      have hj : hn (lcg y) % (i + 2) < i + 2 := Nat.mod_lt _ (by omega)
      obtain ⟨α', hE, hr⟩ := ih (by omega) (lcg y) (swp o (i + 1) (hn (lcg y) % (i + 2))) (fun k hk => by
        unfold swp va_up
        split
        · exact ho _ (by omega)
        · split
          · exact ho _ (by omega)
          · exact ho k hk) (va_up α1 12 (upd (upd (α1 12) (i + 1) (α1 12 (hn (lcg y) % (i + 2)))) (hn (lcg y) % (i + 2)) (α1 12 (i + 1)))) (fun c hc => by simp [va_up, hc, c1 c hc]) (fun k hk => by
        unfold swp
        by_cases e1 : k = hn (lcg y) % (i + 2)
        · simp [va_up, upd, e1, c2 (i + 1) hi]
        · by_cases e2 : k = i + 1
          · have e3 : ¬ i + 1 = hn (lcg y) % (i + 2) := fun z => e1 (e2.trans z)
            simp [va_up, upd, e2, e3, c2 (hn (lcg y) % (i + 2)) (by omega)]
          · simp [va_up, upd, e1, e2, c2 k hk])
      refine ⟨α', q_25_35 ?_, hr⟩
      rw [if_neg (show ¬ nI (i + 1) < 1 from nI_nlt (b := 1) (by omega) (by omega))]
      refine q_25_51 ?_
      rw [if_neg (hn_nz (by omega)), hn_ok _ (by omega)]
      refine q_25_64 ?_
      rw [show y * 6364136223846793005 + 1442695040888963407 = lcg y from rfl, show i + 1 + 1 = i + 2 from rfl]
      rw [l1, if_neg (nI_pos (by omega)), nI_lit, if_pos (nI_lt (by omega) (by omega)), cl_nI (by omega), cl_nI (by omega), if_neg (in_cl (by omega) (by omega)), if_neg (in_cl (by omega) (by omega)), if_neg (in_cl (by omega) (by omega)), if_neg (in_cl (by omega) (by omega)), pk_m1]
      exact hE
  have first : ∀ m j, j + m = g 3 → ∀ α1 : Nat → Nat → Int32, (∀ c, c ≠ 12 → α1 c = α c) → (∀ k, k < j → α1 12 k = nI k) → ∃ α', EvL sc d me_25 2 [some (.ref 1), some (.long x), none, some (.int (nI j)), none, none, none, none] [] (mem L σ α1 τ β γ) 0 0 (none, mem L σ α' τ β γ) ∧ (∀ c, c ≠ 12 → α' c = α c) ∧ ∀ k, k < g 3 → α' 12 k = nI (mixF (g 3 - 1) x (fun i => i) k) := by
    intro m
    induction m with
    | zero =>
      intro j hj α1 c1 c2
      obtain ⟨α', hE, hr⟩ := swap (g 3 - 1) (by omega) x (fun i => i) (fun k hk => hk) α1 c1 (fun k hk => c2 k (by omega))
      refine ⟨α', q_25_2 ?_, hr⟩
      rw [l1, nI_lit, if_neg (nI_nlt (by omega) (by omega)), show nI (g 3) - 1 = nI (g 3 - 1) from pk_sub (b := 1) (by omega)]
      exact hE
    | succ m ih =>
      intro j hj α1 c1 c2
      obtain ⟨α', hE, hr⟩ := ih (j + 1) (by omega) (va_up α1 12 (upd (α1 12) j (nI j))) (fun c hc => by simp [va_up, hc, c1 c hc]) (fun k hk => by
        by_cases e : k = j
        · simp [va_up, upd, e]
        · simp [va_up, upd, e]; exact c2 k (by omega))
      refine ⟨α', q_25_2 ?_, hr⟩
      rw [l1, nI_lit, if_pos (nI_lt (by omega) (by omega)), if_neg (in_nI (by omega) (by omega)), cl_nI (by omega), nI_1]
      exact hE
  obtain ⟨α', hE, hr⟩ := first (g 3) 0 (by omega) α (fun _ _ => rfl) (fun k hk => by omega)
  exact ⟨α', e_start rfl rfl rfl (q_25_0 hE), hr⟩
theorem x_isDealt (h : RT g w L σ α) (hB : Bs g w) (h7 : 1 ≤ g 7) : Ev sc (d + 4) 26 [.ref 1] (mem L σ α τ β γ) (some (.int (bI (decide (cn (fun i => decide (¬ many g w i = g 8)) (g 1) = 0)))), mem L σ α τ β γ) := by
  obtain ⟨⟨h1, -, h3, -, h9⟩, -⟩ := id hB
  have h8 := (Bs_Bd hB).2.2.2.2.1
  have loop : ∀ m j, j + m = g 1 → cn (fun i => decide (¬ many g w i = g 8)) j = 0 → EvL sc (d + 3) me_26 2 [some (.ref 1), some (.int (nI j))] [] (mem L σ α τ β γ) 0 0 (some (.int (bI (decide (cn (fun i => decide (¬ many g w i = g 8)) (g 1) = 0)))), mem L σ α τ β γ) := by
    intro m
    induction m with
    | zero =>
      intro j hj hc
      have ej : j = g 1 := by omega
      subst ej
      refine q_26_2 ?_
      rw [h.1.1, nI_lit, if_neg (nI_nlt (by omega) (by omega)), hc]
      rfl
    | succ m ih =>
      intro j hj hc
      have hm := many_le g w j
      have e8 : nI (many g w j) = nI (g 8) ↔ many g w j = g 8 := nI_eq (by omega) (by omega)
      refine q_26_2 ?_
      rw [h.1.1, nI_lit, if_pos (nI_lt (by omega) (by omega))]
      refine cli (x_heldBy h hB h7 (by omega)) (q_26_16 ?_)
      rw [h.2.1.2.2.2.1]
      by_cases a : many g w j = g 8
      · rw [if_pos (e8.mpr a), nI_1]
        exact ih (j + 1) (by omega) (by simp only [cn, hc]; rw [if_neg (by simp [a])])
      · rw [if_neg (fun z => a (e8.mp z)), decide_eq_false (fun z => by
          have := cn_zero.mp z j (by omega)
          simp [a] at this)]; rfl
  exact e_start rfl rfl rfl (q_26_0 (loop (g 1) 0 (by omega) rfl))
end XH
