/-! the class: hands are laid, given, shuffled, begun -/
section XH
variable {sc : Nat × (Nat → Int32)} {d : Nat} {L : Nat → Nat} {σ : Nat → Int32} {α : Nat → Nat → Int32} {τ : Nat → Int32} {β : Nat → Nat → Int32} {γ : Nat → Nat → Int64} {g : Nat → Nat} {w : Nat → Nat → Nat}
theorem x_fill11 (hL : L 0 < 100) (x : Int32) : ∃ α', Ev sc (d + 1) 146 [.ref 11, .int x] (mem L σ α τ β γ) (none, mem L σ α' τ β γ) ∧ (∀ c, c ≠ 11 → α' c = α c) ∧ ∀ s, s < L 0 → α' 11 s = x := by
  have loop : ∀ m j, j + m = L 0 → ∀ α1 : Nat → Nat → Int32, (∀ c, c ≠ 11 → α1 c = α c) → (∀ s, s < j → α1 11 s = x) → ∃ α', EvL sc d me_146 5 [some (.ref 11), some (.int x), some (.int (nI j)), some (.int (nI (L 0)))] [] (mem L σ α1 τ β γ) 0 0 (none, mem L σ α' τ β γ) ∧ (∀ c, c ≠ 11 → α' c = α c) ∧ ∀ s, s < L 0 → α' 11 s = x := by
    intro m
    induction m with
    | zero =>
      intro j hj α1 h1 h2
      refine ⟨α1, q_146a11_5 ?_, h1, fun s hs => h2 s (by omega)⟩
      rw [if_neg (nI_nlt (by omega) (by omega))]
    | succ m ih =>
      intro j hj α1 h1 h2
      obtain ⟨α', hE, hr⟩ := ih (j + 1) (by omega) (va_up α1 11 (upd (α1 11) j x)) (fun c hc => by simp [va_up, hc, h1 c hc]) (fun s hs => by
        by_cases e : s = j
        · simp [va_up, upd, e]
        · simp [va_up, upd, e]; exact h2 s (by omega))
      refine ⟨α', q_146a11_5 ?_, hr⟩
      rw [if_pos (nI_lt (by omega) (by omega)), if_neg (in_nI (by omega) (by omega)), cl_nI (by omega), nI_1]
      exact hE
  obtain ⟨α', hE, hr⟩ := loop (L 0) 0 (by omega) α (fun _ _ => rfl) (fun s hs => by omega)
  exact ⟨α', e_start rfl rfl rfl (q_146a11_0 hE), hr⟩
theorem x_fill5 (hL : L 3 < 100) (x : Int32) : ∃ α', Ev sc (d + 1) 146 [.ref 12, .int x] (mem L σ α τ β γ) (none, mem L σ α' τ β γ) ∧ (∀ c, c ≠ 5 → α' c = α c) ∧ ∀ s, s < L 3 → α' 5 s = x := by
  have loop : ∀ m j, j + m = L 3 → ∀ α1 : Nat → Nat → Int32, (∀ c, c ≠ 5 → α1 c = α c) → (∀ s, s < j → α1 5 s = x) → ∃ α', EvL sc d me_146 5 [some (.ref 12), some (.int x), some (.int (nI j)), some (.int (nI (L 3)))] [] (mem L σ α1 τ β γ) 0 0 (none, mem L σ α' τ β γ) ∧ (∀ c, c ≠ 5 → α' c = α c) ∧ ∀ s, s < L 3 → α' 5 s = x := by
    intro m
    induction m with
    | zero =>
      intro j hj α1 h1 h2
      refine ⟨α1, q_146a5_5 ?_, h1, fun s hs => h2 s (by omega)⟩
      rw [if_neg (nI_nlt (by omega) (by omega))]
    | succ m ih =>
      intro j hj α1 h1 h2
      obtain ⟨α', hE, hr⟩ := ih (j + 1) (by omega) (va_up α1 5 (upd (α1 5) j x)) (fun c hc => by simp [va_up, hc, h1 c hc]) (fun s hs => by
        by_cases e : s = j
        · simp [va_up, upd, e]
        · simp [va_up, upd, e]; exact h2 s (by omega))
      refine ⟨α', q_146a5_5 ?_, hr⟩
      rw [if_pos (nI_lt (by omega) (by omega)), if_neg (in_nI (by omega) (by omega)), cl_nI (by omega), nI_1]
      exact hE
  obtain ⟨α', hE, hr⟩ := loop (L 3) 0 (by omega) α (fun _ _ => rfl) (fun s hs => by omega)
  exact ⟨α', e_start rfl rfl rfl (q_146a5_0 hE), hr⟩
/-- the numbers under which a hand lies -/
theorem x_layOut (h : RT g w L σ α) (hB : Bs g w) {k : Nat} : ∃ σ' α', Ev sc (d + 2) 22 [.ref 1, .int (nI k)] (mem L σ α τ β γ) (none, mem L σ' α' τ β γ) ∧ RT (layG g k) (layW g w) L σ' α' ∧ (∀ j, j < 4 ∨ 13 ≤ j → σ' j = σ j) ∧ (∀ c, c = 2 ∨ 12 ≤ c → α' c = α c) := by
  obtain ⟨⟨h1, -, h3, -, h9⟩, -⟩ := id hB
  obtain ⟨⟨l0, l1, lW, kW⟩, ⟨s2, s3, s4, s5, s7, s8, s9, s10, s11, s12⟩, k6, kh, kr, kt, kb⟩ := id h
  obtain ⟨α1, hE1, a1, a2⟩ := x_fill11 (sc := sc) (d := d) (L := L) (σ := upd (upd (upd σ 4 1) 5 (nI k)) 6 (((1 : Int32) <<< (σ 3 &&& 31)) - 1)) (α := α) (τ := τ) (β := β) (γ := γ) (by omega) 0
  obtain ⟨α2, hE2, b1, b2⟩ := x_fill5 (sc := sc) (d := d) (L := L) (σ := upd (upd (upd σ 4 1) 5 (nI k)) 6 (((1 : Int32) <<< (σ 3 &&& 31)) - 1)) (α := α1) (τ := τ) (β := β) (γ := γ) (by have := sides_le h1; omega) 0
  refine ⟨upd (upd (upd (upd (upd (upd (upd (upd (upd σ 4 1) 5 (nI k)) 6 (((1 : Int32) <<< (σ 3 &&& 31)) - 1)) 10 28) 11 0) 12 0) 7 (-1)) 8 (-1)) 9 0, α2, e_start rfl rfl rfl (q_22_0 (clv hE1 (q_22_30 (clv hE2 (q_22_38 (clv (e_start rfl rfl rfl (q_1_0 rfl)) (q_22_45 (clv (e_start rfl rfl rfl (q_54_0 rfl)) (q_22_52 rfl))))))))), ?_, ?_, ?_⟩
  · have n1 : (1 : Int32) = nI 1 := rfl
    have e0 : ∀ s, own (layG g k) (layW g w) s = 0 := fun s => own_none (fun b hb z => by
      have hb : b < g 3 := by simpa [layG, va_up] using hb
      have := z.1
      simp [layG, layW, va_up, hb] at this
      omega)
    refine ⟨⟨by simp [layG, va_up, l0], by simp [layG, va_up, l1], by simp [layG, va_up, lW], fun _ s hs => by rw [b2 s (by rw [lW]; simpa [layG, va_up] using hs), e0]; rfl⟩, by simp [layG, va_up, upd, s2, s3, mI_0, nI_0]; rfl, ?_, ?_, ?_, ?_, ?_⟩
    · intro i hi
      have e : (upd (upd (upd (upd (upd (upd (upd (upd (upd σ 4 1) 5 (nI k)) 6 (((1 : Int32) <<< (σ 3 &&& 31)) - 1)) 10 28) 11 0) 12 0) 7 (-1)) 8 (-1)) 9 0) 6 = ((1 : Int32) <<< (σ 3 &&& 31)) - 1 := by simp [upd]
      rw [e, s3, b_low (by omega) i hi]
      by_cases l : i < g 3
      · simp [layG, layW, va_up, l]
      · simp [layG, va_up, l]
    · intro s hs i hi
      have hs : s < g 1 := by simpa [layG, va_up] using hs
      rw [b1 11 (by decide), a2 s (by omega), b_0]
      by_cases l : i < g 3
      · have : ¬ (10 : Nat) = s := by omega
        simp [layG, layW, va_up, l, this]
      · simp [layG, va_up, l]
    · intro i a b
      simp [layG, va_up] at a b
      omega
    · intro t ht; simp [layG, va_up] at ht
    · intro p hp i hi
      rw [b1 2 (by decide), a1 2 (by decide)]
      simpa [layG, va_up] using kb p hp i hi
  · intro j hj
    rw [pk_un (by omega), pk_un (by omega), pk_un (by omega), pk_un (by omega), pk_un (by omega), pk_un (by omega), pk_un (by omega), pk_un (by omega), pk_un (by omega)]
  · intro c hc; rw [b1 c (by omega)]; exact a1 c (by omega)
/-- a bone goes from the stock to a seat -/
theorem RT_give (h : RT g w L σ α) (h1 : 2 ≤ g 1 ∧ g 1 ≤ 4) (h3 : g 3 ≤ 28) (h7 : 1 ≤ g 7) {s b : Nat} (hs : s < g 1) (hb : b < g 3) (h10 : w 21 b = 10) : RT g (tw w 21 b s) L (upd σ 6 (σ 6 &&& (((1 : Int32) <<< (nI b &&& 31)) ^^^ (-1)))) (va_up (va_up α 11 (upd (α 11) s (α 11 s ||| ((1 : Int32) <<< (nI b &&& 31))))) 5 (upd (α 5) (side (g 1) s) (α 5 (side (g 1) s) + nI (wt b)))) := by
  obtain ⟨⟨l0, l1, lW, kW⟩, ⟨s2, s3, s4, s5, s7, s8, s9, s10, s11, s12⟩, k6, kh, kr, kt, kb⟩ := id h
  have pl : ∀ i, tw w 21 b s 21 i = if i = b then s else w 21 i := fun i => by simp [tw, va_up]
  refine ⟨⟨l0, l1, lW, fun _ u hu => ?_⟩, by simp [upd]; exact ⟨s2, s3, s4, s5, s7, s8, s9, s10, s11, s12⟩, ?_, ?_, ?_, ?_, ?_⟩
  · have om := own_move (G := g) rfl rfl hb pl u
    have hk := kW h7 u hu
    rw [h10, if_neg (c := 10 < g 1 ∧ side (g 1) 10 = u) (fun z => by omega)] at om
    simp only [va_up, if_true]
    by_cases q : u = side (g 1) s
    · subst q
      rw [if_pos ⟨hs, rfl⟩] at om
      rw [pk_us, hk, nI_add]
      congr 1
      omega
    · rw [if_neg (c := s < g 1 ∧ side (g 1) s = u) (fun z => q z.2.symm)] at om
      rw [pk_un q, hk]
      congr 1
      omega
  · intro i hi
    rw [pk_us, b_off (by omega) hi, k6 i hi, pl]
    by_cases z : i = b
    · have : ¬ s = 10 := by omega
      simp [z, this]
    · simp [z]
  · intro u hu i hi
    rw [pl]
    simp only [va_up, show ((11 : Nat) = 5) = False by simp, if_true, if_false]
    by_cases q : u = s
    · rw [q, pk_us, b_put (by omega) hi, kh s hs i hi]
      by_cases z : i = b
      · simp [z, hb, h7]
      · simp [z]
    · rw [pk_un q, kh u hu i hi]
      by_cases z : i = b
      · have a1 : ¬ s = u := fun r => q r.symm
        have a2 : ¬ (10 : Nat) = u := by omega
        simp [z, h10, a1, a2]
      · simp [z]
  · intro i a c; simpa [va_up, tw] using kr i a c
  · intro t ht; simpa [va_up, tw] using kt t ht
  · intro p hp i hi; simpa [va_up] using kb p hp i hi
theorem x_take (h : RT g w L σ α) (h1 : 2 ≤ g 1 ∧ g 1 ≤ 4) (h3 : g 3 ≤ 28) (h7 : 1 ≤ g 7) {s b : Nat} (hs : s < g 1) (hb : b < g 3) (h10 : w 21 b = 10) : Ev sc (d + 3) 23 [.ref 1, .int (nI s), .int (nI b)] (mem L σ α τ β γ) (none, mem L (upd σ 6 (σ 6 &&& (((1 : Int32) <<< (nI b &&& 31)) ^^^ (-1)))) (va_up (va_up α 11 (upd (α 11) s (α 11 s ||| ((1 : Int32) <<< (nI b &&& 31))))) 5 (upd (α 5) (side (g 1) s) (α 5 (side (g 1) s) + nI (wt b)))) τ β γ) := by
  refine e_start rfl rfl rfl (q_23_0 (cli (x_isIn _ _) (q_23_8 ?_)))
  rw [inB_nI (by omega), h.2.2.1 b (by omega), if_neg (by simp [bI, hb, h7, h10]; omega)]
  exact clv (y_pickUp h1 h3 h.1.1 h.1.2.2.1 (by rw [pk_un (by decide)]; exact h.2.1.1) (by rw [pk_un (by decide)]; exact h.2.1.2.1) hs hb) (q_23_31 rfl)
theorem x_mix (h : RT g w L σ α) (hB : Bs g w) (x : Int64) : ∃ α', Ev sc (d + 1) 25 [.ref 1, .long x] (mem L σ α τ β γ) (none, mem L σ α' τ β γ) ∧ (∀ c, c ≠ 12 → α' c = α c) ∧ ∀ i, i < g 3 → α' 12 i = nI (mixF (g 3 - 1) x (fun i => i) i) := by
  obtain ⟨⟨h1, -, h3, -, h9⟩, -⟩ := id hB
  have l1 := h.1.2.1
  have n1 : (1 : Int32) = nI 1 := rfl
  have swap : ∀ i, i < g 3 → ∀ (y : Int64) (o : Nat → Nat), (∀ k, k < g 3 → o k < g 3) → ∀ α1 : Nat → Nat → Int32, (∀ c, c ≠ 12 → α1 c = α c) → (∀ k, k < g 3 → α1 12 k = nI (o k)) → ∃ α', EvL sc d me_25 35 [some (.ref 1), none, none, some (.long y), none, some (.int (nI i)), none, none] [] (mem L σ α1 τ β γ) 0 0 (none, mem L σ α' τ β γ) ∧ (∀ c, c ≠ 12 → α' c = α c) ∧ ∀ k, k < g 3 → α' 12 k = nI (mixF i y o k) := by
    intro i
    induction i with
    | zero =>
      intro hi y o ho α1 c1 c2
      refine ⟨α1, q_25_35 ?_, c1, fun k hk => by rw [c2 k hk]; rfl⟩
      rw [n1, if_pos (nI_lt (by omega) (by omega))]
    | succ i ih =>
      intro hi y o ho α1 c1 c2
      have hj : hn (lcg y) % (i + 2) < i + 2 := Nat.mod_lt _ (by omega)
      obtain ⟨α', hE, hr⟩ := ih (by omega) (lcg y) (swp o (i + 1) (hn (lcg y) % (i + 2))) (fun k hk => by
        unfold swp va_up
        split
        · exact ho _ (by omega)
        · split
          · exact ho _ (by omega)
          · exact ho k hk) (va_up α1 12 (upd (upd (α1 12) (i + 1) (α1 12 (hn (lcg y) % (i + 2)))) (hn (lcg y) % (i + 2)) (α1 12 (i + 1)))) (fun c hc => by simp [va_up, hc, c1 c hc]) (fun k hk => by
        unfold swp
        by_cases e1 : k = hn (lcg y) % (i + 2)
        · simp [va_up, upd, e1, c2 (i + 1) hi]
        · by_cases e2 : k = i + 1
          · have e3 : ¬ i + 1 = hn (lcg y) % (i + 2) := fun z => e1 (e2.trans z)
            simp [va_up, upd, e2, e3, c2 (hn (lcg y) % (i + 2)) (by omega)]
          · simp [va_up, upd, e1, e2, c2 k hk])
      refine ⟨α', q_25_35 ?_, hr⟩
      rw [if_neg (show ¬ nI (i + 1) < 1 from nI_nlt (b := 1) (by omega) (by omega))]
      refine q_25_51 ?_
      rw [if_neg (hn_nz (by omega)), hn_ok _ (by omega)]
      refine q_25_64 ?_
      rw [show y * 6364136223846793005 + 1442695040888963407 = lcg y from rfl, show i + 1 + 1 = i + 2 from rfl]
      rw [l1, if_neg (nI_pos (by omega)), nI_lit, if_pos (nI_lt (by omega) (by omega)), cl_nI (by omega), cl_nI (by omega), if_neg (in_cl (by omega) (by omega)), if_neg (in_cl (by omega) (by omega)), if_neg (in_cl (by omega) (by omega)), if_neg (in_cl (by omega) (by omega)), pk_m1]
      exact hE
  have first : ∀ m j, j + m = g 3 → ∀ α1 : Nat → Nat → Int32, (∀ c, c ≠ 12 → α1 c = α c) → (∀ k, k < j → α1 12 k = nI k) → ∃ α', EvL sc d me_25 2 [some (.ref 1), some (.long x), none, some (.int (nI j)), none, none, none, none] [] (mem L σ α1 τ β γ) 0 0 (none, mem L σ α' τ β γ) ∧ (∀ c, c ≠ 12 → α' c = α c) ∧ ∀ k, k < g 3 → α' 12 k = nI (mixF (g 3 - 1) x (fun i => i) k) := by
    intro m
    induction m with
    | zero =>
      intro j hj α1 c1 c2
      obtain ⟨α', hE, hr⟩ := swap (g 3 - 1) (by omega) x (fun i => i) (fun k hk => hk) α1 c1 (fun k hk => c2 k (by omega))
      refine ⟨α', q_25_2 ?_, hr⟩
      rw [l1, nI_lit, if_neg (nI_nlt (by omega) (by omega)), show nI (g 3) - 1 = nI (g 3 - 1) from pk_sub (b := 1) (by omega)]
      exact hE
    | succ m ih =>
      intro j hj α1 c1 c2
      obtain ⟨α', hE, hr⟩ := ih (j + 1) (by omega) (va_up α1 12 (upd (α1 12) j (nI j))) (fun c hc => by simp [va_up, hc, c1 c hc]) (fun k hk => by
        by_cases e : k = j
        · simp [va_up, upd, e]
        · simp [va_up, upd, e]; exact c2 k (by omega))
      refine ⟨α', q_25_2 ?_, hr⟩
      rw [l1, nI_lit, if_pos (nI_lt (by omega) (by omega)), if_neg (in_nI (by omega) (by omega)), cl_nI (by omega), nI_1]
      exact hE
  obtain ⟨α', hE, hr⟩ := first (g 3) 0 (by omega) α (fun _ _ => rfl) (fun k hk => by omega)
  exact ⟨α', e_start rfl rfl rfl (q_25_0 hE), hr⟩
theorem x_isDealt (h : RT g w L σ α) (hB : Bs g w) (h7 : 1 ≤ g 7) : Ev sc (d + 4) 26 [.ref 1] (mem L σ α τ β γ) (some (.int (bI (decide (cn (fun i => decide (¬ many g w i = g 8)) (g 1) = 0)))), mem L σ α τ β γ) := by
  obtain ⟨⟨h1, -, h3, -, h9⟩, -⟩ := id hB
  have h8 := (Bs_Bd hB).2.2.2.2.1
  have loop : ∀ m j, j + m = g 1 → cn (fun i => decide (¬ many g w i = g 8)) j = 0 → EvL sc (d + 3) me_26 2 [some (.ref 1), some (.int (nI j))] [] (mem L σ α τ β γ) 0 0 (some (.int (bI (decide (cn (fun i => decide (¬ many g w i = g 8)) (g 1) = 0)))), mem L σ α τ β γ) := by
    intro m
    induction m with
    | zero =>
      intro j hj hc
      have ej : j = g 1 := by omega
      subst ej
      refine q_26_2 ?_
      rw [h.1.1, nI_lit, if_neg (nI_nlt (by omega) (by omega)), hc]
      rfl
    | succ m ih =>
      intro j hj hc
      have hm := many_le g w j
      have e8 : nI (many g w j) = nI (g 8) ↔ many g w j = g 8 := nI_eq (by omega) (by omega)
      refine q_26_2 ?_
      rw [h.1.1, nI_lit, if_pos (nI_lt (by omega) (by omega))]
      refine cli (x_heldBy h hB h7 (by omega)) (q_26_16 ?_)
      rw [h.2.1.2.2.2.1]
      by_cases a : many g w j = g 8
      · rw [if_pos (e8.mpr a), nI_1]
        exact ih (j + 1) (by omega) (by simp only [cn, hc]; rw [if_neg (by simp [a])])
      · rw [if_neg (fun z => a (e8.mp z)), decide_eq_false (fun z => by
          have := cn_zero.mp z j (by omega)
          simp [a] at this)]; rfl
  exact e_start rfl rfl rfl (q_26_0 (loop (g 1) 0 (by omega) rfl))
/-- the places in the order of the bones that are dealt -/
def dW (g : Nat → Nat) (w : Nat → Nat → Nat) (o : Nat → Nat) : Nat → Nat → Nat → Nat
  | 0 => layW g w
  | n + 1 => tw (dW g w o n) 21 (o n) (n / g 8)
theorem dW_at {o o' : Nat → Nat} (ho : permI (g 3) o o') : ∀ n, n ≤ g 3 → ∀ b, b < g 3 → dW g w o n 21 b = if o' b < n then o' b / g 8 else 10
  | 0, _, b, hb => by simp [dW, layW, va_up, hb]
  | n + 1, hn, b, hb => by
    simp only [dW]
    by_cases e : b = o n
    · rw [e, tw_s]
      have : o' (o n) = n := (ho.1 n (by omega)).2
      rw [this, if_pos (c := n < n + 1) (by omega)]
    · rw [tw_i _ _ _ e, dW_at ho n (by omega) b hb]
      have : ¬ o' b = n := fun z => e (by rw [← z]; exact ((ho.2 b hb).2).symm)
      by_cases l : o' b < n
      · rw [if_pos l, if_pos (c := o' b < n + 1) (by omega)]
      · rw [if_neg l, if_neg (c := o' b < n + 1) (by omega)]
theorem RT_w21 {W : Nat → Nat → Nat} (h : RT g w L σ α) (h21 : ∀ i, i < g 3 → W 21 i = w 21 i) (hW : ∀ c, 23 ≤ c → W c = w c) : RT g W L σ α := by
  obtain ⟨⟨l0, l1, lW, kW⟩, s, k6, kh, kr, kt, kb⟩ := h
  refine ⟨⟨l0, l1, lW, fun q u hu => by rw [own_same (g := g) rfl rfl h21]; exact kW q u hu⟩, s, fun i hi => ?_, fun u hu i hi => ?_, ?_, ?_, kb⟩
  · rw [k6 i hi]
    by_cases q : i < g 3
    · rw [h21 i q]
    · simp [q]
  · rw [kh u hu i hi]
    by_cases q : i < g 3
    · rw [h21 i q]
    · simp [q]
  · rw [hW 23 (by omega), hW 24 (by omega)]; exact kr
  · rw [hW 25 (by omega), hW 26 (by omega), hW 27 (by omega), hW 28 (by omega), hW 29 (by omega), hW 30 (by omega)]; exact kt
theorem x_dealOut (h : RT g w L σ α) (hI : IN g w) (h7 : g 7 = 1) (x : Int64) : ∃ σ' α', Ev sc (d + 4) 24 [.ref 1, .long x] (mem L σ α τ β γ) (none, mem L σ' α' τ β γ) ∧ RT g (shW g w x) L σ' α' ∧ (∀ j, j < 4 ∨ 13 ≤ j → σ' j = σ j) ∧ (∀ c, c = 2 ∨ 13 ≤ c → α' c = α c) := by
  obtain ⟨hB, h2, hS, -, -⟩ := id hI
  have e22 := h2 (by omega)
  obtain ⟨z23, z24, -, -⟩ := hS (by omega)
  obtain ⟨⟨h1, -, h3, -, h9⟩, -, hD, -, ⟨e14, e15, -⟩, -⟩ := id hB
  obtain ⟨d1, d2, d3, d4⟩ := hD (by omega)
  rw [e22] at e14 e15
  simp only [cn, Nat.add_zero] at e14 e15
  have g8 := (Bs_Bd hB).2.2.2.2.1
  have eg : layG g (g 8) = g := by
    funext k
    unfold layG
    simp only [va_up]
    by_cases k24 : k = 24
    · simp [k24, z24]
    · by_cases k23 : k = 23
      · simp [k23, z23]
      · by_cases k22 : k = 22
        · simp [k22, e22]
        · by_cases k15 : k = 15
          · simp [k15, e15]
          · by_cases k14 : k = 14
            · simp [k14, e14]
            · by_cases k8 : k = 8
              · simp [k8]
              · by_cases k7 : k = 7
                · simp [k7, h7]
                · simp [k24, k23, k22, k15, k14, k8, k7]
  obtain ⟨α1, hE1, a1, a2⟩ := x_mix (sc := sc) (d := d + 2) (τ := τ) (β := β) (γ := γ) h hB x
  obtain ⟨o', ho, hv⟩ := shW_at (g := g) (w := w) (x := x) h3.1
  have hR1 : RT g w L σ α1 := by
    obtain ⟨⟨l0, l1, lW, kW⟩, s, k6, kh, kr, kt, kb⟩ := h
    refine ⟨⟨l0, l1, lW, by rw [a1 5 (by decide)]; exact kW⟩, s, k6, ?_, ?_, ?_, ?_⟩
    · rw [a1 11 (by decide)]; exact kh
    · rw [a1 4 (by decide)]; exact kr
    · rw [a1 6 (by decide), a1 7 (by decide), a1 8 (by decide), a1 9 (by decide), a1 10 (by decide)]; exact kt
    · rw [a1 2 (by decide)]; exact kb
  obtain ⟨σ2, α2, hE2, hR2, f1, f2⟩ := x_layOut (sc := sc) (d := d + 1) (τ := τ) (β := β) (γ := γ) hR1 hB (k := g 8)
  rw [eg] at hR2
  generalize hoe : mixF (g 3 - 1) x (fun i => i) = o at *
  have a12 : ∀ i, i < g 3 → α2 12 i = nI (o i) := fun i hi => by rw [f2 12 (by omega)]; exact a2 i hi
  have hend : RT g (dW g w o (g 8 * g 1)) L = RT g (dW g w o (g 8 * g 1)) L := rfl
  -- the last: all are dealt
  have fin : ∀ σ3 α3, RT g (dW g w o (g 8 * g 1)) L σ3 α3 → RT g (shW g w x) L σ3 α3 := by
    intro σ3 α3 hR
    refine RT_w21 hR (fun i hi => ?_) (fun c hc => ?_)
    · rw [hv i hi, dW_at ho (g 8 * g 1) d2 i hi]
    · have e1 : ∀ n, dW g w o n c = w c := by
        intro n
        induction n with
        | zero => have : ¬ c = 21 := by omega
                  simp [dW, layW, va_up, this]
        | succ n ih => simp only [dW]; rw [tw_c _ _ _ (by omega)]; exact ih
      rw [e1]
      have : ¬ c = 21 := by omega
      simp [shW, va_up, this]
  have outer : ∀ m s, s + m = g 1 → ∀ (σ3 : Nat → Int32) (α3 : Nat → Nat → Int32), RT g (dW g w o (g 8 * s)) L σ3 α3 → (∀ i, i < g 3 → α3 12 i = nI (o i)) → (∀ j, j < 4 ∨ 13 ≤ j → σ3 j = σ j) → (∀ c, c = 2 ∨ 13 ≤ c → α3 c = α c) → ∃ σ' α', EvL sc (d + 3) me_24 15 [some (.ref 1), none, none, some (.int (nI s)), none] [] (mem L σ3 α3 τ β γ) 0 0 (none, mem L σ' α' τ β γ) ∧ RT g (shW g w x) L σ' α' ∧ (∀ j, j < 4 ∨ 13 ≤ j → σ' j = σ j) ∧ (∀ c, c = 2 ∨ 13 ≤ c → α' c = α c) := by
    intro m
    induction m with
    | zero =>
      intro s hs σ3 α3 hR _ q1 q2
      have es : s = g 1 := by omega
      subst es
      refine ⟨σ3, α3, q_24_15 ?_, fin σ3 α3 hR, q1, q2⟩
      rw [h.1.1, nI_lit, if_neg (nI_nlt (by omega) (by omega))]
    | succ m ih =>
      intro s hs σ3 α3 hR h12 q1 q2
      have hsb : (s + 1) * g 8 ≤ g 1 * g 8 := Nat.mul_le_mul_right _ (by omega)
      have ec1 : g 1 * g 8 = g 8 * g 1 := Nat.mul_comm _ _
      have ec2 : (s + 1) * g 8 = s * g 8 + g 8 := by rw [Nat.add_mul, Nat.one_mul]
      have inner : ∀ q i, i + q = (s + 1) * g 8 → s * g 8 ≤ i → ∀ (σ4 : Nat → Int32) (α4 : Nat → Nat → Int32), RT g (dW g w o i) L σ4 α4 → (∀ i, i < g 3 → α4 12 i = nI (o i)) → (∀ j, j < 4 ∨ 13 ≤ j → σ4 j = σ j) → (∀ c, c = 2 ∨ 13 ≤ c → α4 c = α c) → ∃ σ' α', EvL sc (d + 3) me_24 32 [some (.ref 1), none, none, some (.int (nI s)), some (.int (nI i))] [] (mem L σ4 α4 τ β γ) 0 0 (none, mem L σ' α' τ β γ) ∧ RT g (shW g w x) L σ' α' ∧ (∀ j, j < 4 ∨ 13 ≤ j → σ' j = σ j) ∧ (∀ c, c = 2 ∨ 13 ≤ c → α' c = α c) := by
        intro q
        induction q with
        | zero =>
          intro i hi hi2 σ4 α4 hR4 h412 r1 r2
          have ei : i = g 8 * (s + 1) := by rw [Nat.mul_comm]; omega
          obtain ⟨σ', α', hE, hr⟩ := ih (s + 1) (by omega) σ4 α4 (by rw [← ei]; exact hR4) h412 r1 r2
          refine ⟨σ', α', q_24_32 ?_, hr⟩
          have s5 : σ4 5 = nI (g 8) := hR4.2.1.2.2.2.1
          rw [s5, nI_1, pk_mul, if_neg (nI_nlt (by omega) (by omega))]
          exact hE
        | succ q ihq =>
          intro i hi hi2 σ4 α4 hR4 h412 r1 r2
          have hdv : i / g 8 = s := by
            apply Nat.div_eq_of_lt_le
            · exact hi2
            · omega
          have hoi := ho.1 i (by omega)
          have hpl : dW g w o i 21 (o i) = 10 := by
            rw [dW_at ho i (by omega) (o i) hoi.1, hoi.2, if_neg (by omega)]
          have hG := RT_give hR4 h1 h3.2 (by omega) (s := s) (b := o i) (by omega) hoi.1 hpl
          have hT := x_take (sc := sc) (d := d) (τ := τ) (β := β) (γ := γ) hR4 h1 h3.2 (by omega) (s := s) (b := o i) (by omega) hoi.1 hpl
          obtain ⟨σ', α', hE, hr⟩ := ihq (i + 1) (by omega) (by omega) _ _ (by simp only [dW]; rw [hdv]; exact hG) (fun k hk => by simpa [va_up] using h412 k hk) (fun j hj => by rw [pk_un (by omega)]; exact r1 j hj) (fun c hc => by simp only [va_up]; rw [if_neg (by omega), if_neg (by omega)]; exact r2 c hc)
          refine ⟨σ', α', q_24_32 ?_, hr⟩
          have s5 : σ4 5 = nI (g 8) := hR4.2.1.2.2.2.1
          rw [s5, nI_1, pk_mul, if_pos (nI_lt (by omega) (by omega)), h.1.2.1, nI_lit, if_pos (nI_lt (by omega) (by omega)), if_neg (in_nI (by omega) (by omega)), cl_nI (by omega), h412 i (by omega)]
          refine clv hT (q_24_67 ?_)
          rw [nI_1]
          exact hE
      obtain ⟨σ', α', hE, hr⟩ := inner (g 8) (s * g 8) (by omega) (Nat.le_refl _) σ3 α3 (by rw [Nat.mul_comm]; exact hR) h12 q1 q2
      refine ⟨σ', α', q_24_15 ?_, hr⟩
      have s5 : σ3 5 = nI (g 8) := hR.2.1.2.2.2.1
      rw [h.1.1, nI_lit, if_pos (nI_lt (by omega) (by omega)), s5, pk_mul]
      exact hE
  obtain ⟨σ', α', hE, hr⟩ := outer (g 1) 0 (by omega) σ2 α2 (by simpa [dW] using hR2) a12 f1 (fun c hc => by rw [f2 c (by omega), a1 c (by omega)])
  refine ⟨σ', α', e_start rfl rfl rfl (q_24_0 (clv hE1 (q_24_5 ?_))), hr⟩
  rw [h.2.1.2.2.2.1]
  exact clv hE2 (q_24_13 hE)
end XH
