/-! the class counts deals: who may have what -/
theorem gw_irr {u : Nat → Bool} {m m' : Nat → Nat → Bool} : ∀ B x y z, (∀ i, i < B → u i = true → m i 4 = m' i 4) → (x = 0 ∨ ∀ i, i < B → u i = true → m i 0 = m' i 0) → (y = 0 ∨ ∀ i, i < B → u i = true → m i 1 = m' i 1) → (z = 0 ∨ ∀ i, i < B → u i = true → m i 2 = m' i 2) → gw u m B x y z = gw u m' B x y z
  | 0, x, y, z, _, _, _, _ => rfl
  | B + 1, x, y, z, h4, h0, h1, h2 => by
    have c : ∀ {n k : Nat}, (n = 0 ∨ ∀ i, i < B + 1 → u i = true → m i k = m' i k) → (n = 0 ∨ ∀ i, i < B → u i = true → m i k = m' i k) := fun h => h.imp id (fun h i hi => h i (by omega))
    have c' : ∀ {n k : Nat}, (n = 0 ∨ ∀ i, i < B + 1 → u i = true → m i k = m' i k) → (n - 1 = 0 ∨ ∀ i, i < B → u i = true → m i k = m' i k) := fun h => h.imp (fun h => by omega) (fun h i hi => h i (by omega))
    have ih := fun x y z a b c => gw_irr B x y z (fun i hi => h4 i (by omega)) a b c
    simp only [gw]
    cases hu : u B with
    | false => simp only [Bool.false_eq_true, if_false]; exact ih x y z (c h0) (c h1) (c h2)
    | true =>
      simp only [if_true]
      rw [ih x y z (c h0) (c h1) (c h2), ih (x - 1) y z (c' h0) (c h1) (c h2), ih x (y - 1) z (c h0) (c' h1) (c h2), ih x y (z - 1) (c h0) (c h1) (c' h2), h4 B (by omega) hu]
      have k0 : (if m B 0 = true ∧ 0 < x then gw u m' B (x - 1) y z else 0) = (if m' B 0 = true ∧ 0 < x then gw u m' B (x - 1) y z else 0) := by
        rcases h0 with z | z
        · simp [z]
        · rw [z B (by omega) hu]
      have k1 : (if m B 1 = true ∧ 0 < y then gw u m' B x (y - 1) z else 0) = (if m' B 1 = true ∧ 0 < y then gw u m' B x (y - 1) z else 0) := by
        rcases h1 with z | z
        · simp [z]
        · rw [z B (by omega) hu]
      have k2 : (if m B 2 = true ∧ 0 < z then gw u m' B x y (z - 1) else 0) = (if m' B 2 = true ∧ 0 < z then gw u m' B x y (z - 1) else 0) := by
        rcases h2 with z | z
        · simp [z]
        · rw [z B (by omega) hu]
      rw [k0, k1, k2]
def dn (r : Nat → Nat) (k j : Nat) : Nat := if j = k then r j - 1 else r j
theorem gw_at {u u' : Nat → Bool} {m m' : Nat → Nat → Bool} {b B : Nat} (hub : u b = true) (hu : ∀ i, i ≠ b → u' i = u i) (hb : u' b = false) (hm : ∀ i, i ≠ b → ∀ k, m' i k = m i k) {k : Nat} (hk : k < 3) (ho : ∀ j, j < 3 → j ≠ k → m' b j = false) (h4 : m' b 4 = false) (hB : b < B) (r : Nat → Nat) : gw u m' B (r 0) (r 1) (r 2) = if m' b k = true ∧ 0 < r k then gw u' m B (dn r k 0) (dn r k 1) (dn r k 2) else 0 := by
  match k, hk with
  | 0, _ => exact gw_at0 hub hu hb hm (ho 1 (by decide) (by decide)) (ho 2 (by decide) (by decide)) h4 B hB _ _ _
  | 1, _ => exact gw_at1 hub hu hb hm (ho 0 (by decide) (by decide)) (ho 2 (by decide) (by decide)) h4 B hB _ _ _
  | 2, _ => exact gw_at2 hub hu hb hm (ho 0 (by decide) (by decide)) (ho 1 (by decide) (by decide)) h4 B hB _ _ _
theorem ot_inj {v a b : Nat} (h : ot v a = ot v b) : a = b := by unfold ot at h; split at h <;> split at h <;> omega
theorem ot_ne (v k : Nat) : ¬ ot v k = v := by unfold ot; split <;> omega
theorem agr_symm {g : Nat → Nat} {w w' : Nat → Nat → Nat} (h : agr g w w') : agr g w' w := by
  obtain ⟨a1, a2, a3, a4⟩ := h
  refine ⟨fun i hi => (a1 i hi).symm, fun i hi => (a2 i hi).symm, fun i p q => ⟨(a3 i p q).1.symm, (a3 i p q).2.symm⟩, fun t ht => ?_⟩
  obtain ⟨b1, b2, b3, b4, b5, b6⟩ := a4 t ht
  exact ⟨b1.symm, b2.symm, b3.symm, b4.symm, b5.symm, b6.symm⟩
section TB
variable {sc : Nat × (Nat → Int32)} {d : Nat} {L : Nat → Nat} {σ : Nat → Int32} {α : Nat → Nat → Int32} {τ : Nat → Int32} {β : Nat → Nat → Int32} {γ : Nat → Nat → Int64} {g : Nat → Nat} {w : Nat → Nat → Nat}
theorem x_fill16 : ∃ α', Ev sc (d + 1) 146 [.ref 17, .int 0] (mem L σ α τ β γ) (none, mem L σ α' τ β γ) ∧ (∀ c, c ≠ 16 → α' c = α c) ∧ ∀ s, s < 3 → α' 16 s = 0 := by
  have n3 : Int32.ofNat 3 = nI 3 := rfl
  have loop : ∀ m j, j + m = 3 → ∀ α1 : Nat → Nat → Int32, (∀ c, c ≠ 16 → α1 c = α c) → (∀ s, s < j → α1 16 s = 0) → ∃ α', EvL sc d me_146 5 [some (.ref 17), some (.int 0), some (.int (nI j)), some (.int (nI 3))] [] (mem L σ α1 τ β γ) 0 0 (none, mem L σ α' τ β γ) ∧ (∀ c, c ≠ 16 → α' c = α c) ∧ ∀ s, s < 3 → α' 16 s = 0 := by
    intro m
    induction m with
    | zero =>
      intro j hj α1 h1 h2
      refine ⟨α1, q_146a16_5 ?_, h1, fun s hs => h2 s (by omega)⟩
      rw [if_neg (nI_nlt (by omega) (by omega))]
    | succ m ih =>
      intro j hj α1 h1 h2
      obtain ⟨α', hE, hr⟩ := ih (j + 1) (by omega) (va_up α1 16 (upd (α1 16) j 0)) (fun c hc => by simp [va_up, hc, h1 c hc]) (fun s hs => by
        by_cases e : s = j
        · simp [va_up, upd, e]
        · simp [va_up, upd, e]; exact h2 s (by omega))
      refine ⟨α', q_146a16_5 ?_, hr⟩
      rw [if_pos (nI_lt (by omega) (by omega)), if_neg (in_nI (by omega) (by omega)), cl_nI (by omega), nI_1]
      exact hE
  obtain ⟨α', hE, hr⟩ := loop 3 0 (by omega) α (fun _ _ => rfl) (fun s hs => by omega)
  exact ⟨α', e_start rfl rfl rfl (q_146a16_0 hE), hr⟩
theorem x_fill17 : ∃ α', Ev sc (d + 1) 146 [.ref 18, .int 0] (mem L σ α τ β γ) (none, mem L σ α' τ β γ) ∧ (∀ c, c ≠ 17 → α' c = α c) ∧ ∀ s, s < 3 → α' 17 s = 0 := by
  have n3 : Int32.ofNat 3 = nI 3 := rfl
  have loop : ∀ m j, j + m = 3 → ∀ α1 : Nat → Nat → Int32, (∀ c, c ≠ 17 → α1 c = α c) → (∀ s, s < j → α1 17 s = 0) → ∃ α', EvL sc d me_146 5 [some (.ref 18), some (.int 0), some (.int (nI j)), some (.int (nI 3))] [] (mem L σ α1 τ β γ) 0 0 (none, mem L σ α' τ β γ) ∧ (∀ c, c ≠ 17 → α' c = α c) ∧ ∀ s, s < 3 → α' 17 s = 0 := by
    intro m
    induction m with
    | zero =>
      intro j hj α1 h1 h2
      refine ⟨α1, q_146a17_5 ?_, h1, fun s hs => h2 s (by omega)⟩
      rw [if_neg (nI_nlt (by omega) (by omega))]
    | succ m ih =>
      intro j hj α1 h1 h2
      obtain ⟨α', hE, hr⟩ := ih (j + 1) (by omega) (va_up α1 17 (upd (α1 17) j 0)) (fun c hc => by simp [va_up, hc, h1 c hc]) (fun s hs => by
        by_cases e : s = j
        · simp [va_up, upd, e]
        · simp [va_up, upd, e]; exact h2 s (by omega))
      refine ⟨α', q_146a17_5 ?_, hr⟩
      rw [if_pos (nI_lt (by omega) (by omega)), if_neg (in_nI (by omega) (by omega)), cl_nI (by omega), nI_1]
      exact hE
  obtain ⟨α', hE, hr⟩ := loop 3 0 (by omega) α (fun _ _ => rfl) (fun s hs => by omega)
  exact ⟨α', e_start rfl rfl rfl (q_146a17_0 hE), hr⟩
theorem x_unseenBy (h : RT g w L σ α) (hB : Bs g w) (h7 : 1 ≤ g 7) {v : Nat} (hv : v < g 1) : ∃ X, Ev sc (d + 3) 44 [.ref 15, .int (nI v)] (mem L σ α τ β γ) (some (.int X), mem L σ α τ β γ) ∧ ∀ i, i < 32 → bt X i = (decide (i < g 3) && un w v i) := by
  obtain ⟨⟨h1, -, h3, -⟩, -, hD, -⟩ := id hB
  have hpl := (hD h7).2.2.1
  have loop : ∀ m j, j + m = g 1 → ∀ X : Int32, (∀ i, i < 32 → bt X i = (decide (i < g 3) && (decide (w 21 i = 10) || (decide (w 21 i < j) && decide (¬ w 21 i = v))))) → ∃ X', EvL sc (d + 2) me_44 10 [some (.ref 15), some (.int (nI v)), some (.int X), some (.int (nI j))] [] (mem L σ α τ β γ) 0 0 (some (.int X'), mem L σ α τ β γ) ∧ ∀ i, i < 32 → bt X' i = (decide (i < g 3) && un w v i) := by
    intro m
    induction m with
    | zero =>
      intro j hj X hX
      refine ⟨X, q_44_10 ?_, fun i hi => ?_⟩
      · rw [h.2.1.1, if_neg (nI_nlt (by omega) (by omega))]
      · rw [hX i hi]
        by_cases q : i < g 3
        · have := hpl i q
          rw [decide_eq_true q, Bool.true_and, Bool.true_and]
          unfold un
          rw [Bool.eq_iff_iff]
          simp only [Bool.or_eq_true, Bool.and_eq_true, decide_eq_true_eq]
          omega
        · rw [decide_eq_false q]; rfl
    | succ m ih =>
      intro j hj X hX
      have e : nI j = nI v ↔ j = v := nI_eq (by omega) (by omega)
      by_cases q : j = v
      · obtain ⟨X', hE, hX'⟩ := ih (j + 1) (by omega) X (fun i hi => by
          rw [hX i hi]
          refine congrArg (fun z => decide (i < g 3) && z) ?_
          rw [Bool.eq_iff_iff]
          simp only [Bool.or_eq_true, Bool.and_eq_true, decide_eq_true_eq]
          omega)
        refine ⟨X', q_44_10 ?_, hX'⟩
        rw [h.2.1.1, if_pos (nI_lt (by omega) (by omega)), if_pos (e.mpr q), nI_1]
        exact hE
      · obtain ⟨X', hE, hX'⟩ := ih (j + 1) (by omega) (X ||| α 11 j) (fun i hi => by
          rw [b_or, hX i hi, h.2.2.2.1 j (by omega) i hi, decide_eq_true h7, Bool.true_and]
          by_cases q3 : i < g 3
          · rw [decide_eq_true q3, Bool.true_and, Bool.true_and, Bool.true_and, Bool.eq_iff_iff]
            simp only [Bool.or_eq_true, Bool.and_eq_true, decide_eq_true_eq]
            omega
          · rw [decide_eq_false q3]; rfl)
        refine ⟨X', q_44_10 ?_, hX'⟩
        rw [h.2.1.1, if_pos (nI_lt (by omega) (by omega)), if_neg (fun z => q (e.mp z))]
        refine cli (x_hand h hB (by omega)) (q_44_35 ?_)
        rw [nI_1]
        exact hE
  obtain ⟨X', hE, hX'⟩ := loop (g 1) 0 (by omega) (σ 6) (fun i hi => by
    rw [h.2.2.1 i hi, decide_eq_true h7, Bool.true_and]; simp)
  exact ⟨X', e_start rfl rfl rfl (q_44_0 hE), hX'⟩
theorem x_slotOf {v k : Nat} (hv : v < 100) (hk : k < 100) : Ev sc (d + 1) 45 [.ref 15, .int (nI v), .int (nI (ot v k))] (mem L σ α τ β γ) (some (.int (nI k)), mem L σ α τ β γ) := by
  refine e_start rfl rfl rfl (q_45_0 ?_)
  unfold ot
  by_cases q : k < v
  · rw [if_pos q, if_pos (nI_lt q (by omega))]
  · rw [if_neg q, if_neg (nI_nlt (by omega) (by omega)), show nI (k + 1) - 1 = nI k from pk_sub (b := 1) (by omega)]
theorem x_slotOf_v {v : Nat} (hv : v < 100) : ∃ y, Ev sc (d + 1) 45 [.ref 15, .int (nI v), .int (nI v)] (mem L σ α τ β γ) (some (.int y), mem L σ α τ β γ) := by
  refine ⟨nI v - 1, e_start rfl rfl rfl (q_45_0 ?_)⟩
  rw [if_neg (nI_nlt (by omega) (by omega))]
def outX (g : Nat → Nat) (w : Nat → Nat → Nat) (x3 x4 : Int32) (s i : Nat) : Bool := (decide (i < g 3) && shB g w s i) || (decide (nI s = x3) && bt x4 i)
theorem x_adm (h : RT g w L σ α) (hB : Bs g w) (h7 : 1 ≤ g 7) {v : Nat} (hv : v < g 1) (X x3 x4 : Int32) : ∃ α', Ev sc (d + 4) 46 [.ref 15, .int (nI v), .int X, .int x3, .int x4] (mem L σ α τ β γ) (none, mem L σ α' τ β γ) ∧ (∀ c, c ≠ 16 → c ≠ 17 → α' c = α c) ∧ (∀ k, k < 3 → α' 16 k = nI (rm g w v k)) ∧ ∀ k, k < g 1 - 1 → ∀ i, i < 32 → bt (α' 17 k) i = (bt X i && !outX g w x3 x4 (ot v k) i) := by
  have h1 := hB.1.1
  obtain ⟨α1, hE1, a1, a1'⟩ := x_fill16 (sc := sc) (d := d + 2) (L := L) (σ := σ) (α := α) (τ := τ) (β := β) (γ := γ)
  obtain ⟨α2, hE2, a2, a2'⟩ := x_fill17 (sc := sc) (d := d + 2) (L := L) (σ := σ) (α := α1) (τ := τ) (β := β) (γ := γ)
  have loop : ∀ m j, j + m = g 1 → ∀ α3 : Nat → Nat → Int32, (∀ c, c ≠ 16 → c ≠ 17 → α3 c = α c) → (∀ k, k < 3 → α3 16 k = if k < g 1 - 1 ∧ ot v k < j then nI (many g w (ot v k)) else 0) → (∀ k, k < g 1 - 1 → ot v k < j → ∀ i, i < 32 → bt (α3 17 k) i = (bt X i && !outX g w x3 x4 (ot v k) i)) → ∃ α', EvL sc (d + 3) me_46 19 [some (.ref 15), some (.int (nI v)), some (.int X), some (.int x3), some (.int x4), some (.int (nI j)), none, none] [] (mem L σ α3 τ β γ) 0 0 (none, mem L σ α' τ β γ) ∧ (∀ c, c ≠ 16 → c ≠ 17 → α' c = α c) ∧ (∀ k, k < 3 → α' 16 k = nI (rm g w v k)) ∧ ∀ k, k < g 1 - 1 → ∀ i, i < 32 → bt (α' 17 k) i = (bt X i && !outX g w x3 x4 (ot v k) i) := by
    intro m
    induction m with
    | zero =>
      intro j hj α3 b1 b2 b3
      have ot_lt : ∀ k, k < g 1 - 1 → ot v k < g 1 := fun k hk => by unfold ot; split <;> omega
      refine ⟨α3, q_46_19 ?_, b1, fun k hk => ?_, fun k hk => b3 k hk (by have := ot_lt k hk; omega)⟩
      · rw [h.2.1.1, if_neg (nI_nlt (by omega) (by omega))]
      · rw [b2 k hk]
        unfold rm
        by_cases q : k < g 1 - 1
        · rw [if_pos ⟨q, by have := ot_lt k q; omega⟩, if_pos q]
        · rw [if_neg (fun z => q z.1), if_neg q]; rfl
    | succ m ih =>
      intro j hj α3 b1 b2 b3
      have hT3 : RT g w L σ α3 := RT_a h (fun c hc => b1 c (by omega) (by omega))
      have e : nI j = nI v ↔ j = v := nI_eq (by omega) (by omega)
      by_cases q : j = v
      · obtain ⟨α', hE, hr⟩ := ih (j + 1) (by omega) α3 b1 (fun k hk => by
          have := ot_ne v k
          rw [b2 k hk]
          by_cases z : k < g 1 - 1 ∧ ot v k < j
          · rw [if_pos z, if_pos ⟨z.1, by omega⟩]
          · rw [if_neg z, if_neg (fun y => z ⟨y.1, by omega⟩)]) (fun k hk hl => b3 k hk (by have := ot_ne v k; omega))
        obtain ⟨y, hy⟩ := x_slotOf_v (sc := sc) (d := d + 2) (L := L) (σ := σ) (α := α3) (τ := τ) (β := β) (γ := γ) (v := v) (by omega)
        refine ⟨α', q_46_19 ?_, hr⟩
        rw [h.2.1.1, if_pos (nI_lt (by omega) (by omega)), q]
        refine cli hy (q_46_38 ?_)
        rw [if_pos rfl, nI_1]
        rw [q] at hE
        exact hE
      · obtain ⟨k, hk, hjk⟩ : ∃ k, k < g 1 - 1 ∧ j = ot v k := by
          by_cases l : j < v
          · exact ⟨j, by omega, by unfold ot; rw [if_pos l]⟩
          · exact ⟨j - 1, by omega, by unfold ot; rw [if_neg (by omega)]; omega⟩
        obtain ⟨x, hEx, hx⟩ := x_refusedBy (sc := sc) (d := d + 2) (τ := τ) (β := β) (γ := γ) hT3 hB (s := j) (by omega)
        have go : ∀ x7 : Int32, (∀ i, i < 32 → bt x7 i = outX g w x3 x4 j i) → ∃ α', Cli sc (d + 3) 19 [.ref 1, .int (nI j)] (mem L σ α3 τ β γ) (fun y M2 => EvL sc (d + 3) me_46 99 [some (.ref 15), some (.int (nI v)), some (.int X), some (.int x3), some (.int x4), some (.int (nI j)), some (.int (nI k)), some (.int x7)] [.int y, .int (nI k), .ref 17] M2 0 0 (none, mem L σ α' τ β γ)) ∧ (∀ c, c ≠ 16 → c ≠ 17 → α' c = α c) ∧ (∀ k, k < 3 → α' 16 k = nI (rm g w v k)) ∧ ∀ k, k < g 1 - 1 → ∀ i, i < 32 → bt (α' 17 k) i = (bt X i && !outX g w x3 x4 (ot v k) i) := by
          intro x7 hx7
          obtain ⟨α', hE, hr⟩ := ih (j + 1) (by omega) (va_up (va_up α3 16 (upd (α3 16) k (nI (many g w j)))) 17 (upd (α3 17) k (X &&& (x7 ^^^ (-1))))) (fun c c1 c2 => by simp only [va_up, if_neg c1, if_neg c2]; exact b1 c c1 c2) (fun k' hk' => by
            simp only [va_up, upd, if_true, show ¬ (16 : Nat) = 17 by decide, if_false]
            by_cases z : k' = k
            · rw [if_pos z, z, if_pos ⟨hk, by omega⟩, ← hjk]
            · have : ¬ ot v k' = j := fun y => z (ot_inj (y.trans hjk))
              rw [if_neg z, b2 k' hk']
              by_cases l : k' < g 1 - 1 ∧ ot v k' < j
              · rw [if_pos l, if_pos ⟨l.1, by omega⟩]
              · rw [if_neg l, if_neg (fun y => l ⟨y.1, by omega⟩)]) (fun k' hk' hl i hi => by
            simp only [va_up, upd, if_true]
            by_cases z : k' = k
            · rw [if_pos z, z, b_and, b_not hi, hx7 i hi, ← hjk]
            · have : ¬ ot v k' = j := fun y => z (ot_inj (y.trans hjk))
              rw [if_neg z]; exact b3 k' hk' (by omega) i hi)
          refine ⟨α', cli (x_heldBy hT3 hB h7 (by omega)) (q_46_99 ?_), hr⟩
          rw [if_neg (in_nI (by omega) (by decide)), if_neg (in_nI (by omega) (by decide)), cl_nI (by omega), nI_1]
          exact hE
        have sl : ∀ r, Cli sc (d + 3) 63 [.ref 5, .int (nI j)] (mem L σ α3 τ β γ) (fun y M2 => EvL sc (d + 3) me_46 69 [some (.ref 15), some (.int (nI v)), some (.int X), some (.int x3), some (.int x4), some (.int (nI j)), some (.int (nI k)), none] [.int y] M2 0 0 r) → EvL sc (d + 3) me_46 19 [some (.ref 15), some (.int (nI v)), some (.int X), some (.int x3), some (.int x4), some (.int (nI j)), none, none] [] (mem L σ α3 τ β γ) 0 0 r := by
          intro r H
          refine q_46_19 ?_
          have hs := x_slotOf (sc := sc) (d := d + 2) (L := L) (σ := σ) (α := α3) (τ := τ) (β := β) (γ := γ) (v := v) (k := k) (by omega) (by omega)
          rw [← hjk] at hs
          rw [h.2.1.1, if_pos (nI_lt (by omega) (by omega))]
          refine cli hs (q_46_38 ?_)
          rw [if_neg (fun z => q (e.mp z)), if_neg (nI_pos (by omega)), if_pos (show nI k < 3 from nI_lt (b := 3) (by omega) (by decide))]
          exact H
        by_cases hs3 : nI j = x3
        · obtain ⟨α', hE, hr⟩ := go (x ||| x4) (fun i hi => by unfold outX; rw [b_or, hx i hi, decide_eq_true hs3, Bool.true_and])
          refine ⟨α', sl _ (cli hEx (q_46_69 ?_)), hr⟩
          rw [if_pos hs3]
          exact hE
        · obtain ⟨α', hE, hr⟩ := go (x ||| 0) (fun i hi => by unfold outX; rw [b_or, hx i hi, decide_eq_false hs3, Bool.false_and, b_0])
          refine ⟨α', sl _ (cli hEx (q_46_69 ?_)), hr⟩
          rw [if_neg hs3]
          exact hE
  obtain ⟨α', hE, hr⟩ := loop (g 1) 0 (by omega) α2 (fun c c1 c2 => by rw [a2 c c2, a1 c c1]) (fun k hk => by rw [if_neg (fun z => by omega), a2 16 (by decide), a1' k hk]) (fun k hk hl => by omega)
  exact ⟨α', e_start rfl rfl rfl (q_46_0 (clv hE1 (q_46_8 (clv hE2 (q_46_16 hE))))), hr⟩
theorem RP_a {α' : Nat → Nat → Int32} (h : RP α) (ha : α' 15 = α 15) : RP α' := by unfold RP; rw [ha]; exact h
theorem rm_lt (hB : Bs g w) (v k : Nat) : rm g w v k < 2 ^ 30 := by
  unfold rm many
  have h3 := hB.1.2.2.1
  split
  · have := cn_le (fun b => decide (w 21 b = ot v k)) (g 3); omega
  · omega
theorem x_lacking (h : RT g w L σ α) (hB : Bs g w) (hP : RP α) (h7 : 1 ≤ g 7) {v : Nat} (hv : v < g 1) (x3 x4 : Int32) {m : Nat → Nat → Bool} (hm : ∀ i, i < g 3 → un w v i = true → m i 4 = true ∧ ∀ k, k < g 1 - 1 → m i k = !outX g w x3 x4 (ot v k) i) : ∃ α', Ev sc (d + 6) 42 [.ref 15, .int (nI v), .int x3, .int x4] (mem L σ α τ β γ) (some (.long (dl g w v m)), mem L σ α' τ β γ) ∧ ∀ c, c < 16 ∨ 19 ≤ c → α' c = α c := by
  have h3 := hB.1.2.2.1
  obtain ⟨X, hE1, hX⟩ := x_unseenBy (sc := sc) (d := d + 2) (τ := τ) (β := β) (γ := γ) h hB h7 hv
  obtain ⟨α1, hE2, a1, a2, a3⟩ := x_adm (sc := sc) (d := d + 1) (τ := τ) (β := β) (γ := γ) h hB h7 hv X x3 x4
  obtain ⟨α2, hE3, f⟩ := x_count (sc := sc) (d := d) (L := L) (σ := σ) (τ := τ) (β := β) (γ := γ) (RP_a hP (a1 15 (by decide) (by decide))) (u := un w v) (m := fun i k => if k = 4 then true else bt (α1 17 k) i) (X := X) (B := g 3) (by omega) hX (fun k hk i hi hu => by show _ = if k = 4 then true else bt (α1 17 k) i; rw [if_neg (by omega)]) (fun i hi hu => rfl) (a2 0 (by decide)) (a2 1 (by decide)) (a2 2 (by decide)) (rm_lt hB v 0) (rm_lt hB v 1) (rm_lt hB v 2)
  have key : gw (un w v) (fun i k => if k = 4 then true else bt (α1 17 k) i) (g 3) (rm g w v 0) (rm g w v 1) (rm g w v 2) = gw (un w v) m (g 3) (rm g w v 0) (rm g w v 1) (rm g w v 2) := by
    have one : ∀ k, k < 3 → (rm g w v k = 0 ∨ ∀ i, i < g 3 → un w v i = true → (if k = 4 then true else bt (α1 17 k) i) = m i k) := by
      intro k hk
      by_cases q : k < g 1 - 1
      · right
        intro i hi hu
        rw [if_neg (by omega), a3 k q i (by omega), hX i (by omega), decide_eq_true hi, hu, (hm i hi hu).2 k q]; rfl
      · left; exact if_neg q
    exact gw_irr (g 3) _ _ _ (fun i hi hu => (hm i hi hu).1.symm) (one 0 (by decide)) (one 1 (by decide)) (one 2 (by decide))
  rw [key] at hE3
  exact ⟨α2, e_start rfl rfl rfl (q_42_0 (cli hE1 (q_42_5 (clv hE2 (q_42_16 (cll hE3 (q_42_22 rfl))))))), fun c hc => by rw [f c (by omega), a1 c (by omega) (by omega)]⟩
theorem mkA_ok {v : Nat} : ∀ i, i < g 3 → un w v i = true → mkA g w v i 4 = true ∧ ∀ k, k < g 1 - 1 → g 1 ≤ 4 → mkA g w v i k = !outX g w (-1) 0 (ot v k) i := by
  intro i hi hu
  refine ⟨by simp [mkA, hu], fun k hk h4 => ?_⟩
  unfold mkA outX
  rw [hu, decide_eq_false (show ¬ k = 4 by omega), decide_eq_true hi, b_0]
  simp
theorem x_all (h : RT g w L σ α) (hB : Bs g w) (hP : RP α) (h7 : 1 ≤ g 7) {v : Nat} (hv : v < g 1) : ∃ α', Ev sc (d + 7) 41 [.ref 15, .int (nI v)] (mem L σ α τ β γ) (some (.long (dl g w v (mkA g w v))), mem L σ α' τ β γ) ∧ ∀ c, c < 16 ∨ 19 ≤ c → α' c = α c := by
  have h1 := hB.1.1
  obtain ⟨α', hE, f⟩ := x_lacking (sc := sc) (d := d) (τ := τ) (β := β) (γ := γ) h hB hP h7 hv (-1) 0 (m := mkA g w v) (fun i hi hu => ⟨(mkA_ok i hi hu).1, fun k hk => (mkA_ok i hi hu).2 k hk h1.2⟩)
  exact ⟨α', e_start rfl rfl rfl (q_41_0 (cll hE (q_41_7 rfl))), f⟩
theorem x_withBone (h : RT g w L σ α) (hB : Bs g w) (hP : RP α) (h7 : 1 ≤ g 7) {v b : Nat} (hv : v < g 1) (hb : b < g 3) (hu : un w v b = true) {z : Int32} (hz : z = 10 ∨ ∃ s, s < g 1 ∧ s ≠ v ∧ z = nI s) : ∃ α', Ev sc (d + 6) 43 [.ref 15, .int (nI v), .int (nI b), .int z] (mem L σ α τ β γ) (some (.long (dl g w v (mkC g w v b z))), mem L σ α' τ β γ) ∧ ∀ c, c < 16 ∨ 19 ≤ c → α' c = α c := by
  have h1 := hB.1.1
  have h3 := hB.1.2.2.1
  obtain ⟨X, hE1, hX⟩ := x_unseenBy (sc := sc) (d := d + 2) (τ := τ) (β := β) (γ := γ) h hB h7 hv
  obtain ⟨α1, hE2, a1, a2, a3⟩ := x_adm (sc := sc) (d := d + 1) (τ := τ) (β := β) (γ := γ) h hB h7 hv X (-1) 0
  have hP1 : RP α1 := RP_a hP (a1 15 (by decide) (by decide))
  have hX' : ∀ i, i < 32 → bt (X &&& (((1 : Int32) <<< (nI b &&& 31)) ^^^ (-1))) i = (decide (i < g 3) && (un w v i && !decide (i = b))) := by
    intro i hi
    rw [b_off (by omega) hi, hX i hi, Bool.and_assoc]
  have inX : inB X (nI b) = true := by
    rw [inB_nI (by omega), decide_eq_true (by omega), hX b (by omega), decide_eq_true hb, hu]; rfl
  -- the count without the bone
  have cnt : ∀ α3 : Nat → Nat → Int32, (∀ c, c ≠ 16 → α3 c = α1 c) → ∀ n : Nat → Nat, (∀ k, k < 3 → α3 16 k = nI (n k) ∧ n k ≤ rm g w v k) → ∃ α', Ev sc (d + 5) 48 [.ref 15, .int (X &&& (((1 : Int32) <<< (nI b &&& 31)) ^^^ (-1)))] (mem L σ α3 τ β γ) (some (.long (lN (gw (fun i => un w v i && !decide (i = b)) (mkA g w v) (g 3) (n 0) (n 1) (n 2)))), mem L σ α' τ β γ) ∧ ∀ c, c < 16 ∨ 19 ≤ c → α' c = α c := by
    intro α3 b1 n hn
    have bd : ∀ k, k < 3 → n k < 2 ^ 30 := fun k hk => by have := (hn k hk).2; have := rm_lt hB v k; omega
    obtain ⟨α2, hE3, f⟩ := x_count (sc := sc) (d := d) (L := L) (σ := σ) (τ := τ) (β := β) (γ := γ) (RP_a hP1 (b1 15 (by decide))) (u := fun i => un w v i && !decide (i = b)) (m := fun i k => if k = 4 then true else bt (α1 17 k) i) (X := X &&& (((1 : Int32) <<< (nI b &&& 31)) ^^^ (-1))) (B := g 3) (by omega) hX' (fun k hk i hi hu => by show _ = if k = 4 then true else bt (α1 17 k) i; rw [if_neg (by omega), b1 17 (by decide)]) (fun i hi hu => rfl) (hn 0 (by decide)).1 (hn 1 (by decide)).1 (hn 2 (by decide)).1 (bd 0 (by decide)) (bd 1 (by decide)) (bd 2 (by decide))
    have key : gw (fun i => un w v i && !decide (i = b)) (fun i k => if k = 4 then true else bt (α1 17 k) i) (g 3) (n 0) (n 1) (n 2) = gw (fun i => un w v i && !decide (i = b)) (mkA g w v) (g 3) (n 0) (n 1) (n 2) := by
      have one : ∀ k, k < 3 → (n k = 0 ∨ ∀ i, i < g 3 → (un w v i && !decide (i = b)) = true → (if k = 4 then true else bt (α1 17 k) i) = mkA g w v i k) := by
        intro k hk
        by_cases q : k < g 1 - 1
        · right
          intro i hi hu
          have hu1 : un w v i = true := by simp only [Bool.and_eq_true] at hu; exact hu.1
          rw [if_neg (by omega), a3 k q i (by omega), hX i (by omega), decide_eq_true hi, hu1, (mkA_ok i hi hu1).2 k q h1.2]; rfl
        · left
          have := (hn k hk).2
          have r0 : rm g w v k = 0 := if_neg q
          omega
      exact gw_irr (g 3) _ _ _ (fun i hi hu => by
        have hu1 : un w v i = true := by simp only [Bool.and_eq_true] at hu; exact hu.1
        exact (mkA_ok i hi hu1).1.symm) (one 0 (by decide)) (one 1 (by decide)) (one 2 (by decide))
    rw [key] at hE3
    exact ⟨α2, hE3, fun c hc => by rw [f c (by omega), b1 c (by omega), a1 c (by omega) (by omega)]⟩
  have hne : ∀ i, i ≠ b → (fun i => un w v i && !decide (i = b)) i = un w v i := fun i hi => by simp [hi]
  have heq : (fun i => un w v i && !decide (i = b)) b = false := by simp
  have hmC : ∀ i, i ≠ b → ∀ k, mkC g w v b z i k = mkA g w v i k := fun i hi k => by unfold mkC; rw [decide_eq_true hi]; simp
  have mC4 : mkC g w v b z b 4 = decide (z = 10) := by simp [mkC, mkA, hu]
  have hmk : ∀ k, k < 4 → mkC g w v b z b k = (!shB g w (ot v k) b && decide (nI (ot v k) = z)) := by
    intro k hk
    unfold mkC mkA
    rw [hu, decide_eq_false (show ¬ k = 4 by omega), if_neg (show ¬ k = 4 by omega)]; simp
  have h10 : ∀ k, k < 4 → ¬ nI (ot v k) = (10 : Int32) := by
    intro k hk q
    have := (nI_eq (a := ot v k) (b := 10) (by unfold ot; split <;> omega) (by decide)).mp q
    unfold ot at this; split at this <;> omega
  rcases hz with rfl | ⟨s, hs, hsv, rfl⟩
  · obtain ⟨α2, hE3, f⟩ := cnt α1 (fun _ _ => rfl) (rm g w v) (fun k hk => ⟨a2 k hk, Nat.le_refl _⟩)
    refine ⟨α2, e_start rfl rfl rfl (q_43_0 (cli hE1 (q_43_5 (clv hE2 (q_43_16 (cli (x_isIn _ _) (q_43_22 ?_))))))), f⟩
    rw [inX, if_neg (by decide), if_pos rfl]
    unfold dl
    have nf : ∀ k, k < 4 → mkC g w v b 10 b k = false := fun k hk => by rw [hmk k hk, decide_eq_false (h10 k hk), Bool.and_false]
    rw [gw_stock (m := mkA g w v) hne heq hmC (nf 0 (by decide)) (nf 1 (by decide)) (nf 2 (by decide)) (by rw [mC4]; rfl)]
    exact cll hE3 (q_43_59 rfl)
  · obtain ⟨k, hk, hsk⟩ : ∃ k, k < g 1 - 1 ∧ s = ot v k := by
      by_cases l : s < v
      · exact ⟨s, by omega, by unfold ot; rw [if_pos l]⟩
      · exact ⟨s - 1, by omega, by unfold ot; rw [if_neg (by omega)]; omega⟩
    have hz10 : ¬ nI s = (10 : Int32) := by rw [hsk]; exact h10 k (by omega)
    have ho : ∀ j, j < 3 → j ≠ k → mkC g w v b (nI s) b j = false := by
      intro j hj hjk
      rw [hmk j (by omega), decide_eq_false, Bool.and_false]
      intro q
      have := (nI_eq (a := ot v j) (b := s) (by unfold ot; split <;> omega) (by omega)).mp q
      rw [hsk] at this
      exact hjk (ot_inj this)
    have mk : mkC g w v b (nI s) b k = !shB g w s b := by rw [hmk k (by omega), ← hsk, decide_eq_true rfl, Bool.and_true]
    have val := gw_at (m := mkA g w v) hu hne heq hmC (k := k) (by omega) ho (by rw [mC4, decide_eq_false hz10]) hb (rm g w v)
    have hslot := x_slotOf (sc := sc) (d := d + 4) (L := L) (σ := σ) (α := α1) (τ := τ) (β := β) (γ := γ) (v := v) (k := k) (by omega) (by omega)
    rw [← hsk] at hslot
    have rmk := a2 k (by omega)
    have rlt := rm_lt hB v k
    have may : inB (α1 17 k) (nI b) = !shB g w s b := by
      rw [inB_nI (by omega), decide_eq_true (by omega), a3 k hk b (by omega), hX b (by omega), decide_eq_true hb, hu, ← hsk]
      unfold outX
      rw [decide_eq_true hb, b_0]
      simp
    have start : ∀ r, Cli sc (d + 5) 47 [.ref 15, .int (nI k), .int (nI b)] (mem L σ α1 τ β γ) (fun y M2 => EvL sc (d + 5) me_43 42 [some (.ref 15), none, some (.int (nI b)), none, some (.int X)] [.int y] M2 0 0 r) → Ev sc (d + 6) 43 [.ref 15, .int (nI v), .int (nI b), .int (nI s)] (mem L σ α τ β γ) r := by
      intro r H
      refine e_start rfl rfl rfl (q_43_0 (cli hE1 (q_43_5 (clv hE2 (q_43_16 (cli (x_isIn _ _) (q_43_22 ?_)))))))
      rw [inX, if_neg (by decide), if_neg hz10]
      exact cli hslot (q_43_38 H)
    unfold dl
    rw [val, mk]
    by_cases l : rm g w v k < 1
    · refine ⟨α1, start _ (cli (e_start rfl rfl rfl (q_47_0 (r := (some (.int 0), mem L σ α1 τ β γ)) ?_)) (q_43_42 ?_)), fun c hc => a1 c (by omega) (by omega)⟩
      · rw [if_neg (nI_pos (by omega)), if_pos (show nI k < 3 from nI_lt (b := 3) (by omega) (by decide)), if_neg (in_nI (by omega) (by decide)), cl_nI (by omega), rmk, if_pos (show nI (rm g w v k) < 1 from nI_lt (b := 1) l (by decide))]
      · rw [if_pos rfl, if_neg (fun q => by omega)]; rfl
    · have st : ∀ r, EvL sc (d + 4) me_47 29 [some (.ref 15), some (.int (nI k)), none] [.int (bI (!shB g w s b))] (mem L σ α1 τ β γ) 0 0 r → Ev sc (d + 5) 47 [.ref 15, .int (nI k), .int (nI b)] (mem L σ α1 τ β γ) r := by
        intro r H
        refine e_start rfl rfl rfl (q_47_0 ?_)
        rw [if_neg (nI_pos (by omega)), if_pos (show nI k < 3 from nI_lt (b := 3) (by omega) (by decide)), if_neg (in_nI (by omega) (by decide)), cl_nI (by omega), rmk, if_neg (show ¬ nI (rm g w v k) < 1 from nI_nlt (b := 1) (by omega) (by omega)), if_neg (in_cl (by omega) (by decide))]
        refine cli (x_isIn _ _) ?_
        rw [may]
        exact H
      cases hsh : shB g w s b with
      | true =>
        rw [hsh] at st
        refine ⟨α1, start _ (cli (st (some (.int 0), mem L σ α1 τ β γ) (q_47_29 ?_)) (q_43_42 ?_)), fun c hc => a1 c (by omega) (by omega)⟩
        · rw [if_pos (by decide)]
        · rw [if_pos rfl, if_neg (fun q => by cases q.1)]; rfl
      | false =>
        rw [hsh] at st
        obtain ⟨α2, hE3, f⟩ := cnt (va_up α1 16 (upd (α1 16) k (α1 16 k - 1))) (fun c hc => by simp only [va_up, if_neg hc]) (dn (rm g w v) k) (fun j hj => by
          simp only [va_up, if_true, upd, dn]
          by_cases e : j = k
          · rw [if_pos e, if_pos e, rmk, e, show nI (rm g w v k) - 1 = nI (rm g w v k - 1) from pk_sub (b := 1) (by omega)]
            exact ⟨rfl, by omega⟩
          · rw [if_neg e, if_neg e]; exact ⟨a2 j hj, Nat.le_refl _⟩)
        refine ⟨α2, start _ (cli (st (some (.int 1), mem L σ (va_up α1 16 (upd (α1 16) k (α1 16 k - 1))) τ β γ) (q_47_29 ?_)) (q_43_42 ?_)), f⟩
        · rw [if_neg (by decide), if_neg (in_nI (by omega) (by decide)), if_neg (in_nI (by omega) (by decide)), cl_nI (by omega)]
        · rw [if_neg (by decide), if_pos ⟨rfl, by omega⟩]
          exact cll hE3 (q_43_59 rfl)
theorem x_deals (h : RT g w L σ α) (hB : Bs g w) (hP : RP α) (x : Int32) : ∃ α', Ev sc (d + 8) 79 [.ref 0, .int x] (mem L σ α τ β γ) (some (.long (aDeals g w x)), mem L σ α' τ β γ) ∧ ∀ c, c < 16 ∨ 19 ≤ c → α' c = α c := by
  have h1 := hB.1.1
  unfold aDeals
  cases ha : askB g x with
  | false =>
    refine ⟨α, e_start rfl rfl rfl (q_79_0 (cli (x_isShown h hB x) (q_79_5 ?_))), fun _ _ => rfl⟩
    rw [ha, if_pos (by decide)]; rfl
  | true =>
    obtain ⟨h7, v, hv, rfl, hc⟩ := askB_of (by omega) ha
    rw [hc]
    obtain ⟨α', hE, f⟩ := x_all (sc := sc) (d := d) (τ := τ) (β := β) (γ := γ) h hB hP (by omega) hv
    refine ⟨α', e_start rfl rfl rfl (q_79_0 (cli (x_isShown h hB _) (q_79_5 ?_))), f⟩
    rw [ha, if_neg (by decide)]
    exact cll hE (q_79_16 rfl)
theorem x_chance (h : RT g w L σ α) (hB : Bs g w) (hP : RP α) (x y z : Int32) : ∃ α', Ev sc (d + 8) 80 [.ref 0, .int x, .int y, .int z] (mem L σ α τ β γ) (some (.long (aChance g w x y z)), mem L σ α' τ β γ) ∧ ∀ c, c < 16 ∨ 19 ≤ c → α' c = α c := by
  obtain ⟨⟨h1, -, h3, -⟩, hp, hD, -⟩ := id hB
  have top : ∀ r, EvL sc (d + 7) me_80 45 [some (.ref 0), some (.int x), some (.int y), some (.int z), some (.int (aWhere g w y)), some (.int (bI (bel z (g 1) || (decide (z = 10) || decide (z = 11)))))] [.int (bI (askB g x))] (mem L σ α τ β γ) 0 0 r → Ev sc (d + 8) 80 [.ref 0, .int x, .int y, .int z] (mem L σ α τ β γ) r := by
    intro r H
    refine e_start rfl rfl rfl (q_80_0 (cli (x_placeOf h hB y) (q_80_8 (cli (x_isSeat h hB z) (q_80_18 ?_)))))
    cases hz : bel z (g 1) with
    | true =>
      rw [hz] at H
      rw [if_neg (by decide)]
      exact cli (x_isShown h hB x) H
    | false =>
      rw [hz] at H
      rw [if_pos (by decide)]
      by_cases c10 : z = 10
      · rw [if_pos c10]
        rw [decide_eq_true c10] at H
        exact cli (x_isShown h hB x) H
      · rw [if_neg c10]
        rw [decide_eq_false c10] at H
        by_cases c11 : z = 11
        · rw [if_pos c11]
          rw [decide_eq_true c11] at H
          exact cli (x_isShown h hB x) H
        · rw [if_neg c11]
          rw [decide_eq_false c11] at H
          exact cli (x_isShown h hB x) H
  unfold aChance
  cases ha : askB g x with
  | false =>
    refine ⟨α, top _ (q_80_45 ?_), fun _ _ => rfl⟩
    rw [ha, if_pos (by decide)]; rfl
  | true =>
    obtain ⟨h7, v, hv, rfl, hc⟩ := askB_of (by omega) ha
    rw [ha] at top
    rw [hc]
    have eW : aWhere g w y = if bel y (g 3) then nI (w 21 y.toNatClampNeg) else -1 := by unfold aWhere; rw [if_neg (by omega)]
    rw [eW] at top
    have nby : bel y (g 3) = false → ∃ α', Ev sc (d + 8) 80 [.ref 0, .int (nI v), .int y, .int z] (mem L σ α τ β γ) (some (.long (if (true && (bel y (g 3) && (bel z (g 1) || (decide (z = 10) || decide (z = 11))))) = true then (if un w v y.toNatClampNeg = false then (if nI (w 21 y.toNatClampNeg) = z then dl g w v (mkA g w v) else 0) else if z = 11 then 0 else if z = nI v then 0 else dl g w v (mkC g w v y.toNatClampNeg z)) else -1)), mem L σ α' τ β γ) ∧ ∀ c, c < 16 ∨ 19 ≤ c → α' c = α c := by
      intro hy
      refine ⟨α, top _ (q_80_45 ?_), fun _ _ => rfl⟩
      rw [if_neg (by decide), hy]
      simp
    rcases bel_cases y (n := g 3) (by omega) with ⟨q1, q2⟩ | ⟨b, q1, rfl, q2, q3⟩ | ⟨k, q1, hk, rfl, q2⟩
    · exact nby q2
    · have hpb := hp b (by omega)
      rw [q2, if_pos rfl] at top
      rw [q3] at top ⊢
      rw [q2, Bool.true_and, Bool.true_and]
      have nm1 : ¬ nI (w 21 b) = (-1 : Int32) := by
        intro q
        have := (mI_eq_m1 (n := w 21 b + 1) (by omega)).mp (by rw [mI_succ]; exact q)
        omega
      cases hz : (bel z (g 1) || (decide (z = 10) || decide (z = 11))) with
      | false =>
        rw [hz] at top
        refine ⟨α, top _ (q_80_45 ?_), fun _ _ => rfl⟩
        rw [if_neg (by decide), if_neg nm1, if_pos (by decide)]; rfl
      | true =>
        rw [hz] at top
        rw [if_pos rfl]
        have ev : nI (w 21 b) = nI v ↔ w 21 b = v := nI_eq (by omega) (by omega)
        have e11 : nI (w 21 b) = (11 : Int32) ↔ w 21 b = 11 := nI_eq (b := 11) (by omega) (by decide)
        have seen : (w 21 b = v ∨ w 21 b = 11) → ∃ α', Ev sc (d + 8) 80 [.ref 0, .int (nI v), .int (nI b), .int z] (mem L σ α τ β γ) (some (.long (if nI (w 21 b) = z then dl g w v (mkA g w v) else 0)), mem L σ α' τ β γ) ∧ ∀ c, c < 16 ∨ 19 ≤ c → α' c = α c := by
          intro hs
          by_cases cz : nI (w 21 b) = z
          · obtain ⟨α', hE, f⟩ := x_all (sc := sc) (d := d) (τ := τ) (β := β) (γ := γ) h hB hP (by omega) hv
            refine ⟨α', top _ (q_80_45 ?_), f⟩
            rw [if_neg (by decide), if_neg nm1, if_neg (by decide), if_pos (c := nI (w 21 b) = z) cz]
            by_cases cv : nI (w 21 b) = nI v
            · rw [if_pos cv, if_pos cz]; exact cll hE (q_80_90 rfl)
            · rw [if_neg cv, if_pos (e11.mpr (hs.resolve_left (fun q => cv (ev.mpr q)))), if_pos cz]; exact cll hE (q_80_90 rfl)
          · refine ⟨α, top _ (q_80_45 ?_), fun _ _ => rfl⟩
            rw [if_neg (by decide), if_neg nm1, if_neg (by decide)]
            by_cases cv : nI (w 21 b) = nI v
            · rw [if_pos cv, if_neg cz, if_neg cz]
            · rw [if_neg cv, if_pos (e11.mpr (hs.resolve_left (fun q => cv (ev.mpr q)))), if_neg cz, if_neg cz]
        cases hu : un w v b with
        | false =>
          rw [if_pos rfl]
          refine seen ?_
          unfold un at hu
          by_cases cv : w 21 b = v
          · exact Or.inl cv
          · right; simpa [cv] using hu
        | true =>
          rw [if_neg (by decide)]
          have hu2 := hu
          unfold un at hu2
          simp only [Bool.and_eq_true, decide_eq_true_eq] at hu2
          have mid : ∀ r, (if z = nI v then r = (some (.long (0 : Int64)), mem L σ α τ β γ) else if z = 11 then r = (some (.long (0 : Int64)), mem L σ α τ β γ) else Cll sc (d + 7) 43 [.ref 15, .int (nI v), .int (nI b), .int z] (mem L σ α τ β γ) (fun y M2 => EvL sc (d + 7) me_80 118 [none, none, none, none, none, none] [.long y] M2 0 0 r)) → Ev sc (d + 8) 80 [.ref 0, .int (nI v), .int (nI b), .int z] (mem L σ α τ β γ) r := by
            intro r H
            refine top r (q_80_45 ?_)
            rw [if_neg (by decide), if_neg nm1, if_neg (by decide), if_neg (fun q => hu2.1 (ev.mp q)), if_neg (fun q => hu2.2 (e11.mp q))]
            exact H
          by_cases c11 : z = 11
          · rw [if_pos c11]
            refine ⟨α, mid _ ?_, fun _ _ => rfl⟩
            by_cases cv : z = nI v
            · rw [if_pos cv]
            · rw [if_neg cv, if_pos c11]
          · rw [if_neg c11]
            by_cases cv : z = nI v
            · rw [if_pos cv]
              refine ⟨α, mid _ ?_, fun _ _ => rfl⟩
              rw [if_pos cv]
            · rw [if_neg cv]
              have hz' : z = 10 ∨ ∃ s, s < g 1 ∧ s ≠ v ∧ z = nI s := by
                by_cases c10 : z = 10
                · exact Or.inl c10
                · right
                  have : bel z (g 1) = true := by simpa [c10, c11] using hz
                  obtain ⟨s, hs, rfl⟩ := bel_of (by omega) this
                  exact ⟨s, hs, fun q => cv (by rw [q]), rfl⟩
              obtain ⟨α', hE, f⟩ := x_withBone (sc := sc) (d := d + 1) (τ := τ) (β := β) (γ := γ) h hB hP (by omega) hv q1 hu hz'
              refine ⟨α', mid _ ?_, f⟩
              rw [if_neg cv, if_neg c11]
              exact cll hE (q_80_118 rfl)
    · exact nby q2
end TB
