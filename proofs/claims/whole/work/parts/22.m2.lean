/-! the reference's answers that change nothing, further -/
theorem cn_mono {p : Nat → Bool} {i : Nat} (hp : p i = true) : ∀ {n : Nat}, i < n → 0 < cn p n
  | 0, h => by omega
  | n + 1, h => by
    simp only [cn]
    by_cases e : i = n
    · subst e; rw [if_pos hp]; omega
    · have := cn_mono hp (n := n) (by omega); omega
/-- the k-th of a kind from j on among r, one higher; 0 for none -/
def fd (p : Nat → Bool) : Nat → Nat → Nat → Nat
  | 0, _, _ => 0
  | r + 1, k, j => if p j then (if k = 0 then j + 1 else fd p r (k - 1) (j + 1)) else fd p r k (j + 1)
theorem fd_le (p : Nat → Bool) : ∀ r k j, fd p r k j ≤ j + r
  | 0, _, _ => Nat.zero_le _
  | r + 1, k, j => by
    simp only [fd]
    split
    · split
      · omega
      · have := fd_le p r (k - 1) (j + 1); omega
    · have := fd_le p r k (j + 1); omega
theorem fd_cong {p q : Nat → Bool} : ∀ {r k j : Nat}, (∀ i, j ≤ i → i < j + r → p i = q i) → fd p r k j = fd q r k j
  | 0, _, _, _ => rfl
  | r + 1, k, j, h => by
    simp only [fd]
    rw [h j (by omega) (by omega), fd_cong (r := r) (k := k - 1) (j := j + 1) (fun i h1 h2 => h i (by omega) (by omega)), fd_cong (r := r) (k := k) (j := j + 1) (fun i h1 h2 => h i (by omega) (by omega))]
def canA (g : Nat → Nat) (w : Nat → Nat → Nat) (x : Nat) : Bool := decide (0 < cn (fun b => decide (w 21 b = x) && (fitE g w b 0 || fitE g w b 1)) (g 3))
/-- what is found when a hand is stuck: the least weight, and the side that has it alone, one higher -/
def stk (g : Nat → Nat) (w : Nat → Nat → Nat) : Nat → Nat × Nat
  | 0 => (1000000000, 0)
  | s + 1 => (if own g w s < (stk g w s).1 then own g w s else (stk g w s).1, if own g w s < (stk g w s).1 then s + 1 else if own g w s = (stk g w s).1 then 0 else (stk g w s).2)
def outB (g : Nat → Nat) (w : Nat → Nat → Nat) : Bool := decide (many g w (w 25 (g 22 - 1)) = 0)
def overB (g : Nat → Nat) (w : Nat → Nat → Nat) : Bool := outB g w || decide (g 1 ≤ tp w (g 22))
def overT (g : Nat → Nat) (w : Nat → Nat → Nat) : Nat := if outB g w then side (g 1) (w 25 (g 22 - 1)) + 1 else (stk g w (sides (g 1))).2
def overP (g : Nat → Nat) (w : Nat → Nat → Nat) : Nat := if outB g w then oth g w (side (g 1) (w 25 (g 22 - 1))) else if (stk g w (sides (g 1))).2 = 0 then 0 else oth g w ((stk g w (sides (g 1))).2 - 1) - (stk g w (sides (g 1))).1
theorem wsum_le (g : Nat → Nat) (P : Nat → Prop) (dec : ∀ b, Decidable (P b)) : ∀ n, n ≤ 28 → sm (fun b => if P b then wt b else 0) n ≤ 12 * n
  | 0, _ => Nat.zero_le _
  | n + 1, h => by
    have := wsum_le g P dec n (by omega)
    have h2 := wt_le n (by omega)
    simp only [sm]
    split <;> omega
theorem own_le {g : Nat → Nat} {w : Nat → Nat → Nat} (hg : Bd g w) (x : Nat) : own g w x ≤ 336 := by
  have := wsum_le g (fun b => w 21 b < g 1 ∧ side (g 1) (w 21 b) = x) (fun b => inferInstance) (g 3) hg.2.2.1.2
  have h3 := hg.2.2.1.2
  unfold own
  omega
theorem oth_le {g : Nat → Nat} {w : Nat → Nat → Nat} (hg : Bd g w) (x : Nat) : oth g w x ≤ 336 := by
  have := wsum_le g (fun b => w 21 b < g 1 ∧ ¬ side (g 1) (w 21 b) = x) (fun b => inferInstance) (g 3) hg.2.2.1.2
  have h3 := hg.2.2.1.2
  unfold oth
  omega
theorem side_lt {S s : Nat} (hS : 2 ≤ S ∧ S ≤ 4) (h : s < S) : side S s < sides S := by
  unfold side sides
  by_cases h4 : S = 4
  · rw [if_pos h4, if_pos h4]; omega
  · rw [if_neg h4, if_neg h4]; exact h
section MC
variable {sc : Nat × (Nat → Int32)} {d : Nat} {L : Nat → Nat} {σ : Nat → Int32} {α : Nat → Nat → Int32} {τ : Nat → Int32} {β : Nat → Nat → Int32} {γ : Nat → Nat → Int64} {g : Nat → Nat} {w : Nat → Nat → Nat}
theorem m_canAnswer (h : RM g w τ β) (hg : Bd g w) {x : Nat} (hx : x < 100) : Ev sc (d + 5) 114 [.ref 21, .int (nI x)] (mem L σ α τ β γ) (some (.int (bI (canA g w x))), mem L σ α τ β γ) := by
  obtain ⟨-, -, ⟨-, h3⟩, -, -, -, hpl, -⟩ := id hg
  have fin : ∀ j, j ≤ g 3 → (0 < cn (fun b => decide (w 21 b = x) && (fitE g w b 0 || fitE g w b 1)) (g 3)) → EvL sc (d + 4) me_114 4 [some (.ref 21), some (.int (nI x)), some (.int (1 : Int32)), some (.int (nI j))] [] (mem L σ α τ β γ) 0 0 (some (.int (bI (canA g w x))), mem L σ α τ β γ) := by
    intro j hj hc
    have e : bI (canA g w x) = 1 := by unfold canA; rw [decide_eq_true hc]; rfl
    refine q_114_4 ?_
    rw [e]
    split
    · rw [if_neg (by decide), if_pos (by decide)]
    · rw [if_pos (by decide)]
  have key : ∀ k j, j + k = g 3 → cn (fun b => decide (w 21 b = x) && (fitE g w b 0 || fitE g w b 1)) j = 0 → EvL sc (d + 4) me_114 4 [some (.ref 21), some (.int (nI x)), some (.int (0 : Int32)), some (.int (nI j))] [] (mem L σ α τ β γ) 0 0 (some (.int (bI (canA g w x))), mem L σ α τ β γ) := by
    intro k
    induction k with
    | zero =>
      intro j hj hc
      refine q_114_4 ?_
      have e : j = g 3 := by omega
      subst e
      rw [h.1.2.2.1, if_neg (nI_nlt (by omega) (by omega)), if_pos (by decide)]
      unfold canA
      rw [hc]
      rfl
    | succ k ih =>
      intro j hj hc
      refine q_114_4 ?_
      rw [h.1.2.2.1, if_pos (nI_lt (by omega) (by omega)), if_pos rfl, if_neg (in_nI (by omega) (by decide)), cl_nI (by omega), h.2.1 j (by omega)]
      have hp := hpl j (by omega)
      have e : nI (w 21 j) = nI x ↔ w 21 j = x := nI_eq (by omega) (by omega)
      have ih := ih (j + 1) (by omega)
      simp only [cn, hc] at ih
      by_cases hw : w 21 j = x
      · rw [if_pos (e.mpr hw)]
        refine cli (m_fits h hg (by omega) 0) (q_114_32 ?_)
        cases hf0 : fitE g w j 0 with
        | true =>
          rw [if_neg (by decide), nI_1]
          exact fin (j + 1) (by omega) (cn_mono (i := j) (by simp [hw, hf0]) (by omega))
        | false =>
          rw [if_pos (by decide)]
          refine cli (m_fits h hg (by omega) 1) (q_114_41 ?_)
          cases hf1 : fitE g w j 1 with
          | true =>
            rw [if_neg (by decide), nI_1]
            exact fin (j + 1) (by omega) (cn_mono (i := j) (by simp [hw, hf1]) (by omega))
          | false =>
            rw [if_pos (by decide), nI_1]
            exact ih (by simp [hf0, hf1])
      · rw [if_neg (fun z => hw (e.mp z)), nI_1]
        exact ih (by simp [hw])
  exact e_start rfl rfl rfl (q_114_0 (key (g 3) 0 (by omega) rfl))
theorem tp_at (w : Nat → Nat → Nat) : ∀ (t n : Nat), n ≤ tp w t → n ≤ t ∧ tp w t = n + tp w (t - n) ∧ (n < tp w t → w 26 (t - 1 - n) = 0)
  | t, 0, _ => ⟨Nat.zero_le _, by simp, fun h => by
    cases t with
    | zero => simp [tp] at h
    | succ t =>
      simp only [tp] at h
      by_cases e : w 26 t = 0
      · simpa using e
      · rw [if_neg e] at h; omega⟩
  | 0, n + 1, h => by simp [tp] at h
  | t + 1, n + 1, h => by
    simp only [tp] at h ⊢
    by_cases e : w 26 t = 0
    · rw [if_pos e] at h ⊢
      obtain ⟨h1, h2, h3⟩ := tp_at w t n (by omega)
      refine ⟨by omega, ?_, fun z => ?_⟩
      · rw [show t + 1 - (n + 1) = t - n by omega]; omega
      · have := h3 (by omega)
        rwa [show t + 1 - 1 - (n + 1) = t - 1 - n by omega]
    · rw [if_neg e] at h; omega
theorem tp_stop (w : Nat → Nat → Nat) {t : Nat} (h : tp w t < t) : ¬ w 26 (t - 1 - tp w t) = 0 := by
  intro e
  obtain ⟨h1, h2, -⟩ := tp_at w t (tp w t) (Nat.le_refl _)
  have h3 : tp w (t - tp w t) = 0 := by omega
  obtain ⟨m, hm⟩ : ∃ m, t - tp w t = m + 1 := ⟨t - tp w t - 1, by omega⟩
  rw [hm] at h3
  simp only [tp] at h3
  rw [show m = t - 1 - tp w t by omega, if_pos e] at h3
  omega
theorem m_passed (h : RM g w τ β) (hg : Bd g w) : Ev sc (d + 1) 118 [.ref 21] (mem L σ α τ β γ) (some (.int (nI (tp w (g 22)))), mem L σ α τ β γ) := by
  obtain ⟨-, -, ⟨-, h3⟩, -, -, -, -, -, h22, -, ht⟩ := id hg
  have hle := tp_le w (g 22)
  have key : ∀ k j, j + k = tp w (g 22) → EvL sc d me_118 2 [some (.ref 21), some (.int (nI j))] [] (mem L σ α τ β γ) 0 0 (some (.int (nI (tp w (g 22)))), mem L σ α τ β γ) := by
    intro k
    induction k with
    | zero =>
      intro j hj
      have e : j = tp w (g 22) := by omega
      refine q_118_2 ?_
      rw [h.1.2.2.2.2.2.2.2.2.2.2.2.1]
      by_cases hlt : j < g 22
      · have e1 : nI (g 22) - 1 - nI j = nI (g 22 - 1 - j) := by
          have : nI (g 22) - 1 = nI (g 22 - 1) := pk_sub (b := 1) (by omega)
          rw [this, pk_sub (by omega)]
        have hb := ht (g 22 - 1 - j) (by omega)
        rw [if_pos (nI_lt hlt (by omega)), e1, if_neg (in_nI (by omega) (by decide)), cl_nI (by omega), (h.2.2.2.2 (g 22 - 1 - j) (by omega)).2.1, if_neg (fun z => by
          have z := (mI_eq_m1 (by omega)).mp z
          subst e
          exact tp_stop w hlt z), e]
      · rw [if_neg (nI_nlt (by omega) (by omega)), e]
    | succ k ih =>
      intro j hj
      refine q_118_2 ?_
      obtain ⟨h1, h2, h4⟩ := tp_at w (g 22) j (by omega)
      have h4 := h4 (by omega)
      have e1 : nI (g 22) - 1 - nI j = nI (g 22 - 1 - j) := by
        have : nI (g 22) - 1 = nI (g 22 - 1) := pk_sub (b := 1) (by omega)
        rw [this, pk_sub (by omega)]
      rw [h.1.2.2.2.2.2.2.2.2.2.2.2.1, if_pos (nI_lt (by omega) (by omega)), e1, if_neg (in_nI (by omega) (by decide)), cl_nI (by omega), (h.2.2.2.2 (g 22 - 1 - j) (by omega)).2.1, h4, if_pos mI_0, nI_1]
      exact ih (j + 1) (by omega)
  exact e_start rfl rfl rfl (q_118_0 (key (tp w (g 22)) 0 (by omega)))
theorem m_weighs (h : RM g w τ β) (hg : Bd g w) {x : Nat} (hx : x < 100) (o : Bool) : Ev sc (d + 4) 120 [.ref 21, .int (nI x), .int (bI o)] (mem L σ α τ β γ) (some (.int (nI (if o then own g w x else oth g w x))), mem L σ α τ β γ) := by
  obtain ⟨hS, -, ⟨-, h3⟩, -, -, -, hpl, -⟩ := id hg
  have key : ∀ k j, j + k = g 3 → EvL sc (d + 3) me_120 5 [some (.ref 21), some (.int (nI x)), some (.int (bI o)), some (.int (nI (sm (fun b => if w 21 b < g 1 ∧ (decide (side (g 1) (w 21 b) = x) = o) then wt b else 0) j))), some (.int (nI j))] [] (mem L σ α τ β γ) 0 0 (some (.int (nI (sm (fun b => if w 21 b < g 1 ∧ (decide (side (g 1) (w 21 b) = x) = o) then wt b else 0) (g 3)))), mem L σ α τ β γ) := by
    intro k
    induction k with
    | zero =>
      intro j hj
      refine q_120_5 ?_
      rw [h.1.2.2.1, if_neg (nI_nlt (by omega) (by omega)), show j = g 3 by omega]
    | succ k ih =>
      intro j hj
      refine q_120_5 ?_
      have hp := hpl j (by omega)
      rw [h.1.2.2.1, if_pos (nI_lt (by omega) (by omega)), if_neg (in_nI (by omega) (by decide)), cl_nI (by omega), h.2.1 j (by omega), h.1.1]
      have e : nI (w 21 j) < nI (g 1) ↔ w 21 j < g 1 := nI_ltI (by omega) (by omega)
      have ih := ih (j + 1) (by omega)
      simp only [sm] at ih
      by_cases hw : w 21 j < g 1
      · rw [if_pos (e.mpr hw), if_neg (in_cl (by omega) (by decide))]
        refine cli (m_sideOf h hg (by omega)) (q_120_39 ?_)
        have hsl := side_lt hS hw
        have hs4 : sides (g 1) ≤ 4 := by unfold sides; split <;> omega
        have e2 : nI (side (g 1) (w 21 j)) = nI x ↔ side (g 1) (w 21 j) = x := nI_eq (by omega) (by omega)
        have goOn : ∀ {r}, EvL sc (d + 3) me_120 5 [some (.ref 21), some (.int (nI x)), some (.int (bI o)), some (.int (nI (sm (fun b => if w 21 b < g 1 ∧ (decide (side (g 1) (w 21 b) = x) = o) then wt b else 0) j + wt j))), some (.int (nI (j + 1)))] [] (mem L σ α τ β γ) 0 0 r → Cli sc (d + 3) 99 [.int (nI j)] (mem L σ α τ β γ) (fun y M2 => EvL sc (d + 3) me_120 58 [some (.ref 21), some (.int (nI x)), some (.int (bI o)), none, some (.int (nI j))] [.int y, .int (nI (sm (fun b => if w 21 b < g 1 ∧ (decide (side (g 1) (w 21 b) = x) = o) then wt b else 0) j))] M2 0 0 r) := by
          intro r hh
          refine cli (m_weight (by omega)) (q_120_58 ?_)
          rw [nI_add, nI_1]
          exact hh
        by_cases hx2 : side (g 1) (w 21 j) = x
        · rw [if_pos (e2.mpr hx2)]
          cases o with
          | true => rw [if_pos (show (1 : Int32) = bI true from rfl)]; refine goOn ?_; simpa [hw, hx2] using ih
          | false => rw [if_neg (by decide), nI_1]; simpa [hw, hx2] using ih
        · rw [if_neg (fun z => hx2 (e2.mp z))]
          cases o with
          | true => rw [if_neg (by decide), nI_1]; simpa [hw, hx2] using ih
          | false => rw [if_pos (show (0 : Int32) = bI false from rfl)]; refine goOn ?_; simpa [hw, hx2] using ih
      · rw [if_neg (fun z => hw (e.mp z)), nI_1]
        simpa [hw] using ih
  have fin := e_start (sc := sc) (d := d + 3) (y := 120) (av := [.ref 21, .int (nI x), .int (bI o)]) rfl rfl rfl (q_120_0 (key (g 3) 0 (by omega)))
  refine ev_of fin ?_
  cases o with
  | true => simp [own]
  | false => simp [oth]
end MC
