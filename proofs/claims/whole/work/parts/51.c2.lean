/-! the class: weights -/
section XC
variable {sc : Nat × (Nat → Int32)} {d : Nat} {L : Nat → Nat} {σ : Nat → Int32} {α : Nat → Nat → Int32} {τ : Nat → Int32} {β : Nat → Nat → Int32} {γ : Nat → Nat → Int64} {g : Nat → Nat} {w : Nat → Nat → Nat} {M : dk_M}
theorem sm_succ (f : Nat → Nat) (n : Nat) : sm f (n + 1) = sm f n + f n := rfl
theorem sm_upd {f f' : Nat → Nat} {k : Nat} (hq : ∀ i, i ≠ k → f' i = f i) : ∀ {n : Nat}, k < n → sm f' n + f k = sm f n + f' k
  | 0, h => by omega
  | n + 1, h => by
    simp only [sm]
    by_cases e : k = n
    · subst e
      have : sm f' k = sm f k := sm_cong (fun i hi => hq i (by omega))
      omega
    · have := sm_upd hq (n := n) (by omega)
      have := hq n (fun z => e z.symm)
      omega
/-- what a side's bones weigh, when one bone goes to another place -/
theorem own_move {G : Nat → Nat} {W : Nat → Nat → Nat} {b y : Nat} (g1 : G 1 = g 1) (g3 : G 3 = g 3) (hb : b < g 3) (hw : ∀ i, W 21 i = if i = b then y else w 21 i) (s : Nat) : own G W s + (if w 21 b < g 1 ∧ side (g 1) (w 21 b) = s then wt b else 0) = own g w s + (if y < g 1 ∧ side (g 1) y = s then wt b else 0) := by
  unfold own
  rw [g1, g3]
  have := sm_upd (f := fun i => if w 21 i < g 1 ∧ side (g 1) (w 21 i) = s then wt i else 0) (f' := fun i => if W 21 i < g 1 ∧ side (g 1) (W 21 i) = s then wt i else 0) (k := b) (fun i hi => by simp only [hw, if_neg hi]) hb
  simp only [hw, if_true] at this ⊢
  exact this
theorem own_same {G : Nat → Nat} {W : Nat → Nat → Nat} (g1 : G 1 = g 1) (g3 : G 3 = g 3) (hw : ∀ i, i < g 3 → W 21 i = w 21 i) (s : Nat) : own G W s = own g w s := by
  unfold own
  rw [g1, g3]
  exact sm_cong (fun i hi => by show (if W 21 i < g 1 ∧ side (g 1) (W 21 i) = s then wt i else 0) = _; rw [hw i hi])
theorem own_none {x : Nat} (hx : ∀ b, b < g 3 → ¬ (w 21 b < g 1 ∧ side (g 1) (w 21 b) = x)) : own g w x = 0 := by
  unfold own
  have : ∀ n, n ≤ g 3 → sm (fun b => if w 21 b < g 1 ∧ side (g 1) (w 21 b) = x then wt b else 0) n = 0 := by
    intro n
    induction n with
    | zero => intro _; rfl
    | succ n ih => intro hn; simp only [sm]; rw [ih (by omega), if_neg (hx n (by omega))]
  exact this _ (Nat.le_refl _)
theorem pk_down {a l h : Nat} (hle : h + l ≤ a) : nI a + (-nI l - nI h) = nI (a - (h + l)) := by
  obtain ⟨c, rfl⟩ : ∃ c, a = c + (h + l) := ⟨a - (h + l), by omega⟩
  rw [Nat.add_sub_cancel, ← nI_add, ← nI_add]
  generalize nI c = x
  generalize nI h = y
  generalize nI l = z
  grind
theorem y_isSeat {S s : Nat} (l0 : L 0 = S) (h1 : S ≤ 4) (hs : s < S) : Ev sc (d + 1) 14 [.ref 1, .int (nI s)] (mem L σ α τ β γ) (some (.int 1), mem L σ α τ β γ) := by
  refine e_start rfl rfl rfl (q_14_0 ?_)
  rw [if_neg (nI_pos (by omega)), l0, nI_lit, if_pos (nI_lt hs (by omega))]
theorem y_sideOf {S s : Nat} (s2 : σ 2 = nI S) (h1 : S ≤ 4) (hs : s < 100) : Ev sc (d + 1) 16 [.ref 1, .int (nI s)] (mem L σ α τ β γ) (some (.int (nI (side S s))), mem L σ α τ β γ) := by
  have e4 : nI S = (4 : Int32) ↔ S = 4 := nI_eq (b := 4) (by omega) (by decide)
  refine e_start rfl rfl rfl (q_16_0 ?_)
  rw [s2]
  unfold side
  by_cases c : S = 4
  · rw [if_pos (e4.mpr c), if_pos c, pk_andN (by omega) (m := 1) 1 (by decide)]
  · rw [if_neg (fun z => c (e4.mp z)), if_neg c]
theorem y_addWeight {n x : Nat} (l3 : L 3 = n) (hn : n ≤ 4) (hx : x < n) (v : Int32) : Ev sc (d + 1) 150 [.ref 1, .int (nI x), .int v] (mem L σ α τ β γ) (none, mem L σ (va_up α 5 (upd (α 5) x (α 5 x + v))) τ β γ) := by
  refine e_start rfl rfl rfl (q_150_0 ?_)
  rw [if_neg (nI_pos (by omega)), l3, nI_lit, if_pos (nI_lt hx (by omega)), if_neg (in_nI hx (by omega)), if_neg (in_nI hx (by omega)), cl_nI (by omega)]
/-- a bone comes to a seat's hand; a bone leaves it -/
theorem y_pickUp {S B s b : Nat} (h1 : 2 ≤ S ∧ S ≤ 4) (hB : B ≤ 28) (l0 : L 0 = S) (l3 : L 3 = sides S) (s2 : σ 2 = nI S) (s3 : σ 3 = nI B) (hs : s < S) (hb : b < B) : Ev sc (d + 2) 148 [.ref 1, .int (nI s), .int (nI b)] (mem L σ α τ β γ) (none, mem L σ (va_up (va_up α 11 (upd (α 11) s (α 11 s ||| ((1 : Int32) <<< (nI b &&& 31))))) 5 (upd (α 5) (side S s) (α 5 (side S s) + nI (wt b)))) τ β γ) := by
  have hsl := side_lt h1 hs
  have hs4 := sides_le h1
  refine e_start rfl rfl rfl (q_148_0 (cli (y_isSeat l0 h1.2 hs) (q_148_5 ?_)))
  rw [if_neg (by decide), if_neg (nI_pos (by omega)), s3, if_pos (nI_lt hb (by omega)), l0, if_neg (in_nI hs (by omega)), if_neg (in_nI hs (by omega)), cl_nI (by omega)]
  refine cli (y_sideOf s2 h1.2 (by omega)) (q_148_38 (cli (x_low (by omega)) (q_148_42 (cli (x_high (by omega)) (q_148_46 ?_)))))
  rw [lo_ok b (by omega), hi_ok b (by omega), nI_add, Nat.add_comm (lo b) (hi b)]
  exact clv (y_addWeight l3 hs4.2 hsl _) (q_148_50 rfl)
theorem y_putDown {S B s b : Nat} (h1 : 2 ≤ S ∧ S ≤ 4) (hB : B ≤ 28) (l0 : L 0 = S) (l3 : L 3 = sides S) (s2 : σ 2 = nI S) (s3 : σ 3 = nI B) (hs : s < S) (hb : b < B) : Ev sc (d + 2) 149 [.ref 1, .int (nI s), .int (nI b)] (mem L σ α τ β γ) (none, mem L σ (va_up (va_up α 11 (upd (α 11) s (α 11 s &&& (((1 : Int32) <<< (nI b &&& 31)) ^^^ (-1))))) 5 (upd (α 5) (side S s) (α 5 (side S s) + (-nI (lo b) - nI (hi b))))) τ β γ) := by
  have hsl := side_lt h1 hs
  have hs4 := sides_le h1
  refine e_start rfl rfl rfl (q_149_0 (cli (y_isSeat l0 h1.2 hs) (q_149_5 ?_)))
  rw [if_neg (by decide), if_neg (nI_pos (by omega)), s3, if_pos (nI_lt hb (by omega)), l0, if_neg (in_nI hs (by omega)), if_neg (in_nI hs (by omega)), cl_nI (by omega)]
  refine cli (y_sideOf s2 h1.2 (by omega)) (q_149_40 (cli (x_low (by omega)) (q_149_44 (cli (x_high (by omega)) (q_149_49 ?_)))))
  rw [lo_ok b (by omega), hi_ok b (by omega)]
  exact clv (y_addWeight l3 hs4.2 hsl _) (q_149_53 rfl)
theorem x_sideWeight (h : RT g w L σ α) (hB : Bs g w) (h7 : 1 ≤ g 7) {x : Nat} (hx : x < 100) : Ev sc (d + 3) 35 [.ref 1, .int (nI x)] (mem L σ α τ β γ) (some (.int (nI (own g w x))), mem L σ α τ β γ) := by
  obtain ⟨⟨h1, -, h3, -, -⟩, -⟩ := id hB
  have hs4 := sides_le h1
  refine e_start rfl rfl rfl (q_35_0 ?_)
  rw [if_neg (nI_pos (by omega)), h.1.2.2.1, nI_lit]
  by_cases c : x < sides (g 1)
  · rw [if_pos (nI_lt c (by omega)), if_neg (in_nI c (by omega)), cl_nI (by omega), h.1.2.2.2 h7 x c]
  · rw [if_neg (nI_nlt (by omega) (by omega)), own_none (g := g) (w := w) (x := x) (fun b _ z => by have := side_lt h1 z.1; have := z.2; omega)]; rfl
theorem x_othersWeight (h : RT g w L σ α) (hB : Bs g w) (h7 : 1 ≤ g 7) {x : Nat} (hx : x < 100) : Ev sc (d + 4) 36 [.ref 1, .int (nI x)] (mem L σ α τ β γ) (some (.int (nI (oth g w x))), mem L σ α τ β γ) := by
  obtain ⟨⟨h1, -, h3, -, -⟩, -⟩ := id hB
  have hs4 := sides_le h1
  rw [oth_sum h1]
  have key : ∀ m j, j + m = sides (g 1) → EvL sc (d + 3) me_36 4 [some (.ref 1), some (.int (nI x)), some (.int (nI (sm (fun s => if s = x then 0 else own g w s) j))), some (.int (nI j))] [] (mem L σ α τ β γ) 0 0 (some (.int (nI (sm (fun s => if s = x then 0 else own g w s) (sides (g 1))))), mem L σ α τ β γ) := by
    intro m
    induction m with
    | zero =>
      intro j hj
      refine q_36_4 ?_
      rw [h.1.2.2.1, nI_lit, if_neg (nI_nlt (by omega) (by omega)), show j = sides (g 1) by omega]
    | succ m ih =>
      intro j hj
      have ih := ih (j + 1) (by omega)
      simp only [sm] at ih
      have es : nI j = nI x ↔ j = x := nI_eq (by omega) (by omega)
      refine q_36_4 ?_
      rw [h.1.2.2.1, nI_lit, if_pos (nI_lt (by omega) (by omega))]
      by_cases q : j = x
      · rw [if_pos (es.mpr q), nI_1]
        simpa [q] using ih
      · rw [if_neg (fun z => q (es.mp z)), if_neg (in_nI (by omega) (by omega)), cl_nI (by omega), h.1.2.2.2 h7 j (by omega), nI_add, nI_1]
        simpa [q] using ih
  exact e_start rfl rfl rfl (q_36_0 (key (sides (g 1)) 0 (by omega)))
end XC
