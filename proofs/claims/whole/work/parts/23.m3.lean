/-! the reference: is it over; answers -/
section MD
variable {sc : Nat × (Nat → Int32)} {d : Nat} {L : Nat → Nat} {σ : Nat → Int32} {α : Nat → Nat → Int32} {τ : Nat → Int32} {β : Nat → Nat → Int32} {γ : Nat → Nat → Int64} {g : Nat → Nat} {w : Nat → Nat → Nat}
/-- fields that are only scratch: toSide, points, others, seer, made, asker, from, chosen -/
theorem RM_up (h : RM g w τ β) {k : Nat} {v : Int32} (hk : k = 26 ∨ k = 27 ∨ 33 ≤ k) : RM g w (upd τ k v) β := by
  obtain ⟨⟨h1, h2, h3, h4, h5, h6, h7, h8, h9, h10, h11, h12, h13, h14⟩, hr⟩ := h
  have u : ∀ j, j < 26 → upd τ k v j = τ j := fun j hj => pk_un (by omega)
  refine ⟨⟨?_, ?_, ?_, ?_, ?_, ?_, ?_, ?_, ?_, ?_, ?_, ?_, ?_, ?_⟩, hr⟩ <;> (rw [u _ (by omega)]; assumption)
theorem sides_le {S : Nat} (h : 2 ≤ S ∧ S ≤ 4) : 2 ≤ sides S ∧ sides S ≤ 4 := by unfold sides; split <;> omega
theorem stk_le {g : Nat → Nat} {w : Nat → Nat → Nat} : ∀ s, (stk g w s).1 ≤ 1000000000 ∧ (stk g w s).2 ≤ s
  | 0 => ⟨Nat.le_refl _, Nat.le_refl _⟩
  | s + 1 => by
    have := stk_le (g := g) (w := w) s
    simp only [stk]
    constructor
    · split <;> omega
    · split
      · omega
      · split <;> omega
/-- of the others' weight: it is the sum over the other sides -/
theorem oth_sum (hS : 2 ≤ g 1 ∧ g 1 ≤ 4) (x : Nat) : oth g w x = sm (fun s => if s = x then 0 else own g w s) (sides (g 1)) := by
  have one : ∀ (c : Nat → Nat) (k v : Nat), ∀ n, (∀ s, c s = if s = k then v else 0) → sm c n = if k < n then v else 0 := by
    intro c k v n hc
    induction n with
    | zero => simp [sm]
    | succ n ih =>
      simp only [sm]
      rw [ih, hc n]
      by_cases e : n = k
      · subst e; simp
      · by_cases l : k < n
        · rw [if_pos l, if_neg e, if_pos (by omega)]; rfl
        · rw [if_neg l, if_neg e, if_neg (by omega)]
  have key : ∀ n, sm (fun b => if w 21 b < g 1 ∧ ¬ side (g 1) (w 21 b) = x then wt b else 0) n = sm (fun s => if s = x then 0 else sm (fun b => if w 21 b < g 1 ∧ side (g 1) (w 21 b) = s then wt b else 0) n) (sides (g 1)) := by
    intro n
    induction n with
    | zero =>
      have : ∀ m, sm (fun s => if s = x then 0 else sm (fun b => if w 21 b < g 1 ∧ side (g 1) (w 21 b) = s then wt b else 0) 0) m = 0 := by
        intro m
        induction m with
        | zero => rfl
        | succ m ih =>
          show _ + _ = 0
          rw [ih]
          simp [sm]
      rw [this]; rfl
    | succ n ih =>
      have e : sm (fun s => if s = x then 0 else sm (fun b => if w 21 b < g 1 ∧ side (g 1) (w 21 b) = s then wt b else 0) (n + 1)) (sides (g 1)) = sm (fun s => (if s = x then 0 else sm (fun b => if w 21 b < g 1 ∧ side (g 1) (w 21 b) = s then wt b else 0) n) + (if s = x then 0 else if w 21 n < g 1 ∧ side (g 1) (w 21 n) = s then wt n else 0)) (sides (g 1)) := by
        apply sm_cong
        intro s _
        by_cases hs : s = x
        · simp [hs]
        · simp [hs, sm]
      rw [e, sm_add, ← ih]
      show _ + _ = _ + _
      congr 1
      dsimp only
      by_cases hp : w 21 n < g 1
      · have hl := side_lt hS hp
        by_cases hx : side (g 1) (w 21 n) = x
        · rw [if_neg (fun z => z.2 hx), one _ (side (g 1) (w 21 n)) 0 _ (fun s => by
            by_cases h1 : s = x
            · simp [h1]
            · have : ¬ side (g 1) (w 21 n) = s := fun z => h1 (by rw [← z]; exact hx)
              simp [h1, this])]
          split <;> rfl
        · rw [if_pos ⟨hp, hx⟩, one _ (side (g 1) (w 21 n)) (wt n) _ (fun s => by
            by_cases h1 : s = x
            · have : ¬ s = side (g 1) (w 21 n) := fun z => hx (by rw [← z]; exact h1)
              rw [if_pos h1, if_neg this]
            · by_cases h2 : s = side (g 1) (w 21 n)
              · rw [if_neg h1, if_pos h2, if_pos ⟨hp, h2.symm⟩]
              · rw [if_neg h1, if_neg h2, if_neg (fun z => h2 z.2.symm)]), if_pos hl]
      · rw [if_neg (fun z => hp z.1), one _ 0 0 _ (fun s => by simp [hp])]
        split <;> rfl
  exact key (g 3)
theorem sm_pick {f : Nat → Nat} {i : Nat} : ∀ {n : Nat}, i < n → f i ≤ sm f n
  | 0, h => by omega
  | n + 1, h => by
    simp only [sm]
    by_cases e : i = n
    · subst e; omega
    · have := sm_pick (f := f) (i := i) (n := n) (by omega); omega
/-- the least weight is the least -/
theorem stk_min {s n : Nat} (hs : s < n) : (stk g w n).1 ≤ own g w s := by
  induction n with
  | zero => omega
  | succ n ih =>
    simp only [stk]
    by_cases e : s = n
    · subst e; split <;> omega
    · have := ih (by omega); split <;> omega
theorem stk_oth (hg : Bd g w) {x : Nat} : (stk g w (sides (g 1))).1 ≤ oth g w x := by
  have hS := sides_le hg.1
  rw [oth_sum hg.1]
  obtain ⟨s, hs, hne⟩ : ∃ s, s < sides (g 1) ∧ s ≠ x := by
    by_cases h0 : x = 0
    · exact ⟨1, by omega, by omega⟩
    · exact ⟨0, by omega, fun z => h0 z.symm⟩
  have h1 := sm_pick (f := fun s => if s = x then 0 else own g w s) hs
  have h2 := stk_min (g := g) (w := w) hs
  simp only [hne, if_false] at h1
  omega
theorem overP_le (hg : Bd g w) : overP g w ≤ 336 := by
  unfold overP
  split
  · exact oth_le hg _
  · split
    · omega
    · have := oth_le hg ((stk g w (sides (g 1))).2 - 1); omega
theorem m_isOver (h : RM g w τ β) (hg : Bd g w) (hn : 0 < g 22) : ∃ τ', Ev sc (d + 5) 119 [.ref 21] (mem L σ α τ β γ) (some (.int (bI (overB g w))), mem L σ α τ' β γ) ∧ RM g w τ' β ∧ (overB g w = true → τ' 26 = mI (overT g w) ∧ τ' 27 = nI (overP g w)) ∧ ∀ k, 33 ≤ k → τ' k = τ k := by
  obtain ⟨hS, -, ⟨-, h3⟩, -, -, -, -, -, h22, -, ht⟩ := id hg
  have hsd := sides_le hS
  have hl := (ht (g 22 - 1) (by omega)).1
  have e1 : nI (g 22) - 1 = nI (g 22 - 1) := pk_sub (b := 1) (by omega)
  have hm := cn_le (fun b => decide (w 21 b = w 25 (g 22 - 1))) (g 3)
  have em : nI (many g w (w 25 (g 22 - 1))) = 0 ↔ many g w (w 25 (g 22 - 1)) = 0 := nI_eq (b := 0) (by unfold many; omega) (by decide)
  have htp := tp_le w (g 22)
  have hR2 : ∀ a b c, RM g w (upd (upd (upd τ 27 a) 26 b) 27 c) β := fun a b c => RM_up (RM_up (RM_up h (Or.inr (Or.inl rfl))) (Or.inl rfl)) (Or.inr (Or.inl rfl))
  -- the way of a hand that is out
  have wayOut : outB g w = true → EvL sc (d + 4) me_119 25 [some (.ref 21), some (.int (nI (w 25 (g 22 - 1)))), none, none, none, none] [.int 1] (mem L σ α τ β γ) 0 0 (some (.int (bI (overB g w))), mem L σ α (upd (upd (upd (upd τ 27 0) 26 (-1)) 26 (nI (side (g 1) (w 25 (g 22 - 1))))) 27 (nI (oth g w (side (g 1) (w 25 (g 22 - 1)))))) β γ) := by
    intro ho
    refine q_119_25 ?_
    rw [if_neg (by decide), if_neg (by decide)]
    have hr0 : RM g w (upd (upd τ 27 (0 : Int32)) 26 (-1 : Int32)) β := RM_up (RM_up h (Or.inr (Or.inl rfl))) (Or.inl rfl)
    refine cli (m_sideOf hr0 hg (by omega)) (q_119_63 ?_)
    have hs4 := side_lt hS hl
    refine cli (m_weighs (RM_up hr0 (Or.inl rfl)) hg (by omega) false) (q_119_76 ?_)
    have : overB g w = true := by unfold overB; rw [ho]; rfl
    rw [this]
    rfl
  -- the way of one that is stuck
  have wayStk : outB g w = false → g 1 ≤ tp w (g 22) → ∃ τ', EvL sc (d + 4) me_119 87 [some (.ref 21), none, none, some (.int (1000000000 : Int32)), some (.int (0 : Int32)), none] [] (mem L σ α (upd (upd τ 27 0) 26 (-1)) β γ) 0 0 (some (.int (bI (overB g w))), mem L σ α τ' β γ) ∧ RM g w τ' β ∧ τ' 26 = mI (overT g w) ∧ τ' 27 = nI (overP g w) ∧ ∀ k, 33 ≤ k → τ' k = τ k := by
    intro ho hst
    have hob : overB g w = true := by unfold overB; simp [hst]
    have loop : ∀ k j, j + k = sides (g 1) → ∀ τ1, RM g w τ1 β → τ1 26 = mI (stk g w j).2 → τ1 27 = 0 → (∀ k, 33 ≤ k → τ1 k = τ k) → ∃ τ', EvL sc (d + 4) me_119 87 [some (.ref 21), none, none, some (.int (nI (stk g w j).1)), some (.int (nI j)), none] [] (mem L σ α τ1 β γ) 0 0 (some (.int (bI (overB g w))), mem L σ α τ' β γ) ∧ RM g w τ' β ∧ τ' 26 = mI (overT g w) ∧ τ' 27 = nI (overP g w) ∧ ∀ k, 33 ≤ k → τ' k = τ k := by
      intro k
      induction k with
      | zero =>
        intro j hj τ1 h1 h26 h27 hsame
        have ej : j = sides (g 1) := by omega
        subst ej
        have hs := stk_le (g := g) (w := w) (sides (g 1))
        by_cases hz : (stk g w (sides (g 1))).2 = 0
        · refine ⟨τ1, q_119_87 ?_, h1, ?_, ?_, hsame⟩
          · rw [h1.1.2.2.2.1, if_neg (nI_nlt (by omega) (by omega)), h26, hz, if_pos mI_0, hob]
            rfl
          · rw [h26]; unfold overT; rw [ho]; rfl
          · rw [h27]; unfold overP; rw [ho, hz]; rfl
        · obtain ⟨x, hx⟩ : ∃ x, (stk g w (sides (g 1))).2 = x + 1 := ⟨(stk g w (sides (g 1))).2 - 1, by omega⟩
          have hov : oth g w x ≤ 336 := oth_le hg x
          have hlo := stk_oth hg (x := x)
          refine ⟨upd τ1 27 (nI (oth g w x) - nI (stk g w (sides (g 1))).1), q_119_87 ?_, RM_up h1 (Or.inr (Or.inl rfl)), ?_, ?_, fun k hk => ?_⟩
          · rw [h1.1.2.2.2.1, if_neg (nI_nlt (by omega) (by omega)), h26, hx, mI_succ, if_neg (nI_ne_m1 (by omega))]
            refine cli (m_weighs h1 hg (by omega) false) (q_119_165 ?_)
            rw [hob]
            rfl
          · rw [pk_un (by decide), h26]; unfold overT; rw [ho]; rfl
          · rw [pk_us, pk_sub hlo]
            unfold overP
            rw [ho, hx]
            simp
          · rw [pk_un (by omega)]; exact hsame k hk
      | succ k ih =>
        intro j hj τ1 h1 h26 h27 hsame
        have hs := stk_le (g := g) (w := w) j
        have ho1 := own_le hg j
        have eL : nI (own g w j) < nI (stk g w j).1 ↔ own g w j < (stk g w j).1 := nI_ltI (by omega) (by omega)
        have eE : nI (own g w j) = nI (stk g w j).1 ↔ own g w j = (stk g w j).1 := nI_eq (by omega) (by omega)
        have go : ∀ v, v = mI (stk g w (j + 1)).2 → ∃ τ', EvL sc (d + 4) me_119 87 [some (.ref 21), none, none, some (.int (nI (stk g w (j + 1)).1)), some (.int (nI (j + 1))), none] [] (mem L σ α (upd τ1 26 v) β γ) 0 0 (some (.int (bI (overB g w))), mem L σ α τ' β γ) ∧ RM g w τ' β ∧ τ' 26 = mI (overT g w) ∧ τ' 27 = nI (overP g w) ∧ ∀ k, 33 ≤ k → τ' k = τ k := fun v hv =>
          ih (j + 1) (by omega) (upd τ1 26 v) (RM_up h1 (Or.inl rfl)) (by rw [pk_us, hv]) (by rw [pk_un (by decide), h27]) (fun k hk => by rw [pk_un (by omega)]; exact hsame k hk)
        have emin : nI (stk g w (j + 1)).1 = (if nI (own g w j) < nI (stk g w j).1 then nI (own g w j) else nI (stk g w j).1) := by
          simp only [stk]
          by_cases hlt : own g w j < (stk g w j).1
          · rw [if_pos hlt, if_pos (eL.mpr hlt)]
          · rw [if_neg hlt, if_neg (fun z => hlt (eL.mp z))]
        by_cases hlt : own g w j < (stk g w j).1
        · obtain ⟨τ', hE, hrest⟩ := go (nI j) (by simp only [stk]; rw [if_pos hlt, mI_succ])
          refine ⟨τ', q_119_87 ?_, hrest⟩
          rw [h1.1.2.2.2.1, if_pos (nI_lt (by omega) (by omega))]
          refine cli (m_weighs h1 hg (by omega) true) (q_119_103 ?_)
          rw [if_pos rfl, if_pos (eL.mpr hlt), ← emin, nI_1]
          exact hE
        · by_cases heq : own g w j = (stk g w j).1
          · obtain ⟨τ', hE, hrest⟩ := go (-1) (by simp only [stk]; rw [if_neg hlt, if_pos heq, mI_0])
            refine ⟨τ', q_119_87 ?_, hrest⟩
            rw [h1.1.2.2.2.1, if_pos (nI_lt (by omega) (by omega))]
            refine cli (m_weighs h1 hg (by omega) true) (q_119_103 ?_)
            rw [if_pos rfl, if_neg (fun z => hlt (eL.mp z)), if_pos (eE.mpr heq), ← emin, nI_1]
            exact hE
          · obtain ⟨τ', hE, hrest⟩ := go (τ1 26) (by simp only [stk]; rw [if_neg hlt, if_neg heq, h26])
            refine ⟨τ', q_119_87 ?_, hrest⟩
            rw [h1.1.2.2.2.1, if_pos (nI_lt (by omega) (by omega))]
            refine cli (m_weighs h1 hg (by omega) true) (q_119_103 ?_)
            rw [if_pos rfl, if_neg (fun z => hlt (eL.mp z)), if_neg (fun z => heq (eE.mp z)), ← emin, nI_1]
            exact hE
    exact loop (sides (g 1)) 0 (by omega) (upd (upd τ 27 0) 26 (-1)) (RM_up (RM_up h (Or.inr (Or.inl rfl))) (Or.inl rfl)) (by rw [pk_us]; rfl) (by rw [pk_un (by decide), pk_us]) (fun k hk => by rw [pk_un (by omega), pk_un (by omega)])
  have start : ∀ {r}, (EvL sc (d + 4) me_119 17 [some (.ref 21), some (.int (nI (w 25 (g 22 - 1)))), none, none, none, none] [.int (nI (many g w (w 25 (g 22 - 1))))] (mem L σ α τ β γ) 0 0 r) → Ev sc (d + 5) 119 [.ref 21] (mem L σ α τ β γ) r := by
    intro r hr
    refine e_start rfl rfl rfl (q_119_0 ?_)
    rw [h.1.2.2.2.2.2.2.2.2.2.2.2.1, e1, if_neg (in_nI (by omega) (by decide)), cl_nI (by omega), (h.2.2.2.2 (g 22 - 1) (by omega)).1]
    exact cli (m_many h hg (by omega)) hr
  by_cases hout : many g w (w 25 (g 22 - 1)) = 0
  · have ho : outB g w = true := decide_eq_true hout
    refine ⟨_, start (q_119_17 (by rw [if_pos (em.mpr hout)]; exact wayOut ho)), RM_up (RM_up (RM_up (RM_up h (Or.inr (Or.inl rfl))) (Or.inl rfl)) (Or.inl rfl)) (Or.inr (Or.inl rfl)), fun _ => ⟨?_, ?_⟩, fun k hk => ?_⟩
    · rw [pk_un (by decide), pk_us]; unfold overT; rw [ho, if_pos rfl, mI_succ]
    · rw [pk_us]; unfold overP; rw [ho]; rfl
    · rw [pk_un (by omega), pk_un (by omega), pk_un (by omega), pk_un (by omega)]
  · have ho : outB g w = false := decide_eq_false hout
    by_cases hst : g 1 ≤ tp w (g 22)
    · obtain ⟨τ', hE, hr1, hr2, hr3, hr4⟩ := wayStk ho hst
      refine ⟨τ', start (q_119_17 (by
        rw [if_neg (fun z => hout (em.mp z))]
        refine q_119_25 ?_
        rw [if_pos rfl]
        refine cli (m_passed h hg) (q_119_34 ?_)
        rw [h.1.1, if_neg (nI_nlt hst (by omega)), if_pos rfl]
        exact hE)), hr1, fun _ => ⟨hr2, hr3⟩, hr4⟩
    · have hob : overB g w = false := by unfold overB; rw [ho]; simp; omega
      refine ⟨τ, start (q_119_17 (by
        rw [if_neg (fun z => hout (em.mp z))]
        refine q_119_25 ?_
        rw [if_pos rfl]
        refine cli (m_passed h hg) (q_119_34 ?_)
        rw [h.1.1, if_pos (nI_lt (by omega) (by omega)), hob]
        rfl)), h, (fun z => by rw [hob] at z; cases z), fun _ _ => rfl⟩
end MD
