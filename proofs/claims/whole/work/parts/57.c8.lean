/-! the class: the calls but those that count or look -/
def RS (g : Nat → Nat) (w : Nat → Nat → Nat) (L : Nat → Nat) (σ : Nat → Int32) (α : Nat → Nat → Int32) : Prop := L 2 = sides (g 1) ∧ σ 0 = nI (g 2) ∧ σ 1 = nI (g 10) ∧ ∀ s, s < sides (g 1) → α 13 s = nI (w 22 s)
theorem RS_keep {g G : Nat → Nat} {w W : Nat → Nat → Nat} {L : Nat → Nat} {σ σ' : Nat → Int32} {α α' : Nat → Nat → Int32} (h : RS g w L σ α) (hG : G 1 = g 1 ∧ G 2 = g 2 ∧ G 10 = g 10) (hW : W 22 = w 22) (h1 : σ' 0 = σ 0 ∧ σ' 1 = σ 1) (h2 : α' 13 = α 13) : RS G W L σ' α' := by
  obtain ⟨a, b, c, d⟩ := h
  obtain ⟨g1, g2, g10⟩ := hG
  refine ⟨by rw [g1]; exact a, by rw [g2, h1.1]; exact b, by rw [g10, h1.2]; exact c, ?_⟩
  rw [g1, hW, h2]; exact d
section XI
variable {sc : Nat × (Nat → Int32)} {d : Nat} {L : Nat → Nat} {σ : Nat → Int32} {α : Nat → Nat → Int32} {τ : Nat → Int32} {β : Nat → Nat → Int32} {γ : Nat → Nat → Int64} {g : Nat → Nat} {w : Nat → Nat → Nat} {M : dk_M}
/-- scores are small -/
theorem sc_le (h : IN g w) : ∀ s, s < 4 → w 22 s ≤ 2000 := by
  intro s hs
  have h2 := h.1.1.2.1
  have h7 := h.1.1.2.2.2.1
  by_cases z : g 7 = 3
  · obtain ⟨-, -, -, a, b, c⟩ := h.2.2.2.2 z
    by_cases e : s + 1 = g 23
    · have := c (by omega)
      rw [show g 23 - 1 = s by omega] at this
      omega
    · have := a s hs e; omega
  · have := (h.2.2.1 (by omega)).2.2.2 s hs; omega
theorem x_winner (hR : RS g w L σ α) (hI : IN g w) : Ev sc (d + 1) 86 [.ref 0] (mem L σ α τ β γ) (some (.int (mI (g 11))), mem L σ α τ β γ) := by
  have hg := IN_Bd hI
  have ss := sides_le hg.1
  have h2 := hg.2.1
  obtain ⟨r1, r2, r3, r4⟩ := hR
  have hlow : ∀ s, s < 4 → s + 1 ≠ g 11 → w 22 s < g 2 := by
    intro s hs hne
    have h7 := hg.2.2.2.1
    by_cases z : g 7 = 3
    · obtain ⟨-, -, -, a, b, c⟩ := hI.2.2.2.2 z
      by_cases e : s + 1 = g 23
      · have c4 := (c (by omega)).2.2.2
        rw [show g 23 - 1 = s by omega] at c4
        split at c4 <;> omega
      · exact a s hs e
    · exact (hI.2.2.1 (by omega)).2.2.2 s hs
  have hhigh : ¬ g 11 = 0 → g 11 ≤ sides (g 1) ∧ g 2 ≤ w 22 (g 11 - 1) := by
    intro hne
    have h7 := hg.2.2.2.1
    by_cases z : g 7 = 3
    · obtain ⟨-, a0, -, a, b, c⟩ := hI.2.2.2.2 z
      by_cases e : g 23 = 0
      · exact absurd (b e).2 hne
      · have c4 := (c e).2.2.2
        split at c4
        · rw [c4]; exact ⟨a0, by assumption⟩
        · exact absurd c4 hne
    · exact absurd (hI.2.2.1 (by omega)).2.2.1 hne
  have loop : ∀ m j, j + m = sides (g 1) → (¬ g 11 = 0 → j < g 11) → EvL sc d me_86 2 [some (.ref 0), some (.int (nI j))] [] (mem L σ α τ β γ) 0 0 (some (.int (mI (g 11))), mem L σ α τ β γ) := by
    intro m
    induction m with
    | zero =>
      intro j hj hlt
      have z : g 11 = 0 := Decidable.byContradiction fun q => by have := hlt q; have := (hhigh q).1; omega
      refine q_86_2 ?_
      rw [r1, nI_lit, if_neg (nI_nlt (by omega) (by omega)), z, mI_0]
    | succ m ih =>
      intro j hj hlt
      have sb := sc_le hI j (by omega)
      have eL : nI (w 22 j) < nI (g 2) ↔ w 22 j < g 2 := nI_ltI (by omega) (by omega)
      refine q_86_2 ?_
      rw [r1, nI_lit, if_pos (nI_lt (by omega) (by omega)), if_neg (in_nI (by omega) (by omega)), cl_nI (by omega), r4 j (by omega), r2]
      by_cases e : j + 1 = g 11
      · have := (hhigh (by omega)).2
        rw [← e, Nat.add_sub_cancel] at this
        rw [if_neg (fun z => by have := eL.mp z; omega), ← e, mI_succ]
      · rw [if_pos (eL.mpr (hlow j (by omega) e)), nI_1]
        exact ih (j + 1) (by omega) (fun q => by have := hlt q; omega)
  exact e_start rfl rfl rfl (q_86_0 (loop (sides (g 1)) 0 (by omega) (fun q => by omega)))
theorem lay_iff {k : Nat} (hg : 0 < g 1) : k ≤ g 3 / g 1 ↔ k * g 1 ≤ g 3 := Nat.le_div_iff_mul_le hg
theorem x_lay_no (h : RT g w L σ α) (hR : RS g w L σ α) (hI : IN g w) {x : Int32} (hc : layB g x = false) : Ev sc (d + 3) 66 [.ref 0, .int x] (mem L σ α τ β γ) (some (.int (-1)), mem L σ α τ β γ) := by
  have hg := IN_Bd hI
  obtain ⟨⟨h1, -, h3, h7, -⟩, -⟩ := hI.1
  have h11 : g 11 ≤ 4 := by
    by_cases z : g 7 = 3
    · obtain ⟨-, a0, -, -, b, c⟩ := hI.2.2.2.2 z
      have := sides_le h1
      by_cases e : g 23 = 0
      · rw [(b e).2]; omega
      · have := (c e).2.2.2; split at this <;> omega
    · rw [(hI.2.2.1 (by omega)).2.2.1]; omega
  have e7 : nI (g 7) = (2 : Int32) ↔ g 7 = 2 := nI_eq (b := 2) (by omega) (by decide)
  have e11 : mI (g 11) = (-1 : Int32) ↔ g 11 = 0 := mI_eq_m1 (by omega)
  refine e_start rfl rfl rfl (q_66_0 ?_)
  rw [h.2.1.2.2.1]
  by_cases a : g 7 = 2
  · rw [if_pos (e7.mpr a)]
  · rw [if_neg (fun z => a (e7.mp z))]
    refine cli (x_winner hR hI) (q_66_15 ?_)
    by_cases b : g 11 = 0
    · rw [if_pos (e11.mpr b)]
      have hno : Ev sc (d + 2) 21 [.ref 1, .int x] (mem L σ α τ β γ) (some (.int 0), mem L σ α τ β γ) := by
        refine e_start rfl rfl rfl (q_21_0 ?_)
        by_cases c : x < 1
        · rw [if_pos c]
        · rw [if_neg c, h.2.1.2.1, h.2.1.1]
          by_cases e : nI (g 3) < x
          · rw [if_pos e]
          · rw [if_neg e]
            rcases any_nI x with q | ⟨k, hk, rfl⟩
            · exfalso
              rw [Int32.lt_iff_toInt_lt] at q c
              have z0 : (0 : Int32).toInt = 0 := by decide
              have z1 : (1 : Int32).toInt = 1 := by decide
              omega
            · have hk3 : k ≤ g 3 := Decidable.byContradiction fun z => e (nI_lt (by omega) hk)
              have hm4 : k * g 1 ≤ k * 4 := Nat.mul_le_mul_left k h1.2
              have hd3 : g 3 / g 1 ≤ g 3 := Nat.div_le_self _ _
              unfold layB at hc
              simp only [a, c, b, not_false_eq_true, decide_true, Bool.true_and, Bool.and_true, decide_eq_false_iff_not, Decidable.not_not] at hc
              have hlt := (nI_ltI (by omega) hk).mp hc
              have : ¬ k * g 1 ≤ g 3 := fun z => by have := (lay_iff (g := g) (k := k) (by omega)).mpr z; omega
              rw [pk_mul, if_pos (nI_lt (by omega) (by omega))]
      refine cli hno (q_66_27 ?_)
      rw [if_pos rfl]
    · rw [if_neg (fun z => b (e11.mp z))]
theorem x_lay_yes (h : RT g w L σ α) (hR : RS g w L σ α) (hI : IN g w) {k : Nat} (h2 : ¬ g 7 = 2) (hk : 1 ≤ k) (hk2 : k ≤ g 3 / g 1) (h11 : g 11 = 0) : ∃ σ' α', Ev sc (d + 3) 66 [.ref 0, .int (nI k)] (mem L σ α τ β γ) (some (.int (nI (g 3 - k * g 1))), mem L σ' α' τ β γ) ∧ RT (layG g k) (layW g w) L σ' α' ∧ RS (layG g k) (layW g w) L σ' α' ∧ (∀ j, 13 ≤ j → σ' j = σ j) ∧ (∀ c, 14 ≤ c → α' c = α c) := by
  have hg := IN_Bd hI
  obtain ⟨⟨h1, -, h3, h7, -⟩, -⟩ := hI.1
  have e7 : nI (g 7) = (2 : Int32) ↔ g 7 = 2 := nI_eq (b := 2) (by omega) (by decide)
  have hkS := (lay_iff (g := g) (k := k) (by omega)).mp hk2
  have hd3 : g 3 / g 1 ≤ g 3 := Nat.div_le_self _ _
  obtain ⟨σ', α', hE, hT, f1, f2⟩ := x_layOut (sc := sc) (d := d) (τ := τ) (β := β) (γ := γ) h hI.1 (k := k)
  refine ⟨σ', α', e_start rfl rfl rfl (q_66_0 ?_), hT, RS_keep hR (by simp [layG, va_up]) (by simp [layW, va_up]) ⟨f1 0 (by omega), f1 1 (by omega)⟩ (f2 13 (by omega)), fun j hj => f1 j (by omega), fun c hc => f2 c (by omega)⟩
  rw [h.2.1.2.2.1, if_neg (fun z => h2 (e7.mp z))]
  refine cli (x_winner hR hI) (q_66_15 ?_)
  rw [h11, if_pos mI_0]
  have hyes : Ev sc (d + 2) 21 [.ref 1, .int (nI k)] (mem L σ α τ β γ) (some (.int 1), mem L σ α τ β γ) := by
    refine e_start rfl rfl rfl (q_21_0 ?_)
    rw [if_neg (show ¬ nI k < 1 from nI_nlt (b := 1) hk (by omega)), h.2.1.2.1, h.2.1.1, if_neg (nI_nlt (by omega) (by omega)), pk_mul, if_neg (nI_nlt hkS (by omega))]
  refine cli hyes (q_66_27 ?_)
  rw [if_neg (by decide)]
  refine clv hE (q_66_40 ?_)
  rw [f1 3 (by omega), f1 2 (by omega), h.2.1.2.1, h.2.1.1, pk_mul, pk_sub hkS]
theorem x_give_no (h : RT g w L σ α) (hI : IN g w) (x y : Int32) (hno : ∀ s b, x = nI s → s < 2 ^ 31 → y = nI b → b < 2 ^ 31 → giveB g w s b = false) : Ev sc (d + 4) 67 [.ref 0, .int x, .int y] (mem L σ α τ β γ) (some (.int (-1)), mem L σ α τ β γ) := by
  have hg := IN_Bd hI
  obtain ⟨⟨h1, -, h3, h7, -⟩, hp, hD, -⟩ := hI.1
  have e7 : nI (g 7) = (1 : Int32) ↔ g 7 = 1 := nI_eq (b := 1) (by omega) (by decide)
  refine e_start rfl rfl rfl (q_67_0 ?_)
  rw [h.2.1.2.2.1]
  by_cases a7 : g 7 = 1
  · rw [if_pos (e7.mpr a7)]
    refine cli (x_isSeat h hI.1 x) (q_67_19 ?_)
    rcases bel_cases x (n := g 1) (by omega) with ⟨q1, q2⟩ | ⟨s, q1, rfl, q2, q3⟩ | ⟨k, q1, hk, rfl, q2⟩
    · rw [q2, if_pos (by decide)]
    · rw [q2, if_neg (by decide)]
      refine cli (x_placeOf h hI.1 y) (q_67_30 ?_)
      unfold aWhere
      rw [if_neg (c := g 7 = 0) (by omega)]
      rcases bel_cases y (n := g 3) (by omega) with ⟨g1, g2⟩ | ⟨b, g1, rfl, g2, g3⟩ | ⟨k, g1, hk, rfl, g2⟩
      · simp only [g2, Bool.false_eq_true, if_false]; rw [if_neg (by decide)]; trivial
      · have hpb := hp b (by omega)
        have e10 : nI (w 21 b) = (10 : Int32) ↔ w 21 b = 10 := nI_eq (b := 10) (by omega) (by decide)
        have hno := hno s b rfl (by omega) rfl (by omega)
        rw [g2, if_pos rfl, g3]
        by_cases a10 : w 21 b = 10
        · rw [if_pos (e10.mpr a10)]
          refine cli (x_heldBy h hI.1 (by omega) q1) (q_67_45 ?_)
          have : many g w s = g 8 := by
            unfold giveB at hno
            simpa [a7, q1, g1, a10] using hno
          rw [h.2.1.2.2.2.1, if_neg (by rw [this]; exact nI_nlt (Nat.le_refl _) (by have := hg.2.2.2.2.1; omega))]
        · rw [if_neg (fun z => a10 (e10.mp z))]
      · simp only [g2, Bool.false_eq_true, if_false]; rw [if_neg (by decide)]; trivial
    · rw [q2, if_pos (by decide)]
  · rw [if_neg (fun z => a7 (e7.mp z))]
theorem x_give_yes (h : RT g w L σ α) (hR : RS g w L σ α) (hI : IN g w) {s b : Nat} (hB : giveB g w s b = true) : ∃ σ' α', Ev sc (d + 4) 67 [.ref 0, .int (nI s), .int (nI b)] (mem L σ α τ β γ) (some (.int (nI (many g (tw w 21 b s) s))), mem L σ' α' τ β γ) ∧ RT g (tw w 21 b s) L σ' α' ∧ RS g (tw w 21 b s) L σ' α' ∧ (∀ j, 13 ≤ j → σ' j = σ j) ∧ (∀ c, 14 ≤ c → α' c = α c) := by
  have hI' := IN_give hI hB
  have hg := IN_Bd hI
  obtain ⟨⟨h1, -, h3, h7, -⟩, hp, hD, -⟩ := hI.1
  have hB' := hB
  unfold giveB at hB'
  simp only [Bool.and_eq_true, decide_eq_true_eq] at hB'
  obtain ⟨a7, hs, hb, a10, am⟩ := hB'
  have e7 : nI (g 7) = (1 : Int32) ↔ g 7 = 1 := nI_eq (b := 1) (by omega) (by decide)
  have hle := (hD (by omega)).2.2.2 s hs
  have hG := RT_give h h1 h3.2 (by omega) hs hb a10
  have hT := x_take (sc := sc) (d := d) (τ := τ) (β := β) (γ := γ) h h1 h3.2 (by omega) hs hb a10
  refine ⟨_, _, e_start rfl rfl rfl (q_67_0 ?_), hG, RS_keep hR ⟨rfl, rfl, rfl⟩ (by simp [tw, va_up]) ⟨pk_un (by decide), pk_un (by decide)⟩ (by simp [va_up]), fun j hj => pk_un (by omega), fun c hc => by simp only [va_up]; rw [if_neg (by omega), if_neg (by omega)]⟩
  rw [h.2.1.2.2.1, if_pos (e7.mpr a7)]
  refine cli (x_isSeat h hI.1 _) (q_67_19 ?_)
  rw [bel_nI (by omega) (by omega), decide_eq_true hs, if_neg (by decide)]
  refine cli (x_placeOf h hI.1 _) (q_67_30 ?_)
  unfold aWhere
  rw [if_neg (c := g 7 = 0) (by omega), bel_nI (by omega) (by omega), decide_eq_true hb, if_pos rfl, cl_nI (by omega), a10, if_pos (by decide)]
  refine cli (x_heldBy h hI.1 (by omega) hs) (q_67_45 ?_)
  rw [h.2.1.2.2.2.1, if_pos (nI_lt (by omega) (by have := hg.2.2.2.2.1; omega))]
  refine clv hT (q_67_66 ?_)
  exact cli (x_heldBy hG hI'.1 (by omega) hs) (q_67_74 rfl)
theorem x_shuffle_no (h : RT g w L σ α) (hI : IN g w) (x : Int64) (hc : ¬ g 7 = 1) : Ev sc (d + 5) 68 [.ref 0, .long x] (mem L σ α τ β γ) (some (.int 0), mem L σ α τ β γ) := by
  have h7 := hI.1.1.2.2.2.1
  have e7 : nI (g 7) = (1 : Int32) ↔ g 7 = 1 := nI_eq (b := 1) (by omega) (by decide)
  refine e_start rfl rfl rfl (q_68_0 ?_)
  rw [h.2.1.2.2.1, if_neg (fun z => hc (e7.mp z))]
theorem x_shuffle_yes (h : RT g w L σ α) (hR : RS g w L σ α) (hI : IN g w) (x : Int64) (h7 : g 7 = 1) : ∃ σ' α', Ev sc (d + 5) 68 [.ref 0, .long x] (mem L σ α τ β γ) (some (.int 1), mem L σ' α' τ β γ) ∧ RT g (shW g w x) L σ' α' ∧ RS g (shW g w x) L σ' α' ∧ (∀ j, 13 ≤ j → σ' j = σ j) ∧ (∀ c, 14 ≤ c → α' c = α c) := by
  obtain ⟨σ', α', hE, hT, f1, f2⟩ := x_dealOut (sc := sc) (d := d) (τ := τ) (β := β) (γ := γ) h hI h7 x
  refine ⟨σ', α', e_start rfl rfl rfl (q_68_0 ?_), hT, RS_keep hR ⟨rfl, rfl, rfl⟩ (by simp [shW, va_up]) ⟨f1 0 (by omega), f1 1 (by omega)⟩ (f2 13 (by omega)), fun j hj => f1 j (by omega), fun c hc => f2 c (by omega)⟩
  rw [h.2.1.2.2.1, h7, if_pos (by decide)]
  exact clv hE (q_68_21 rfl)
theorem x_begin_no (h : RT g w L σ α) (hI : IN g w) (x : Int32) (hno : ∀ s, x = nI s → s < 2 ^ 31 → beginB g w s = false) : Ev sc (d + 5) 69 [.ref 0, .int x] (mem L σ α τ β γ) (some (.int 0), mem L σ α τ β γ) := by
  obtain ⟨⟨h1, -, h3, h7, -⟩, -⟩ := hI.1
  have e7 : nI (g 7) = (1 : Int32) ↔ g 7 = 1 := nI_eq (b := 1) (by omega) (by decide)
  refine e_start rfl rfl rfl (q_69_0 ?_)
  rw [h.2.1.2.2.1]
  by_cases a7 : g 7 = 1
  · rw [if_pos (e7.mpr a7)]
    refine cli (x_isSeat h hI.1 x) (q_69_19 ?_)
    rcases bel_cases x (n := g 1) (by omega) with ⟨q1, q2⟩ | ⟨s, q1, rfl, q2, q3⟩ | ⟨k, q1, hk, rfl, q2⟩
    · rw [q2, if_pos (by decide)]
    · rw [q2, if_neg (by decide)]
      refine cli (x_isDealt h hI.1 (by omega)) (q_69_29 ?_)
      have hno := hno s rfl (by omega)
      unfold beginB at hno
      simp only [a7, q1, decide_true, Bool.true_and] at hno
      rw [hno, if_pos (by decide)]
    · rw [q2, if_pos (by decide)]
  · rw [if_neg (fun z => a7 (e7.mp z))]
theorem x_begin_yes (h : RT g w L σ α) (hR : RS g w L σ α) (hI : IN g w) {s : Nat} (hB : beginB g w s = true) : ∃ σ', Ev sc (d + 5) 69 [.ref 0, .int (nI s)] (mem L σ α τ β γ) (some (.int 1), mem L σ' α τ β γ) ∧ RT (bgG g s) w L σ' α ∧ RS (bgG g s) w L σ' α ∧ (∀ j, 13 ≤ j → σ' j = σ j) := by
  obtain ⟨⟨h1, -, h3, h7, -⟩, -⟩ := hI.1
  unfold beginB at hB
  simp only [Bool.and_eq_true, decide_eq_true_eq] at hB
  obtain ⟨a7, hs, hc⟩ := hB
  obtain ⟨z23, z24, -, -⟩ := hI.2.2.1 (by omega)
  refine ⟨upd (upd (upd σ 4 2) 7 (nI s)) 1 (σ 1 + 1), e_start rfl rfl rfl (q_69_0 ?_), ?_, ?_, fun j hj => by rw [pk_un (by omega), pk_un (by omega), pk_un (by omega)]⟩
  · rw [h.2.1.2.2.1, a7, if_pos (by decide)]
    refine cli (x_isSeat h hI.1 _) (q_69_19 ?_)
    rw [bel_nI (by omega) (by omega), decide_eq_true hs, if_neg (by decide)]
    refine cli (x_isDealt h hI.1 (by omega)) (q_69_29 ?_)
    rw [decide_eq_true hc, if_neg (by decide)]
    exact clv (e_start rfl rfl rfl (q_27_0 rfl)) (q_69_42 rfl)
  · have n2 : (2 : Int32) = nI 2 := rfl
    have h0 : RT g w L (upd σ 1 (σ 1 + 1)) α := by
      obtain ⟨l, s, k6, r⟩ := h
      refine ⟨l, ?_, ?_, r⟩
      · simpa [upd] using s
      · simpa [upd] using k6
    refine RT_ch h0 (by simp [bgG, va_up]) (by omega) (by simp [bgG, va_up]) (fun _ _ => rfl) (fun k a b c e => ?_) ?_ ?_ ?_ ?_
    · by_cases q : k = 1
      · subst q; simp [upd]
      · simp [upd, a, b, q]
    · simp [upd, bgG, va_up, n2]
    · simp [upd, bgG, va_up]
    · simp [upd, bgG, va_up]; exact h.2.1.2.2.2.2.2.1
    · simp [upd, bgG, va_up]; exact h.2.1.2.2.2.2.2.2.1
  · obtain ⟨r1, r2, r3, r4⟩ := hR
    refine ⟨by simpa [bgG, va_up] using r1, by simpa [bgG, va_up, upd] using r2, ?_, by simpa [bgG, va_up] using r4⟩
    simp [bgG, va_up, upd, r3]; exact nI_1 _
end XI
