/-! the class: a turn is skipped, a turn is undone -/
section XF
variable {sc : Nat × (Nat → Int32)} {d : Nat} {L : Nat → Nat} {σ : Nat → Int32} {α : Nat → Nat → Int32} {τ : Nat → Int32} {β : Nat → Nat → Int32} {γ : Nat → Nat → Int64} {g : Nat → Nat} {w : Nat → Nat → Nat}
/-- a hand that is stuck ends -/
theorem x_finishStuck (h : RT g w L σ α) (hB : Bs g w) (h7 : 1 ≤ g 7) : ∃ x y, Ev sc (d + 5) 38 [.ref 1] (mem L σ α τ β γ) (none, mem L (upd (upd (upd (upd σ 4 3) 7 (-1)) 8 x) 9 y) α τ β γ) ∧ x = mI (stk g w (sides (g 1))).2 ∧ y = nI (if (stk g w (sides (g 1))).2 = 0 then 0 else oth g w ((stk g w (sides (g 1))).2 - 1) - (stk g w (sides (g 1))).1) := by
  have hBd := Bs_Bd hB
  have h1 := hBd.1
  have ss := sides_le h1
  have l3 := h.1.2.2.1
  have kW := h.1.2.2.2 h7
  -- from the second side on
  have loop : ∀ m j, j + m = sides (g 1) → ∀ k, k < j → own g w k = (stk g w j).1 → (¬ (stk g w j).2 = 0 → (stk g w j).2 = k + 1) → ∃ x y, EvL sc (d + 4) me_38 6 [some (.ref 1), some (.int (nI k)), some (.int (bI (decide ((stk g w j).2 = 0)))), some (.int (nI j))] [] (mem L σ α τ β γ) 0 0 (none, mem L (upd (upd (upd (upd σ 4 3) 7 (-1)) 8 x) 9 y) α τ β γ) ∧ x = mI (stk g w (sides (g 1))).2 ∧ y = nI (if (stk g w (sides (g 1))).2 = 0 then 0 else oth g w ((stk g w (sides (g 1))).2 - 1) - (stk g w (sides (g 1))).1) := by
    intro m
    induction m with
    | zero =>
      intro j hj k hk ho hb
      have ej : j = sides (g 1) := by omega
      subst ej
      by_cases z : (stk g w (sides (g 1))).2 = 0
      · refine ⟨-1, 0, q_38_6 ?_, by rw [z, mI_0], by rw [if_pos z]; rfl⟩
        rw [l3, nI_lit, if_neg (nI_nlt (by omega) (by omega)), if_neg (by simp [z, bI])]
        exact clv (e_start rfl rfl rfl (q_37_0 rfl)) (q_38_73 (q_38_92 rfl))
      · have hb := hb z
        have so := stk_oth hBd (x := k)
        refine ⟨nI k, nI (oth g w k) - nI (own g w k), q_38_6 ?_, by rw [hb, mI_succ], by rw [if_neg z, hb, Nat.add_sub_cancel, ho, pk_sub so]⟩
        rw [l3, nI_lit, if_neg (nI_nlt (by omega) (by omega)), if_pos (by simp [z, bI])]
        exact cli (x_othersWeight h hB h7 (by omega)) (q_38_83 (cli (x_sideWeight h hB h7 (by omega)) (q_38_88 (clv (e_start rfl rfl rfl (q_37_0 rfl)) (q_38_92 rfl)))))
    | succ m ih =>
      intro j hj k hk ho hb
      have ol := own_le hBd j
      have ok := own_le hBd k
      have eL : nI (own g w j) < nI (own g w k) ↔ own g w j < own g w k := nI_ltI (by omega) (by omega)
      have eE : nI (own g w j) = nI (own g w k) ↔ own g w j = own g w k := nI_eq (by omega) (by omega)
      have es : stk g w (j + 1) = (if own g w j < (stk g w j).1 then own g w j else (stk g w j).1, if own g w j < (stk g w j).1 then j + 1 else if own g w j = (stk g w j).1 then 0 else (stk g w j).2) := rfl
      have top : ∀ {r}, EvL sc (d + 4) me_38 31 [some (.ref 1), some (.int (nI k)), some (.int (bI (decide ((stk g w j).2 = 0)))), some (.int (nI j))] [.int (nI (own g w k)), .int (nI (own g w j))] (mem L σ α τ β γ) 0 0 r → EvL sc (d + 4) me_38 6 [some (.ref 1), some (.int (nI k)), some (.int (bI (decide ((stk g w j).2 = 0)))), some (.int (nI j))] [] (mem L σ α τ β γ) 0 0 r := by
        intro r hr
        refine q_38_6 ?_
        rw [l3, nI_lit, if_pos (nI_lt (by omega) (by omega)), if_neg (nI_ne_m1 (by omega)), if_neg (in_nI (by omega) (by omega)), cl_nI (by omega), kW j (by omega)]
        exact cli (x_sideWeight h hB h7 (by omega)) hr
      have top2 : ∀ {r}, ¬ own g w j < own g w k → EvL sc (d + 4) me_38 52 [some (.ref 1), some (.int (nI k)), some (.int (bI (decide ((stk g w j).2 = 0)))), some (.int (nI j))] [.int (nI (own g w k)), .int (nI (own g w j))] (mem L σ α τ β γ) 0 0 r → EvL sc (d + 4) me_38 6 [some (.ref 1), some (.int (nI k)), some (.int (bI (decide ((stk g w j).2 = 0)))), some (.int (nI j))] [] (mem L σ α τ β γ) 0 0 r := by
        intro r c1 hr
        refine top (q_38_31 ?_)
        rw [if_neg (fun z => c1 (eL.mp z)), l3, if_neg (in_nI (by omega) (by omega)), cl_nI (by omega), kW j (by omega)]
        exact cli (x_sideWeight h hB h7 (by omega)) hr
      rw [← ho] at es
      by_cases c1 : own g w j < own g w k
      · rw [if_pos c1, if_pos c1] at es
        obtain ⟨x, y, hE, hr⟩ := ih (j + 1) (by omega) j (by omega) (by rw [es]) (fun _ => by rw [es])
        refine ⟨x, y, top (q_38_31 ?_), hr⟩
        rw [if_pos (eL.mpr c1), nI_1]
        rw [es] at hE
        exact hE
      · rw [if_neg c1, if_neg c1] at es
        by_cases c2 : own g w j = own g w k
        · rw [if_pos c2] at es
          obtain ⟨x, y, hE, hr⟩ := ih (j + 1) (by omega) k (by omega) (by rw [es]) (fun z => by rw [es] at z; exact absurd rfl z)
          refine ⟨x, y, top2 c1 (q_38_52 ?_), hr⟩
          rw [if_pos (eE.mpr c2), nI_1]
          rw [es] at hE
          exact hE
        · rw [if_neg c2] at es
          obtain ⟨x, y, hE, hr⟩ := ih (j + 1) (by omega) k (by omega) (by rw [es]) (fun z => by rw [es] at z ⊢; exact hb z)
          refine ⟨x, y, top2 c1 (q_38_52 ?_), hr⟩
          rw [if_neg (fun z => c2 (eE.mp z)), nI_1]
          rw [es] at hE
          exact hE
  have ol := own_le hBd 0
  have es : stk g w 1 = (own g w 0, 1) := by
    show (if own g w 0 < 1000000000 then own g w 0 else 1000000000, if own g w 0 < 1000000000 then 0 + 1 else if own g w 0 = 1000000000 then 0 else 0) = _
    rw [if_pos (by omega), if_pos (by omega)]
  obtain ⟨x, y, hE, hr⟩ := loop (sides (g 1) - 1) 1 (by omega) 0 (by omega) (by rw [es]) (fun _ => by rw [es])
  rw [es] at hE
  refine ⟨x, y, e_start rfl rfl rfl (q_38_0 (q_38_6 ?_)), hr⟩
  rw [l3, nI_lit, show (0 : Int32) = nI 0 from rfl, if_pos (nI_lt (by omega) (by omega)), if_pos rfl, nI_1]
  exact hE
theorem wrW_n (g : Nat → Nat) (w : Nat → Nat → Nat) (f : Nat) : wrW g w 0 0 f 25 (g 22) = g 9 ∧ wrW g w 0 0 f 26 (g 22) = 0 ∧ wrW g w 0 0 f 27 (g 22) = 0 ∧ wrW g w 0 0 f 28 (g 22) = lp g w ∧ wrW g w 0 0 f 29 (g 22) = rp g w ∧ wrW g w 0 0 f 30 (g 22) = f := by simp [wrW, tw, va_up]
theorem wrW_l (g : Nat → Nat) (w : Nat → Nat → Nat) (f : Nat) {t : Nat} (ht : t < g 22) : wrW g w 0 0 f 25 t = w 25 t ∧ wrW g w 0 0 f 26 t = w 26 t ∧ wrW g w 0 0 f 27 t = w 27 t ∧ wrW g w 0 0 f 28 t = w 28 t ∧ wrW g w 0 0 f 29 t = w 29 t ∧ wrW g w 0 0 f 30 t = w 30 t := by
  have : ¬ t = g 22 := by omega
  simp [wrW, tw, va_up, this]
theorem RT_skip (h : RT g w L σ α) {f : Nat} {op : Int32} (hop : ∀ i, i < 32 → bt op i = (decide (i < g 3) && (hs i (lp g w) || hs i (rp g w)))) : RT (va_up (wrG g) 9 (g 9)) (wrW g w 0 0 f) L (upd σ 12 (nI (g 22) + 1)) (va_up (va_up (va_up (va_up (va_up α 6 (upd (α 6) (g 22) (nI (g 9)))) 7 (upd (α 7) (g 22) (-1))) 8 (upd (α 8) (g 22) (-1))) 9 (upd (α 9) (g 22) op)) 10 (upd (α 10) (g 22) (nI f))) := by
  have V : ∀ k, k ≠ 22 → va_up (wrG g) 9 (g 9) k = g k := fun k a => by
    by_cases z : k = 9
    · simp [va_up, z]
    · rw [show va_up (wrG g) 9 (g 9) k = wrG g k by simp [va_up, z]]; exact wrG_v g a z
  have V22 : va_up (wrG g) 9 (g 9) 22 = g 22 + 1 := by simp [va_up, wrG]
  obtain ⟨⟨l0, l1, lW, kW⟩, ⟨s2, s3, s4, s5, s7, s8, s9, s10, s11, s12⟩, k6, kh, kr, kt, kb⟩ := h
  have W21 : wrW g w 0 0 f 21 = w 21 := by simp [wrW, tw, va_up]
  have W23 : wrW g w 0 0 f 23 = w 23 := by simp [wrW, tw, va_up]
  have W24 : wrW g w 0 0 f 24 = w 24 := by simp [wrW, tw, va_up]
  refine ⟨⟨by rw [V 1 (by decide)]; exact l0, by rw [V 3 (by decide)]; exact l1, by rw [V 1 (by decide)]; exact lW, fun q s hs' => by rw [V 7 (by decide)] at q; rw [V 1 (by decide)] at hs'; rw [own_same (V 1 (by decide)) (V 3 (by decide)) (fun i _ => by rw [W21])]; simpa [va_up] using kW q s hs'⟩, ⟨?_, ?_, ?_, ?_, ?_, ?_, ?_, ?_, ?_, ?_⟩, ?_, ?_, ?_, ?_, ?_⟩
  · rw [pk_un (by decide), V 1 (by decide)]; exact s2
  · rw [pk_un (by decide), V 3 (by decide)]; exact s3
  · rw [pk_un (by decide), V 7 (by decide)]; exact s4
  · rw [pk_un (by decide), V 8 (by decide)]; exact s5
  · rw [pk_un (by decide), V 7 (by decide), V 9 (by decide)]; exact s7
  · rw [pk_un (by decide), V 23 (by decide)]; exact s8
  · rw [pk_un (by decide), V 24 (by decide)]; exact s9
  · rw [pk_un (by decide), V 14 (by decide), V 15 (by decide)]; exact s10
  · rw [pk_un (by decide), V 14 (by decide), V 15 (by decide)]; exact s11
  · rw [pk_us, V22]; exact nI_1 _
  · rw [pk_un (by decide), V 7 (by decide), V 3 (by decide), W21]; exact k6
  · rw [V 1 (by decide), V 7 (by decide), V 3 (by decide), W21]
    intro s hs' i hi
    simpa [va_up] using kh s hs' i hi
  · rw [V 14 (by decide), V 15 (by decide), W23, W24]
    intro i a b
    simpa [va_up] using kr i a b
  · rw [V22, V 3 (by decide)]
    intro t ht
    by_cases q : t = g 22
    · subst q
      obtain ⟨n1, n2, n3, n4, n5, n6⟩ := wrW_n g w f
      rw [n1, n2, n3, n4, n5, n6, mI_0]
      refine ⟨by simp [va_up, upd], by simp [va_up, upd], by simp [va_up, upd], by simp [va_up, upd], fun i hi => ?_⟩
      simp only [va_up, upd, show ((9 : Nat) = 10) = False by simp, if_true, if_false, decide_true, Bool.true_and]
      exact hop i hi
    · obtain ⟨n1, n2, n3, n4, n5, n6⟩ := wrW_l g w f (t := t) (by omega)
      rw [n1, n2, n3, n4, n5, n6]
      have := kt t (by omega)
      simpa [va_up, upd, q] using this
  · rw [V 3 (by decide)]
    intro p hp i hi
    simpa [va_up] using kb p hp i hi
theorem x_skip (h : RT g w L σ α) (hI : IN g w) (h7 : g 7 = 2) (hne : ¬ g 14 = g 15) : ∃ σ' α', Ev sc (d + 6) 33 [.ref 1] (mem L σ α τ β γ) (none, mem L σ' α' τ β γ) ∧ RT (tG (wrG g) (wrW g w 0 0 (if canA g w (g 9) then 1 else 0))) (wrW g w 0 0 (if canA g w (g 9) then 1 else 0)) L σ' α' ∧ (∀ k, k < 4 ∨ 13 ≤ k → σ' k = σ k) ∧ (∀ c, c = 2 ∨ 12 ≤ c → α' c = α c) := by
  obtain ⟨⟨h1, -, h3, -, h9⟩, -⟩ := hI.1
  have hBd := IN_Bd hI
  have h22 := hBd.2.2.2.2.2.2.2.2.1
  have n140 : (140 : Int32) = nI 140 := rfl
  have hf1 : (if canA g w (g 9) then 1 else 0) ≤ 1 := by split <;> omega
  have hPS := PS_wr hI h7 hne hf1
  obtain ⟨op, hEo, hop⟩ := x_openBones (sc := sc) (d := d + 2) (τ := τ) (β := β) (γ := γ) h hI.1
  have s7 : σ 7 = nI (g 9) := by rw [h.2.1.2.2.2.2.1, if_pos h7]
  have s12 := h.2.1.2.2.2.2.2.2.2.2.2
  -- the false pass
  have hlie : (α 11 (g 9) &&& op) = 0 ↔ canA g w (g 9) = false := by
    rw [b_zero_iff]
    unfold canA
    rw [decide_eq_false_iff_not, Nat.not_lt, Nat.le_zero, cn_zero]
    constructor
    · intro hh i hi
      have := hh i (by omega)
      rw [b_and, h.2.2.2.1 (g 9) h9 i (by omega), hop i (by omega)] at this
      simpa [h7, hi, fitE, hne, show (1 : Int32) ≠ 0 by decide] using this
    · intro hh i hi
      rw [b_and, h.2.2.2.1 (g 9) h9 i hi, hop i hi]
      by_cases l : i < g 3
      · have := hh i l
        simpa [h7, l, fitE, hne, show (1 : Int32) ≠ 0 by decide] using this
      · simp [l]
  have hR := RT_skip (f := if canA g w (g 9) then 1 else 0) h hop
  -- until the turn is written
  have e4 : ∀ {r}, EvL sc (d + 5) me_33 35 [some (.ref 1), none] [] (mem L (upd σ 12 (nI (g 22) + 1)) (va_up (va_up (va_up (va_up (va_up α 6 (upd (α 6) (g 22) (nI (g 9)))) 7 (upd (α 7) (g 22) (-1))) 8 (upd (α 8) (g 22) (-1))) 9 (upd (α 9) (g 22) op)) 10 (upd (α 10) (g 22) (nI (if canA g w (g 9) then 1 else 0)))) τ β γ) 0 0 r → Ev sc (d + 6) 33 [.ref 1] (mem L σ α τ β γ) r := by
    intro r hr
    refine e_start rfl rfl rfl (q_33_0 (cli hEo (q_33_4 ?_)))
    rw [s7]
    refine cli (x_hand h hI.1 h9) (q_33_22 ?_)
    have ap : ∀ (c : Bool), nI (if c then 1 else 0) = vp_nar .boolean (bI c) := by decide
    rw [ap] at hr
    cases hca : canA g w (g 9) with
    | false =>
      rw [if_pos (hlie.mpr hca)]
      rw [hca] at hr
      refine clv (e_start rfl rfl rfl (q_56_0 ?_)) hr
      rw [s12, if_neg (nI_pos (by omega)), n140, if_pos (nI_lt (by omega) (by omega)), cl_nI (by omega), if_neg (in_cl (by omega) (by decide)), if_neg (in_cl (by omega) (by decide)), if_neg (in_cl (by omega) (by decide)), if_neg (in_cl (by omega) (by decide)), if_neg (in_cl (by omega) (by decide))]
      rfl
    | true =>
      rw [if_neg (fun z => by have := hlie.mp z; rw [hca] at this; cases this)]
      rw [hca] at hr
      refine clv (e_start rfl rfl rfl (q_56_0 ?_)) hr
      rw [s12, if_neg (nI_pos (by omega)), n140, if_pos (nI_lt (by omega) (by omega)), cl_nI (by omega), if_neg (in_cl (by omega) (by decide)), if_neg (in_cl (by omega) (by decide)), if_neg (in_cl (by omega) (by decide)), if_neg (in_cl (by omega) (by decide)), if_neg (in_cl (by omega) (by decide))]
      rfl
  have fr1 : ∀ k, k < 4 ∨ 13 ≤ k → upd σ 12 (nI (g 22) + 1) k = σ k := fun k hk => pk_un (by omega)
  have fr2 : ∀ c, c = 2 ∨ 12 ≤ c → (va_up (va_up (va_up (va_up (va_up α 6 (upd (α 6) (g 22) (nI (g 9)))) 7 (upd (α 7) (g 22) (-1))) 8 (upd (α 8) (g 22) (-1))) 9 (upd (α 9) (g 22) op)) 10 (upd (α 10) (g 22) (nI (if canA g w (g 9) then 1 else 0)))) c = α c := fun c hc => by
    simp only [va_up]
    rw [if_neg (by omega), if_neg (by omega), if_neg (by omega), if_neg (by omega), if_neg (by omega)]
  have t7 : upd σ 12 (nI (g 22) + 1) 7 = nI (g 9) := by rw [pk_un (by decide), s7]
  have t2 : upd σ 12 (nI (g 22) + 1) 2 = nI (g 1) := by rw [pk_un (by decide)]; exact h.2.1.1
  generalize hσ3 : upd σ 12 (nI (g 22) + 1) = σ3 at *
  generalize hα3 : (va_up (va_up (va_up (va_up (va_up α 6 (upd (α 6) (g 22) (nI (g 9)))) 7 (upd (α 7) (g 22) (-1))) 8 (upd (α 8) (g 22) (-1))) 9 (upd (α 9) (g 22) op)) 10 (upd (α 10) (g 22) (nI (if canA g w (g 9) then 1 else 0)))) = α3 at *
  have G1 := wrG_v g (k := 1) (by decide) (by decide)
  have G7 := wrG_v g (k := 7) (by decide) (by decide)
  have G22 : wrG g 22 = g 22 + 1 := by simp [wrG, va_up]
  have G9 : wrG g 9 = (g 9 + 1) % g 1 := by simp [wrG, va_up]
  obtain ⟨n25, n26, -⟩ := wrW_n g w (if canA g w (g 9) then 1 else 0)
  have hmn : many (wrG g) (wrW g w 0 0 (if canA g w (g 9) then 1 else 0)) (g 9) = many g w (g 9) := many_same (wrG_v g (by decide) (by decide)) (fun i _ => by simp [wrW, tw, va_up]) _
  have hm1 := (hI.2.2.2.1 h7).2 (g 9) h9
  generalize hGe : wrG g = G at *
  generalize hWe : wrW g w 0 0 (if canA g w (g 9) then 1 else 0) = W at *
  have hB0 : Bs (va_up G 9 (g 9)) W := Bs_keep hPS.1 (fun k _ _ _ _ _ a => by simp [va_up, a]) (by omega) (by simp [va_up]; omega) (by simp [va_up]; omega) (fun _ _ => rfl)
  have h70 : 1 ≤ va_up G 9 (g 9) 7 := by simp [va_up]; omega
  have eout : outB G W = false := by unfold outB; rw [G22, Nat.add_sub_cancel, n25]; exact decide_eq_false (by omega)
  have eo : overB G W = decide (g 1 ≤ tp W (g 22 + 1)) := by unfold overB; rw [eout, Bool.false_or, G1, G22]
  have hpe := x_passesAtEnd (sc := sc) (d := d + 2) (τ := τ) (β := β) (γ := γ) hR hB0
  rw [show va_up G 9 (g 9) 22 = g 22 + 1 by simp [va_up, G22]] at hpe
  have htp := tp_le W (g 22 + 1)
  have estk : ∀ s, stk (va_up G 9 (g 9)) W s = stk G W s := by
    intro s
    induction s with
    | zero => rfl
    | succ s ih => simp only [stk]; rw [ih, (ov_9 s).1]
  by_cases hst : g 1 ≤ tp W (g 22 + 1)
  · have ho : overB G W = true := by rw [eo, decide_eq_true hst]
    have e1 : va_up G 9 (g 9) 1 = G 1 := by simp [va_up]
    obtain ⟨x, y, hE, hx, hy⟩ := x_finishStuck (sc := sc) (d := d) (τ := τ) (β := β) (γ := γ) hR hB0 h70
    rw [e1, estk] at hx
    rw [e1, estk, (ov_9 _).2.1] at hy
    have eT : overT G W = (stk G W (sides (G 1))).2 := by unfold overT; rw [eout]; rfl
    have eP : overP G W = (if (stk G W (sides (G 1))).2 = 0 then 0 else oth G W ((stk G W (sides (G 1))).2 - 1) - (stk G W (sides (G 1))).1) := by unfold overP; rw [eout]; rfl
    refine ⟨upd (upd (upd (upd σ3 4 3) 7 (-1)) 8 x) 9 y, α3, e4 (q_33_35 (cli hpe (q_33_42 ?_))), ?_, fun k hk => by rw [pk_un (by omega), pk_un (by omega), pk_un (by omega), pk_un (by omega)]; exact fr1 k hk, fr2⟩
    · rw [t2, if_neg (nI_nlt hst (by omega))]
      exact clv hE (q_33_53 rfl)
    · have tk : ∀ k, tG G W k = va_up (va_up (va_up G 7 3) 23 (overT G W)) 24 (overP G W) k := fun k => by unfold tG; rw [if_pos ho]
      refine RT_ch hR (by simp [tk, va_up]) h70 (by simp [tk, va_up]) (fun _ _ => rfl) (fun k a b c e => by rw [pk_un e, pk_un c, pk_un b, pk_un a]) ?_ ?_ ?_ ?_
      · simp [upd, tk, va_up]; rfl
      · simp [upd, tk, va_up]
      · simp [upd, tk, va_up, eT, hx]
      · simp [upd, tk, va_up, eP, hy]
  · have ho : overB G W = false := by rw [eo, decide_eq_false hst]
    have hsb := x_seatBehind (sc := sc) (d := d + 4) (τ := τ) (β := β) (γ := γ) hR hB0 (s := g 9) (by simp [va_up]; omega)
    rw [show va_up G 9 (g 9) 1 = g 1 by simp [va_up, G1]] at hsb
    refine ⟨upd σ3 7 (nI ((g 9 + 1) % g 1)), α3, e4 (q_33_35 (cli hpe (q_33_42 ?_))), ?_, fun k hk => by rw [pk_un (by omega)]; exact fr1 k hk, fr2⟩
    · rw [t2, if_pos (nI_lt (by omega) (by omega)), t7]
      exact cli hsb (q_33_65 rfl)
    · have tk : tG G W = G := by unfold tG; rw [ho]; rfl
      rw [tk]
      obtain ⟨-, ⟨-, -, q4, -, -, q8, q9, -⟩, -⟩ := id hR
      refine RT_ch hR (by simp [va_up]) h70 (by omega) (fun _ _ => rfl) (fun k a b c e => by rw [pk_un b]) ?_ ?_ ?_ ?_
      · rw [pk_un (by decide), q4]; simp [va_up]
      · rw [pk_us, G7, if_pos h7, G9]
      · rw [pk_un (by decide), q8]; simp [va_up]
      · rw [pk_un (by decide), q9]; simp [va_up]
end XF
