/-! the class looks ahead -/
theorem wf_ch {f : Nat → Int32 × Nat} {own : Bool} {pl : Nat → Bool} : ∀ n, (wf f own pl n = (false, 0, 0, -1)) ∨ ((wf f own pl n).1 = true ∧ ∃ q, q < n ∧ (wf f own pl n).2.2.2 = nI q)
  | 0 => Or.inl rfl
  | n + 1 => by
    have ih := wf_ch (f := f) (own := own) (pl := pl) n
    simp only [wf]
    by_cases hpl : pl n = true
    · rw [if_pos hpl]
      by_cases c : (wf f own pl n).1 = false ∨ (if own = true then (wf f own pl n).2.1 < (f n).1 else (f n).1 < (wf f own pl n).2.1)
      · rw [if_pos c]; exact Or.inr ⟨rfl, n, by omega, rfl⟩
      · rw [if_neg c]
        rcases ih with h | ⟨h, q, h1, h2⟩
        · exact absurd (Or.inl (by rw [h])) c
        · exact Or.inr ⟨h, q, by omega, h2⟩
    · rw [if_neg hpl]
      rcases ih with h | ⟨h, q, h1, h2⟩
      · exact Or.inl h
      · exact Or.inr ⟨h, q, by omega, h2⟩
theorem no_canA {g : Nat → Nat} {w : Nat → Nat → Nat} (h7 : g 7 = 2) (hne : ¬ g 14 = g 15) (hno : ∀ p, p < 2 * g 3 → plB g w p = false) : canA g w (g 9) = false := by
  unfold canA
  apply decide_eq_false
  have : cn (fun b => decide (w 21 b = g 9) && (fitE g w b 0 || fitE g w b 1)) (g 3) = 0 := by
    rw [cn_zero]
    intro b hb
    by_cases c : w 21 b = g 9
    · have a0 := hno (2 * b) (by omega)
      have a1 := hno (2 * b + 1) (by omega)
      unfold plB canE at a0 a1
      rw [show 2 * b / 2 = b by omega, show 2 * b % 2 = 0 by omega] at a0
      rw [show (2 * b + 1) / 2 = b by omega, show (2 * b + 1) % 2 = 1 by omega] at a1
      have n0 : nI 0 = 0 := rfl
      have n1 : nI 1 = 1 := rfl
      rw [n0] at a0
      rw [n1] at a1
      simp [h7, hb, c, hne] at a0 a1
      simp [a0, a1]
    · simp [c]
  omega
section TD
variable {sc : Nat × (Nat → Int32)} {d : Nat} {L : Nat → Nat} {τ : Nat → Int32} {β : Nat → Nat → Int32} {γ : Nat → Nat → Int64} {a : Nat}
theorem x_worthFor (ha : a < 4) {g : Nat → Nat} {w : Nat → Nat → Nat} {σ : Nat → Int32} {α : Nat → Nat → Int32} (h : RT (tG g w) w L σ α) (hP : PS g w) : Ev sc (d + 5) 39 [.ref 1, .int (nI a)] (mem L σ α τ β γ) (some (.int (if overB g w = true then wOv g w a else nI (oth g w a) - nI (own g w a))), mem L σ α τ β γ) := by
  have hT := overT_le (PS_Bd hP) hP.2.2.1
  refine e_start rfl rfl rfl (q_39_0 ?_)
  by_cases ho : overB g w = true
  · have h4 : σ 4 = 3 := by rw [h.2.1.2.2.1, tG_7 hP.2.1, if_pos ho]; rfl
    have h8 : σ 8 = mI (overT g w) := by rw [h.2.1.2.2.2.2.2.1]; unfold tG; rw [if_pos ho]; simp [va_up]
    have h9 : σ 9 = nI (overP g w) := by rw [h.2.1.2.2.2.2.2.2.1]; unfold tG; rw [if_pos ho]; simp [va_up]
    have e1 : mI (overT g w) = nI a ↔ overT g w = a + 1 := by rw [← mI_succ]; exact mI_inj (by omega) (by omega)
    have e2 : mI (overT g w) = -1 ↔ overT g w = 0 := mI_eq_m1 (by omega)
    rw [h4, if_pos rfl, h8, h9, if_pos (c := overB g w = true) ho]
    unfold wOv
    by_cases z : overT g w = 0
    · rw [if_pos (e2.mpr z), if_pos z]
    · rw [if_neg (fun q => z (e2.mp q)), if_neg z]
      by_cases z2 : overT g w = a + 1
      · rw [if_pos (e1.mpr z2), if_pos z2]
      · rw [if_neg (fun q => z2 (e1.mp q)), if_neg z2]
  · have e : tG g w = g := by unfold tG; rw [if_neg ho]
    rw [e] at h
    rw [h.2.1.2.2.1, hP.2.1, if_neg (by decide), if_neg (c := overB g w = true) ho]
    exact cli (x_othersWeight h hP.1 (by rw [hP.2.1]; decide) (by omega)) (q_39_13 (cli (x_sideWeight h hP.1 (by rw [hP.2.1]; decide) (by omega)) (q_39_18 rfl)))
theorem x_best (ha : a < 4) : ∀ (n : Nat), n ≤ 4 → ∀ (root : Bool) (g : Nat → Nat) (w : Nat → Nat → Nat) (σ : Nat → Int32) (α : Nat → Nat → Int32) (md : Nat), RT (if root = true then g else tG g w) w L σ α → (root = true → IN g w ∧ g 7 = 2 ∧ 0 < n) → (root = false → PS g w) → σ 13 = nI a → σ 14 = nI md → ∃ σ' α', Ev sc (d + 2 * n + 7) 11 [.ref 20, .int (nI n)] (mem L σ α τ β γ) (some (.int (wv a n root g w).1), mem L σ' α' τ β γ) ∧ RT (if root = true then g else tG g w) w L σ' α' ∧ σ' 13 = nI a ∧ σ' 14 = nI (md + (wv a n root g w).2.1) ∧ (root = true → σ' 15 = (wv a n root g w).2.2) ∧ (∀ k, k < 4 ∨ 16 ≤ k → σ' k = σ k) ∧ (∀ c, c = 2 ∨ 12 ≤ c → α' c = α c) := by
  intro n
  induction n with
  | zero =>
    intro _ root g w σ α md h hrt hpt h13 h14
    have hroot : root = false := by cases root with
      | false => rfl
      | true => have := (hrt rfl).2.2; omega
    subst hroot
    have hPS := hpt rfl
    have hT : RT (tG g w) w L σ α := h
    refine ⟨σ, α, e_start rfl rfl rfl (q_11_0 ?_), h, h13, ?_, (fun q => by cases q), fun _ _ => rfl, fun _ _ => rfl⟩
    · rw [if_neg (show ¬ (0 : Int32) < nI 0 by decide), h13]
      refine cli (x_worthFor ha hT hPS) (q_11_31 ?_)
      cases ho : overB g w <;> simp [wv, ho]
    · rw [h14]; congr 1; cases ho : overB g w <;> simp [wv, ho]
  | succ n ih =>
    intro hn4 root g w σ α md h hrt hpt h13 h14
    have ih := ih (by omega)
    have ede : d + 2 * (n + 1) + 7 = (d + 2 * n + 7) + 1 + 1 := by omega
    rw [ede]
    have n2 : (2 : Int32) = nI 2 := rfl
    have f1 : (0 : Int32) < nI (n + 1) := nI_lt (a := 0) (by omega) (by omega)
    have f4 : ¬ (4 : Int32) < nI (n + 1) := nI_nlt (a := 4) (by omega) (by decide)
    have walk : IN g w → g 7 = 2 → RT g w L σ α → (!root && overB g w) = false → ∃ σ' α', EvL sc (d + 2 * n + 7 + 1) me_11 0 [some (.ref 20), some (.int (nI (n + 1))), none, none, none, none, none, none, none] [] (mem L σ α τ β γ) 0 0 (some (.int (wv a (n + 1) root g w).1), mem L σ' α' τ β γ) ∧ RT g w L σ' α' ∧ σ' 13 = nI a ∧ σ' 14 = nI (md + (wv a (n + 1) root g w).2.1) ∧ (root = true → σ' 15 = (wv a (n + 1) root g w).2.2) ∧ (∀ k, k < 4 ∨ 16 ≤ k → σ' k = σ k) ∧ (∀ c, c = 2 ∨ 12 ≤ c → α' c = α c) := by
      intro hIN h7 hT0 hnov
      have hg := IN_Bd hIN
      obtain ⟨hS, -, ⟨-, h3⟩, -, -, h9, -, hrow, h22, -⟩ := id hg
      have ev : wv a (n + 1) root g w = if (wf (fun p => ((wv a n false (mpG g (p % 2)) (mpW g w (p / 2) (p % 2))).1, (wv a n false (mpG g (p % 2)) (mpW g w (p / 2) (p % 2))).2.1)) (decide (side (g 1) (g 9) = a)) (plB g w) (2 * g 3)).1 = true then (wf (fun p => ((wv a n false (mpG g (p % 2)) (mpW g w (p / 2) (p % 2))).1, (wv a n false (mpG g (p % 2)) (mpW g w (p / 2) (p % 2))).2.1)) (decide (side (g 1) (g 9) = a)) (plB g w) (2 * g 3)).2
      else ((wv a n false (wrG g) (wrW g w 0 0 0)).1, (wf (fun p => ((wv a n false (mpG g (p % 2)) (mpW g w (p / 2) (p % 2))).1, (wv a n false (mpG g (p % 2)) (mpW g w (p / 2) (p % 2))).2.1)) (decide (side (g 1) (g 9) = a)) (plB g w) (2 * g 3)).2.2.1 + 1 + (wv a n false (wrG g) (wrW g w 0 0 0)).2.1, -1) := by
        simp only [wv, hnov]; rfl
      rw [ev]
      generalize hfd : (fun p => ((wv a n false (mpG g (p % 2)) (mpW g w (p / 2) (p % 2))).1, (wv a n false (mpG g (p % 2)) (mpW g w (p / 2) (p % 2))).2.1)) = f
      have hfp : ∀ p, (wv a n false (mpG g (p % 2)) (mpW g w (p / 2) (p % 2))).1 = (f p).1 ∧ (wv a n false (mpG g (p % 2)) (mpW g w (p / 2) (p % 2))).2.1 = (f p).2 := fun p => by rw [← hfd]; exact ⟨rfl, rfl⟩
      generalize hod : decide (side (g 1) (g 9) = a) = ow
      -- a turn is made: what follows, and that it is undone
      have behind : ∀ (G : Nat → Nat) (W : Nat → Nat → Nat) (σ1 : Nat → Int32) (α1 : Nat → Nat → Int32) (m1 : Nat), RT (tG G W) W L σ1 α1 → PS G W → σ1 13 = nI a → σ1 14 = nI m1 → ∃ σ' α', Ev sc (d + 2 * n + 7 + 1) 12 [.ref 20, .int (nI (n + 1))] (mem L σ1 α1 τ β γ) (some (.int (wv a n false G W).1), mem L σ' α' τ β γ) ∧ RT (unG G W) (unW G W) L σ' α' ∧ σ' 13 = nI a ∧ σ' 14 = nI (m1 + 1 + (wv a n false G W).2.1) ∧ (∀ k, k < 4 ∨ 16 ≤ k → σ' k = σ1 k) ∧ (∀ c, c = 2 ∨ 12 ≤ c → α' c = α1 c) := by
        intro G W σ1 α1 m1 hT hPS c13 c14
        obtain ⟨σ2, α2, hE2, hT2, s13, s14, -, u1, u2⟩ := ih false G W (upd σ1 14 (σ1 14 + 1)) α1 (m1 + 1) (RT_s hT (fun k hk => pk_un (by omega))) (fun q => by cases q) (fun _ => hPS) (by rw [pk_un (by decide)]; exact c13) (by rw [pk_us, c14, nI_1])
        obtain ⟨σ3, α3, hE3, hT3, u3, u4⟩ := x_unturn (sc := sc) (d := d + 2 * n + 4) (τ := τ) (β := β) (γ := γ) (show RT (tG G W) W L σ2 α2 from hT2) hPS
        refine ⟨σ3, α3, e_start rfl rfl rfl (q_12_0 ?_), hT3, by rw [u3 13 (by omega), s13], by rw [u3 14 (by omega), s14], fun k hk => by rw [u3 k (by omega), u1 k hk, pk_un (by omega)], fun c hc => by rw [u4 c hc, u2 c hc]⟩
        rw [show nI (n + 1) - 1 = nI n from pk_sub (b := 1) (by omega)]
        exact cli hE2 (q_12_17 (cli hE3 (q_12_25 rfl)))
      obtain ⟨vl, hEl, hvl⟩ := x_playsAt (sc := sc) (d := d + 2 * n + 5) (τ := τ) (β := β) (γ := γ) hT0 hIN.1 (e := 0) (by omega)
      obtain ⟨vr, hEr, hvr⟩ := x_playsAt (sc := sc) (d := d + 2 * n + 5) (τ := τ) (β := β) (γ := γ) hT0 hIN.1 (e := 1) (by omega)
      -- the loop
      have loop : ∀ m p, p + m = 2 * g 3 → ∀ σ1 α1, RT g w L σ1 α1 → σ1 13 = nI a → σ1 14 = nI (md + (wf f ow (plB g w) p).2.2.1) → (∀ k, k < 4 ∨ 16 ≤ k → σ1 k = σ k) → (∀ c, c = 2 ∨ 12 ≤ c → α1 c = α c) → ∃ σ' α', EvL sc (d + 2 * n + 7 + 1) me_11 87 [some (.ref 20), some (.int (nI (n + 1))), some (.int (bI ow)), some (.int (wf f ow (plB g w) p).2.2.2), some (.int (wf f ow (plB g w) p).2.1), some (.int vl), some (.int vr), some (.int (nI p)), none] [] (mem L σ1 α1 τ β γ) 0 0 (some (.int (if (wf f ow (plB g w) (2 * g 3)).1 = true then (wf f ow (plB g w) (2 * g 3)).2 else ((wv a n false (wrG g) (wrW g w 0 0 0)).1, (wf f ow (plB g w) (2 * g 3)).2.2.1 + 1 + (wv a n false (wrG g) (wrW g w 0 0 0)).2.1, -1)).1), mem L σ' α' τ β γ) ∧ RT g w L σ' α' ∧ σ' 13 = nI a ∧ σ' 14 = nI (md + (if (wf f ow (plB g w) (2 * g 3)).1 = true then (wf f ow (plB g w) (2 * g 3)).2 else ((wv a n false (wrG g) (wrW g w 0 0 0)).1, (wf f ow (plB g w) (2 * g 3)).2.2.1 + 1 + (wv a n false (wrG g) (wrW g w 0 0 0)).2.1, -1)).2.1) ∧ (σ' 15 = (if (wf f ow (plB g w) (2 * g 3)).1 = true then (wf f ow (plB g w) (2 * g 3)).2 else ((wv a n false (wrG g) (wrW g w 0 0 0)).1, (wf f ow (plB g w) (2 * g 3)).2.2.1 + 1 + (wv a n false (wrG g) (wrW g w 0 0 0)).2.1, -1)).2.2) ∧ (∀ k, k < 4 ∨ 16 ≤ k → σ' k = σ k) ∧ (∀ c, c = 2 ∨ 12 ≤ c → α' c = α c) := by
        intro m
        induction m with
        | zero =>
          intro p hp σ1 α1 hT c13 c14 v1 v2
          have ep : p = 2 * g 3 := by omega
          subst ep
          rcases wf_ch (f := f) (own := ow) (pl := plB g w) (2 * g 3) with hz | ⟨hany, q, hq, hch⟩
          · have hno := wf_any (f := f) (own := ow) (pl := plB g w) (n := 2 * g 3) (by rw [hz])
            have hne := no_play hIN h7 hno
            have hcA := no_canA h7 hne hno
            obtain ⟨σ2, α2, hE2, hT2, w1, w2⟩ := x_skip (sc := sc) (d := d + 2 * n + 2) (τ := τ) (β := β) (γ := γ) hT hIN h7 hne
            rw [hcA] at hT2
            have hT2 : RT (tG (wrG g) (wrW g w 0 0 0)) (wrW g w 0 0 0) L σ2 α2 := hT2
            have hPS : PS (wrG g) (wrW g w 0 0 0) := PS_wr hIN h7 hne (by omega)
            obtain ⟨σ3, α3, hE3, hT3, s13, s14, u1, u2⟩ := behind (wrG g) (wrW g w 0 0 0) σ2 α2 (md + (wf f ow (plB g w) (2 * g 3)).2.2.1) hT2 hPS (by rw [w1 13 (by omega), c13]) (by rw [w1 14 (by omega), c14])
            have hT4 := RT_unskip hIN hT3
            refine ⟨upd σ3 15 (-1), α3, q_11_87 ?_, RT_s hT4 (fun k hk => pk_un (by omega)), by rw [pk_un (by decide)]; exact s13, ?_, ?_, fun k hk => by rw [pk_un (by omega), u1 k hk, w1 k (by omega), v1 k hk], fun c hc => by rw [u2 c hc, w2 c hc, v2 c hc]⟩
            · rw [hT.2.1.2.1, n2, pk_mul, if_neg (nI_nlt (by omega) (by omega)), hz, if_pos rfl]
              refine clv hE2 (q_11_186 (cli hE3 (q_11_191 ?_)))
              simp
            · rw [pk_un (by decide), s14, hz]; simp; rw [Nat.add_assoc]
            · rw [pk_us, hz]; simp
          · have hne : ¬ nI q = (-1 : Int32) := by
              intro z
              have := (mI_eq_m1 (n := q + 1) (by omega)).mp (by rw [mI_succ]; exact z)
              omega
            refine ⟨upd σ1 15 (wf f ow (plB g w) (2 * g 3)).2.2.2, α1, q_11_87 ?_, RT_s hT (fun k hk => pk_un (by omega)), by rw [pk_un (by decide)]; exact c13, ?_, ?_, fun k hk => by rw [pk_un (by omega), v1 k hk], v2⟩
            · rw [hT.2.1.2.1, n2, pk_mul, if_neg (nI_nlt (by omega) (by omega)), hch, if_neg hne, if_pos hany]
            · rw [pk_un (by decide), c14, if_pos hany]
            · rw [pk_us, if_pos hany]
        | succ m ihm =>
          intro p hp σ1 α1 hT c13 c14 v1 v2
          have e1 : nI p &&& 1 = nI (p % 2) := pk_andN (by omega) 1 (by decide)
          have e2 : nI p >>> ((1 : Int32) &&& 31) = nI (p / 2) := pk_shrN (n := p) (by omega) ((1 : Int32) &&& 31) 1 (by decide)
          have top : ∀ r, EvL sc (d + 2 * n + 7 + 1) me_11 110 [some (.ref 20), some (.int (nI (n + 1))), some (.int (bI ow)), some (.int (wf f ow (plB g w) p).2.2.2), some (.int (wf f ow (plB g w) p).2.1), some (.int vl), some (.int vr), some (.int (nI p)), none] [.int (bI (plB g w p))] (mem L σ1 α1 τ β γ) 0 0 r → EvL sc (d + 2 * n + 7 + 1) me_11 87 [some (.ref 20), some (.int (nI (n + 1))), some (.int (bI ow)), some (.int (wf f ow (plB g w) p).2.2.2), some (.int (wf f ow (plB g w) p).2.1), some (.int vl), some (.int vr), some (.int (nI p)), none] [] (mem L σ1 α1 τ β γ) 0 0 r := by
            intro r H
            refine q_11_87 ?_
            rw [hT.2.1.2.1, n2, pk_mul, if_pos (nI_lt (by omega) (by omega))]
            exact cli (x_isPl h3 hvl hvr (by omega)) H
          cases hpl : plB g w p with
          | false =>
            rw [hpl] at top
            have es : wf f ow (plB g w) (p + 1) = wf f ow (plB g w) p := by simp only [wf]; rw [hpl]; rfl
            have ihm := ihm (p + 1) (by omega) σ1 α1 hT c13 (by rw [es]; exact c14) v1 v2
            rw [es] at ihm
            obtain ⟨σ', α', hE, hr⟩ := ihm
            refine ⟨σ', α', top _ (q_11_110 ?_), hr⟩
            rw [if_pos (by decide), nI_1]
            exact hE
          | true =>
            rw [hpl] at top
            obtain ⟨c7, cb, cp, hc⟩ := plB_of hpl
            obtain ⟨σ2, α2, hE2, hT2, w1, w2⟩ := x_put (sc := sc) (d := d + 2 * n + 2) (τ := τ) (β := β) (γ := γ) hT hIN hc
            rw [endN_nI (by omega)] at hT2
            have hPS := PS_mp hIN (e := p % 2) c7 cb cp (by omega)
            obtain ⟨σ3, α3, hE3, hT3, s13, s14, u1, u2⟩ := behind (mpG g (p % 2)) (mpW g w (p / 2) (p % 2)) σ2 α2 (md + (wf f ow (plB g w) p).2.2.1) hT2 hPS (by rw [w1 13 (by omega), c13]) (by rw [w1 14 (by omega), c14])
            rw [(hfp p).1] at hE3
            rw [(hfp p).2] at s14
            have hT4 := RT_unplay hIN (by omega) cp hT3
            have es : wf f ow (plB g w) (p + 1) = (if (wf f ow (plB g w) p).1 = false ∨ (if ow = true then (wf f ow (plB g w) p).2.1 < (f p).1 else (f p).1 < (wf f ow (plB g w) p).2.1) then (true, (f p).1, (wf f ow (plB g w) p).2.2.1 + 1 + (f p).2, nI p) else ((wf f ow (plB g w) p).1, (wf f ow (plB g w) p).2.1, (wf f ow (plB g w) p).2.2.1 + 1 + (f p).2, (wf f ow (plB g w) p).2.2.2)) := by simp only [wf]; rw [hpl]; rfl
            have e14 : (wf f ow (plB g w) (p + 1)).2.2.1 = (wf f ow (plB g w) p).2.2.1 + 1 + (f p).2 := by rw [es]; split <;> split <;> rfl
            have ihm := ihm (p + 1) (by omega) σ3 α3 hT4 s13 (by rw [s14, e14]; congr 1; omega) (fun k hk => by rw [u1 k hk, w1 k (by omega), v1 k hk]) (fun c hc => by rw [u2 c hc, w2 c hc, v2 c hc])
            obtain ⟨σ', α', hE, hr⟩ := ihm
            refine ⟨σ', α', top _ (q_11_110 ?_), hr⟩
            rw [if_neg (by decide), e2, e1]
            refine clv hE2 (q_11_128 (cli hE3 (q_11_133 ?_)))
            rw [nI_1]
            rw [es] at hE
            have yes : ((wf f ow (plB g w) p).1 = false ∨ (if ow = true then (wf f ow (plB g w) p).2.1 < (f p).1 else (f p).1 < (wf f ow (plB g w) p).2.1)) → EvL sc (d + 2 * n + 7 + 1) me_11 87 [some (.ref 20), some (.int (nI (n + 1))), some (.int (bI ow)), some (.int (nI p)), some (.int (f p).1), some (.int vl), some (.int vr), some (.int (nI (p + 1))), none] [] (mem L σ3 α3 τ β γ) 0 0 (some (.int (if (wf f ow (plB g w) (2 * g 3)).1 = true then (wf f ow (plB g w) (2 * g 3)).2 else ((wv a n false (wrG g) (wrW g w 0 0 0)).1, (wf f ow (plB g w) (2 * g 3)).2.2.1 + 1 + (wv a n false (wrG g) (wrW g w 0 0 0)).2.1, -1)).1), mem L σ' α' τ β γ) := by
              intro c; rw [if_pos c] at hE; exact hE
            have no : ¬ ((wf f ow (plB g w) p).1 = false ∨ (if ow = true then (wf f ow (plB g w) p).2.1 < (f p).1 else (f p).1 < (wf f ow (plB g w) p).2.1)) → EvL sc (d + 2 * n + 7 + 1) me_11 87 [some (.ref 20), some (.int (nI (n + 1))), some (.int (bI ow)), some (.int (wf f ow (plB g w) p).2.2.2), some (.int (wf f ow (plB g w) p).2.1), some (.int vl), some (.int vr), some (.int (nI (p + 1))), none] [] (mem L σ3 α3 τ β γ) 0 0 (some (.int (if (wf f ow (plB g w) (2 * g 3)).1 = true then (wf f ow (plB g w) (2 * g 3)).2 else ((wv a n false (wrG g) (wrW g w 0 0 0)).1, (wf f ow (plB g w) (2 * g 3)).2.2.1 + 1 + (wv a n false (wrG g) (wrW g w 0 0 0)).2.1, -1)).1), mem L σ' α' τ β γ) := by
              intro c; rw [if_neg c] at hE; exact hE
            rcases wf_ch (f := f) (own := ow) (pl := plB g w) p with hz | ⟨hany, q, hq, hch⟩
            · rw [if_pos (by rw [hz])]
              exact yes (Or.inl (by rw [hz]))
            · have hne : ¬ (wf f ow (plB g w) p).2.2.2 = (-1 : Int32) := by
                rw [hch]
                intro z
                have := (mI_eq_m1 (n := q + 1) (by omega)).mp (by rw [mI_succ]; exact z)
                omega
              rw [if_neg hne]
              cases ow with
              | false =>
                rw [if_pos (by decide)]
                by_cases l : (f p).1 < (wf f false (plB g w) p).2.1
                · rw [if_pos l]; exact yes (Or.inr l)
                · rw [if_neg l]; exact no (fun z => z.elim (fun z => by rw [hany] at z; cases z) l)
              | true =>
                rw [if_neg (by decide)]
                by_cases l : (wf f true (plB g w) p).2.1 < (f p).1
                · rw [if_pos l]; exact yes (Or.inr l)
                · rw [if_neg l]; exact no (fun z => z.elim (fun z => by rw [hany] at z; cases z) l)
      obtain ⟨σ', α', hE, hT', s13, s14, s15, u1, u2⟩ := loop (2 * g 3) 0 (by omega) σ α hT0 h13 (by rw [h14]; rfl) (fun _ _ => rfl) (fun _ _ => rfl)
      refine ⟨σ', α', q_11_0 ?_, hT', s13, s14, fun _ => s15, u1, u2⟩
      rw [if_pos f1, if_neg f4, hT0.2.1.2.2.1, h7, if_pos (by decide), hT0.2.1.2.2.2.2.1, if_pos h7]
      refine cli (x_sideOf hT0 hIN.1 (by omega)) (q_11_46 ?_)
      have hsd : side (g 1) (g 9) < 2 ^ 31 := by unfold side; split <;> omega
      have e : nI (side (g 1) (g 9)) = nI a ↔ side (g 1) (g 9) = a := nI_eq hsd (by omega)
      rw [h13]
      by_cases q : side (g 1) (g 9) = a
      · rw [if_pos (e.mpr q)]
        rw [decide_eq_true q] at hod
        subst hod
        exact cli hEl (q_11_72 (cli hEr (q_11_82 hE)))
      · rw [if_neg (fun z => q (e.mp z))]
        rw [decide_eq_false q] at hod
        subst hod
        exact cli hEl (q_11_72 (cli hEr (q_11_82 hE)))
    cases root with
    | true =>
      obtain ⟨hIN, h7, -⟩ := hrt rfl
      obtain ⟨σ', α', hE, r⟩ := walk hIN h7 h rfl
      exact ⟨σ', α', e_start rfl rfl rfl hE, r⟩
    | false =>
      have hPS := hpt rfl
      have hT : RT (tG g w) w L σ α := h
      cases ho : overB g w with
      | true =>
        refine ⟨σ, α, e_start rfl rfl rfl (q_11_0 ?_), h, h13, ?_, (fun q => by cases q), fun _ _ => rfl, fun _ _ => rfl⟩
        · rw [if_pos f1, if_neg f4, hT.2.1.2.2.1, tG_7 hPS.2.1, ho, if_pos rfl, if_neg (show ¬ nI 3 = (2 : Int32) by decide), h13]
          have hw := x_worthFor (sc := sc) (d := d + 2 * n + 3) (τ := τ) (β := β) (γ := γ) ha hT hPS
          refine cli hw (q_11_31 ?_)
          simp [wv, ho]
        · rw [h14]; simp [wv, ho]
      | false =>
        have e : tG g w = g := by unfold tG; rw [ho]; rfl
        have hst : stG g w = g := by unfold stG; rw [ho]; rfl
        have hsw : stW g w = w := by unfold stW; rw [ho]; rfl
        have hIN : IN g w := by have := IN_st hPS; rw [hst, hsw] at this; exact this
        rw [e] at hT
        obtain ⟨σ', α', hE, r1, r2, r3, r4, r5⟩ := walk hIN hPS.2.1 hT (by rw [ho]; rfl)
        refine ⟨σ', α', e_start rfl rfl rfl hE, ?_, r2, r3, r4, r5⟩
        show RT (tG g w) w L σ' α'
        rw [e]; exact r1
theorem x_look {g : Nat → Nat} {w : Nat → Nat → Nat} {σ : Nat → Int32} {α : Nat → Nat → Int32} (h : RT g w L σ α) (hI : IN g w) (x y : Int32) : ∃ σ' α', Ev sc (d + 17) 83 [.ref 0, .int x, .int y] (mem L σ α τ β γ) (some (.int (aLook g w x y)), mem L σ' α' τ β γ) ∧ RT g w L σ' α' ∧ (∀ k, k < 4 ∨ 16 ≤ k → σ' k = σ k) ∧ (∀ c, c = 2 ∨ 12 ≤ c → α' c = α c) := by
  have hg := IN_Bd hI
  obtain ⟨hS, -, -, h7, -, h9, -, -, h22, -⟩ := id hg
  have e7 : nI (g 7) = (2 : Int32) ↔ g 7 = 2 := nI_eq (b := 2) (by omega) (by decide)
  unfold aLook
  cases hl : lookB g x y with
  | false =>
    refine ⟨σ, α, e_start rfl rfl rfl (q_83_0 ?_), h, fun _ _ => rfl, fun _ _ => rfl⟩
    rw [h.2.1.2.2.1]
    unfold lookB at hl
    by_cases c0 : g 7 = 2
    · rw [if_pos (e7.mpr c0)]
      by_cases c1 : x < 1
      · rw [if_pos c1]; rfl
      · rw [if_neg c1]
        by_cases c2 : (4 : Int32) < x
        · rw [if_pos c2]; rfl
        · rw [if_neg c2]
          by_cases c3 : y < 0
          · rw [if_pos c3]; rfl
          · rw [if_neg c3]
            by_cases c4 : (2 : Int32) < y
            · rw [if_pos c4]; rfl
            · simp [c0, c1, c2, c3, c4] at hl
    · rw [if_neg (fun z => c0 (e7.mp z))]; rfl
  | true =>
    unfold lookB at hl
    simp only [Bool.and_eq_true, decide_eq_true_eq] at hl
    obtain ⟨c0, c1, c2, c3, c4⟩ := hl
    rcases any_nI x with q | ⟨k, hk, rfl⟩
    · exfalso
      rw [Int32.lt_iff_toInt_lt] at q c1
      have z0 : (0 : Int32).toInt = 0 := by decide
      have z1 : (1 : Int32).toInt = 1 := by decide
      omega
    have hk1 : 1 ≤ k := Decidable.byContradiction fun z => c1 (nI_lt (b := 1) (by omega) (by decide))
    have hk4 : k ≤ 4 := Decidable.byContradiction fun z => c2 (nI_lt (a := 4) (by omega) hk)
    have hsd : side (g 1) (g 9) < 4 := by unfold side; split <;> omega
    obtain ⟨σ1, α1, hE, hT, s13, s14, s15, u1, u2⟩ := x_best (sc := sc) (d := d + (8 - 2 * k)) (L := L) (τ := τ) (β := β) (γ := γ) hsd k hk4 true g w (upd (upd σ 13 (nI (side (g 1) (g 9)))) 14 0) α 0 (RT_s h (fun k hk => by rw [pk_un (by omega), pk_un (by omega)])) (fun _ => ⟨hI, c0, by omega⟩) (fun z => by cases z) (by rw [pk_un (by decide), pk_us]) (by rw [pk_us]; rfl)
    rw [show d + (8 - 2 * k) + 2 * k + 7 = d + 15 by omega] at hE
    have hE2 : Ev sc (d + 16) 10 [.ref 20, .int (nI k)] (mem L σ α τ β γ) (some (.int (wv (side (g 1) (g 9)) k true g w).1), mem L σ1 α1 τ β γ) := by
      refine e_start rfl rfl rfl (q_10_0 ?_)
      rw [h.2.1.2.2.2.2.1, if_pos c0]
      exact cli (x_sideOf h hI.1 (by omega)) (q_10_15 (cli hE (q_10_28 rfl)))
    refine ⟨σ1, α1, e_start rfl rfl rfl (q_83_0 ?_), hT, fun k hk => by rw [u1 k hk, pk_un (by omega), pk_un (by omega)], u2⟩
    rw [h.2.1.2.2.1, if_pos (e7.mpr c0), if_neg c1, if_neg c2, if_neg c3, if_neg c4]
    refine cli hE2 (q_83_41 ?_)
    rw [if_pos rfl, cl_nI hk]
    by_cases y0 : y = 0
    · rw [if_pos y0, if_pos y0]
    · rw [if_neg y0, if_neg y0]
      by_cases y1 : y = 1
      · rw [if_pos y1, if_pos y1, s15 rfl]
      · rw [if_neg y1, if_neg y1, s14, Nat.zero_add]
end TD
