/-! the reference looks ahead -/
def wOv (g : Nat → Nat) (w : Nat → Nat → Nat) (a : Nat) : Int32 := if overT g w = 0 then 0 else if overT g w = a + 1 then 1000 + nI (overP g w) else -1000 - nI (overP g w)
/-- the best play so far: is there one, its worth, how many turns were made, which -/
def wf (f : Nat → Int32 × Nat) (own : Bool) (pl : Nat → Bool) : Nat → Bool × Int32 × Nat × Int32
  | 0 => (false, 0, 0, -1)
  | p + 1 => if pl p = true then (if (wf f own pl p).1 = false ∨ (if own = true then (wf f own pl p).2.1 < (f p).1 else (f p).1 < (wf f own pl p).2.1) then (true, (f p).1, (wf f own pl p).2.2.1 + 1 + (f p).2, nI p) else ((wf f own pl p).1, (wf f own pl p).2.1, (wf f own pl p).2.2.1 + 1 + (f p).2, (wf f own pl p).2.2.2)) else wf f own pl p
theorem wf_any {f : Nat → Int32 × Nat} {own : Bool} {pl : Nat → Bool} : ∀ {n : Nat}, (wf f own pl n).1 = false → ∀ p, p < n → pl p = false
  | 0, _, p, hp => by omega
  | n + 1, h, p, hp => by
    simp only [wf] at h
    by_cases hpl : pl n = true
    · rw [if_pos hpl] at h
      by_cases c : (wf f own pl n).1 = false ∨ (if own = true then (wf f own pl n).2.1 < (f n).1 else (f n).1 < (wf f own pl n).2.1)
      · rw [if_pos c] at h; cases h
      · rw [if_neg c] at h; exact absurd (Or.inl h) c
    · rw [if_neg hpl] at h
      by_cases e : p = n
      · subst e; simpa using hpl
      · exact wf_any h p (by omega)
/-- what a state is worth to a side when one looks n turns ahead; how many turns were made; the play chosen -/
def wv (a : Nat) : Nat → Bool → (Nat → Nat) → (Nat → Nat → Nat) → Int32 × Nat × Int32
  | 0, root, g, w => if (!root && overB g w) = true then (wOv g w a, 0, -1) else (nI (oth g w a) - nI (own g w a), 0, -1)
  | n + 1, root, g, w => if (!root && overB g w) = true then (wOv g w a, 0, -1) else
      if (wf (fun p => ((wv a n false (mpG g (p % 2)) (mpW g w (p / 2) (p % 2))).1, (wv a n false (mpG g (p % 2)) (mpW g w (p / 2) (p % 2))).2.1)) (decide (side (g 1) (g 9) = a)) (plB g w) (2 * g 3)).1 = true then (wf (fun p => ((wv a n false (mpG g (p % 2)) (mpW g w (p / 2) (p % 2))).1, (wv a n false (mpG g (p % 2)) (mpW g w (p / 2) (p % 2))).2.1)) (decide (side (g 1) (g 9) = a)) (plB g w) (2 * g 3)).2
      else ((wv a n false (wrG g) (wrW g w 0 0 0)).1, (wf (fun p => ((wv a n false (mpG g (p % 2)) (mpW g w (p / 2) (p % 2))).1, (wv a n false (mpG g (p % 2)) (mpW g w (p / 2) (p % 2))).2.1)) (decide (side (g 1) (g 9) = a)) (plB g w) (2 * g 3)).2.2.1 + 1 + (wv a n false (wrG g) (wrW g w 0 0 0)).2.1, -1)
theorem many_ex {g : Nat → Nat} {w : Nat → Nat → Nat} {s : Nat} (h : 1 ≤ many g w s) : ∃ b, b < g 3 ∧ w 21 b = s := by
  apply Classical.byContradiction
  intro hno
  have : many g w s = 0 := by
    unfold many
    rw [cn_zero]
    intro i hi
    apply decide_eq_false
    intro z
    exact hno ⟨i, hi, z⟩
  omega
/-- no play at all: then the row is not empty -/
theorem no_play {g : Nat → Nat} {w : Nat → Nat → Nat} (h : IN g w) (h7 : g 7 = 2) (hno : ∀ p, p < 2 * g 3 → plB g w p = false) : ¬ g 14 = g 15 := by
  intro hz
  obtain ⟨b, hb, hw⟩ := many_ex ((h.2.2.2.1 h7).2 (g 9) h.1.1.2.2.2.2)
  have := hno (2 * b) (by omega)
  unfold plB canE fitE at this
  simp [h7, hz, show 2 * b / 2 = b by omega, hb, hw] at this
section LA
variable {sc : Nat × (Nat → Int32)} {d : Nat} {L : Nat → Nat} {σ : Nat → Int32} {α : Nat → Nat → Int32} {γ : Nat → Nat → Int64} {a : Nat}
theorem plB_of {g : Nat → Nat} {w : Nat → Nat → Nat} {p : Nat} (h : plB g w p = true) : g 7 = 2 ∧ p / 2 < g 3 ∧ w 21 (p / 2) = g 9 ∧ canE g w (p / 2) (nI (p % 2)) = true := by
  unfold plB at h
  simp only [Bool.and_eq_true] at h
  obtain ⟨h1, h2, h3, -⟩ := canE_of h.2
  exact ⟨h1, h2, h3, h.2⟩
theorem m_worth (ha : a < 4) : ∀ (n : Nat), n ≤ 4 → ∀ (root : Bool) (g : Nat → Nat) (w : Nat → Nat → Nat) (τ : Nat → Int32) (β : Nat → Nat → Int32) (md : Nat), RM g w τ β → (root = true → IN g w ∧ g 7 = 2 ∧ τ 37 = nI (g 22) ∧ 0 < n) → (root = false → PS g w ∧ ∃ fr, fr < g 22 ∧ τ 37 = nI fr) → τ 36 = nI a → τ 35 = nI md → ∃ τ' β', Ev sc (d + n + 6) 142 [.ref 21, .int (nI n)] (mem L σ α τ β γ) (some (.int (wv a n root g w).1), mem L σ α τ' β' γ) ∧ RM g w τ' β' ∧ τ' 36 = nI a ∧ τ' 37 = τ 37 ∧ τ' 35 = nI (md + (wv a n root g w).2.1) ∧ τ' 38 = (if root = true then (wv a n root g w).2.2 else τ 38) := by
  intro n
  induction n with
  | zero =>
    intro _ root g w τ β md h hrt hpt h36 h35
    have hroot : root = false := by cases root with
      | false => rfl
      | true => have := (hrt rfl).2.2.2; omega
    subst hroot
    obtain ⟨hPS, fr, hfr, h37⟩ := hpt rfl
    have hg := PS_Bd hPS
    have h22 := hg.2.2.2.2.2.2.2.2.1
    obtain ⟨τ1, hE, hR1, hv, hk⟩ := m_isOver (sc := sc) (d := d + 0) (L := L) (σ := σ) (α := α) (γ := γ) h hg (by omega)
    have k36 : τ1 36 = nI a := by rw [hk 36 (by decide), h36]
    refine ⟨τ1, β, e_start rfl rfl rfl (q_142_0 ?_), hR1, k36, hk 37 (by decide), ?_, hk 38 (by decide)⟩
    · rw [h37, h.1.2.2.2.2.2.2.2.2.2.2.2.1, if_pos (nI_lt hfr (by omega))]
      refine cli hE (q_142_15 ?_)
      cases ho : overB g w with
      | true =>
        obtain ⟨v26, v27⟩ := hv ho
        have hT := overT_le hg (by omega)
        have e1 : mI (overT g w) = nI a ↔ overT g w = a + 1 := by rw [← mI_succ]; exact mI_inj (by omega) (by omega)
        have e2 : mI (overT g w) = -1 ↔ overT g w = 0 := mI_eq_m1 (by omega)
        rw [if_neg (by decide), v26, v27, k36]
        have ev : (wv a 0 false g w).1 = wOv g w a := by simp [wv, ho]
        rw [ev]
        unfold wOv
        by_cases z : overT g w = 0
        · rw [if_pos (e2.mpr z), if_pos z]
        · rw [if_neg (fun q => z (e2.mp q)), if_neg z]
          by_cases z2 : overT g w = a + 1
          · rw [if_pos (e1.mpr z2), if_pos z2]
          · rw [if_neg (fun q => z2 (e1.mp q)), if_neg z2]
      | false =>
        rw [if_pos (by decide), if_pos nI_0, k36]
        refine cli (m_weighs hR1 hg (by omega) false) (q_142_74 ?_)
        rw [k36]
        refine cli (m_weighs hR1 hg (by omega) true) (q_142_83 ?_)
        simp [wv, ho]
    · rw [hk 35 (by decide), h35]
      congr 1
      simp only [wv]
      split <;> rfl
  | succ n ih =>
    intro hn4 root g w τ β md h hrt hpt h36 h35
    have ih := ih (by omega)
    have hg : Bd g w := by cases root with
      | false => exact PS_Bd (hpt rfl).1
      | true => exact IN_Bd (hrt rfl).1
    obtain ⟨hS, -, ⟨-, h3⟩, -, -, h9, -, hrow, h22, -⟩ := id hg
    have n2 : (2 : Int32) = nI 2 := rfl
    have ede : d + (n + 1) + 6 = (d + n + 6) + 1 := by omega
    rw [ede]
    -- a state that is not over: all plays are tried
    have walk : IN g w → g 7 = 2 → ∀ τ0, RM g w τ0 β → τ0 36 = nI a → τ0 35 = nI md → τ0 37 = τ 37 → τ0 38 = τ 38 → (!root && overB g w) = false → ∃ τ' β', EvL sc (d + n + 6) me_142 105 [some (.ref 21), some (.int (nI (n + 1))), none, none, none, none, none, none] [.int (bI (decide (side (g 1) (g 9) = a)))] (mem L σ α τ0 β γ) 0 0 (some (.int (wv a (n + 1) root g w).1), mem L σ α τ' β' γ) ∧ RM g w τ' β' ∧ τ' 36 = nI a ∧ τ' 37 = τ 37 ∧ τ' 35 = nI (md + (wv a (n + 1) root g w).2.1) ∧ τ' 38 = (if root = true then (wv a (n + 1) root g w).2.2 else τ 38) := by
      intro hIN h7 τ0 h0 h036 h035 h037 h038 hnov
      have ev : wv a (n + 1) root g w = if (wf (fun p => ((wv a n false (mpG g (p % 2)) (mpW g w (p / 2) (p % 2))).1, (wv a n false (mpG g (p % 2)) (mpW g w (p / 2) (p % 2))).2.1)) (decide (side (g 1) (g 9) = a)) (plB g w) (2 * g 3)).1 = true then (wf (fun p => ((wv a n false (mpG g (p % 2)) (mpW g w (p / 2) (p % 2))).1, (wv a n false (mpG g (p % 2)) (mpW g w (p / 2) (p % 2))).2.1)) (decide (side (g 1) (g 9) = a)) (plB g w) (2 * g 3)).2
      else ((wv a n false (wrG g) (wrW g w 0 0 0)).1, (wf (fun p => ((wv a n false (mpG g (p % 2)) (mpW g w (p / 2) (p % 2))).1, (wv a n false (mpG g (p % 2)) (mpW g w (p / 2) (p % 2))).2.1)) (decide (side (g 1) (g 9) = a)) (plB g w) (2 * g 3)).2.2.1 + 1 + (wv a n false (wrG g) (wrW g w 0 0 0)).2.1, -1) := by
        simp only [wv, hnov]; rfl
      rw [ev]
      generalize hfd : (fun p => ((wv a n false (mpG g (p % 2)) (mpW g w (p / 2) (p % 2))).1, (wv a n false (mpG g (p % 2)) (mpW g w (p / 2) (p % 2))).2.1)) = f
      have hfp : ∀ p, (wv a n false (mpG g (p % 2)) (mpW g w (p / 2) (p % 2))).1 = (f p).1 ∧ (wv a n false (mpG g (p % 2)) (mpW g w (p / 2) (p % 2))).2.1 = (f p).2 := fun p => by rw [← hfd]; exact ⟨rfl, rfl⟩
      generalize hod : decide (side (g 1) (g 9) = a) = ow
      have hfrom : ∃ fr, fr < g 22 + 1 ∧ τ 37 = nI fr := by cases root with
        | false => obtain ⟨fr, a1, a2⟩ := (hpt rfl).2; exact ⟨fr, by omega, a2⟩
        | true => exact ⟨g 22, by omega, (hrt rfl).2.2.1⟩
      obtain ⟨fr, hfr, hf37⟩ := hfrom
      -- the loop
      have loop : ∀ m p, p + m = 2 * g 3 → ∀ τ1 β1, RM g w τ1 β1 → τ1 36 = nI a → τ1 37 = τ 37 → τ1 35 = nI (md + (wf f ow (plB g w) p).2.2.1) → τ1 38 = (if root = true then (wf f ow (plB g w) p).2.2.2 else τ 38) → ∃ τ' β', EvL sc (d + n + 6) me_142 142 [some (.ref 21), some (.int (nI (n + 1))), some (.int (bI ow)), some (.int (bI (wf f ow (plB g w) p).1)), some (.int (wf f ow (plB g w) p).2.1), some (.int (bI root)), some (.int (nI p)), none] [] (mem L σ α τ1 β1 γ) 0 0 (some (.int (if (wf f ow (plB g w) (2 * g 3)).1 = true then (wf f ow (plB g w) (2 * g 3)).2 else ((wv a n false (wrG g) (wrW g w 0 0 0)).1, (wf f ow (plB g w) (2 * g 3)).2.2.1 + 1 + (wv a n false (wrG g) (wrW g w 0 0 0)).2.1, -1)).1), mem L σ α τ' β' γ) ∧ RM g w τ' β' ∧ τ' 36 = nI a ∧ τ' 37 = τ 37 ∧ τ' 35 = nI (md + (if (wf f ow (plB g w) (2 * g 3)).1 = true then (wf f ow (plB g w) (2 * g 3)).2 else ((wv a n false (wrG g) (wrW g w 0 0 0)).1, (wf f ow (plB g w) (2 * g 3)).2.2.1 + 1 + (wv a n false (wrG g) (wrW g w 0 0 0)).2.1, -1)).2.1) ∧ τ' 38 = (if root = true then (if (wf f ow (plB g w) (2 * g 3)).1 = true then (wf f ow (plB g w) (2 * g 3)).2 else ((wv a n false (wrG g) (wrW g w 0 0 0)).1, (wf f ow (plB g w) (2 * g 3)).2.2.1 + 1 + (wv a n false (wrG g) (wrW g w 0 0 0)).2.1, -1)).2.2 else τ 38) := by
        intro m
        induction m with
        | zero =>
          intro p hp τ1 β1 hR c36 c37 c35 c38
          have ep : p = 2 * g 3 := by omega
          subst ep
          cases hany : (wf f ow (plB g w) (2 * g 3)).1 with
          | true =>
            refine ⟨τ1, β1, q_142_142 ?_, hR, c36, c37, by simpa using c35, by simpa using c38⟩
            rw [hR.1.2.2.1, n2, pk_mul, if_neg (nI_nlt (by omega) (by omega)), if_neg (by decide)]
            rfl
          | false =>
            have hno := wf_any hany
            have hne := no_play hIN h7 hno
            have hPS : PS (wrG g) (wrW g w 0 0 0) := PS_wr hIN h7 hne (by omega)
            obtain ⟨τ2, β2, hE2, hR2, t2, -⟩ := m_write (sc := sc) (d := d + n + 3) (L := L) (σ := σ) (α := α) (γ := γ) hR hg (bc := 0) (ec := 0) (by omega) (by omega) false
            rw [mI_0] at hE2
            have hR2 : RM (wrG g) (wrW g w 0 0 0) τ2 β2 := hR2
            have e22 : wrG g 22 = g 22 + 1 := by simp [wrG, va_up]
            obtain ⟨τ3, β3, hE3, hR3, s36, s37, s35, s38⟩ := ih false (wrG g) (wrW g w 0 0 0) (upd τ2 35 (τ2 35 + 1)) β2 (md + (wf f ow (plB g w) (2 * g 3)).2.2.1 + 1) (RM_up hR2 (Or.inr (Or.inr (by omega)))) (fun z => by cases z) (fun _ => ⟨hPS, fr, by rw [e22]; exact hfr, by rw [pk_un (by decide), t2 37 (by decide), c37, hf37]⟩) (by rw [pk_un (by decide), t2 36 (by decide), c36]) (by rw [pk_us, t2 35 (by decide), c35, nI_1])
            have hz : wrW g w 0 0 0 26 (wrG g 22 - 1) = 0 := by rw [e22]; simp [wrW, tw, va_up]
            obtain ⟨τ4, β4, hE4, hR4, t4, -⟩ := m_unmake (sc := sc) (d := d + n + 5) (L := L) (σ := σ) (α := α) (γ := γ) hR3 (PS_Bd hPS) (by rw [e22]; omega) (Or.inr hz)
            rw [un_wr] at hR4
            have hR5 : RM g w τ4 β4 := RM_agr hR4 un_wrW
            refine ⟨τ4, β4, q_142_142 ?_, hR5, by rw [t4 36 (by decide), s36], ?_, ?_, ?_⟩
            · rw [hR.1.2.2.1, n2, pk_mul, if_neg (nI_nlt (by omega) (by omega)), if_pos (by decide)]
              refine clv hE2 (q_142_286 ?_)
              rw [show nI (n + 1) - 1 = nI n from pk_sub (b := 1) (by omega)]
              exact cli hE3 (q_142_303 (clv hE4 (q_142_309 rfl)))
            · rw [t4 37 (by decide), s37, pk_un (by decide), t2 37 (by decide), c37]
            · rw [t4 35 (by decide), s35]
              congr 1
              simp
              omega
            · rw [t4 38 (by decide), s38]
              simp only [Bool.false_eq_true, if_false]
              rw [pk_un (by decide), t2 38 (by decide), c38]
              -- nothing was chosen
              have : ∀ k, k ≤ 2 * g 3 → (wf f ow (plB g w) k).2.2.2 = -1 := by
                intro k
                induction k with
                | zero => intro _; rfl
                | succ k ihk =>
                  intro hk
                  simp only [wf]
                  rw [if_neg (by rw [hno k (by omega)]; decide)]
                  exact ihk (by omega)
              rw [this _ (Nat.le_refl _)]
        | succ m ihm =>
          intro p hp τ1 β1 hR c36 c37 c35 c38
          have e2 : nI p / 2 = nI (p / 2) := pk_div (d := 2) (by omega) (by omega) (by omega)
          have er : nI p - nI (p / 2) * nI 2 = nI (p % 2) := by
            have := pk_rem (a := p) (d := 2) (by omega) (by omega) (by omega)
            rw [← n2, e2] at this
            exact this
          have hmod : p % 2 ≤ 1 := by omega
          have skip : plB g w p = false → wf f ow (plB g w) (p + 1) = wf f ow (plB g w) p := fun q => by
            simp only [wf]; rw [if_neg (by rw [q]; decide)]
          have tail : ∀ {c : Bool}, c = canE g w (p / 2) (nI (p % 2)) → plB g w p = c → ∃ τ' β', EvL sc (d + n + 6) me_142 180 [some (.ref 21), some (.int (nI (n + 1))), some (.int (bI ow)), some (.int (bI (wf f ow (plB g w) p).1)), some (.int (wf f ow (plB g w) p).2.1), some (.int (bI root)), some (.int (nI p)), none] [.int (bI c)] (mem L σ α τ1 β1 γ) 0 0 (some (.int (if (wf f ow (plB g w) (2 * g 3)).1 = true then (wf f ow (plB g w) (2 * g 3)).2 else ((wv a n false (wrG g) (wrW g w 0 0 0)).1, (wf f ow (plB g w) (2 * g 3)).2.2.1 + 1 + (wv a n false (wrG g) (wrW g w 0 0 0)).2.1, -1)).1), mem L σ α τ' β' γ) ∧ RM g w τ' β' ∧ τ' 36 = nI a ∧ τ' 37 = τ 37 ∧ τ' 35 = nI (md + (if (wf f ow (plB g w) (2 * g 3)).1 = true then (wf f ow (plB g w) (2 * g 3)).2 else ((wv a n false (wrG g) (wrW g w 0 0 0)).1, (wf f ow (plB g w) (2 * g 3)).2.2.1 + 1 + (wv a n false (wrG g) (wrW g w 0 0 0)).2.1, -1)).2.1) ∧ τ' 38 = (if root = true then (if (wf f ow (plB g w) (2 * g 3)).1 = true then (wf f ow (plB g w) (2 * g 3)).2 else ((wv a n false (wrG g) (wrW g w 0 0 0)).1, (wf f ow (plB g w) (2 * g 3)).2.2.1 + 1 + (wv a n false (wrG g) (wrW g w 0 0 0)).2.1, -1)).2.2 else τ 38) := by
            intro c hc hpl
            cases c with
            | false =>
              have es := skip hpl
              obtain ⟨τ', β', hE, hr⟩ := ihm (p + 1) (by omega) τ1 β1 hR c36 c37 (by rw [es]; exact c35) (by rw [es]; exact c38)
              rw [es] at hE
              refine ⟨τ', β', q_142_180 ?_, hr⟩
              rw [if_pos (by decide), nI_1]
              exact hE
            | true =>
              obtain ⟨p1, p2, p3, p4⟩ := plB_of hpl
              have hPS : PS (mpG g (p % 2)) (mpW g w (p / 2) (p % 2)) := PS_mp hIN h7 p2 p3 hmod
              obtain ⟨τ2, β2, hE2, hR2, t2, -⟩ := m_makePlay (sc := sc) (d := d + n + 2) (L := L) (σ := σ) (α := α) (γ := γ) hR hg (b := p / 2) (e := p % 2) (by omega) hmod (x := nI (p % 2)) (fun _ => rfl)
              have e22 : mpG g (p % 2) 22 = g 22 + 1 := by unfold mpG; split <;> simp [va_up, wrG]
              have hrow' : mpG g (p % 2) 14 < mpG g (p % 2) 15 := by
                unfold mpG; split <;> simp [va_up, wrG] <;> omega
              obtain ⟨τ3, β3, hE3, hR3, s36, s37, s35, s38⟩ := ih false (mpG g (p % 2)) (mpW g w (p / 2) (p % 2)) (upd τ2 35 (τ2 35 + 1)) β2 (md + (wf f ow (plB g w) p).2.2.1 + 1) (RM_up hR2 (Or.inr (Or.inr (by omega)))) (fun z => by cases z) (fun _ => ⟨hPS, fr, by rw [e22]; exact hfr, by rw [pk_un (by decide), t2 37 (by decide), c37, hf37]⟩) (by rw [pk_un (by decide), t2 36 (by decide), c36]) (by rw [pk_us, t2 35 (by decide), c35, nI_1])
              obtain ⟨τ4, β4, hE4, hR4, t4, -⟩ := m_unmake (sc := sc) (d := d + n + 5) (L := L) (σ := σ) (α := α) (γ := γ) hR3 (PS_Bd hPS) (by rw [e22]; omega) (Or.inl hrow')
              rw [un_mp hrow.1 hmod] at hR4
              have hR5 : RM g w τ4 β4 := RM_agr hR4 (un_mpW ⟨hrow.1, by omega⟩ p3)
              rw [(hfp p).1] at hE3
              rw [(hfp p).2] at s35
              have v35 : τ4 35 = nI (md + ((wf f ow (plB g w) p).2.2.1 + 1 + (f p).2)) := by
                rw [t4 35 (by decide), s35]; congr 1; omega
              have v36 : τ4 36 = nI a := by rw [t4 36 (by decide), s36]
              have v37 : τ4 37 = τ 37 := by rw [t4 37 (by decide), s37, pk_un (by decide), t2 37 (by decide), c37]
              have v38 : τ4 38 = (if root = true then (wf f ow (plB g w) p).2.2.2 else τ 38) := by
                rw [t4 38 (by decide), s38]
                simp only [Bool.false_eq_true, if_false]
                rw [pk_un (by decide), t2 38 (by decide), c38]
              -- the play is the best so far
              have take : wf f ow (plB g w) (p + 1) = (true, (f p).1, (wf f ow (plB g w) p).2.2.1 + 1 + (f p).2, nI p) → ∃ τ' β', (if bI root = 0 then EvL sc (d + n + 6) me_142 142 [some (.ref 21), some (.int (nI (n + 1))), some (.int (bI ow)), some (.int (1 : Int32)), some (.int (f p).1), some (.int (bI root)), some (.int (nI p + 1)), none] [] (mem L σ α τ4 β4 γ) 0 0 (some (.int (if (wf f ow (plB g w) (2 * g 3)).1 = true then (wf f ow (plB g w) (2 * g 3)).2 else ((wv a n false (wrG g) (wrW g w 0 0 0)).1, (wf f ow (plB g w) (2 * g 3)).2.2.1 + 1 + (wv a n false (wrG g) (wrW g w 0 0 0)).2.1, -1)).1), mem L σ α τ' β' γ) else EvL sc (d + n + 6) me_142 142 [some (.ref 21), some (.int (nI (n + 1))), some (.int (bI ow)), some (.int (1 : Int32)), some (.int (f p).1), some (.int (bI root)), some (.int (nI p + 1)), none] [] (mem L σ α (upd τ4 38 (nI p)) β4 γ) 0 0 (some (.int (if (wf f ow (plB g w) (2 * g 3)).1 = true then (wf f ow (plB g w) (2 * g 3)).2 else ((wv a n false (wrG g) (wrW g w 0 0 0)).1, (wf f ow (plB g w) (2 * g 3)).2.2.1 + 1 + (wv a n false (wrG g) (wrW g w 0 0 0)).2.1, -1)).1), mem L σ α τ' β' γ)) ∧ RM g w τ' β' ∧ τ' 36 = nI a ∧ τ' 37 = τ 37 ∧ τ' 35 = nI (md + (if (wf f ow (plB g w) (2 * g 3)).1 = true then (wf f ow (plB g w) (2 * g 3)).2 else ((wv a n false (wrG g) (wrW g w 0 0 0)).1, (wf f ow (plB g w) (2 * g 3)).2.2.1 + 1 + (wv a n false (wrG g) (wrW g w 0 0 0)).2.1, -1)).2.1) ∧ τ' 38 = (if root = true then (if (wf f ow (plB g w) (2 * g 3)).1 = true then (wf f ow (plB g w) (2 * g 3)).2 else ((wv a n false (wrG g) (wrW g w 0 0 0)).1, (wf f ow (plB g w) (2 * g 3)).2.2.1 + 1 + (wv a n false (wrG g) (wrW g w 0 0 0)).2.1, -1)).2.2 else τ 38) := by
                intro es
                cases root with
                | false =>
                  obtain ⟨τ', β', hE, hr⟩ := ihm (p + 1) (by omega) τ4 β4 hR5 v36 v37 (by rw [es]; exact v35) (by simpa using v38)
                  rw [es] at hE
                  refine ⟨τ', β', ?_, hr⟩
                  rw [if_pos (by decide), nI_1]
                  exact hE
                | true =>
                  obtain ⟨τ', β', hE, hr⟩ := ihm (p + 1) (by omega) (upd τ4 38 (nI p)) β4 (RM_up hR5 (Or.inr (Or.inr (by omega)))) (by rw [pk_un (by decide)]; exact v36) (by rw [pk_un (by decide)]; exact v37) (by rw [es, pk_un (by decide)]; exact v35) (by rw [es, pk_us]; rfl)
                  rw [es] at hE
                  refine ⟨τ', β', ?_, hr⟩
                  rw [if_neg (by decide), nI_1]
                  exact hE
              have keep : wf f ow (plB g w) (p + 1) = ((wf f ow (plB g w) p).1, (wf f ow (plB g w) p).2.1, (wf f ow (plB g w) p).2.2.1 + 1 + (f p).2, (wf f ow (plB g w) p).2.2.2) → ∃ τ' β', EvL sc (d + n + 6) me_142 142 [some (.ref 21), some (.int (nI (n + 1))), some (.int (bI ow)), some (.int (bI (wf f ow (plB g w) p).1)), some (.int (wf f ow (plB g w) p).2.1), some (.int (bI root)), some (.int (nI p + 1)), none] [] (mem L σ α τ4 β4 γ) 0 0 (some (.int (if (wf f ow (plB g w) (2 * g 3)).1 = true then (wf f ow (plB g w) (2 * g 3)).2 else ((wv a n false (wrG g) (wrW g w 0 0 0)).1, (wf f ow (plB g w) (2 * g 3)).2.2.1 + 1 + (wv a n false (wrG g) (wrW g w 0 0 0)).2.1, -1)).1), mem L σ α τ' β' γ) ∧ RM g w τ' β' ∧ τ' 36 = nI a ∧ τ' 37 = τ 37 ∧ τ' 35 = nI (md + (if (wf f ow (plB g w) (2 * g 3)).1 = true then (wf f ow (plB g w) (2 * g 3)).2 else ((wv a n false (wrG g) (wrW g w 0 0 0)).1, (wf f ow (plB g w) (2 * g 3)).2.2.1 + 1 + (wv a n false (wrG g) (wrW g w 0 0 0)).2.1, -1)).2.1) ∧ τ' 38 = (if root = true then (if (wf f ow (plB g w) (2 * g 3)).1 = true then (wf f ow (plB g w) (2 * g 3)).2 else ((wv a n false (wrG g) (wrW g w 0 0 0)).1, (wf f ow (plB g w) (2 * g 3)).2.2.1 + 1 + (wv a n false (wrG g) (wrW g w 0 0 0)).2.1, -1)).2.2 else τ 38) := by
                intro es
                obtain ⟨τ', β', hE, hr⟩ := ihm (p + 1) (by omega) τ4 β4 hR5 v36 v37 (by rw [es]; exact v35) (by rw [es]; exact v38)
                rw [es] at hE
                refine ⟨τ', β', ?_, hr⟩
                rw [nI_1]
                exact hE
              -- one step
              have step : ∀ {r}, EvL sc (d + n + 6) me_142 221 [some (.ref 21), some (.int (nI (n + 1))), some (.int (bI ow)), some (.int (bI (wf f ow (plB g w) p).1)), some (.int (wf f ow (plB g w) p).2.1), some (.int (bI root)), some (.int (nI p)), some (.int (f p).1)] [] (mem L σ α τ4 β4 γ) 0 0 r → EvL sc (d + n + 6) me_142 180 [some (.ref 21), some (.int (nI (n + 1))), some (.int (bI ow)), some (.int (bI (wf f ow (plB g w) p).1)), some (.int (wf f ow (plB g w) p).2.1), some (.int (bI root)), some (.int (nI p)), none] [.int (bI true)] (mem L σ α τ1 β1 γ) 0 0 r := by
                intro r hr
                refine q_142_180 ?_
                rw [if_neg (by decide), e2, n2, er]
                refine clv hE2 (q_142_198 ?_)
                rw [show nI (n + 1) - 1 = nI n from pk_sub (b := 1) (by omega)]
                exact cli hE3 (q_142_215 (clv hE4 hr))
              have ew : wf f ow (plB g w) (p + 1) = if (wf f ow (plB g w) p).1 = false ∨ (if ow = true then (wf f ow (plB g w) p).2.1 < (f p).1 else (f p).1 < (wf f ow (plB g w) p).2.1) then (true, (f p).1, (wf f ow (plB g w) p).2.2.1 + 1 + (f p).2, nI p) else ((wf f ow (plB g w) p).1, (wf f ow (plB g w) p).2.1, (wf f ow (plB g w) p).2.2.1 + 1 + (f p).2, (wf f ow (plB g w) p).2.2.2) := by
                rw [show wf f ow (plB g w) (p + 1) = _ from rfl]
                simp only [wf]
                rw [if_pos hpl]
              cases hany : (wf f ow (plB g w) p).1 with
              | false =>
                obtain ⟨τ', β', hE, hr⟩ := take (by rw [ew, if_pos (Or.inl hany)])
                rw [hany] at step
                refine ⟨τ', β', step (q_142_221 ?_), hr⟩
                rw [if_pos (by decide)]
                exact hE
              | true =>
                rw [hany] at step
                cases ow with
                | false =>
                  by_cases q : (f p).1 < (wf f false (plB g w) p).2.1
                  · obtain ⟨τ', β', hE, hr⟩ := take (by rw [ew, if_pos (Or.inr (by simpa using q))])
                    refine ⟨τ', β', step (q_142_221 ?_), hr⟩
                    rw [if_neg (by decide), if_pos (by decide), if_pos q]
                    exact hE
                  · obtain ⟨τ', β', hE, hr⟩ := keep (by rw [ew, if_neg (by simpa [hany] using q)])
                    rw [hany] at hE
                    refine ⟨τ', β', step (q_142_221 ?_), hr⟩
                    rw [if_neg (by decide), if_pos (by decide), if_neg q]
                    exact hE
                | true =>
                  by_cases q : (wf f true (plB g w) p).2.1 < (f p).1
                  · obtain ⟨τ', β', hE, hr⟩ := take (by rw [ew, if_pos (Or.inr (by simpa using q))])
                    refine ⟨τ', β', step (q_142_221 ?_), hr⟩
                    rw [if_neg (by decide), if_neg (by decide), if_pos q]
                    exact hE
                  · obtain ⟨τ', β', hE, hr⟩ := keep (by rw [ew, if_neg (by simpa [hany] using q)])
                    rw [hany] at hE
                    refine ⟨τ', β', step (q_142_221 ?_), hr⟩
                    rw [if_neg (by decide), if_neg (by decide), if_neg q]
                    exact hE
          have eo : nI (p % 2) = 1 ↔ p % 2 = 1 := nI_eq (b := 1) (by omega) (by decide)
          have hcan := m_canPlay (sc := sc) (d := d + n + 1) (L := L) (σ := σ) (α := α) (γ := γ) hR hg (b := p / 2) (by omega) (nI (p % 2))
          by_cases o : p % 2 = 1
          · by_cases em : g 14 = g 15
            · have es := skip (by simp [plB, o, em])
              obtain ⟨τ', β', hE, hr⟩ := ihm (p + 1) (by omega) τ1 β1 hR c36 c37 (by rw [es]; exact c35) (by rw [es]; exact c38)
              rw [es] at hE
              refine ⟨τ', β', q_142_142 ?_, hr⟩
              rw [hR.1.2.2.1, e2, n2, pk_mul, if_pos (nI_lt (by omega) (by omega)), er, if_pos (eo.mpr o)]
              refine cli (m_isEmpty hR hg) (q_142_165 ?_)
              rw [if_neg (by simp [em, bI]), nI_1]
              exact hE
            · obtain ⟨τ', β', hE, hr⟩ := tail rfl (by simp [plB, em])
              refine ⟨τ', β', q_142_142 ?_, hr⟩
              rw [hR.1.2.2.1, e2, n2, pk_mul, if_pos (nI_lt (by omega) (by omega)), er, if_pos (eo.mpr o)]
              refine cli (m_isEmpty hR hg) (q_142_165 ?_)
              rw [if_pos (by simp [em, bI]), e2, n2, er]
              exact cli hcan hE
          · obtain ⟨τ', β', hE, hr⟩ := tail rfl (by simp [plB, show p % 2 = 0 by omega])
            refine ⟨τ', β', q_142_142 ?_, hr⟩
            rw [hR.1.2.2.1, e2, n2, pk_mul, if_pos (nI_lt (by omega) (by omega)), er, if_neg (fun z => o (eo.mp z))]
            exact cli hcan hE
      -- the loop begins
      cases root with
      | true =>
        obtain ⟨τ', β', hE, hr⟩ := loop (2 * g 3) 0 (by omega) (upd τ0 38 (-1)) β (RM_up h0 (Or.inr (Or.inr (by omega)))) (by rw [pk_un (by decide)]; exact h036) (by rw [pk_un (by decide)]; exact h037) (by rw [pk_un (by decide)]; exact h035) (by rw [pk_us]; rfl)
        refine ⟨τ', β', q_142_105 ?_, hr⟩
        rw [h0.1.2.2.2.2.2.2.2.2.2.2.2.1, h037, (hrt rfl).2.2.1, if_pos rfl]
        exact hE
      | false =>
        obtain ⟨τ', β', hE, hr⟩ := loop (2 * g 3) 0 (by omega) τ0 β h0 h036 h037 h035 (by simpa using h038)
        refine ⟨τ', β', q_142_105 ?_, hr⟩
        obtain ⟨fr', q1, q2⟩ := (hpt rfl).2
        rw [h0.1.2.2.2.2.2.2.2.2.2.2.2.1, h037, q2, if_neg (fun z => by have := (nI_eq (by omega) (by omega)).mp z; omega)]
        exact hE
    have hsd : side (g 1) (g 9) < 4 := by
      have := side_lt hS h9
      have := sides_le hS
      omega
    have esd : nI (side (g 1) (g 9)) = nI a ↔ side (g 1) (g 9) = a := nI_eq (by omega) (by omega)
    have begin1 : ∀ {r} τ0, RM g w τ0 β → τ0 36 = nI a → EvL sc (d + n + 6) me_142 105 [some (.ref 21), some (.int (nI (n + 1))), none, none, none, none, none, none] [.int (bI (decide (side (g 1) (g 9) = a)))] (mem L σ α τ0 β γ) 0 0 r → Cli sc (d + n + 6) 103 [.ref 21, .int (τ0 9)] (mem L σ α τ0 β γ) (fun y M2 => EvL sc (d + n + 6) me_142 93 [some (.ref 21), some (.int (nI (n + 1))), none, none, none, none, none, none] [.int y] M2 0 0 r) := by
      intro r τ0 h0 h036 hr
      rw [h0.1.2.2.2.2.2.2.1]
      refine cli (m_sideOf h0 hg (by omega)) (q_142_93 ?_)
      rw [h036]
      by_cases q : side (g 1) (g 9) = a
      · rw [if_pos (esd.mpr q)]; simpa [q, bI] using hr
      · rw [if_neg (fun z => q (esd.mp z))]; simpa [q, bI] using hr
    cases root with
    | true =>
      obtain ⟨hIN, h7, h37, -⟩ := hrt rfl
      obtain ⟨τ', β', hE, hr⟩ := walk hIN h7 τ h h36 h35 rfl rfl rfl
      refine ⟨τ', β', e_start rfl rfl rfl (q_142_0 ?_), hr⟩
      rw [h37, h.1.2.2.2.2.2.2.2.2.2.2.2.1, if_neg (nI_nlt (by omega) (by omega)), if_neg (nI_ne0 (by omega) (by omega))]
      exact begin1 τ h h36 hE
    | false =>
      obtain ⟨hPS, fr, hfr, h37⟩ := hpt rfl
      obtain ⟨τ1, hE1, hR1, hv, hk⟩ := m_isOver (sc := sc) (d := d + n + 1) (L := L) (σ := σ) (α := α) (γ := γ) h hg (by omega)
      have k36 : τ1 36 = nI a := by rw [hk 36 (by decide), h36]
      cases ho : overB g w with
      | true =>
        rw [ho] at hE1
        obtain ⟨v26, v27⟩ := hv ho
        have hT := overT_le hg (by omega)
        have e1 : mI (overT g w) = nI a ↔ overT g w = a + 1 := by rw [← mI_succ]; exact mI_inj (by omega) (by omega)
        have e2 : mI (overT g w) = -1 ↔ overT g w = 0 := mI_eq_m1 (by omega)
        have ev : wv a (n + 1) false g w = (wOv g w a, 0, -1) := by simp only [wv, ho]; rfl
        rw [ev]
        refine ⟨τ1, β, e_start rfl rfl rfl (q_142_0 ?_), hR1, k36, hk 37 (by decide), by rw [hk 35 (by decide), h35]; rfl, hk 38 (by decide)⟩
        rw [h37, h.1.2.2.2.2.2.2.2.2.2.2.2.1, if_pos (nI_lt hfr (by omega))]
        refine cli hE1 (q_142_15 ?_)
        rw [if_neg (by decide), v26, v27, k36]
        unfold wOv
        by_cases z : overT g w = 0
        · rw [if_pos (e2.mpr z), if_pos z]
        · rw [if_neg (fun q => z (e2.mp q)), if_neg z]
          by_cases z2 : overT g w = a + 1
          · rw [if_pos (e1.mpr z2), if_pos z2]
          · rw [if_neg (fun q => z2 (e1.mp q)), if_neg z2]
      | false =>
        rw [ho] at hE1
        have hIN : IN g w := by
          have := IN_st hPS
          have e1 : stG g w = g := by unfold stG; rw [ho]; rfl
          have e2 : stW g w = w := by unfold stW; rw [ho]; rfl
          rw [e1, e2] at this
          exact this
        obtain ⟨τ', β', hE, hr⟩ := walk hIN hPS.2.1 τ1 hR1 k36 (by rw [hk 35 (by decide), h35]) (hk 37 (by decide)) (hk 38 (by decide)) (by rw [ho]; rfl)
        refine ⟨τ', β', e_start rfl rfl rfl (q_142_0 ?_), hr⟩
        rw [h37, h.1.2.2.2.2.2.2.2.2.2.2.2.1, if_pos (nI_lt hfr (by omega))]
        refine cli hE1 (q_142_15 ?_)
        rw [if_pos (by decide), if_neg (nI_ne0 (by omega) (by omega))]
        exact begin1 τ1 hR1 k36 hE
def lookB (g : Nat → Nat) (x y : Int32) : Bool := decide (g 7 = 2) && (decide (¬ x < 1) && (decide (¬ (4 : Int32) < x) && (decide (¬ y < 0) && decide (¬ (2 : Int32) < y))))
def aLook (g : Nat → Nat) (w : Nat → Nat → Nat) (x y : Int32) : Int32 := if lookB g x y then (if y = 0 then (wv (side (g 1) (g 9)) x.toNatClampNeg true g w).1 else if y = 1 then (wv (side (g 1) (g 9)) x.toNatClampNeg true g w).2.2 else nI (wv (side (g 1) (g 9)) x.toNatClampNeg true g w).2.1) else -100000
theorem m_look {g : Nat → Nat} {w : Nat → Nat → Nat} {τ : Nat → Int32} {β : Nat → Nat → Int32} (h : RM g w τ β) (hI : IN g w) (x y : Int32) : ∃ τ' β', Ev sc (d + 11) 143 [.ref 21, .int x, .int y] (mem L σ α τ β γ) (some (.int (aLook g w x y)), mem L σ α τ' β' γ) ∧ RM g w τ' β' := by
  have hg := IN_Bd hI
  obtain ⟨hS, -, -, h7, -, h9, -, -, h22, -⟩ := id hg
  have e7 : nI (g 7) = (2 : Int32) ↔ g 7 = 2 := nI_eq (b := 2) (by omega) (by decide)
  unfold aLook
  cases hb : lookB g x y with
  | false =>
    rw [if_neg (show ¬ false = true by decide)]
    refine ⟨τ, β, e_start rfl rfl rfl (q_143_0 ?_), h⟩
    rw [h.1.2.2.2.2.1]
    unfold lookB at hb
    by_cases a1 : g 7 = 2
    · rw [if_pos (e7.mpr a1)]
      by_cases a2 : x < 1
      · rw [if_pos a2]
      · rw [if_neg a2]
        by_cases a3 : (4 : Int32) < x
        · rw [if_pos a3]
        · rw [if_neg a3]
          by_cases a4 : y < 0
          · rw [if_pos a4]
          · rw [if_neg a4]
            by_cases a5 : (2 : Int32) < y
            · rw [if_pos a5]
            · simp [a1, a2, a3, a4, a5] at hb
    · rw [if_neg (fun z => a1 (e7.mp z))]
  | true =>
    unfold lookB at hb
    simp only [Bool.and_eq_true, decide_eq_true_eq] at hb
    obtain ⟨a1, a2, a3, a4, a5⟩ := hb
    rcases any_nI x with hx | ⟨k, hk, rfl⟩
    · exfalso
      rw [Int32.lt_iff_toInt_lt] at hx a2
      have z0 : (0 : Int32).toInt = 0 := by decide
      have z1 : (1 : Int32).toInt = 1 := by decide
      omega
    · have k1 : 1 ≤ k := Decidable.byContradiction fun z => a2 (nI_lt (b := 1) (by omega) (by decide))
      have k4 : k ≤ 4 := Decidable.byContradiction fun z => a3 (nI_lt (a := 4) (by omega) hk)
      have hsd : side (g 1) (g 9) < 4 := by
        have := side_lt hS h9
        have := sides_le hS
        omega
      rw [cl_nI hk]
      have hR0 : RM g w (upd (upd τ 35 0) 37 (τ 22)) β := RM_up (RM_up h (Or.inr (Or.inr (by omega)))) (Or.inr (Or.inr (by omega)))
      obtain ⟨τ1, β1, hE, hR1, s36, s37, s35, s38⟩ := m_worth (sc := sc) (d := d + 4 - k) (L := L) (σ := σ) (α := α) (γ := γ) hsd k k4 true g w (upd (upd (upd τ 35 0) 37 (τ 22)) 36 (nI (side (g 1) (g 9)))) β 0 (RM_up hR0 (Or.inr (Or.inr (by omega)))) (fun _ => ⟨hI, a1, by rw [pk_un (by decide), pk_us]; exact h.1.2.2.2.2.2.2.2.2.2.2.2.1, by omega⟩) (fun z => by cases z) (by rw [pk_us]) (by rw [pk_un (by decide), pk_un (by decide), pk_us]; rfl)
      rw [show d + 4 - k + k + 6 = d + 10 by omega] at hE
      refine ⟨τ1, β1, e_start rfl rfl rfl (q_143_0 ?_), hR1⟩
      rw [h.1.2.2.2.2.1, if_pos (e7.mpr a1), if_neg a2, if_neg a3, if_neg a4, if_neg a5, h.1.2.2.2.2.2.2.1]
      refine cli (m_sideOf hR0 hg (by omega)) (q_143_52 (cli hE (q_143_60 ?_)))
      rw [s38, s35, if_pos rfl, if_pos rfl, Nat.zero_add]
      split
      · rfl
      · split <;> rfl
end LA
