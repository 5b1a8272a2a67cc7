/-! what holds of every state is kept by each turn -/
section IB
variable {g : Nat → Nat} {w : Nat → Nat → Nat}
/-- a pass is written -/
theorem PS_wr (h : IN g w) (h7 : g 7 = 2) (hne : ¬ g 14 = g 15) {f : Nat} (hf : f ≤ 1) : PS (wrG g) (wrW g w 0 0 f) := by
  obtain ⟨hB, -, hS, h2, -⟩ := h
  have hBd := Bs_Bd hB
  obtain ⟨⟨h1, h22, h3, h7', h9⟩, hp, hD, h8, ⟨e14, e15, e11⟩, ht, hd, hr⟩ := hB
  obtain ⟨htp, hm⟩ := h2 h7
  have hSc := hS (by omega)
  have hl := lp_le hBd
  have hsum := pl_sum w (g 22)
  have G : ∀ k, k ≠ 22 → k ≠ 9 → wrG g k = g k := fun k a b => wrG_v g a b
  have G22 : wrG g 22 = g 22 + 1 := by simp [wrG, va_up]
  have G9 : wrG g 9 = (g 9 + 1) % g 1 := by simp [wrG, va_up]
  have W21 : wrW g w 0 0 f 21 = w 21 := by simp [wrW, tw, va_up]
  have W22 : wrW g w 0 0 f 22 = w 22 := by simp [wrW, tw, va_up]
  have W23 : wrW g w 0 0 f 23 = w 23 := by simp [wrW, tw, va_up]
  have W24 : wrW g w 0 0 f 24 = w 24 := by simp [wrW, tw, va_up]
  have Wl : ∀ t, t < g 22 → wrW g w 0 0 f 25 t = w 25 t ∧ wrW g w 0 0 f 26 t = w 26 t ∧ wrW g w 0 0 f 27 t = w 27 t ∧ wrW g w 0 0 f 28 t = w 28 t ∧ wrW g w 0 0 f 29 t = w 29 t ∧ wrW g w 0 0 f 30 t = w 30 t := fun t ht => by
    have : ¬ t = g 22 := by omega
    simp [wrW, tw, va_up, this]
  have Wn : wrW g w 0 0 f 25 (g 22) = g 9 ∧ wrW g w 0 0 f 26 (g 22) = 0 ∧ wrW g w 0 0 f 27 (g 22) = 0 ∧ wrW g w 0 0 f 28 (g 22) = lp g w ∧ wrW g w 0 0 f 29 (g 22) = rp g w ∧ wrW g w 0 0 f 30 (g 22) = f := by simp [wrW, tw, va_up]
  have hmany : ∀ s, many (wrG g) (wrW g w 0 0 f) s = many g w s := fun s => many_same (G 3 (by decide) (by decide)) (fun i _ => by rw [W21]) s
  have c1 : cn (plP (wrW g w 0 0 f)) (g 22 + 1) = cn (plP w) (g 22) := by
    simp only [cn]
    rw [plP_cong (fun t ht => (Wl t ht).2.1), if_neg (by simp [plP, Wn.2.1])]
    rfl
  have c2 : cn (lfP (wrW g w 0 0 f)) (g 22 + 1) = cn (lfP w) (g 22) := by
    simp only [cn]
    rw [lfP_cong (fun t ht => ⟨(Wl t ht).2.1, (Wl t ht).2.2.1, (Wl t ht).2.2.2.1⟩), if_neg (by simp [lfP, Wn.2.1])]
    rfl
  have c3 : cn (rtP (wrW g w 0 0 f)) (g 22 + 1) = cn (rtP w) (g 22) := by
    simp only [cn]
    rw [rtP_cong (fun t ht => ⟨(Wl t ht).2.1, (Wl t ht).2.2.1, (Wl t ht).2.2.2.1⟩), if_neg (by simp [rtP, Wn.2.1])]
    rfl
  have hlz : ¬ lp g w = 0 := fun z => hne ((lp_zero (by omega)).mp z)
  refine ⟨⟨⟨?_, ?_, ?_, ?_, ?_⟩, ?_, ?_, ?_, ⟨?_, ?_, ?_⟩, ?_, ?_, ?_⟩, ?_, ?_, ?_, ?_⟩
  · rw [G 1 (by decide) (by decide)]; exact h1
  · rw [G 2 (by decide) (by decide)]; exact h22
  · rw [G 3 (by decide) (by decide)]; exact h3
  · rw [G 7 (by decide) (by decide)]; exact h7'
  · rw [G9, G 1 (by decide) (by decide)]; exact Nat.mod_lt _ (by omega)
  · rw [W21]; exact hp
  · rw [G 7 (by decide) (by decide), G 8 (by decide) (by decide), G 1 (by decide) (by decide), G 3 (by decide) (by decide), W21]
    intro z
    obtain ⟨a, b, c, e⟩ := hD z
    refine ⟨a, b, c, fun s hs => ?_⟩
    rw [hmany, G22]
    simp only [cn]
    rw [pbP_cong (fun t ht => ⟨(Wl t ht).2.1, (Wl t ht).1⟩), if_neg (by simp [pbP, Wn.2.1])]
    exact e s hs
  · rw [G 7 (by decide) (by decide), G 8 (by decide) (by decide)]; exact h8
  · rw [G 14 (by decide) (by decide), G22, c2]; exact e14
  · rw [G 15 (by decide) (by decide), G22, c3]; exact e15
  · rw [hmany, G22, c1]; exact e11
  · rw [G22]
    intro t htt
    by_cases e : t = g 22
    · subst e
      unfold TR
      rw [plP_cong (fun u hu => (Wl u hu).2.1), tp_cong (fun u hu => (Wl u hu).2.1), Wn.1, Wn.2.1, Wn.2.2.1, Wn.2.2.2.1, Wn.2.2.2.2.1, Wn.2.2.2.2.2, G 1 (by decide) (by decide), G 3 (by decide) (by decide)]
      refine ⟨⟨h9, by omega, by omega, by omega, by omega, hf⟩, fun _ => rfl, fun z => absurd rfl z, ?_, fun z => absurd z hlz, htp⟩
      constructor
      · intro z; exact absurd z hlz
      · intro z; omega
    · have hlt : t < g 22 := by omega
      exact TR_keep (ht t hlt) (G 1 (by decide) (by decide)) (G 3 (by decide) (by decide)) (fun u hu => (Wl u (by omega)).2.1) ⟨(Wl t hlt).1, (Wl t hlt).2.2.1, (Wl t hlt).2.2.2.1, (Wl t hlt).2.2.2.2.1, (Wl t hlt).2.2.2.2.2⟩ (fun _ z => by rw [W21]; exact z)
  · rw [G22]
    intro t u htt hu hne' heq
    by_cases e : t = g 22
    · subst e; rw [Wn.2.1] at hne'; exact absurd rfl hne'
    · by_cases e2 : u = g 22
      · subst e2
        rw [Wn.2.1] at heq
        exact absurd heq hne'
      · rw [(Wl t (by omega)).2.1] at hne' heq
        rw [(Wl u (by omega)).2.1] at heq
        exact hd t u (by omega) (by omega) hne' heq
  · rw [G 14 (by decide) (by decide), G 15 (by decide) (by decide), W23, W24]; exact hr
  · rw [G 7 (by decide) (by decide)]; exact h7
  · rw [G22]; omega
  · unfold Sc
    rw [G 23 (by decide) (by decide), G 24 (by decide) (by decide), G 11 (by decide) (by decide), G 2 (by decide) (by decide), W22]
    exact hSc
  · intro s hs
    rw [G 1 (by decide) (by decide)] at hs
    left
    rw [hmany]
    exact hm s hs
theorem plLR_le {b e : Nat} (hb : b < 28) : plL g w b e ≤ 6 ∧ plR g w b e ≤ 6 := by
  have := lo_le b hb
  unfold plL plR
  constructor <;> (repeat' split) <;> omega
/-- a play is made -/
theorem PS_mp (h : IN g w) {b e : Nat} (h7 : g 7 = 2) (hb : b < g 3) (hpb : w 21 b = g 9) (he : e ≤ 1) : PS (mpG g e) (mpW g w b e) := by
  obtain ⟨hB, -, hS, h2, -⟩ := h
  have hBd := Bs_Bd hB
  obtain ⟨⟨h1, h22, h3, h7', h9⟩, hp, hD, h8, ⟨e14, e15, e11⟩, ht, hd, hr⟩ := hB
  obtain ⟨htp, hm⟩ := h2 h7
  have hSc := hS (by omega)
  have hl := lp_le hBd
  have hsum := pl_sum w (g 22)
  have hpl := plLR_le (g := g) (w := w) (b := b) (e := e) (by omega)
  have hE : mpE g e ≤ 1 := by unfold mpE; split <;> omega
  have G : ∀ k, k ≠ 22 → k ≠ 9 → k ≠ 14 → k ≠ 15 → mpG g e k = g k := fun k a b c d => by
    unfold mpG; split <;> simp [va_up, wrG, a, b, c, d]
  have G22 : mpG g e 22 = g 22 + 1 := by unfold mpG; split <;> simp [va_up, wrG]
  have G9 : mpG g e 9 = (g 9 + 1) % g 1 := by unfold mpG; split <;> simp [va_up, wrG]
  have G1 := G 1 (by decide) (by decide) (by decide) (by decide)
  have G3 := G 3 (by decide) (by decide) (by decide) (by decide)
  have W21 : ∀ i, mpW g w b e 21 i = if i = b then 11 else w 21 i := fun i => by simp [mpW, wrW, tw, va_up]
  have W22 : mpW g w b e 22 = w 22 := by simp [mpW, wrW, tw, va_up]
  have Wl : ∀ t, t < g 22 → mpW g w b e 25 t = w 25 t ∧ mpW g w b e 26 t = w 26 t ∧ mpW g w b e 27 t = w 27 t ∧ mpW g w b e 28 t = w 28 t ∧ mpW g w b e 29 t = w 29 t ∧ mpW g w b e 30 t = w 30 t := fun t ht => by
    have : ¬ t = g 22 := by omega
    simp [mpW, wrW, tw, va_up, this]
  have Wn : mpW g w b e 25 (g 22) = g 9 ∧ mpW g w b e 26 (g 22) = b + 1 ∧ mpW g w b e 27 (g 22) = mpE g e + 1 ∧ mpW g w b e 28 (g 22) = lp g w ∧ mpW g w b e 29 (g 22) = rp g w ∧ mpW g w b e 30 (g 22) = 0 := by simp [mpW, wrW, tw, va_up]
  have hmany : ∀ s, many (mpG g e) (mpW g w b e) s + (if w 21 b = s then 1 else 0) = many g w s + (if 11 = s then 1 else 0) := fun s => many_up G3 hb W21 s
  have c1 : cn (plP (mpW g w b e)) (g 22 + 1) = cn (plP w) (g 22) + 1 := by
    simp only [cn]
    rw [plP_cong (fun t ht => (Wl t ht).2.1), if_pos (by simp [plP, Wn.2.1])]
  have hlz : lp g w = 0 ↔ g 14 = g 15 := lp_zero (by omega)
  have c2 : cn (lfP (mpW g w b e)) (g 22 + 1) = cn (lfP w) (g 22) + (if ¬ g 14 = g 15 ∧ e = 0 then 1 else 0) := by
    simp only [cn]
    rw [lfP_cong (fun t ht => ⟨(Wl t ht).2.1, (Wl t ht).2.2.1, (Wl t ht).2.2.2.1⟩)]
    congr 1
    unfold lfP
    rw [Wn.2.1, Wn.2.2.1, Wn.2.2.2.1]
    unfold mpE
    by_cases z : g 14 = g 15
    · rw [if_pos z, if_neg (by simp [hlz.mpr z]), if_neg (fun q => q.1 z)]
    · rw [if_neg z]
      have : ¬ lp g w = 0 := fun q => z (hlz.mp q)
      by_cases z2 : e = 0
      · rw [if_pos (by simp [this, z2]), if_pos ⟨z, z2⟩]
      · rw [if_neg (by simp [z2]), if_neg (fun q => z2 q.2)]
  have c3 : cn (rtP (mpW g w b e)) (g 22 + 1) = cn (rtP w) (g 22) + (if ¬ g 14 = g 15 ∧ e = 0 then 0 else 1) := by
    have := pl_sum (mpW g w b e) (g 22 + 1)
    rw [c1, c2] at this
    split <;> split at this <;> omega
  have r14 : mpG g e 14 = if ¬ g 14 = g 15 ∧ e = 0 then g 14 - 1 else g 14 := by unfold mpG; split <;> simp [va_up, wrG]
  have r15 : mpG g e 15 = if ¬ g 14 = g 15 ∧ e = 0 then g 15 else g 15 + 1 := by unfold mpG; split <;> simp [va_up, wrG]
  refine ⟨⟨⟨?_, ?_, ?_, ?_, ?_⟩, ?_, ?_, ?_, ⟨?_, ?_, ?_⟩, ?_, ?_, ?_⟩, ?_, ?_, ?_, ?_⟩
  · rw [G1]; exact h1
  · rw [G 2 (by decide) (by decide) (by decide) (by decide)]; exact h22
  · rw [G3]; exact h3
  · rw [G 7 (by decide) (by decide) (by decide) (by decide)]; exact h7'
  · rw [G9, G1]; exact Nat.mod_lt _ (by omega)
  · intro i hi; rw [W21]; split
    · omega
    · exact hp i hi
  · rw [G 7 (by decide) (by decide) (by decide) (by decide), G 8 (by decide) (by decide) (by decide) (by decide), G1, G3]
    intro z
    obtain ⟨a, b', c, e'⟩ := hD z
    refine ⟨a, b', fun i hi => ?_, fun s hs => ?_⟩
    · rw [W21]; split
      · omega
      · exact c i hi
    · have hms := hmany s
      have hes := e' s hs
      rw [if_neg (show ¬ 11 = s by omega), hpb] at hms
      rw [G22]
      simp only [cn]
      rw [pbP_cong (fun t ht => ⟨(Wl t ht).2.1, (Wl t ht).1⟩)]
      have ep : pbP (mpW g w b e) s (g 22) = decide (¬ b + 1 = 0 ∧ g 9 = s) := by unfold pbP; rw [Wn.1, Wn.2.1]
      rw [ep]
      by_cases q : g 9 = s
      · rw [if_pos q] at hms
        rw [if_pos (by simp [q])]; omega
      · rw [if_neg q] at hms
        rw [if_neg (by simp [q])]; omega
  · rw [G 7 (by decide) (by decide) (by decide) (by decide), G 8 (by decide) (by decide) (by decide) (by decide)]; exact h8
  · have h14 := hBd.2.2.2.2.2.2.2.1
    rw [r14, G22, c2]
    by_cases q : ¬ g 14 = g 15 ∧ e = 0
    · rw [if_pos q, if_pos q]; omega
    · rw [if_neg q, if_neg q]; omega
  · rw [r15, G22, c3]; split <;> omega
  · have := hmany 11
    rw [if_neg (by omega), if_pos rfl] at this
    rw [G22, c1]; omega
  · rw [G22]
    intro t htt
    by_cases e' : t = g 22
    · subst e'
      unfold TR
      rw [plP_cong (fun u hu => (Wl u hu).2.1), tp_cong (fun u hu => (Wl u hu).2.1), Wn.1, Wn.2.1, Wn.2.2.1, Wn.2.2.2.1, Wn.2.2.2.2.1, Wn.2.2.2.2.2, G1, G3]
      refine ⟨⟨h9, by omega, by omega, by omega, by omega, by omega⟩, fun z => by omega, fun z => ⟨by omega, by rw [W21, if_pos (by omega)]⟩, ?_, fun z => ⟨by omega, ?_⟩, htp⟩
      · rw [hlz]; omega
      · have := hlz.mp z
        unfold mpE; rw [if_pos this]
    · have hlt : t < g 22 := by omega
      exact TR_keep (ht t hlt) G1 G3 (fun u hu => (Wl u (by omega)).2.1) ⟨(Wl t hlt).1, (Wl t hlt).2.2.1, (Wl t hlt).2.2.2.1, (Wl t hlt).2.2.2.2.1, (Wl t hlt).2.2.2.2.2⟩ (fun _ z => by rw [W21]; split <;> first | rfl | exact z)
  · rw [G22]
    intro t u htt hu hne' heq
    have old : ∀ t, t < g 22 → ¬ mpW g w b e 26 t = b + 1 := fun t htt z => by
      rw [(Wl t htt).2.1] at z
      have := ((ht t htt).2.2.1 (by omega)).2
      rw [z, Nat.add_sub_cancel] at this
      omega
    by_cases e1 : t = g 22
    · by_cases e2 : u = g 22
      · omega
      · subst e1
        rw [Wn.2.1] at heq
        exact absurd heq.symm (old u (by omega))
    · by_cases e2 : u = g 22
      · subst e2
        rw [Wn.2.1] at heq
        exact absurd heq (old t (by omega))
      · rw [(Wl t (by omega)).2.1] at hne' heq
        rw [(Wl u (by omega)).2.1] at heq
        exact hd t u (by omega) (by omega) hne' heq
  · intro i a c
    rw [r14] at a
    rw [r15] at c
    by_cases q : i = mpI g e
    · subst q
      have w23 : mpW g w b e 23 (mpI g e) = plL g w b e := by simp [mpW, tw, va_up]
      have w24 : mpW g w b e 24 (mpI g e) = plR g w b e := by simp [mpW, tw, va_up]
      rw [w23, w24]; exact hpl
    · have w23 : mpW g w b e 23 i = w 23 i := by simp [mpW, wrW, tw, va_up, q]
      have w24 : mpW g w b e 24 i = w 24 i := by simp [mpW, wrW, tw, va_up, q]
      rw [w23, w24]
      unfold mpI at q
      split at a <;> split at c <;> split at q <;> first | (exact hr i (by omega) (by omega)) | (exfalso; omega)
  · rw [G 7 (by decide) (by decide) (by decide) (by decide)]; exact h7
  · rw [G22]; omega
  · unfold Sc
    rw [G 23 (by decide) (by decide) (by decide) (by decide), G 24 (by decide) (by decide) (by decide) (by decide), G 11 (by decide) (by decide) (by decide) (by decide), G 2 (by decide) (by decide) (by decide) (by decide), W22]
    exact hSc
  · intro s hs
    rw [G1] at hs
    rw [G22, Nat.add_sub_cancel, Wn.1, Wn.2.1]
    by_cases q : s = g 9
    · right; exact ⟨q, by omega⟩
    · left
      have := hmany s
      rw [if_neg (by omega), if_neg (by omega)] at this
      have := hm s hs
      omega
/-- it is looked whether the hand is over -/
theorem IN_st (h : PS g w) : IN (stG g w) (stW g w) := by
  obtain ⟨hB, h7, hn, ⟨z23, z24, z11, hsc⟩, hM⟩ := h
  have hBd := Bs_Bd hB
  have hT := overT_le hBd hn
  have hP := overP_le hBd
  have hl := (hBd.2.2.2.2.2.2.2.2.2.2 (g 22 - 1) (by omega)).1
  cases ho : overB g w with
  | false =>
    have e1 : stG g w = g := by unfold stG; rw [ho]; rfl
    have e2 : stW g w = w := by unfold stW; rw [ho]; rfl
    rw [e1, e2]
    unfold overB at ho
    simp only [Bool.or_eq_false_iff, decide_eq_false_iff_not, outB] at ho
    refine ⟨hB, fun z => by omega, fun _ => ⟨z23, z24, z11, hsc⟩, fun _ => ⟨by omega, fun s hs => ?_⟩, fun z => by omega⟩
    rcases hM s hs with q | q
    · exact q
    · rw [q.1]; omega
  | true =>
    have hTs : overT g w ≤ sides (g 1) := by
      have a := side_lt hBd.1 hl
      have b := (stk_le (g := g) (w := w) (sides (g 1))).2
      unfold overT; split <;> omega
    -- all but the score stays
    have key : ∀ (G : Nat → Nat) (W : Nat → Nat → Nat), (∀ k, k ≠ 7 → k ≠ 23 → k ≠ 24 → k ≠ 11 → G k = g k) → G 7 = 3 → (∀ c, c ≠ 22 → W c = w c) → Bs G W := by
      intro G W hG hG7 hW
      obtain ⟨⟨h1, h22, h3, h7', h9⟩, hp, hD, h8, ⟨e14, e15, e11⟩, ht, hd, hr⟩ := hB
      have G1 := hG 1 (by decide) (by decide) (by decide) (by decide)
      have G3 := hG 3 (by decide) (by decide) (by decide) (by decide)
      have G22 := hG 22 (by decide) (by decide) (by decide) (by decide)
      have G8 := hG 8 (by decide) (by decide) (by decide) (by decide)
      have G14 := hG 14 (by decide) (by decide) (by decide) (by decide)
      have G15 := hG 15 (by decide) (by decide) (by decide) (by decide)
      have mn : ∀ s, many G W s = many g w s := fun s => many_same G3 (fun i _ => by rw [hW 21 (by decide)]) s
      have c1 : cn (plP W) (g 22) = cn (plP w) (g 22) := plP_cong (fun t _ => by rw [hW 26 (by decide)])
      have c2 : cn (lfP W) (g 22) = cn (lfP w) (g 22) := lfP_cong (fun t _ => by rw [hW 26 (by decide), hW 27 (by decide), hW 28 (by decide)]; exact ⟨rfl, rfl, rfl⟩)
      have c3 : cn (rtP W) (g 22) = cn (rtP w) (g 22) := rtP_cong (fun t _ => by rw [hW 26 (by decide), hW 27 (by decide), hW 28 (by decide)]; exact ⟨rfl, rfl, rfl⟩)
      refine ⟨⟨?_, ?_, ?_, ?_, ?_⟩, ?_, ?_, ?_, ⟨?_, ?_, ?_⟩, ?_, ?_, ?_⟩
      · rw [G1]; exact h1
      · rw [hG 2 (by decide) (by decide) (by decide) (by decide)]; exact h22
      · rw [G3]; exact h3
      · omega
      · rw [G1, hG 9 (by decide) (by decide) (by decide) (by decide)]; exact h9
      · rw [hW 21 (by decide)]; exact hp
      · intro _
        rw [G8, G1, G3, hW 21 (by decide)]
        obtain ⟨a, b, c, e⟩ := hD (by omega)
        exact ⟨a, b, c, fun s hs => by rw [mn, G22, pbP_cong (fun t _ => by rw [hW 26 (by decide), hW 25 (by decide)]; exact ⟨rfl, rfl⟩)]; exact e s hs⟩
      · intro z; omega
      · rw [G14, G22, c2]; exact e14
      · rw [G15, G22, c3]; exact e15
      · rw [mn, G22, c1]; exact e11
      · rw [G22]
        intro t htt
        exact TR_keep (ht t htt) G1 G3 (fun u _ => by rw [hW 26 (by decide)]) (by rw [hW 25 (by decide), hW 27 (by decide), hW 28 (by decide), hW 29 (by decide), hW 30 (by decide)]; exact ⟨rfl, rfl, rfl, rfl, rfl⟩) (fun _ z => by rw [hW 21 (by decide)]; exact z)
      · rw [G22, hW 26 (by decide)]; exact hd
      · rw [G14, G15, hW 23 (by decide), hW 24 (by decide)]; exact hr
    have mnk : ∀ (G : Nat → Nat) (W : Nat → Nat → Nat), G 1 = g 1 → G 3 = g 3 → G 22 = g 22 → (∀ c, c ≠ 22 → W c = w c) → Mn G W := by
      intro G W a b c hW s hs
      rw [a] at hs
      rw [c, hW 25 (by decide), hW 26 (by decide), many_same b (fun i _ => by rw [hW 21 (by decide)])]
      exact hM s hs
    unfold stG stW
    rw [if_pos ho, if_pos ho]
    by_cases hz : overT g w = 0
    · rw [if_neg (fun q => q.1 hz), if_pos hz]
      refine ⟨key _ _ (fun k a b c d => by simp [va_up, a, b, c]) (by simp [va_up]) (fun _ _ => rfl), fun z => by simp [va_up] at z, fun z => by simp [va_up] at z, fun z => by simp [va_up] at z, fun _ => ?_⟩
      refine ⟨by simpa [va_up] using hn, by simp [va_up, hz], mnk _ _ (by simp [va_up]) (by simp [va_up]) (by simp [va_up]) (fun _ _ => rfl), fun s hs _ => by simpa [va_up] using hsc s hs, fun _ => ?_, fun z => by simp [va_up, hz] at z⟩
      have hp0 : overP g w = 0 := by
        unfold overT at hz
        unfold overP
        by_cases q : outB g w = true
        · rw [if_pos q] at hz; omega
        · rw [if_neg q] at hz
          rw [if_neg q, if_pos hz]
      exact ⟨by simpa [va_up] using hp0, by simpa [va_up] using z11⟩
    · rw [if_neg hz]
      obtain ⟨T, hTe⟩ : ∃ T, overT g w = T + 1 := ⟨overT g w - 1, by omega⟩
      rw [hTe, Nat.add_sub_cancel]
      have hs4 := sides_le hBd.1
      have hT4 := hsc T (by omega)
      by_cases hw : g 2 ≤ w 22 T + overP g w
      · rw [if_pos ⟨by omega, hw⟩]
        refine ⟨key _ _ (fun k a b c d => by simp [va_up, a, b, c, d]) (by simp [va_up]) (fun c hc => by simp [tw, va_up, hc]), fun z => by simp [va_up] at z, fun z => by simp [va_up] at z, fun z => by simp [va_up] at z, fun _ => ?_⟩
        refine ⟨by simpa [va_up] using hn, by simp [va_up]; omega, mnk _ _ (by simp [va_up]) (by simp [va_up]) (by simp [va_up]) (fun c hc => by simp [tw, va_up, hc]), fun s hs q => ?_, fun z => by simp [va_up] at z, fun _ => ?_⟩
        · have : ¬ s = T := fun z => q (by simp [va_up, z])
          simpa [va_up, tw, this] using hsc s hs
        · simp [va_up, tw, hw]; omega
      · rw [if_neg (fun q => hw q.2)]
        refine ⟨key _ _ (fun k a b c d => by simp [va_up, a, b, c, d]) (by simp [va_up]) (fun c hc => by simp [tw, va_up, hc]), fun z => by simp [va_up] at z, fun z => by simp [va_up] at z, fun z => by simp [va_up] at z, fun _ => ?_⟩
        refine ⟨by simpa [va_up] using hn, by simp [va_up]; omega, mnk _ _ (by simp [va_up]) (by simp [va_up]) (by simp [va_up]) (fun c hc => by simp [tw, va_up, hc]), fun s hs q => ?_, fun z => by simp [va_up] at z, fun _ => ?_⟩
        · have : ¬ s = T := fun z => q (by simp [va_up, z])
          simpa [va_up, tw, this] using hsc s hs
        · simp [va_up, tw, hw, z11]; omega
end IB
