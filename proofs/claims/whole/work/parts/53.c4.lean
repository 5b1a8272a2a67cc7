/-! the class: a bone is put, a turn is skipped -/
def tG (g : Nat → Nat) (w : Nat → Nat → Nat) : Nat → Nat := if overB g w then va_up (va_up (va_up g 7 3) 23 (overT g w)) 24 (overP g w) else g
section XE
variable {sc : Nat × (Nat → Int32)} {d : Nat} {L : Nat → Nat} {σ : Nat → Int32} {α : Nat → Nat → Int32} {τ : Nat → Int32} {β : Nat → Nat → Int32} {γ : Nat → Nat → Int64} {g : Nat → Nat} {w : Nat → Nat → Nat}
theorem mpG_v (g : Nat → Nat) (e : Nat) {k : Nat} (a : k ≠ 22) (b : k ≠ 9) (c : k ≠ 14) (d : k ≠ 15) : mpG g e k = g k := by
  unfold mpG; split <;> simp [va_up, wrG, a, b, c, d]
theorem mpG_22 (g : Nat → Nat) (e : Nat) : mpG g e 22 = g 22 + 1 := by unfold mpG; split <;> simp [va_up, wrG]
theorem mpG_9 (g : Nat → Nat) (e : Nat) : mpG g e 9 = (g 9 + 1) % g 1 := by unfold mpG; split <;> simp [va_up, wrG]
theorem mpW_21 (g : Nat → Nat) (w : Nat → Nat → Nat) (b e i : Nat) : mpW g w b e 21 i = if i = b then 11 else w 21 i := by simp [mpW, wrW, tw, va_up]
theorem mpW_n (g : Nat → Nat) (w : Nat → Nat → Nat) (b e : Nat) : mpW g w b e 25 (g 22) = g 9 ∧ mpW g w b e 26 (g 22) = b + 1 ∧ mpW g w b e 27 (g 22) = mpE g e + 1 ∧ mpW g w b e 28 (g 22) = lp g w ∧ mpW g w b e 29 (g 22) = rp g w ∧ mpW g w b e 30 (g 22) = 0 := by simp [mpW, wrW, tw, va_up]
theorem mpW_l (g : Nat → Nat) (w : Nat → Nat → Nat) (b e : Nat) {t : Nat} (ht : t < g 22) : mpW g w b e 25 t = w 25 t ∧ mpW g w b e 26 t = w 26 t ∧ mpW g w b e 27 t = w 27 t ∧ mpW g w b e 28 t = w 28 t ∧ mpW g w b e 29 t = w 29 t ∧ mpW g w b e 30 t = w 30 t := by
  have : ¬ t = g 22 := by omega
  simp [mpW, wrW, tw, va_up, this]
theorem ov_9 {G : Nat → Nat} {v : Nat} (x : Nat) : own (va_up G 9 v) w x = own G w x ∧ oth (va_up G 9 v) w x = oth G w x ∧ many (va_up G 9 v) w x = many G w x := by
  unfold own oth many
  simp [va_up]
theorem RT_put (h : RT g w L σ α) (hI : IN g w) {b e : Nat} (h7 : g 7 = 2) (hb : b < g 3) (hp : w 21 b = g 9) (he : e ≤ 1) {σ1 : Nat → Int32} {α1 : Nat → Nat → Int32} (a10 : σ1 10 = nI (mpG g e 14 - 3)) (a11 : σ1 11 = nI (mpG g e 15 - mpG g e 14)) (as : ∀ k, k ≠ 10 → k ≠ 11 → σ1 k = σ k) (aa : ∀ c, c ≠ 4 → α1 c = α c) (a4 : ∀ i, mpG g e 14 ≤ i → i < mpG g e 15 → α1 4 (i - 3) = nI (10 * mpW g w b e 23 i + mpW g w b e 24 i)) : RT (va_up (mpG g e) 9 (g 9)) (mpW g w b e) L (upd σ1 12 (nI (g 22) + 1)) (va_up (va_up (va_up (va_up (va_up (va_up (va_up α1 11 (upd (α1 11) (g 9) (α1 11 (g 9) &&& (((1 : Int32) <<< (nI b &&& 31)) ^^^ (-1))))) 5 (upd (α1 5) (side (g 1) (g 9)) (α1 5 (side (g 1) (g 9)) + (-nI (lo b) - nI (hi b))))) 6 (upd (α1 6) (g 22) (nI (g 9)))) 7 (upd (α1 7) (g 22) (nI b))) 8 (upd (α1 8) (g 22) (nI (mpE g e)))) 9 (upd (α1 9) (g 22) 0)) 10 (upd (α1 10) (g 22) 0)) := by
  obtain ⟨⟨h1, -, h3, -, h9⟩, -⟩ := hI.1
  have hr' := (PS_Bd (PS_mp hI h7 hb hp he)).2.2.2.2.2.2.2.1
  have V : ∀ k, k ≠ 22 → k ≠ 14 → k ≠ 15 → va_up (mpG g e) 9 (g 9) k = g k := fun k a c f => by
    by_cases z : k = 9
    · simp [va_up, z]
    · rw [show va_up (mpG g e) 9 (g 9) k = mpG g e k by simp [va_up, z]]; exact mpG_v g e a z c f
  have V14 : va_up (mpG g e) 9 (g 9) 14 = mpG g e 14 := by simp [va_up]
  have V15 : va_up (mpG g e) 9 (g 9) 15 = mpG g e 15 := by simp [va_up]
  have V22 : va_up (mpG g e) 9 (g 9) 22 = g 22 + 1 := by rw [show va_up (mpG g e) 9 (g 9) 22 = mpG g e 22 by simp [va_up]]; exact mpG_22 g e
  have V1 := V 1 (by decide) (by decide) (by decide)
  have V3 := V 3 (by decide) (by decide) (by decide)
  have V7 := V 7 (by decide) (by decide) (by decide)
  have hne : ¬ mpG g e 14 = mpG g e 15 := by
    have r14 : mpG g e 14 = if ¬ g 14 = g 15 ∧ e = 0 then g 14 - 1 else g 14 := by unfold mpG; split <;> simp [va_up, wrG]
    have r15 : mpG g e 15 = if ¬ g 14 = g 15 ∧ e = 0 then g 15 else g 15 + 1 := by unfold mpG; split <;> simp [va_up, wrG]
    have := (IN_Bd hI).2.2.2.2.2.2.2.1
    rw [r14, r15]; split <;> omega
  obtain ⟨⟨l0, l1, lW, kW⟩, ⟨s2, s3, s4, s5, s7, s8, s9, s10, s11, s12⟩, k6, kh, kr, kt, kb⟩ := h
  refine ⟨⟨by rw [V1]; exact l0, by rw [V3]; exact l1, by rw [V1]; exact lW, fun _ s hs => ?_⟩, ⟨?_, ?_, ?_, ?_, ?_, ?_, ?_, ?_, ?_, ?_⟩, ?_, ?_, ?_, ?_, ?_⟩
  · rw [V1] at hs
    have om := own_move (G := va_up (mpG g e) 9 (g 9)) (W := mpW g w b e) V1 V3 hb (mpW_21 g w b e) s
    have hk := kW (by omega) s hs
    rw [hp, if_neg (c := 11 < g 1 ∧ side (g 1) 11 = s) (fun z => by omega)] at om
    generalize own (va_up (mpG g e) 9 (g 9)) (mpW g w b e) s = O at om ⊢
    simp only [va_up, show ((5 : Nat) = 10) = False by simp, show ((5 : Nat) = 9) = False by simp, show ((5 : Nat) = 8) = False by simp, show ((5 : Nat) = 7) = False by simp, show ((5 : Nat) = 6) = False by simp, if_true, if_false]
    by_cases q : s = side (g 1) (g 9)
    · subst q
      rw [if_pos ⟨h9, rfl⟩] at om
      have ew : wt b = hi b + lo b := rfl
      rw [pk_us, aa 5 (by decide), hk, pk_down (by omega)]
      congr 1
      omega
    · rw [if_neg (c := g 9 < g 1 ∧ side (g 1) (g 9) = s) (fun z => q z.2.symm)] at om
      rw [pk_un q, aa 5 (by decide), hk]
      congr 1
      omega
  · rw [pk_un (by decide), as 2 (by decide) (by decide), V1]; exact s2
  · rw [pk_un (by decide), as 3 (by decide) (by decide), V3]; exact s3
  · rw [pk_un (by decide), as 4 (by decide) (by decide), V7]; exact s4
  · rw [pk_un (by decide), as 5 (by decide) (by decide), V 8 (by decide) (by decide) (by decide)]; exact s5
  · rw [pk_un (by decide), as 7 (by decide) (by decide), V7, V 9 (by decide) (by decide) (by decide)]; exact s7
  · rw [pk_un (by decide), as 8 (by decide) (by decide), V 23 (by decide) (by decide) (by decide)]; exact s8
  · rw [pk_un (by decide), as 9 (by decide) (by decide), V 24 (by decide) (by decide) (by decide)]; exact s9
  · rw [pk_un (by decide), V14, V15, if_neg hne]; exact a10
  · rw [pk_un (by decide), V14, V15]; exact a11
  · rw [pk_us, V22]; exact nI_1 _
  · intro i hi
    rw [pk_un (by decide), as 6 (by decide) (by decide), k6 i hi, V7, V3, mpW_21]
    by_cases q : i = b
    · have : ¬ g 9 = 10 := by omega
      rw [if_pos q, q, hp]; simp [this]
    · rw [if_neg q]
  · intro s hs i hi
    rw [V1] at hs
    rw [V7, V3, mpW_21]
    simp only [va_up, show ((11 : Nat) = 10) = False by simp, show ((11 : Nat) = 9) = False by simp, show ((11 : Nat) = 8) = False by simp, show ((11 : Nat) = 7) = False by simp, show ((11 : Nat) = 6) = False by simp, show ((11 : Nat) = 5) = False by simp, if_true, if_false]
    by_cases q : s = g 9
    · rw [q, pk_us, b_off (by omega) hi, aa 11 (by decide), kh (g 9) h9 i hi]
      by_cases z : i = b
      · have : ¬ (11 : Nat) = g 9 := by omega
        simp [z, this]
      · simp [z]
    · rw [pk_un q, aa 11 (by decide), kh s hs i hi]
      by_cases z : i = b
      · have a1 : ¬ g 9 = s := fun r => q r.symm
        have a2 : ¬ (11 : Nat) = s := by omega
        simp [z, hp, a1, a2]
      · simp [z]
  · intro i a c
    rw [V14] at a
    rw [V15] at c
    simpa [va_up] using a4 i a c
  · intro t ht
    rw [V22] at ht
    rw [V3]
    by_cases q : t = g 22
    · subst q
      obtain ⟨n1, n2, n3, n4, n5, n6⟩ := mpW_n g w b e
      rw [n1, n2, n3, n4, n5, n6, mI_succ, mI_succ]
      refine ⟨by simp [va_up, upd], by simp [va_up, upd], by simp [va_up, upd], by simp [va_up, upd]; rfl, fun i hi => ?_⟩
      simp [va_up, upd, b_0]
    · obtain ⟨n1, n2, n3, n4, n5, n6⟩ := mpW_l g w b e (t := t) (by omega)
      rw [n1, n2, n3, n4, n5, n6]
      have := kt t (by omega)
      simpa [va_up, upd, q, aa 6, aa 7, aa 8, aa 9, aa 10] using this
  · intro p hp' i hi
    rw [V3]
    have := kb p hp' i hi
    simpa [va_up, aa 2] using this
theorem tp_play {t : Nat} (h : ¬ w 26 t = 0) : tp w (t + 1) = 0 := by simp [tp, h]
/-- only who is on turn, and what the hand brought, is changed -/
theorem RT_ch (h : RT g w L σ α) {G : Nat → Nat} {W : Nat → Nat → Nat} {σ' : Nat → Int32} (hG : G 1 = g 1 ∧ G 3 = g 3 ∧ G 8 = g 8 ∧ G 14 = g 14 ∧ G 15 = g 15 ∧ G 22 = g 22) (h7 : 1 ≤ g 7) (h7' : 1 ≤ G 7) (hW : ∀ c, c ≠ 22 → W c = w c) (hs : ∀ k, k ≠ 4 → k ≠ 7 → k ≠ 8 → k ≠ 9 → σ' k = σ k) (e4 : σ' 4 = nI (G 7)) (e7 : σ' 7 = (if G 7 = 2 then nI (G 9) else -1)) (e8 : σ' 8 = mI (G 23)) (e9 : σ' 9 = nI (G 24)) : RT G W L σ' α := by
  obtain ⟨⟨l0, l1, lW, kW⟩, ⟨s2, s3, s4, s5, s7, s8, s9, s10, s11, s12⟩, k6, kh, kr, kt, kb⟩ := h
  obtain ⟨g1, g3, g8, g14, g15, g22⟩ := hG
  refine ⟨⟨by rw [g1]; exact l0, by rw [g3]; exact l1, by rw [g1]; exact lW, fun _ s hs' => by rw [g1] at hs'; rw [own_same g1 g3 (fun i _ => by rw [hW 21 (by decide)])]; exact kW h7 s hs'⟩, ⟨?_, ?_, e4, ?_, e7, e8, e9, ?_, ?_, ?_⟩, ?_, ?_, ?_, ?_, ?_⟩
  · rw [hs 2 (by decide) (by decide) (by decide) (by decide), g1]; exact s2
  · rw [hs 3 (by decide) (by decide) (by decide) (by decide), g3]; exact s3
  · rw [hs 5 (by decide) (by decide) (by decide) (by decide), g8]; exact s5
  · rw [hs 10 (by decide) (by decide) (by decide) (by decide), g14, g15]; exact s10
  · rw [hs 11 (by decide) (by decide) (by decide) (by decide), g14, g15]; exact s11
  · rw [hs 12 (by decide) (by decide) (by decide) (by decide), g22]; exact s12
  · intro i hi
    rw [hs 6 (by decide) (by decide) (by decide) (by decide), g3, hW 21 (by decide), k6 i hi, decide_eq_true h7, decide_eq_true h7']
  · intro s hs' i hi
    rw [g1] at hs'
    rw [g3, hW 21 (by decide), kh s hs' i hi, decide_eq_true h7, decide_eq_true h7']
  · intro i a b
    rw [g14] at a
    rw [g15] at b
    rw [hW 23 (by decide), hW 24 (by decide)]
    exact kr i a b
  · intro t ht
    rw [g22] at ht
    rw [g3, hW 25 (by decide), hW 26 (by decide), hW 27 (by decide), hW 28 (by decide), hW 29 (by decide), hW 30 (by decide)]
    exact kt t ht
  · intro p hp i hi
    rw [g3]
    exact kb p hp i hi
theorem x_put (h : RT g w L σ α) (hI : IN g w) {b : Nat} {x : Int32} (hc : canE g w b x = true) : ∃ σ' α', Ev sc (d + 6) 32 [.ref 1, .int (nI b), .int x] (mem L σ α τ β γ) (none, mem L σ' α' τ β γ) ∧ RT (tG (mpG g (endN x)) (mpW g w b (endN x))) (mpW g w b (endN x)) L σ' α' ∧ (∀ k, k < 4 ∨ 13 ≤ k → σ' k = σ k) ∧ (∀ c, c = 2 ∨ 12 ≤ c → α' c = α c) := by
  obtain ⟨c7, cb, cp, cf⟩ := canE_of hc
  obtain ⟨⟨h1, -, h3, -, h9⟩, -⟩ := hI.1
  have hBd := IN_Bd hI
  have h22 := hBd.2.2.2.2.2.2.2.2.1
  have he := endN_le x
  have hPS := PS_mp hI c7 cb cp he
  have n140 : (140 : Int32) = nI 140 := rfl
  have hmE : mpE g (endN x) ≤ 1 := by unfold mpE; split <;> omega
  have hfe : fitE g w b (nI (endN x)) = true := by
    by_cases em : g 14 = g 15
    · simp [fitE, em]
    · rw [← endN_ok hc em]; exact cf
  have ex : (if g 14 = g 15 then (0 : Int32) else x) = nI (mpE g (endN x)) := by
    unfold mpE
    by_cases em : g 14 = g 15
    · rw [if_pos em, if_pos em]; rfl
    · rw [if_neg em, if_neg em]; exact endN_ok hc em
  obtain ⟨σ1, α1, hE1, a10, a11, as, aa, a4⟩ := x_add (sc := sc) (d := d + 2) (τ := τ) (β := β) (γ := γ) h hI.1 (b := b) (e := endN x) (x := nI (mpE g (endN x))) (by omega) he rfl hfe hPS.1
  have hR := RT_put h hI c7 cb cp he a10 a11 as aa a4
  have s7 : σ 7 = nI (g 9) := by rw [h.2.1.2.2.2.2.1, if_pos c7]
  have s12 := h.2.1.2.2.2.2.2.2.2.2.2
  -- until the turn is written
  have e4 : ∀ {r}, EvL sc (d + 5) me_32 68 [some (.ref 1), none, none, none, none] [] (mem L (upd σ1 12 (nI (g 22) + 1)) (va_up (va_up (va_up (va_up (va_up (va_up (va_up α1 11 (upd (α1 11) (g 9) (α1 11 (g 9) &&& (((1 : Int32) <<< (nI b &&& 31)) ^^^ (-1))))) 5 (upd (α1 5) (side (g 1) (g 9)) (α1 5 (side (g 1) (g 9)) + (-nI (lo b) - nI (hi b))))) 6 (upd (α1 6) (g 22) (nI (g 9)))) 7 (upd (α1 7) (g 22) (nI b))) 8 (upd (α1 8) (g 22) (nI (mpE g (endN x))))) 9 (upd (α1 9) (g 22) 0)) 10 (upd (α1 10) (g 22) 0)) τ β γ) 0 0 r → EvL sc (d + 5) me_32 46 [some (.ref 1), some (.int (nI b)), none, some (.int (nI (mpE g (endN x)))), none] [] (mem L σ1 α1 τ β γ) 0 0 r := by
    intro r hr
    refine q_32_46 ?_
    rw [as 7 (by decide) (by decide), s7]
    refine clv (y_putDown h1 h3.2 h.1.1 h.1.2.2.1 (by rw [as 2 (by decide) (by decide)]; exact h.2.1.1) (by rw [as 3 (by decide) (by decide)]; exact h.2.1.2.1) h9 cb) (q_32_55 ?_)
    rw [as 7 (by decide) (by decide), s7]
    refine clv (e_start rfl rfl rfl (q_55_0 ?_)) hr
    rw [as 12 (by decide) (by decide), s12, if_neg (nI_pos (by omega)), n140, if_pos (nI_lt (by omega) (by omega)), cl_nI (by omega), if_neg (in_cl (by omega) (by decide)), if_neg (in_cl (by omega) (by decide)), if_neg (in_cl (by omega) (by decide)), if_neg (in_cl (by omega) (by decide)), if_neg (in_cl (by omega) (by decide))]
    rfl
  have start : ∀ {r}, EvL sc (d + 5) me_32 46 [some (.ref 1), some (.int (nI b)), none, some (.int (nI (mpE g (endN x)))), none] [] (mem L σ1 α1 τ β γ) 0 0 r → Ev sc (d + 6) 32 [.ref 1, .int (nI b), .int x] (mem L σ α τ β γ) r := by
    intro r hr
    refine e_start rfl rfl rfl (q_32_0 (cli (x_canPut h hI.1 (by omega) x) (q_32_6 ?_)))
    rw [hc, if_neg (by decide), s7]
    refine cli (x_isSeat h hI.1 _) (q_32_17 ?_)
    rw [bel_nI (by omega) (by omega), decide_eq_true h9, if_neg (by decide)]
    refine cli (x_isEmpty h hI.1) (q_32_28 ?_)
    by_cases em : g 14 = g 15
    · rw [if_neg (by simp [em, bI])]
      rw [if_pos em] at ex
      rw [ex]
      exact clv hE1 hr
    · rw [if_pos (by simp [em, bI])]
      rw [if_neg em] at ex
      rw [ex]
      exact clv hE1 hr
  generalize hσ3 : upd σ1 12 (nI (g 22) + 1) = σ3 at *
  generalize hα3 : (va_up (va_up (va_up (va_up (va_up (va_up (va_up α1 11 (upd (α1 11) (g 9) (α1 11 (g 9) &&& (((1 : Int32) <<< (nI b &&& 31)) ^^^ (-1))))) 5 (upd (α1 5) (side (g 1) (g 9)) (α1 5 (side (g 1) (g 9)) + (-nI (lo b) - nI (hi b))))) 6 (upd (α1 6) (g 22) (nI (g 9)))) 7 (upd (α1 7) (g 22) (nI b))) 8 (upd (α1 8) (g 22) (nI (mpE g (endN x))))) 9 (upd (α1 9) (g 22) 0)) 10 (upd (α1 10) (g 22) 0)) = α3 at *
  have fr1 : ∀ k, k < 4 ∨ 13 ≤ k → σ3 k = σ k := fun k hk => by rw [← hσ3, pk_un (by omega)]; exact as k (by omega) (by omega)
  have fr2 : ∀ c, c = 2 ∨ 12 ≤ c → α3 c = α c := fun c hc => by
    rw [← hα3]
    simp only [va_up]
    rw [if_neg (by omega), if_neg (by omega), if_neg (by omega), if_neg (by omega), if_neg (by omega), if_neg (by omega), if_neg (by omega)]
    exact aa c (by omega)
  have t7 : σ3 7 = nI (g 9) := by rw [← hσ3, pk_un (by decide), as 7 (by decide) (by decide), s7]
  have G1 := mpG_v g (endN x) (k := 1) (by decide) (by decide) (by decide) (by decide)
  have G3 := mpG_v g (endN x) (k := 3) (by decide) (by decide) (by decide) (by decide)
  have G7 := mpG_v g (endN x) (k := 7) (by decide) (by decide) (by decide) (by decide)
  have G23 := mpG_v g (endN x) (k := 23) (by decide) (by decide) (by decide) (by decide)
  have G24 := mpG_v g (endN x) (k := 24) (by decide) (by decide) (by decide) (by decide)
  have G22 := mpG_22 g (endN x)
  have G9 := mpG_9 g (endN x)
  obtain ⟨n25, n26, -⟩ := mpW_n g w b (endN x)
  generalize hGe : mpG g (endN x) = G at *
  generalize hWe : mpW g w b (endN x) = W at *
  have hB0 : Bs (va_up G 9 (g 9)) W := Bs_keep hPS.1 (fun k _ _ _ _ _ a => by simp [va_up, a]) (by omega) (by simp [va_up]; omega) (by simp [va_up]; omega) (fun _ _ => rfl)
  have h70 : 1 ≤ va_up G 9 (g 9) 7 := by simp [va_up]; omega
  have hz : α3 11 (g 9) = 0 ↔ many G W (g 9) = 0 := by
    have hc0 := hand_cn hR hB0 h70 (s := g 9) (by simp [va_up]; omega)
    rw [(ov_9 (g 9)).2.2] at hc0
    rw [← hc0, cn_zero]
    exact b_zero_iff
  have eout : outB G W = decide (many G W (g 9) = 0) := by unfold outB; rw [G22, Nat.add_sub_cancel, n25]
  have eo : overB G W = outB G W := by
    unfold overB
    rw [G22, tp_play (by rw [n26]; omega), decide_eq_false (by omega), Bool.or_false]
  have sd := side_lt h1 h9
  have ss := sides_le h1
  by_cases hm : many G W (g 9) = 0
  · have ho : outB G W = true := by rw [eout, decide_eq_true hm]
    have eT : overT G W = side (g 1) (g 9) + 1 := by unfold overT; rw [ho, if_pos rfl, G22, Nat.add_sub_cancel, n25, G1]
    have eP : overP G W = oth G W (side (g 1) (g 9)) := by unfold overP; rw [ho, if_pos rfl, G22, Nat.add_sub_cancel, n25, G1]
    have hsd := x_sideOf (sc := sc) (d := d + 4) (τ := τ) (β := β) (γ := γ) hR hB0 (s := g 9) (by omega)
    have how := x_othersWeight (sc := sc) (d := d + 1) (τ := τ) (β := β) (γ := γ) hR hB0 h70 (x := side (g 1) (g 9)) (by omega)
    rw [show va_up G 9 (g 9) 1 = g 1 by simp [va_up, G1]] at hsd
    rw [(ov_9 _).2.1] at how
    refine ⟨upd (upd (upd (upd σ3 4 3) 7 (-1)) 8 (nI (side (g 1) (g 9)))) 9 (nI (oth G W (side (g 1) (g 9)))), α3, start (e4 (q_32_68 ?_)), ?_, fun k hk => by rw [pk_un (by omega), pk_un (by omega), pk_un (by omega), pk_un (by omega)]; exact fr1 k hk, fr2⟩
    · rw [t7, h.1.1, if_neg (in_nI h9 (by omega)), cl_nI (by omega), if_pos (hz.mpr hm)]
      exact cli hsd (q_32_88 (cli how (q_32_99 (clv (e_start rfl rfl rfl (q_37_0 rfl)) (q_32_102 rfl)))))
    · have tk : ∀ k, tG G W k = va_up (va_up (va_up G 7 3) 23 (overT G W)) 24 (overP G W) k := fun k => by unfold tG; rw [eo, if_pos ho]
      refine RT_ch hR (by simp [tk, va_up]) h70 (by simp [tk, va_up]) (fun _ _ => rfl) (fun k a b c e => by rw [pk_un e, pk_un c, pk_un b, pk_un a]) ?_ ?_ ?_ ?_
      · simp [upd, tk, va_up]; rfl
      · simp [upd, tk, va_up]
      · simp [upd, tk, va_up, eT, mI_succ]
      · simp [upd, tk, va_up, eP]
  · have ho : outB G W = false := by rw [eout, decide_eq_false hm]
    have hsb := x_seatBehind (sc := sc) (d := d + 4) (τ := τ) (β := β) (γ := γ) hR hB0 (s := g 9) (by simp [va_up]; omega)
    rw [show va_up G 9 (g 9) 1 = g 1 by simp [va_up, G1]] at hsb
    refine ⟨upd σ3 7 (nI ((g 9 + 1) % g 1)), α3, start (e4 (q_32_68 ?_)), ?_, fun k hk => by rw [pk_un (by omega)]; exact fr1 k hk, fr2⟩
    · rw [t7, h.1.1, if_neg (in_nI h9 (by omega)), cl_nI (by omega), if_neg (fun q => hm (hz.mp q))]
      exact cli hsb (q_32_114 rfl)
    · have tk : tG G W = G := by unfold tG; rw [eo, ho]; rfl
      rw [tk]
      obtain ⟨-, ⟨-, -, q4, -, -, q8, q9, -⟩, -⟩ := id hR
      refine RT_ch hR (by simp [va_up]) h70 (by omega) (fun _ _ => rfl) (fun k a b c e => by rw [pk_un b]) ?_ ?_ ?_ ?_
      · rw [pk_un (by decide), q4]; simp [va_up]
      · rw [pk_us, G7, if_pos c7, G9]
      · rw [pk_un (by decide), q8]; simp [va_up]
      · rw [pk_un (by decide), q9]; simp [va_up]
end XE
