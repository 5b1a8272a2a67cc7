/-! the class: held, safest -/
section TC
variable {sc : Nat × (Nat → Int32)} {d : Nat} {L : Nat → Nat} {σ : Nat → Int32} {α : Nat → Nat → Int32} {τ : Nat → Int32} {β : Nat → Nat → Int32} {γ : Nat → Nat → Int64} {g : Nat → Nat} {w : Nat → Nat → Nat}
theorem RT_s (h : RT g w L σ α) {σ' : Nat → Int32} (hs : ∀ k, k < 13 → σ' k = σ k) : RT g w L σ' α := by
  obtain ⟨l, s, k6, r⟩ := h
  refine ⟨l, ?_, ?_, r⟩
  · rw [hs 2 (by decide), hs 3 (by decide), hs 4 (by decide), hs 5 (by decide), hs 7 (by decide), hs 8 (by decide), hs 9 (by decide), hs 10 (by decide), hs 11 (by decide), hs 12 (by decide)]; exact s
  · rw [hs 6 (by decide)]; exact k6
theorem tG_7 (h7 : g 7 = 2) : tG g w 7 = if overB g w then 3 else 2 := by
  unfold tG; split
  · simp [va_up]
  · exact h7
theorem Bs_tG (hP : PS g w) : Bs (tG g w) w := by
  have h9 := hP.1.1.2.2.2.2
  refine Bs_keep hP.1 (fun k a b c _ _ _ => tG_v a b c) (by rw [hP.2.1]; decide) ?_ ?_ (fun _ _ => rfl)
  · rw [tG_7 hP.2.1]; split <;> omega
  · rw [tG_v (by decide) (by decide) (by decide), tG_v (by decide) (by decide) (by decide)]; exact h9
theorem bq_tG (hP : PS g w) : bq (tG g w) = g := by
  obtain ⟨-, h7, -, ⟨z23, z24, -⟩, -⟩ := hP
  funext k
  by_cases k7 : k = 7
  · subst k7; simp [bq, va_up, h7]
  · by_cases k23 : k = 23
    · subst k23; simp [bq, va_up, z23]
    · by_cases k24 : k = 24
      · subst k24; simp [bq, va_up, z24]
      · simp only [bq, va_up, if_neg k7, if_neg k23, if_neg k24]; exact tG_v k7 k23 k24
theorem x_unturn (h : RT (tG g w) w L σ α) (hP : PS g w) : ∃ σ' α', Ev sc (d + 3) 34 [.ref 1] (mem L σ α τ β γ) (some (.int 1), mem L σ' α' τ β γ) ∧ RT (unG g w) (unW g w) L σ' α' ∧ (∀ k, k < 4 ∨ 13 ≤ k → σ' k = σ k) ∧ (∀ c, c = 2 ∨ 12 ≤ c → α' c = α c) := by
  have e22 : tG g w 22 = g 22 := tG_v (by decide) (by decide) (by decide)
  obtain ⟨σ', α', hE, hT, f1, f2⟩ := x_undo (sc := sc) (d := d) (τ := τ) (β := β) (γ := γ) h (Bs_tG hP) (by rw [tG_7 hP.2.1]; split <;> omega) (by rw [e22]; exact hP.2.2.1)
  rw [bq_tG hP] at hT
  have eW : unW (tG g w) w = unW g w := by unfold unW; rw [e22]
  rw [eW] at hT
  exact ⟨σ', α', hE, hT, f1, f2⟩
theorem RT_unplay {b e : Nat} (hI : IN g w) (he : e ≤ 1) (hp : w 21 b = g 9) (h : RT (unG (mpG g e) (mpW g w b e)) (unW (mpG g e) (mpW g w b e)) L σ α) : RT g w L σ α := by
  have hg := IN_Bd hI
  have hr := hg.2.2.2.2.2.2.2.1
  rw [un_mp (by omega) he] at h
  exact RT_eq h (by have := hg.2.2.1; omega) (fun _ _ _ _ => rfl) (agr_symm (un_mpW (by omega) hp))
theorem RT_unskip {f : Nat} (hI : IN g w) (h : RT (unG (wrG g) (wrW g w 0 0 f)) (unW (wrG g) (wrW g w 0 0 f)) L σ α) : RT g w L σ α := by
  have hg := IN_Bd hI
  rw [un_wr] at h
  exact RT_eq h (by have := hg.2.2.1; omega) (fun _ _ _ _ => rfl) (agr_symm un_wrW)
theorem x_blocking (h : RT g w L σ α) (hI : IN g w) (hP : RP α) {b : Nat} {x : Int32} (hc : canE g w b x = true) : ∃ σ' α', Ev sc (d + 7) 89 [.ref 0, .int (nI b), .int x] (mem L σ α τ β γ) (some (.long (hdV g w b (endN x))), mem L σ' α' τ β γ) ∧ RT g w L σ' α' ∧ (∀ k, k < 4 ∨ 13 ≤ k → σ' k = σ k) ∧ (∀ c, 12 ≤ c → c < 16 ∨ 19 ≤ c → α' c = α c) := by
  obtain ⟨c7, cb, cp⟩ := canE_b hc
  have h1 := hI.1.1.1
  have h3 := hI.1.1.2.2.1
  have h9 := hI.1.1.2.2.2.2
  obtain ⟨σ1, α1, hE1, hT1, f1, f2⟩ := x_put (sc := sc) (d := d) (τ := τ) (β := β) (γ := γ) h hI hc
  have hPS := PS_mp hI (e := endN x) c7 cb cp (endN_le x)
  obtain ⟨op, hE2, hop⟩ := x_openBones (sc := sc) (d := d + 3) (τ := τ) (β := β) (γ := γ) hT1 (Bs_tG hPS)
  obtain ⟨σ2, α2, hE3, hT2, f3, f4⟩ := x_unturn (sc := sc) (d := d + 3) (τ := τ) (β := β) (γ := γ) hT1 hPS
  have hT3 := RT_unplay hI (endN_le x) cp hT2
  have hE4 := x_seatBehind (sc := sc) (d := d + 5) (τ := τ) (β := β) (γ := γ) hT3 hI.1 h9
  have e3 : tG (mpG g (endN x)) (mpW g w b (endN x)) 3 = g 3 := by rw [tG_v (by decide) (by decide) (by decide), mpG_v _ _ (by decide) (by decide) (by decide) (by decide)]
  have elp : lp (tG (mpG g (endN x)) (mpW g w b (endN x))) (mpW g w b (endN x)) = lp (mpG g (endN x)) (mpW g w b (endN x)) := by
    unfold lp; rw [tG_v (k := 14) (by decide) (by decide) (by decide), tG_v (k := 15) (by decide) (by decide) (by decide)]
  have erp : rp (tG (mpG g (endN x)) (mpW g w b (endN x))) (mpW g w b (endN x)) = rp (mpG g (endN x)) (mpW g w b (endN x)) := by
    unfold rp; rw [tG_v (k := 14) (by decide) (by decide) (by decide), tG_v (k := 15) (by decide) (by decide) (by decide)]
  have hop' : ∀ i, i < 32 → bt op i = (decide (i < g 3) && (hs i (lp (mpG g (endN x)) (mpW g w b (endN x))) || hs i (rp (mpG g (endN x)) (mpW g w b (endN x))))) := fun i hi => by rw [hop i hi, e3, elp, erp]
  have hP2 : RP α2 := RP_a hP (by rw [f4 15 (by omega), f2 15 (by omega)])
  obtain ⟨α3, hE5, f5⟩ := x_lacking (sc := sc) (d := d) (τ := τ) (β := β) (γ := γ) hT3 hI.1 hP2 (by omega) h9 (nI ((g 9 + 1) % g 1)) op (m := mkH g w (g 9) ((g 9 + 1) % g 1) (lp (mpG g (endN x)) (mpW g w b (endN x))) (rp (mpG g (endN x)) (mpW g w b (endN x)))) (fun i hi hu => by
    refine ⟨by simp [mkH, mkA, hu], fun k hk => ?_⟩
    have e : nI (ot (g 9) k) = nI ((g 9 + 1) % g 1) ↔ ot (g 9) k = (g 9 + 1) % g 1 := by
      have := Nat.mod_lt (g 9 + 1) (show 0 < g 1 by omega)
      exact nI_eq (by unfold ot; split <;> omega) (by omega)
    have ed : decide (nI (ot (g 9) k) = nI ((g 9 + 1) % g 1)) = decide (ot (g 9) k = (g 9 + 1) % g 1) := decide_eq_decide.mpr e
    unfold mkH mkA outX
    rw [hu, hop' i (by omega), decide_eq_true hi, decide_eq_false (show ¬ k = 4 by omega), ed]
    simp)
  refine ⟨σ2, α3, e_start rfl rfl rfl (q_89_0 (clv hE1 (q_89_17 (cli hE2 (q_89_24 (cli hE3 (q_89_33 ?_))))))), RT_a hT3 (fun c hc => f5 c (by omega)), fun k hk => by rw [f3 k hk, f1 k hk], fun c hc hc' => by rw [f5 c hc', f4 c (by omega), f2 c (by omega)]⟩
  rw [h.2.1.2.2.2.2.1, if_pos c7]
  exact cli hE4 (q_89_47 (cll hE5 (q_89_52 rfl)))
theorem x_held_yes (h : RT g w L σ α) (hI : IN g w) (hP : RP α) {b : Nat} {x : Int32} (hc : canE g w b x = true) : ∃ σ' α', Ev sc (d + 8) 81 [.ref 0, .int (nI b), .int x] (mem L σ α τ β γ) (some (.long (hdV g w b (endN x))), mem L σ' α' τ β γ) ∧ RT g w L σ' α' ∧ (∀ k, k < 4 ∨ 13 ≤ k → σ' k = σ k) ∧ (∀ c, 12 ≤ c → c < 16 ∨ 19 ≤ c → α' c = α c) := by
  obtain ⟨c7, cb, cp⟩ := canE_b hc
  have h3 := hI.1.1.2.2.1
  obtain ⟨σ', α', hE, r⟩ := x_blocking (sc := sc) (d := d) (τ := τ) (β := β) (γ := γ) h hI hP hc
  refine ⟨σ', α', e_start rfl rfl rfl (q_81_0 (cli (x_canPut h hI.1 (by omega) x) (q_81_9 ?_))), r⟩
  rw [hc, if_neg (by decide)]
  exact cll hE (q_81_18 rfl)
theorem x_held_no (h : RT g w L σ α) (hB : Bs g w) {b : Nat} (hb : b < 2 ^ 31) {x : Int32} (hc : canE g w b x = false) : Ev sc (d + 8) 81 [.ref 0, .int (nI b), .int x] (mem L σ α τ β γ) (some (.long (-1)), mem L σ α τ β γ) := by
  refine e_start rfl rfl rfl (q_81_0 (cli (x_canPut h hB hb x) (q_81_9 ?_)))
  rw [hc, if_pos (by decide)]
theorem x_held_neg (h : RT g w L σ α) (hB : Bs g w) {y x : Int32} (hy : y < 0) : Ev sc (d + 8) 81 [.ref 0, .int y, .int x] (mem L σ α τ β γ) (some (.long (-1)), mem L σ α τ β γ) := by
  refine e_start rfl rfl rfl (q_81_0 (cli (x_canPut_neg h hB hy x) (q_81_9 ?_)))
  rw [if_pos rfl]
theorem x_safest (h : RT g w L σ α) (hI : IN g w) (hP : RP α) : ∃ σ' α', Ev sc (d + 8) 82 [.ref 0] (mem L σ α τ β γ) (some (.int (sfE g w (2 * g 3)).1), mem L σ' α' τ β γ) ∧ RT g w L σ' α' ∧ (∀ k, k < 4 ∨ 13 ≤ k → σ' k = σ k) ∧ (∀ c, 12 ≤ c → c < 16 ∨ 19 ≤ c → α' c = α c) := by
  have h3 := hI.1.1.2.2.1
  have n2 : (2 : Int32) = nI 2 := rfl
  obtain ⟨vl, hEl, hvl⟩ := x_playsAt (sc := sc) (d := d + 4) (τ := τ) (β := β) (γ := γ) h hI.1 (e := 0) (by omega)
  obtain ⟨vr, hEr, hvr⟩ := x_playsAt (sc := sc) (d := d + 4) (τ := τ) (β := β) (γ := γ) h hI.1 (e := 1) (by omega)
  have loop : ∀ m p, p + m = 2 * g 3 → ∀ σ1 α1, RT g w L σ1 α1 → (∀ k, k < 4 ∨ 13 ≤ k → σ1 k = σ k) → (∀ c, 12 ≤ c → c < 16 ∨ 19 ≤ c → α1 c = α c) → ∃ σ' α', EvL sc (d + 7) me_82 29 [some (.ref 0), some (.int (sfE g w p).1), some (.long (sfE g w p).2), none, some (.int vl), some (.int vr), some (.int (nI p)), none, none] [] (mem L σ1 α1 τ β γ) 0 0 (some (.int (sfE g w (2 * g 3)).1), mem L σ' α' τ β γ) ∧ RT g w L σ' α' ∧ (∀ k, k < 4 ∨ 13 ≤ k → σ' k = σ k) ∧ (∀ c, 12 ≤ c → c < 16 ∨ 19 ≤ c → α' c = α c) := by
    intro m
    induction m with
    | zero =>
      intro p hp σ1 α1 hT a1 a2
      have ep : p = 2 * g 3 := by omega
      subst ep
      refine ⟨σ1, α1, q_82_29 ?_, hT, a1, a2⟩
      rw [hT.2.1.2.1, n2, pk_mul, if_neg (nI_nlt (by omega) (by omega))]
    | succ m ih =>
      intro p hp σ1 α1 hT a1 a2
      have e1 : nI p &&& 1 = nI (p % 2) := pk_andN (by omega) 1 (by decide)
      have e2 : nI p >>> ((1 : Int32) &&& 31) = nI (p / 2) := pk_shrN (n := p) (by omega) ((1 : Int32) &&& 31) 1 (by decide)
      have top : ∀ r, EvL sc (d + 7) me_82 52 [some (.ref 0), some (.int (sfE g w p).1), some (.long (sfE g w p).2), none, some (.int vl), some (.int vr), some (.int (nI p)), none, none] [.int (bI (plB g w p))] (mem L σ1 α1 τ β γ) 0 0 r → EvL sc (d + 7) me_82 29 [some (.ref 0), some (.int (sfE g w p).1), some (.long (sfE g w p).2), none, some (.int vl), some (.int vr), some (.int (nI p)), none, none] [] (mem L σ1 α1 τ β γ) 0 0 r := by
        intro r H
        refine q_82_29 ?_
        rw [hT.2.1.2.1, n2, pk_mul, if_pos (nI_lt (by omega) (by omega))]
        exact cli (x_isPl h3.2 hvl hvr (by omega)) H
      cases hpl : plB g w p with
      | false =>
        rw [hpl] at top
        obtain ⟨σ', α', hE, hr⟩ := ih (p + 1) (by omega) σ1 α1 hT a1 a2
        have es : sfE g w (p + 1) = sfE g w p := by simp only [sfE]; rw [hpl]; rfl
        rw [es] at hE
        refine ⟨σ', α', top _ (q_82_52 ?_), hr⟩
        rw [if_pos (by decide), nI_1]
        exact hE
      | true =>
        rw [hpl] at top
        obtain ⟨c7, cb, cp, hc⟩ := plB_of hpl
        obtain ⟨σ2, α2, hE2, hT2, f1, f2⟩ := x_blocking (sc := sc) (d := d) (τ := τ) (β := β) (γ := γ) hT hI (RP_a hP (a2 15 (by decide) (by decide))) hc
        rw [endN_nI (by omega)] at hE2
        obtain ⟨σ', α', hE, hr⟩ := ih (p + 1) (by omega) σ2 α2 hT2 (fun k hk => by rw [f1 k hk, a1 k hk]) (fun c hc hc' => by rw [f2 c hc hc', a2 c hc hc'])
        refine ⟨σ', α', top _ (q_82_52 ?_), hr⟩
        rw [if_neg (by decide), e2, e1]
        refine cll hE2 (q_82_67 ?_)
        have es : sfE g w (p + 1) = if (sfE g w p).2 < hdV g w (p / 2) (p % 2) then (nI p, hdV g w (p / 2) (p % 2)) else sfE g w p := by simp only [sfE]; rw [hpl]; rfl
        rw [es] at hE
        rw [nI_1]
        by_cases q : (sfE g w p).2 < hdV g w (p / 2) (p % 2)
        · rw [if_pos ((lg_cmp_gt _ _).mpr q)]
          rw [if_pos q] at hE
          exact hE
        · rw [if_neg (fun z => q ((lg_cmp_gt _ _).mp z))]
          rw [if_neg q] at hE
          exact hE
  obtain ⟨σ', α', hE, hr⟩ := loop (2 * g 3) 0 (by omega) σ α h (fun _ _ => rfl) (fun _ _ _ => rfl)
  exact ⟨σ', α', e_start rfl rfl rfl (q_82_0 (cli hEl (q_82_14 (cli hEr (q_82_24 hE))))), hr⟩
end TC
