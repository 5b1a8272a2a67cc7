/-! the reference: held, safest -/
/-- a play by its number: 2 times the bone, and the end -/
def plB (g : Nat → Nat) (w : Nat → Nat → Nat) (p : Nat) : Bool := (decide (p % 2 = 0) || decide (¬ g 14 = g 15)) && canE g w (p / 2) (nI (p % 2))
/-- the safest play among the first n: it and its number of deals -/
def sfE (g : Nat → Nat) (w : Nat → Nat → Nat) : Nat → Int32 × Int64
  | 0 => (-1, -1)
  | p + 1 => if plB g w p then (if (sfE g w p).2 < hdV g w (p / 2) (p % 2) then (nI p, hdV g w (p / 2) (p % 2)) else sfE g w p) else sfE g w p
theorem canE_of {g : Nat → Nat} {w : Nat → Nat → Nat} {b : Nat} {x : Int32} (h : canE g w b x = true) : g 7 = 2 ∧ b < g 3 ∧ w 21 b = g 9 ∧ fitE g w b x = true := by
  unfold canE at h
  simpa only [Bool.and_eq_true, decide_eq_true_eq] using h
section DF
variable {sc : Nat × (Nat → Int32)} {d : Nat} {L : Nat → Nat} {σ : Nat → Int32} {α : Nat → Nat → Int32} {τ : Nat → Int32} {β : Nat → Nat → Int32} {γ : Nat → Nat → Int64} {g : Nat → Nat} {w : Nat → Nat → Nat}
theorem m_held_yes (h : RM g w τ β) (hg : Bd g w) (hD : DV g w (g 9)) {b : Nat} {x : Int32} (hc : canE g w b x = true) (hg' : Bd (mpG g (endN x)) (mpW g w b (endN x))) : ∃ τ' β' γ', Ev sc (d + 6) 140 [.ref 21, .int (nI b), .int x] (mem L σ α τ β γ) (some (.long (hdV g w b (endN x))), mem L σ α τ' β' γ') ∧ RM g w τ' β' := by
  obtain ⟨h1, -, ⟨-, h3⟩, -, -, h9, hpl, hrow, h22, -⟩ := id hg
  obtain ⟨c7, cb, cp, cf⟩ := canE_of hc
  have n5 : (5 : Int32) = nI 5 := rfl
  have nz : vp_nar .boolean (0 : Int32) = bI false := by decide
  have hR1 : RM g w (upd τ 34 (nI (g 9))) β := RM_up h (Or.inr (Or.inr (by omega)))
  obtain ⟨τ1, β1, hE1, hK, t1, t2⟩ := m_reckon (sc := sc) (d := d) (L := L) (σ := σ) (α := α) (γ := γ) hR1 hg h9
  have hR2 : RM g w τ1 β1 := RM_scr hR1 (fun k hk => t1 k (by omega)) t2
  have e34 : τ1 34 = nI (g 9) := by rw [t1 34 (by decide), pk_us]
  obtain ⟨τ2, β2, hE2, hR3, t3⟩ := m_makePlay (sc := sc) (d := d + 1) (L := L) (σ := σ) (α := α) (γ := γ) hR2 hg (b := b) (by omega) (endN_le x) (endN_ok hc)
  have hn : 0 < mpG g (endN x) 22 := by unfold mpG; split <;> simp [va_up, wrG]
  have hrow' : mpG g (endN x) 14 < mpG g (endN x) 15 := by
    unfold mpG; split <;> simp [va_up, wrG] <;> omega
  obtain ⟨τ3, β3, hE3, hR4, t4⟩ := m_unmake (sc := sc) (d := d + 4) (L := L) (σ := σ) (α := α) (γ := γ) hR3 hg' hn (Or.inl hrow')
  rw [un_mp hrow.1 (endN_le x)] at hR4
  have hR5 : RM g w τ3 β3 := RM_agr hR4 (un_mpW ⟨hrow.1, by omega⟩ cp)
  have hK5 : RK g w (g 9) (mkA g w (g 9)) τ3 β3 := by
    unfold RK
    rw [t4.1 33 (by decide), t3.1 33 (by decide), t4.2 34 (by decide), t3.2 34 (by decide), t4.2 33 (by decide), t3.2 33 (by decide), t4.2 32 (by decide), t3.2 32 (by decide)]
    exact hK
  have e34' : τ3 34 = nI (g 9) := by rw [t4.1 34 (by decide), t3.1 34 (by decide), e34]
  have hlr := lp_le hg'
  generalize hl : lp (mpG g (endN x)) (mpW g w b (endN x)) = l at *
  generalize hrr : rp (mpG g (endN x)) (mpW g w b (endN x)) = r at *
  generalize ha : (g 9 + 1) % g 1 = a at *
  have ha4 : a < 4 := by rw [← ha]; have := Nat.mod_lt (g 9 + 1) (show 0 < g 1 by omega); omega
  obtain ⟨k1, k2, k3⟩ := id hK5
  have hot : ∀ k, k < g 1 - 1 → ot (g 9) k < 4 := fun k hk => by unfold ot; split <;> omega
  -- what is marked so far
  have outer : ∀ q k, k + q = g 1 - 1 → ∀ β4, (∀ c, c < 31 → β4 c = β3 c) → β4 34 = β3 34 → β4 33 = β3 33 → (∀ j i, j < g 3 → (i < g 1 - 1 ∨ i = 4) → β4 32 (5 * j + i) = bI (if i < k then mkH g w (g 9) a l r j i else mkA g w (g 9) j i)) → ∃ β' γ', EvL sc (d + 5) me_140 63 [some (.ref 21), none, none, none, some (.int (nI a)), some (.int (mI l)), some (.int (mI r)), some (.int (nI k)), none] [] (mem L σ α τ3 β4 γ) 0 0 (some (.long (dl g w (g 9) (mkH g w (g 9) a l r))), mem L σ α τ3 β' γ') ∧ (∀ c, c < 31 → β' c = β3 c) := by
    intro q
    induction q with
    | zero =>
      intro k hk β4 s1 s2 s3 s4
      have ek : k = g 1 - 1 := by omega
      subst ek
      have hK6 : RK g w (g 9) (mkH g w (g 9) a l r) τ3 β4 := ⟨k1, fun k hk => by rw [s2, s3]; exact k2 k hk, fun j hj => ⟨fun i hi => by rw [s4 j i hj (Or.inl hi), if_pos hi], by
        rw [s4 j 4 hj (Or.inr rfl), if_neg (by omega)]; congr 1; simp [mkH]⟩⟩
      obtain ⟨γ', hE⟩ := m_count (sc := sc) (d := d + 2) (L := L) (σ := σ) (α := α) (γ := γ) (RM_scr hR5 (fun _ _ => rfl) s1) hg h9 e34' hK6 hD.1 hD.2
      refine ⟨β4, γ', q_140_63 ?_, s1⟩
      rw [k1, if_neg (nI_nlt (by omega) (by omega))]
      exact cll hE (q_140_145 rfl)
    | succ q ih =>
      intro k hk β4 s1 s2 s3 s4
      have inner : ∀ p j, j + p = g 3 → ∀ β5, (∀ c, c < 31 → β5 c = β3 c) → β5 34 = β3 34 → β5 33 = β3 33 → (∀ j' i, j' < g 3 → (i < g 1 - 1 ∨ i = 4) → β5 32 (5 * j' + i) = bI (if i < k ∨ (i = k ∧ j' < j) then mkH g w (g 9) a l r j' i else mkA g w (g 9) j' i)) → ∃ β' γ', EvL sc (d + 5) me_140 75 [some (.ref 21), none, none, none, some (.int (nI a)), some (.int (mI l)), some (.int (mI r)), some (.int (nI k)), some (.int (nI j))] [] (mem L σ α τ3 β5 γ) 0 0 (some (.long (dl g w (g 9) (mkH g w (g 9) a l r))), mem L σ α τ3 β' γ') ∧ (∀ c, c < 31 → β' c = β3 c) := by
        intro p
        induction p with
        | zero =>
          intro j hj β5 u1 u2 u3 u4
          obtain ⟨β', γ', hE, hr⟩ := ih (k + 1) (by omega) β5 u1 u2 u3 (fun j' i hj' hi => by
            rw [u4 j' i hj' hi]
            congr 1
            by_cases c : i < k + 1
            · rw [if_pos (by omega), if_pos c]
            · rw [if_neg (by omega), if_neg c])
          refine ⟨β', γ', q_140_75 ?_, hr⟩
          rw [hR5.1.2.2.1, if_neg (nI_nlt (by omega) (by omega)), nI_1]
          exact hE
        | succ p ihp =>
          intro j hj β5 u1 u2 u3 u4
          have hk4 : ¬ k = 4 := by omega
          -- nothing is marked
          have skip : mkH g w (g 9) a l r j k = mkA g w (g 9) j k → ∃ β' γ', EvL sc (d + 5) me_140 75 [some (.ref 21), none, none, none, some (.int (nI a)), some (.int (mI l)), some (.int (mI r)), some (.int (nI k)), some (.int (nI (j + 1)))] [] (mem L σ α τ3 β5 γ) 0 0 (some (.long (dl g w (g 9) (mkH g w (g 9) a l r))), mem L σ α τ3 β' γ') ∧ (∀ c, c < 31 → β' c = β3 c) := fun hsame =>
            ihp (j + 1) (by omega) β5 u1 u2 u3 (fun j' i hj' hi => by
              rw [u4 j' i hj' hi]
              congr 1
              by_cases e : i = k ∧ j' = j
              · obtain ⟨rfl, rfl⟩ := e
                rw [if_neg (by omega), if_pos (by omega), hsame]
              · by_cases c : i < k ∨ (i = k ∧ j' < j)
                · rw [if_pos c, if_pos (by omega)]
                · rw [if_neg c, if_neg (by omega)])
          have mark : mkH g w (g 9) a l r j k = false → ∃ β' γ', EvL sc (d + 5) me_140 75 [some (.ref 21), none, none, none, some (.int (nI a)), some (.int (mI l)), some (.int (mI r)), some (.int (nI k)), some (.int (nI (j + 1)))] [] (mem L σ α τ3 (va_up β5 32 (upd (β5 32) (5 * j + k) (bI false))) γ) 0 0 (some (.long (dl g w (g 9) (mkH g w (g 9) a l r))), mem L σ α τ3 β' γ') ∧ (∀ c, c < 31 → β' c = β3 c) := fun hsame =>
            ihp (j + 1) (by omega) _ (fun c hc => by
              have : ¬ c = 32 := by omega
              simp [va_up, this, u1 c hc]) (by simpa [va_up] using u2) (by simpa [va_up] using u3) (fun j' i hj' hi => by
              by_cases e : i = k ∧ j' = j
              · obtain ⟨rfl, rfl⟩ := e
                rw [if_pos (by omega), hsame]
                simp [va_up, upd]
              · have ne : ¬ 5 * j' + i = 5 * j + k := by omega
                simp only [va_up, upd, if_true, if_neg ne]
                rw [u4 j' i hj' hi]
                congr 1
                by_cases c : i < k ∨ (i = k ∧ j' < j)
                · rw [if_pos c, if_pos (by omega)]
                · rw [if_neg c, if_neg (by omega)])
          have hok := hot k (by omega)
          have ea : nI (ot (g 9) k) = nI a ↔ ot (g 9) k = a := nI_eq (by omega) (by omega)
          by_cases c1 : ot (g 9) k = a
          · cases c2 : hs j l with
            | true =>
              obtain ⟨β', γ', hE, hr⟩ := mark (by simp [mkH, hk4, c1, c2])
              refine ⟨β', γ', q_140_75 ?_, hr⟩
              rw [hR5.1.2.2.1, if_pos (nI_lt (by omega) (by omega)), if_neg (in_nI (by omega) (by decide)), cl_nI (by omega), u2, (k2 k (by omega)).1, if_pos (ea.mpr c1)]
              refine cli (m_has (by omega) _) (q_140_103 ?_)
              rw [hasI_mI (by omega) (by omega), c2, if_neg (by decide), n5, pk_mul, nI_add, if_neg (in_nI (by omega) (by decide)), cl_nI (by omega), nz, nI_1]
              exact hE
            | false =>
              cases c3 : hs j r with
              | true =>
                obtain ⟨β', γ', hE, hr⟩ := mark (by simp [mkH, hk4, c1, c3])
                refine ⟨β', γ', q_140_75 ?_, hr⟩
                rw [hR5.1.2.2.1, if_pos (nI_lt (by omega) (by omega)), if_neg (in_nI (by omega) (by decide)), cl_nI (by omega), u2, (k2 k (by omega)).1, if_pos (ea.mpr c1)]
                refine cli (m_has (by omega) _) (q_140_103 ?_)
                rw [hasI_mI (by omega) (by omega), c2, if_pos (by decide)]
                refine cli (m_has (by omega) _) (q_140_113 ?_)
                rw [hasI_mI (by omega) (by omega), c3, if_neg (by decide), n5, pk_mul, nI_add, if_neg (in_nI (by omega) (by decide)), cl_nI (by omega), nz, nI_1]
                exact hE
              | false =>
                obtain ⟨β', γ', hE, hr⟩ := skip (by simp [mkH, c2, c3])
                refine ⟨β', γ', q_140_75 ?_, hr⟩
                rw [hR5.1.2.2.1, if_pos (nI_lt (by omega) (by omega)), if_neg (in_nI (by omega) (by decide)), cl_nI (by omega), u2, (k2 k (by omega)).1, if_pos (ea.mpr c1)]
                refine cli (m_has (by omega) _) (q_140_103 ?_)
                rw [hasI_mI (by omega) (by omega), c2, if_pos (by decide)]
                refine cli (m_has (by omega) _) (q_140_113 ?_)
                rw [hasI_mI (by omega) (by omega), c3, if_pos (by decide), nI_1]
                exact hE
          · obtain ⟨β', γ', hE, hr⟩ := skip (by simp [mkH, c1])
            refine ⟨β', γ', q_140_75 ?_, hr⟩
            rw [hR5.1.2.2.1, if_pos (nI_lt (by omega) (by omega)), if_neg (in_nI (by omega) (by decide)), cl_nI (by omega), u2, (k2 k (by omega)).1, if_neg (fun z => c1 (ea.mp z)), nI_1]
            exact hE
      obtain ⟨β', γ', hE, hr⟩ := inner (g 3) 0 (by omega) β4 s1 s2 s3 (fun j' i hj' hi => by
        rw [s4 j' i hj' hi]
        congr 1
        by_cases c : i < k
        · rw [if_pos c, if_pos (Or.inl c)]
        · rw [if_neg c, if_neg (by omega)])
      refine ⟨β', γ', q_140_63 ?_, hr⟩
      rw [k1, if_pos (nI_lt (by omega) (by omega))]
      exact hE
  obtain ⟨β', γ', hE, hr⟩ := outer (g 1 - 1) 0 (by omega) β3 (fun _ _ => rfl) rfl rfl (fun j i hj hi => by
    rw [if_neg (by omega)]
    rcases hi with hi | hi
    · exact (k3 j hj).1 i hi
    · rw [hi]; exact (k3 j hj).2)
  have hm : nI (g 9) + 1 - (nI (g 9) + 1) / nI (g 1) * nI (g 1) = nI a := by
    rw [← ha, nI_1]; exact pk_rem (by omega) (by omega) (by omega)
  refine ⟨τ3, β', γ', e_start rfl rfl rfl (q_140_0 (cli (m_canPlay h hg (by omega) x) (q_140_6 ?_))), RM_scr hR5 (fun _ _ => rfl) hr⟩
  rw [hc, if_neg (by decide), h.1.1, if_neg (nI_ne0 (by omega) (by omega)), h.1.2.2.2.2.2.2.1, hm]
  have hlp := m_leftPips (sc := sc) (d := d + 3) (L := L) (σ := σ) (α := α) (γ := γ) hR3 hg'
  have hrp := m_rightPips (sc := sc) (d := d + 3) (L := L) (σ := σ) (α := α) (γ := γ) hR3 hg'
  rw [hl] at hlp
  rw [hrr] at hrp
  unfold hdV
  rw [hl, hrr, ha]
  exact clv hE1 (q_140_38 (clv hE2 (q_140_44 (cli hlp (q_140_48 (cli hrp (q_140_54 (clv hE3 (q_140_60 hE)))))))))
theorem m_held_no (h : RM g w τ β) (hg : Bd g w) {b : Nat} (hb : b < 2 ^ 31) {x : Int32} (hc : canE g w b x = false) : Ev sc (d + 6) 140 [.ref 21, .int (nI b), .int x] (mem L σ α τ β γ) (some (.long (-1)), mem L σ α τ β γ) := by
  refine e_start rfl rfl rfl (q_140_0 (cli (m_canPlay h hg hb x) (q_140_6 ?_)))
  rw [hc, if_pos (by decide)]
theorem m_held_neg (h : RM g w τ β) (hg : Bd g w) {y x : Int32} (hy : y < 0) : Ev sc (d + 6) 140 [.ref 21, .int y, .int x] (mem L σ α τ β γ) (some (.long (-1)), mem L σ α τ β γ) := by
  refine e_start rfl rfl rfl (q_140_0 (cli (m_canPlay_neg h hg hy x) (q_140_6 ?_)))
  rw [if_pos rfl]
theorem endN_nI {n : Nat} (h : n ≤ 1) : endN (nI n) = n := by
  have : n = 0 ∨ n = 1 := by omega
  rcases this with rfl | rfl <;> rfl
theorem m_safest (h : RM g w τ β) (hg : Bd g w) (hD : g 7 = 2 → DV g w (g 9)) (hB : ∀ b e, e ≤ 1 → canE g w b (nI e) = true → Bd (mpG g e) (mpW g w b e)) : ∃ τ' β' γ', Ev sc (d + 7) 141 [.ref 21] (mem L σ α τ β γ) (some (.int (sfE g w (2 * g 3)).1), mem L σ α τ' β' γ') ∧ RM g w τ' β' := by
  have h3 := hg.2.2.1
  have n2 : (2 : Int32) = nI 2 := rfl
  have loop : ∀ m p, p + m = 2 * g 3 → ∀ τ1 β1 γ1, RM g w τ1 β1 → ∃ τ' β' γ', EvL sc (d + 6) me_141 9 [some (.ref 21), some (.int (sfE g w p).1), some (.long (sfE g w p).2), none, some (.int (nI p)), none, none] [] (mem L σ α τ1 β1 γ1) 0 0 (some (.int (sfE g w (2 * g 3)).1), mem L σ α τ' β' γ') ∧ RM g w τ' β' := by
    intro m
    induction m with
    | zero =>
      intro p hp τ1 β1 γ1 hR
      have ep : p = 2 * g 3 := by omega
      subst ep
      refine ⟨τ1, β1, γ1, q_141_9 ?_, hR⟩
      rw [hR.1.2.2.1, n2, pk_mul, if_neg (nI_nlt (by omega) (by omega))]
    | succ m ih =>
      intro p hp τ1 β1 γ1 hR
      have e2 : nI p / 2 = nI (p / 2) := pk_div (d := 2) (by omega) (by omega) (by omega)
      have er : nI p - nI (p / 2) * nI 2 = nI (p % 2) := by
        have := pk_rem (a := p) (d := 2) (by omega) (by omega) (by omega)
        rw [← n2, e2] at this
        exact this
      have hmod : p % 2 ≤ 1 := by omega
      -- what follows once the play is known
      have tail : ∀ {c : Bool}, c = canE g w (p / 2) (nI (p % 2)) → plB g w p = c → ∃ τ' β' γ', EvL sc (d + 6) me_141 47 [some (.ref 21), some (.int (sfE g w p).1), some (.long (sfE g w p).2), none, some (.int (nI p)), none, none] [.int (bI c)] (mem L σ α τ1 β1 γ1) 0 0 (some (.int (sfE g w (2 * g 3)).1), mem L σ α τ' β' γ') ∧ RM g w τ' β' := by
        intro c hc hpl
        cases c with
        | false =>
          obtain ⟨τ', β', γ', hE, hr⟩ := ih (p + 1) (by omega) τ1 β1 γ1 hR
          have es : sfE g w (p + 1) = sfE g w p := by simp only [sfE]; rw [hpl]; rfl
          rw [es] at hE
          refine ⟨τ', β', γ', q_141_47 ?_, hr⟩
          rw [if_pos (by decide), nI_1]
          exact hE
        | true =>
          have c7 := (canE_of hc.symm).1
          obtain ⟨τ2, β2, γ2, hE2, hR2⟩ := m_held_yes (sc := sc) (d := d) (L := L) (σ := σ) (α := α) (γ := γ1) hR hg (hD c7) hc.symm (by rw [endN_nI hmod]; exact hB _ _ hmod hc.symm)
          rw [endN_nI hmod] at hE2
          obtain ⟨τ', β', γ', hE, hr⟩ := ih (p + 1) (by omega) τ2 β2 γ2 hR2
          refine ⟨τ', β', γ', q_141_47 ?_, hr⟩
          rw [if_neg (by decide), e2, n2, er]
          refine cll hE2 (q_141_65 ?_)
          have es : sfE g w (p + 1) = if (sfE g w p).2 < hdV g w (p / 2) (p % 2) then (nI p, hdV g w (p / 2) (p % 2)) else sfE g w p := by simp only [sfE]; rw [hpl]; rfl
          rw [es] at hE
          rw [nI_1]
          by_cases q : (sfE g w p).2 < hdV g w (p / 2) (p % 2)
          · rw [if_pos ((lg_cmp_gt _ _).mpr q)]
            rw [if_pos q] at hE
            exact hE
          · rw [if_neg (fun z => q ((lg_cmp_gt _ _).mp z))]
            rw [if_neg q] at hE
            exact hE
      have eo : nI (p % 2) = 1 ↔ p % 2 = 1 := nI_eq (b := 1) (by omega) (by decide)
      have hcan := m_canPlay (sc := sc) (d := d + 1) (L := L) (σ := σ) (α := α) (γ := γ1) hR hg (b := p / 2) (by omega) (nI (p % 2))
      by_cases o : p % 2 = 1
      · by_cases em : g 14 = g 15
        · obtain ⟨τ', β', γ', hE, hr⟩ := ih (p + 1) (by omega) τ1 β1 γ1 hR
          have es : sfE g w (p + 1) = sfE g w p := by
            simp only [sfE]
            have : plB g w p = false := by simp [plB, o, em]
            rw [this]; rfl
          rw [es] at hE
          refine ⟨τ', β', γ', q_141_9 ?_, hr⟩
          rw [hR.1.2.2.1, e2, n2, pk_mul, if_pos (nI_lt (by omega) (by omega)), er, if_pos (eo.mpr o)]
          refine cli (m_isEmpty hR hg) (q_141_32 ?_)
          rw [if_neg (by simp [em, bI]), nI_1]
          exact hE
        · obtain ⟨τ', β', γ', hE, hr⟩ := tail rfl (by simp [plB, em])
          refine ⟨τ', β', γ', q_141_9 ?_, hr⟩
          rw [hR.1.2.2.1, e2, n2, pk_mul, if_pos (nI_lt (by omega) (by omega)), er, if_pos (eo.mpr o)]
          refine cli (m_isEmpty hR hg) (q_141_32 ?_)
          rw [if_pos (by simp [em, bI]), e2, n2, er]
          exact cli hcan hE
      · obtain ⟨τ', β', γ', hE, hr⟩ := tail rfl (by simp [plB, show p % 2 = 0 by omega])
        refine ⟨τ', β', γ', q_141_9 ?_, hr⟩
        rw [hR.1.2.2.1, e2, n2, pk_mul, if_pos (nI_lt (by omega) (by omega)), er, if_neg (fun z => o (eo.mp z))]
        exact cli hcan hE
  obtain ⟨τ', β', γ', hE, hr⟩ := loop (2 * g 3) 0 (by omega) τ β γ h
  exact ⟨τ', β', γ', e_start rfl rfl rfl (q_141_0 hE), hr⟩
end DF
