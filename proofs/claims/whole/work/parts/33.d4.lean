/-! the reference counts deals: the whole count -/
/-- the ways that lead to a state of what is still wanted -/
def fwS (u : Nat → Bool) (m : Nat → Nat → Bool) (r0 r1 r2 j a c e : Nat) : Nat := if a ≤ r0 ∧ c ≤ r1 ∧ e ≤ r2 then gw u m j (r0 - a) (r1 - c) (r2 - e) else 0
theorem fwS_step (u : Nat → Bool) (m : Nat → Nat → Bool) (r0 r1 r2 j a c e : Nat) (hu : u j = true) : fwS u m r0 r1 r2 (j + 1) a c e = (if m j 0 then fwS u m r0 r1 r2 j (a + 1) c e else 0) + (if m j 1 then fwS u m r0 r1 r2 j a (c + 1) e else 0) + (if m j 2 then fwS u m r0 r1 r2 j a c (e + 1) else 0) + (if m j 4 then fwS u m r0 r1 r2 j a c e else 0) := by
  unfold fwS
  by_cases h : a ≤ r0 ∧ c ≤ r1 ∧ e ≤ r2
  · obtain ⟨h0, h1, h2⟩ := h
    rw [if_pos (c := a ≤ r0 ∧ c ≤ r1 ∧ e ≤ r2) ⟨h0, h1, h2⟩, if_pos (c := a ≤ r0 ∧ c ≤ r1 ∧ e ≤ r2) ⟨h0, h1, h2⟩]
    simp only [gw, hu, if_true]
    have e0 : (if (m j 0 = true ∧ 0 < r0 - a) then gw u m j (r0 - a - 1) (r1 - c) (r2 - e) else 0) = (if m j 0 = true then (if a + 1 ≤ r0 ∧ c ≤ r1 ∧ e ≤ r2 then gw u m j (r0 - (a + 1)) (r1 - c) (r2 - e) else 0) else 0) := by
      cases m j 0
      · simp
      · by_cases l : a + 1 ≤ r0
        · rw [if_pos ⟨rfl, by omega⟩, if_pos rfl, if_pos ⟨l, h1, h2⟩, Nat.sub_sub]
        · rw [if_neg (fun z => by omega), if_pos rfl, if_neg (fun z => l z.1)]
    have e1 : (if (m j 1 = true ∧ 0 < r1 - c) then gw u m j (r0 - a) (r1 - c - 1) (r2 - e) else 0) = (if m j 1 = true then (if a ≤ r0 ∧ c + 1 ≤ r1 ∧ e ≤ r2 then gw u m j (r0 - a) (r1 - (c + 1)) (r2 - e) else 0) else 0) := by
      cases m j 1
      · simp
      · by_cases l : c + 1 ≤ r1
        · rw [if_pos ⟨rfl, by omega⟩, if_pos rfl, if_pos ⟨h0, l, h2⟩, Nat.sub_sub]
        · rw [if_neg (fun z => by omega), if_pos rfl, if_neg (fun z => l z.2.1)]
    have e2 : (if (m j 2 = true ∧ 0 < r2 - e) then gw u m j (r0 - a) (r1 - c) (r2 - e - 1) else 0) = (if m j 2 = true then (if a ≤ r0 ∧ c ≤ r1 ∧ e + 1 ≤ r2 then gw u m j (r0 - a) (r1 - c) (r2 - (e + 1)) else 0) else 0) := by
      cases m j 2
      · simp
      · by_cases l : e + 1 ≤ r2
        · rw [if_pos ⟨rfl, by omega⟩, if_pos rfl, if_pos ⟨h0, h1, l⟩, Nat.sub_sub]
        · rw [if_neg (fun z => by omega), if_pos rfl, if_neg (fun z => l z.2.2)]
    rw [e0, e1, e2]
  · rw [if_neg h, if_neg (c := a + 1 ≤ r0 ∧ c ≤ r1 ∧ e ≤ r2) (fun z => h ⟨by omega, z.2.1, z.2.2⟩), if_neg (c := a ≤ r0 ∧ c + 1 ≤ r1 ∧ e ≤ r2) (fun z => h ⟨z.1, by omega, z.2.2⟩), if_neg (c := a ≤ r0 ∧ c ≤ r1 ∧ e + 1 ≤ r2) (fun z => h ⟨z.1, z.2.1, by omega⟩), if_neg (c := a ≤ r0 ∧ c ≤ r1 ∧ e ≤ r2) h]
    simp
theorem ct_sum (f : Nat → Int64) (y : Nat → Int32) (b q st r0 r1 r2 s : Nat) : sL (ct f y b q st r0 r1 r2 s) 3375 = (if s + 1 < 3375 then (if 0 < (s + 1) % 15 ∧ ¬ y (5 * b) = 0 then f (s + 1) else 0) else 0) + (if s + 15 < 3375 then (if 0 < (s + 15) / 15 % 15 ∧ ¬ y (5 * b + 1) = 0 then f (s + 15) else 0) else 0) + (if s + 225 < 3375 then (if 0 < (s + 225) / 225 ∧ ¬ y (5 * b + 2) = 0 then f (s + 225) else 0) else 0) + (if s < 3375 then (if q + s % 15 + s / 15 % 15 + s / 225 < st + r0 + r1 + r2 ∧ ¬ y (5 * b + 4) = 0 then f s else 0) else 0) := by
  have e : sL (ct f y b q st r0 r1 r2 s) 3375 = sL (fun k => if s + 1 = k ∧ 0 < k % 15 ∧ ¬ y (5 * b) = 0 then f k else 0) 3375 + sL (fun k => if s + 15 = k ∧ 0 < k / 15 % 15 ∧ ¬ y (5 * b + 1) = 0 then f k else 0) 3375 + sL (fun k => if s + 225 = k ∧ 0 < k / 225 ∧ ¬ y (5 * b + 2) = 0 then f k else 0) 3375 + sL (fun k => if s = k ∧ q + k % 15 + k / 15 % 15 + k / 225 < st + r0 + r1 + r2 ∧ ¬ y (5 * b + 4) = 0 then f k else 0) 3375 := by
    rw [← sL_add, ← sL_add, ← sL_add]
    rfl
  rw [e, sL_one (p := s + 1) 3375 (fun i hi => if_neg (fun z => hi z.1.symm)), sL_one (p := s + 15) 3375 (fun i hi => if_neg (fun z => hi z.1.symm)), sL_one (p := s + 225) 3375 (fun i hi => if_neg (fun z => hi z.1.symm)), sL_one (p := s) 3375 (fun i hi => if_neg (fun z => hi z.1.symm))]
  simp only [true_and]
section DD
variable {sc : Nat × (Nat → Int32)} {d : Nat} {L : Nat → Nat} {σ : Nat → Int32} {α : Nat → Nat → Int32} {τ : Nat → Int32} {β : Nat → Nat → Int32} {γ : Nat → Nat → Int64} {g : Nat → Nat} {w : Nat → Nat → Nat}
theorem m_count (h : RM g w τ β) (hg : Bd g w) {v : Nat} (hv : v < g 1) (h34 : τ 34 = nI v) {m : Nat → Nat → Bool} (hk : RK g w v m τ β) (hr : ∀ k, rm g w v k ≤ 14) (hT : cn (un w v) (g 3) = many g w 10 + rm g w v 0 + rm g w v 1 + rm g w v 2) : ∃ γ', Ev sc (d + 3) 134 [.ref 21] (mem L σ α τ β γ) (some (.long (lN (gw (un w v) m (g 3) (rm g w v 0) (rm g w v 1) (rm g w v 2)))), mem L σ α τ β γ') := by
  obtain ⟨hS, -, ⟨-, h3⟩, -, -, -, hpl, -⟩ := id hg
  have hm10 := cn_le (fun b => decide (w 21 b = 10)) (g 3)
  have hm10 : many g w 10 ≤ 28 := by unfold many; omega
  have n3375 : (Int32.ofNat 3375) = nI 3375 := rfl
  have n225 : (225 : Int32) = nI 225 := rfl
  have n15 : (15 : Int32) = nI 15 := rfl
  have r0 := hr 0
  have r1 := hr 1
  have r2 := hr 2
  have hrk : ∀ k, g 1 - 1 ≤ k → rm g w v k = 0 := fun k hk => if_neg (by omega)
  have hcn : ∀ j, cn (un w v) j ≤ j := fun j => cn_le _ j
  generalize hR0 : rm g w v 0 = R0 at *
  generalize hR1 : rm g w v 1 = R1 at *
  generalize hR2 : rm g w v 2 = R2 at *
  -- the bones
  have bones : ∀ p j, j + p = g 3 → ∀ γ1 : Nat → Nat → Int64, (∀ a c e, a ≤ 14 → c ≤ 14 → e ≤ 14 → cn (un w v) j + a + c + e ≤ many g w 10 + R0 + R1 + R2 → γ1 35 (a + 15 * c + 225 * e) = lN (fwS (un w v) m R0 R1 R2 j a c e)) → ∃ γ', EvL sc (d + 2) me_134 65 [some (.ref 21), some (.int (nI (many g w 10))), some (.int (nI (cn (un w v) j))), some (.int (nI j)), none] [] (mem L σ α τ β γ1) 0 0 (some (.long (lN (gw (un w v) m (g 3) R0 R1 R2))), mem L σ α τ β γ') := by
    intro p
    induction p with
    | zero =>
      intro j hj γ1 hW
      have ej : j = g 3 := by omega
      subst ej
      refine ⟨γ1, q_134_65 ?_⟩
      have := hW 0 0 0 (by omega) (by omega) (by omega) (by omega)
      simp only [Nat.mul_zero, Nat.add_zero, fwS, Nat.zero_le, and_self, if_true, Nat.sub_zero] at this
      rw [h.1.2.2.1, if_neg (nI_nlt (by omega) (by omega)), show ((0 : Int32)).toNatClampNeg = 0 from rfl, this]
    | succ p ih =>
      intro j hj γ1 hW
      have hp := hpl j (by omega)
      have e11 : nI (w 21 j) = 11 ↔ w 21 j = 11 := nI_eq (b := 11) (by omega) (by decide)
      have cj := hcn j
      cases hu : un w v j with
      | false =>
        have hc : cn (un w v) (j + 1) = cn (un w v) j := by simp [cn, hu]
        obtain ⟨γ', hE⟩ := ih (j + 1) (by omega) γ1 (fun a c e ha hc' he hs => by
          rw [hW a c e ha hc' he (by rw [hc] at hs; omega)]
          congr 1
          unfold fwS
          simp only [gw, hu, Bool.false_eq_true, if_false])
        rw [hc] at hE
        refine ⟨γ', q_134_65 ?_⟩
        rw [h.1.2.2.1, if_pos (nI_lt (by omega) (by omega)), if_neg (in_nI (by omega) (by decide)), cl_nI (by omega), h.2.1 j (by omega)]
        by_cases p11 : w 21 j = 11
        · rw [if_pos (e11.mpr p11), nI_1]
          exact hE
        · rw [if_neg (fun z => p11 (e11.mp z))]
          refine cli (m_isUnseen h hg (by omega) h34 (by omega)) (q_134_89 ?_)
          rw [hu, if_pos (by decide), nI_1]
          exact hE
      | true =>
        have hc : cn (un w v) (j + 1) = cn (un w v) j + 1 := by simp [cn, hu]
        have p11 : ¬ w 21 j = 11 := by unfold un at hu; simp at hu; exact hu.2
        obtain ⟨hmk, hm4⟩ := hk.2.2 j (by omega)
        -- the copy back
        have copy : ∀ q k, k + q = 3375 → ∀ γ2 : Nat → Nat → Int64, (∀ s, s < 3375 → γ2 36 s = sL (ct (γ1 35) (β 32) j (cn (un w v) j) (many g w 10) R0 R1 R2 s) 3375) → (∀ s, s < k → γ2 35 s = sL (ct (γ1 35) (β 32) j (cn (un w v) j) (many g w 10) R0 R1 R2 s) 3375) → ∃ γ', EvL sc (d + 2) me_134 168 [some (.ref 21), some (.int (nI (many g w 10))), some (.int (nI (cn (un w v) j + 1))), some (.int (nI j)), some (.int (nI k))] [] (mem L σ α τ β γ2) 0 0 (some (.long (lN (gw (un w v) m (g 3) R0 R1 R2))), mem L σ α τ β γ') := by
          intro q
          induction q with
          | zero =>
            intro k hkq γ2 h36 h35
            obtain ⟨γ', hE⟩ := ih (j + 1) (by omega) γ2 (fun a c e ha hc' he hs => by
              rw [hc] at hs
              have i0 : (a + 15 * c + 225 * e) % 15 = a := by omega
              have i1 : (a + 15 * c + 225 * e) / 15 % 15 = c := by omega
              have i2 : (a + 15 * c + 225 * e) / 225 = e := by omega
              rw [h35 _ (by omega), ct_sum, fwS_step _ _ _ _ _ _ _ _ _ hu, ← lN_add, ← lN_add, ← lN_add]
              congr 1
              · congr 1
                · congr 1
                  · -- first seat
                    have hb0 := hmk 0 (by omega)
                    simp only [Nat.add_zero] at hb0
                    rw [hb0]
                    by_cases l : a < 14
                    · rw [if_pos (by omega)]
                      have := hW (a + 1) c e (by omega) hc' he (by omega)
                      rw [show a + 15 * c + 225 * e + 1 = a + 1 + 15 * c + 225 * e by omega, this]
                      cases m j 0 with
                      | true => rw [if_pos ⟨by omega, by decide⟩, if_pos rfl]
                      | false => rw [if_neg (fun z => z.2 rfl)]; rfl
                    · have : fwS (un w v) m R0 R1 R2 j (a + 1) c e = 0 := by unfold fwS; exact if_neg (fun z => by omega)
                      rw [this]
                      have : ¬ (0 < (a + 15 * c + 225 * e + 1) % 15) := by omega
                      rw [if_neg (show ¬ (0 < (a + 15 * c + 225 * e + 1) % 15 ∧ ¬ bI (m j 0) = 0) from fun z => this z.1)]
                      split <;> split <;> rfl
                  · by_cases hs1 : 1 < g 1 - 1
                    · rw [hmk 1 hs1]
                      by_cases l : c < 14
                      · rw [if_pos (by omega)]
                        have := hW a (c + 1) e ha (by omega) he (by omega)
                        rw [show a + 15 * c + 225 * e + 15 = a + 15 * (c + 1) + 225 * e by omega, this]
                        cases m j 1 with
                        | true => rw [if_pos ⟨by omega, by decide⟩, if_pos rfl]
                        | false => rw [if_neg (fun z => z.2 rfl)]; rfl
                      · have : fwS (un w v) m R0 R1 R2 j a (c + 1) e = 0 := by unfold fwS; exact if_neg (fun z => by omega)
                        rw [this]
                        have : ¬ (0 < (a + 15 * c + 225 * e + 15) / 15 % 15) := by omega
                        rw [if_neg (show ¬ (0 < (a + 15 * c + 225 * e + 15) / 15 % 15 ∧ ¬ bI (m j 1) = 0) from fun z => this z.1)]
                        split <;> split <;> rfl
                    · have hz : R1 = 0 := by rw [← hR1]; exact hrk 1 (by omega)
                      have z0 : fwS (un w v) m R0 R1 R2 j a (c + 1) e = 0 := by unfold fwS; exact if_neg (fun z => by omega)
                      rw [z0]
                      by_cases l : c < 14
                      · have := hW a (c + 1) e ha (by omega) he (by omega)
                        rw [z0] at this
                        rw [show a + 15 * c + 225 * e + 15 = a + 15 * (c + 1) + 225 * e by omega, this]
                        split <;> split <;> first | rfl | (split <;> rfl)
                      · have : ¬ (0 < (a + 15 * c + 225 * e + 15) / 15 % 15) := by omega
                        rw [if_neg (show ¬ (0 < (a + 15 * c + 225 * e + 15) / 15 % 15 ∧ ¬ β 32 (5 * j + 1) = 0) from fun z => this z.1)]
                        split <;> split <;> rfl
                · by_cases hs1 : 2 < g 1 - 1
                  · rw [hmk 2 hs1]
                    by_cases l : e < 14
                    · rw [if_pos (by omega)]
                      have := hW a c (e + 1) ha hc' (by omega) (by omega)
                      rw [show a + 15 * c + 225 * e + 225 = a + 15 * c + 225 * (e + 1) by omega, this]
                      cases m j 2 with
                      | true => rw [if_pos ⟨by omega, by decide⟩, if_pos rfl]
                      | false => rw [if_neg (fun z => z.2 rfl)]; rfl
                    · have : fwS (un w v) m R0 R1 R2 j a c (e + 1) = 0 := by unfold fwS; exact if_neg (fun z => by omega)
                      rw [this, if_neg (by omega)]
                      split <;> rfl
                  · have hz : R2 = 0 := by rw [← hR2]; exact hrk 2 (by omega)
                    have z0 : fwS (un w v) m R0 R1 R2 j a c (e + 1) = 0 := by unfold fwS; exact if_neg (fun z => by omega)
                    rw [z0]
                    by_cases l : e < 14
                    · have := hW a c (e + 1) ha hc' (by omega) (by omega)
                      rw [z0] at this
                      rw [show a + 15 * c + 225 * e + 225 = a + 15 * c + 225 * (e + 1) by omega, this]
                      split <;> split <;> first | rfl | (split <;> rfl)
                    · rw [if_neg (by omega)]
                      split <;> rfl
              · rw [hm4, i0, i1, i2, if_pos (by omega), hW a c e ha hc' he (by omega)]
                cases m j 4 with
                | true => rw [if_pos ⟨by omega, by decide⟩, if_pos rfl]
                | false => rw [if_neg (fun z => z.2 rfl)]; rfl)
            rw [hc] at hE
            refine ⟨γ', q_134_168 ?_⟩
            rw [n3375, if_neg (nI_nlt (by omega) (by omega)), nI_1]
            exact hE
          | succ q ihq =>
            intro k hkq γ2 h36 h35
            obtain ⟨γ', hE⟩ := ihq (k + 1) (by omega) (va_up γ2 35 (vp_updL (γ2 35) k (γ2 36 k))) (fun s hs => by simpa [va_up] using h36 s hs) (fun s hs => by
              by_cases e : s = k
              · subst e; simp [va_up, vp_updL]; exact h36 s (by omega)
              · simp [va_up, vp_updL, e]; exact h35 s (by omega))
            refine ⟨γ', q_134_168 ?_⟩
            rw [n3375, if_pos (nI_lt (by omega) (by omega)), cl_nI (by omega), if_neg (in_cl (by omega) (by decide)), if_neg (in_cl (by omega) (by decide)), nI_1]
            exact hE
        -- the states
        have states : ∀ q k, k + q = 3375 → ∀ γ2 : Nat → Nat → Int64, (γ2 35 = γ1 35) → (∀ s, s < 3375 → γ2 36 s = sL (ct (γ1 35) (β 32) j (cn (un w v) j) (many g w 10) R0 R1 R2 s) k) → ∃ γ', EvL sc (d + 2) me_134 128 [some (.ref 21), some (.int (nI (many g w 10))), some (.int (nI (cn (un w v) j + 1))), some (.int (nI j)), some (.int (nI k))] [] (mem L σ α τ β γ2) 0 0 (some (.long (lN (gw (un w v) m (g 3) R0 R1 R2))), mem L σ α τ β γ') := by
          intro q
          induction q with
          | zero =>
            intro k hkq γ2 h35 h36
            have ek : k = 3375 := by omega
            subst ek
            obtain ⟨γ', hE⟩ := copy 3375 0 (by omega) γ2 h36 (fun s hs => absurd hs (by omega))
            refine ⟨γ', q_134_128 ?_⟩
            rw [n3375, if_neg (nI_nlt (by omega) (by omega))]
            exact hE
          | succ q ihq =>
            intro k hkq γ2 h35 h36
            by_cases z : γ2 35 k = 0
            · obtain ⟨γ', hE⟩ := ihq (k + 1) (by omega) γ2 h35 (fun s hs => by
                rw [h36 s hs]
                simp only [sL]
                have : ct (γ1 35) (β 32) j (cn (un w v) j) (many g w 10) R0 R1 R2 s k = 0 := by
                  rw [h35] at z
                  unfold ct
                  rw [z]
                  simp
                rw [this, Int64.add_zero])
              refine ⟨γ', q_134_128 ?_⟩
              rw [n3375, if_pos (nI_lt (by omega) (by omega)), cl_nI (by omega), if_neg (in_cl (by omega) (by decide)), if_pos ((lg_cmp_eq _ _).mpr z)]
              refine q_134_159 ?_
              rw [nI_1]
              exact hE
            · obtain ⟨γ3, hE3, hs3, h363⟩ := m_lays (sc := sc) (d := d) (L := L) (σ := σ) (α := α) (γ := γ2) hg hk (b := j) (k := k) (q := cn (un w v) j) (st := many g w 10) (by omega) (by omega) (by omega) (by omega)
              rw [hR0, hR1, hR2] at h363
              obtain ⟨γ', hE⟩ := ihq (k + 1) (by omega) γ3 (by rw [hs3 35 (by decide), h35]) (fun s hs => by
                rw [h363 s, h36 s hs, h35]
                rfl)
              refine ⟨γ', q_134_128 ?_⟩
              rw [n3375, if_pos (nI_lt (by omega) (by omega)), cl_nI (by omega), if_neg (in_cl (by omega) (by decide)), if_neg (fun q => z ((lg_cmp_eq _ _).mp q))]
              refine clv hE3 (q_134_159 ?_)
              rw [nI_1]
              exact hE
        -- the next row is cleared
        have clear : ∀ q k, k + q = 3375 → ∀ γ2 : Nat → Nat → Int64, (γ2 35 = γ1 35) → (∀ s, s < k → γ2 36 s = 0) → ∃ γ', EvL sc (d + 2) me_134 101 [some (.ref 21), some (.int (nI (many g w 10))), some (.int (nI (cn (un w v) j + 1))), some (.int (nI j)), some (.int (nI k))] [] (mem L σ α τ β γ2) 0 0 (some (.long (lN (gw (un w v) m (g 3) R0 R1 R2))), mem L σ α τ β γ') := by
          intro q
          induction q with
          | zero =>
            intro k hkq γ2 h35 h36
            obtain ⟨γ', hE⟩ := states 3375 0 (by omega) γ2 h35 (fun s hs => h36 s (by omega))
            refine ⟨γ', q_134_101 ?_⟩
            rw [n3375, if_neg (nI_nlt (by omega) (by omega))]
            exact hE
          | succ q ihq =>
            intro k hkq γ2 h35 h36
            obtain ⟨γ', hE⟩ := ihq (k + 1) (by omega) (va_up γ2 36 (vp_updL (γ2 36) k 0)) (by simpa [va_up] using h35) (fun s hs => by
              by_cases e : s = k
              · subst e; simp [va_up, vp_updL]
              · simp [va_up, vp_updL, e]; exact h36 s (by omega))
            refine ⟨γ', q_134_101 ?_⟩
            rw [n3375, if_pos (nI_lt (by omega) (by omega)), cl_nI (by omega), if_neg (in_cl (by omega) (by decide)), nI_1]
            exact hE
        obtain ⟨γ', hE⟩ := clear 3375 0 (by omega) γ1 rfl (fun s hs => absurd hs (by omega))
        refine ⟨γ', q_134_65 ?_⟩
        rw [h.1.2.2.1, if_pos (nI_lt (by omega) (by omega)), if_neg (in_nI (by omega) (by decide)), cl_nI (by omega), h.2.1 j (by omega), if_neg (fun z => p11 (e11.mp z))]
        refine cli (m_isUnseen h hg (by omega) h34 (by omega)) (q_134_89 ?_)
        rw [hu, if_neg (by decide), nI_1]
        exact hE
  -- the first row
  have first : ∀ q k, k + q = 3375 → ∀ γ1 : Nat → Nat → Int64, (∀ s, s < k → γ1 35 s = 0) → ∃ γ', EvL sc (d + 2) me_134 9 [some (.ref 21), some (.int (nI (many g w 10))), some (.int (nI k)), none, none] [] (mem L σ α τ β γ1) 0 0 (some (.long (lN (gw (un w v) m (g 3) R0 R1 R2))), mem L σ α τ β γ') := by
    intro q
    induction q with
    | zero =>
      intro k hkq γ1 h35
      obtain ⟨γ', hE⟩ := bones (g 3) 0 (by omega) (va_up γ1 35 (vp_updL (γ1 35) (225 * R2 + 15 * R1 + R0) 1)) (fun a c e ha hc' he hs => by
        unfold fwS
        simp only [gw]
        by_cases q : a = R0 ∧ c = R1 ∧ e = R2
        · obtain ⟨rfl, rfl, rfl⟩ := q
          have : a + 15 * c + 225 * e = 225 * e + 15 * c + a := by omega
          rw [this]
          simp [va_up, vp_updL]
          rfl
        · have : ¬ a + 15 * c + 225 * e = 225 * R2 + 15 * R1 + R0 := by omega
          simp only [va_up, vp_updL, if_true, if_neg this]
          rw [h35 _ (by omega)]
          have : (if a ≤ R0 ∧ c ≤ R1 ∧ e ≤ R2 then (if R0 - a = 0 ∧ R1 - c = 0 ∧ R2 - e = 0 then 1 else 0) else 0) = 0 := by
            split
            · rw [if_neg (fun z => q (by omega))]
            · rfl
          rw [this]
          rfl)
      refine ⟨γ', q_134_9 ?_⟩
      rw [n3375, if_neg (nI_nlt (by omega) (by omega))]
      refine cli (m_roomOf hg hk (k := 2) (by omega)) (q_134_43 (cli (m_roomOf hg hk (k := 1) (by omega)) (q_134_51 (cli (m_roomOf hg hk (k := 0) (by omega)) (q_134_58 ?_)))))
      rw [hR0, hR1, hR2, n225, n15, pk_mul, pk_mul, nI_add, nI_add, if_neg (in_nI (by omega) (by decide)), cl_nI (by omega)]
      exact hE
    | succ q ihq =>
      intro k hkq γ1 h35
      obtain ⟨γ', hE⟩ := ihq (k + 1) (by omega) (va_up γ1 35 (vp_updL (γ1 35) k 0)) (fun s hs => by
        by_cases e : s = k
        · subst e; simp [va_up, vp_updL]
        · simp [va_up, vp_updL, e]; exact h35 s (by omega))
      refine ⟨γ', q_134_9 ?_⟩
      rw [n3375, if_pos (nI_lt (by omega) (by omega)), cl_nI (by omega), if_neg (in_cl (by omega) (by decide)), nI_1]
      exact hE
  obtain ⟨γ', hE⟩ := first 3375 0 (by omega) γ (fun s hs => absurd hs (by omega))
  exact ⟨γ', e_start rfl rfl rfl (q_134_0 (cli (m_many h hg (x := 10) (by omega)) (q_134_6 hE)))⟩
end DD
