/-! the reference reckons what each other seat may hold -/
section DB
variable {sc : Nat × (Nat → Int32)} {d : Nat} {L : Nat → Nat} {σ : Nat → Int32} {α : Nat → Nat → Int32} {τ τ' : Nat → Int32} {β β' : Nat → Nat → Int32} {γ : Nat → Nat → Int64} {g : Nat → Nat} {w : Nat → Nat → Nat}
theorem RM_scr (h : RM g w τ β) (h1 : ∀ k, k < 26 → τ' k = τ k) (h2 : ∀ c, c < 31 → β' c = β c) : RM g w τ' β' := by
  obtain ⟨⟨k1, k2, k3, k4, k5, k6, k7, k8, k9, k10, k11, k12, k13, k14⟩, k15, k16, k17, k18⟩ := h
  refine ⟨⟨?_, ?_, ?_, ?_, ?_, ?_, ?_, ?_, ?_, ?_, ?_, ?_, ?_, ?_⟩, ?_, ?_, ?_, ?_⟩
  iterate 14 (rw [h1 _ (by decide)]; assumption)
  · rw [h2 _ (by decide)]; exact k15
  · rw [h2 _ (by decide)]; exact k16
  · rw [h2 _ (by decide), h2 _ (by decide)]; exact k17
  · rw [h2 _ (by decide), h2 _ (by decide), h2 _ (by decide), h2 _ (by decide), h2 _ (by decide), h2 _ (by decide)]; exact k18
theorem m_reckon (h : RM g w τ β) (hg : Bd g w) {v : Nat} (hv : v < g 1) : ∃ τ' β', Ev sc (d + 5) 131 [.ref 21, .int (nI v)] (mem L σ α τ β γ) (none, mem L σ α τ' β' γ) ∧ RK g w v (mkA g w v) τ' β' ∧ (∀ k, k ≠ 33 → τ' k = τ k) ∧ (∀ c, c < 31 → β' c = β c) := by
  obtain ⟨hS, -, ⟨-, h3⟩, -, -, -, hpl, -, h22, -, ht⟩ := id hg
  have n5 : (5 : Int32) = nI 5 := rfl
  have n4 : (4 : Int32) = nI 4 := rfl
  have nz : vp_nar .boolean (0 : Int32) = bI false := by decide
  have no : vp_nar .boolean (1 : Int32) = bI true := by decide
  -- the bones
  have bones : ∀ m j, j + m = g 3 → ∀ τ1 β1, τ1 33 = nI (g 1 - 1) → (∀ k, k ≠ 33 → τ1 k = τ k) → (∀ c, c < 31 → β1 c = β c) → (∀ k, k < g 1 - 1 → β1 34 k = nI (ot v k) ∧ β1 33 k = nI (many g w (ot v k))) → (∀ b i, b < j → (i < g 1 - 1 ∨ i = 4) → β1 32 (5 * b + i) = bI (mkA g w v b i)) → ∃ τ' β', EvL sc (d + 4) me_131 65 [some (.ref 21), some (.int (nI v)), some (.int (nI j)), none, none] [] (mem L σ α τ1 β1 γ) 0 0 (none, mem L σ α τ' β' γ) ∧ RK g w v (mkA g w v) τ' β' ∧ (∀ k, k ≠ 33 → τ' k = τ k) ∧ (∀ c, c < 31 → β' c = β c) := by
    intro m
    induction m with
    | zero =>
      intro j hj τ1 β1 c1 c2 c3 c4 c5
      refine ⟨τ1, β1, q_131_65 ?_, ⟨c1, c4, fun b hb => ⟨fun k hk => c5 b k (by omega) (Or.inl hk), c5 b 4 (by omega) (Or.inr rfl)⟩⟩, c2, c3⟩
      have hR1 := RM_scr h (fun k hk => c2 k (by omega)) c3
      rw [hR1.1.2.2.1, if_neg (nI_nlt (by omega) (by omega))]
    | succ m ih =>
      intro j hj τ1 β1 c1 c2 c3 c4 c5
      have hp := hpl j (by omega)
      -- the seats at one bone
      have inner : ∀ (u : Bool), u = un w v j → ∀ q k, k + q = g 1 - 1 → ∀ β2, (∀ c, c < 31 → β2 c = β c) → (∀ k, k < g 1 - 1 → β2 34 k = nI (ot v k) ∧ β2 33 k = nI (many g w (ot v k))) → (∀ b i, 5 * b + i < 5 * j + k → (i < g 1 - 1 ∨ i = 4) → β2 32 (5 * b + i) = bI (mkA g w v b i)) → ∃ τ' β', EvL sc (d + 4) me_131 103 [some (.ref 21), some (.int (nI v)), some (.int (nI j)), some (.int (bI u)), some (.int (nI k))] [] (mem L σ α τ1 β2 γ) 0 0 (none, mem L σ α τ' β' γ) ∧ RK g w v (mkA g w v) τ' β' ∧ (∀ k, k ≠ 33 → τ' k = τ k) ∧ (∀ c, c < 31 → β' c = β c) := by
        intro u hu q
        induction q with
        | zero =>
          intro k hk β2 e1 e2 e3
          obtain ⟨τ', β', hE, hrest⟩ := ih (j + 1) (by omega) τ1 (va_up β2 32 (upd (β2 32) (5 * j + 4) (bI u))) c1 c2 (fun c hc => by
            have : ¬ c = 32 := by omega
            simp [va_up, this, e1 c hc]) (fun k hk => by simpa [va_up] using e2 k hk) (fun b i hb hi => by
            by_cases eq : 5 * b + i = 5 * j + 4
            · have : b = j ∧ i = 4 := by omega
              obtain ⟨rfl, rfl⟩ := this
              simp [va_up, upd, mkA, hu]
            · simp only [va_up, upd, if_true, if_neg eq]
              refine e3 b i ?_ hi
              omega)
          refine ⟨τ', β', q_131_103 ?_, hrest⟩
          rw [c1, if_neg (nI_nlt (by omega) (by omega)), n5, pk_mul, n4, nI_add, if_neg (in_nI (by omega) (by decide)), cl_nI (by omega), bI_nar, nI_1]
          exact hE
        | succ q ihq =>
          intro k hk β2 e1 e2 e3
          have step : ∀ x : Bool, x = mkA g w v j k → ∃ τ' β', EvL sc (d + 4) me_131 103 [some (.ref 21), some (.int (nI v)), some (.int (nI j)), some (.int (bI u)), some (.int (nI (k + 1)))] [] (mem L σ α τ1 (va_up β2 32 (upd (β2 32) (5 * j + k) (bI x))) γ) 0 0 (none, mem L σ α τ' β' γ) ∧ RK g w v (mkA g w v) τ' β' ∧ (∀ k, k ≠ 33 → τ' k = τ k) ∧ (∀ c, c < 31 → β' c = β c) := fun x hx =>
            ihq (k + 1) (by omega) _ (fun c hc => by
              have : ¬ c = 32 := by omega
              simp [va_up, this, e1 c hc]) (fun k hk => by simpa [va_up] using e2 k hk) (fun b i hb hi => by
              by_cases eq : 5 * b + i = 5 * j + k
              · have : b = j ∧ i = k := by omega
                obtain ⟨rfl, rfl⟩ := this
                simp [va_up, upd, hx]
              · simp only [va_up, upd, if_true, if_neg eq]
                refine e3 b i ?_ hi
                omega)
          have hk4 : ¬ k = 4 := by omega
          cases hu' : un w v j with
          | false =>
            have hu : u = false := hu.trans hu'
            subst hu
            obtain ⟨τ', β', hE, hrest⟩ := step false (by simp [mkA, hu'])
            refine ⟨τ', β', q_131_103 ?_, hrest⟩
            rw [c1, if_pos (nI_lt (by omega) (by omega)), if_pos (by decide), n5, pk_mul, nI_add, if_neg (in_nI (by omega) (by decide)), cl_nI (by omega), nz, nI_1]
            exact hE
          | true =>
            have hu : u = true := hu.trans hu'
            subst hu
            have hR1 : RM g w τ1 β2 := RM_scr h (fun k hk => c2 k (by omega)) e1
            have hot : ot v k < 100 := by unfold ot; split <;> omega
            cases hsh : shB g w (ot v k) j with
            | true =>
              obtain ⟨τ', β', hE, hrest⟩ := step false (by simp [mkA, hsh, hk4])
              refine ⟨τ', β', q_131_103 ?_, hrest⟩
              rw [c1, if_pos (nI_lt (by omega) (by omega)), if_neg (by decide), if_neg (in_nI (by omega) (by decide)), cl_nI (by omega), (e2 k (by omega)).1]
              refine cli (m_isShut hR1 hg hot (by omega)) (q_131_138 ?_)
              rw [hsh, if_neg (by decide), n5, pk_mul, nI_add, if_neg (in_nI (by omega) (by decide)), cl_nI (by omega), nz, nI_1]
              exact hE
            | false =>
              obtain ⟨τ', β', hE, hrest⟩ := step true (by simp [mkA, hsh, hu'])
              refine ⟨τ', β', q_131_103 ?_, hrest⟩
              rw [c1, if_pos (nI_lt (by omega) (by omega)), if_neg (by decide), if_neg (in_nI (by omega) (by decide)), cl_nI (by omega), (e2 k (by omega)).1]
              refine cli (m_isShut hR1 hg hot (by omega)) (q_131_138 ?_)
              rw [hsh, if_pos (by decide), n5, pk_mul, nI_add, if_neg (in_nI (by omega) (by decide)), cl_nI (by omega), no, nI_1]
              exact hE
      have hR1 := RM_scr h (fun k hk => c2 k (by omega)) c3
      have e1 : nI (w 21 j) = nI v ↔ w 21 j = v := nI_eq (by omega) (by omega)
      have e2 : nI (w 21 j) = 11 ↔ w 21 j = 11 := nI_eq (b := 11) (by omega) (by decide)
      obtain ⟨τ', β', hE, hrest⟩ := inner (un w v j) rfl (g 1 - 1) 0 (by omega) β1 c3 c4 (fun b i hb hi => c5 b i (by omega) hi)
      refine ⟨τ', β', q_131_65 ?_, hrest⟩
      rw [hR1.1.2.2.1, if_pos (nI_lt (by omega) (by omega)), if_neg (in_nI (by omega) (by decide)), cl_nI (by omega), hR1.2.1 j (by omega)]
      unfold un at hE
      by_cases p1 : w 21 j = v
      · rw [if_pos (e1.mpr p1)]
        simpa [p1, bI, nI_0] using hE
      · rw [if_neg (fun z => p1 (e1.mp z)), if_neg (in_cl (by omega) (by decide))]
        by_cases p2 : w 21 j = 11
        · rw [if_pos (e2.mpr p2)]
          simpa [p2, bI, nI_0] using hE
        · rw [if_neg (fun z => p2 (e2.mp z))]
          simpa [p1, p2, bI, nI_0] using hE
  -- the seats
  have seats : ∀ m j, j + m = g 1 → ∀ τ1 β1, τ1 33 = nI (if v < j then j - 1 else j) → (∀ k, k ≠ 33 → τ1 k = τ k) → (∀ c, c < 31 → β1 c = β c) → (∀ k, k < (if v < j then j - 1 else j) → β1 34 k = nI (ot v k) ∧ β1 33 k = nI (many g w (ot v k))) → ∃ τ' β', EvL sc (d + 4) me_131 7 [some (.ref 21), some (.int (nI v)), some (.int (nI j)), none, none] [] (mem L σ α τ1 β1 γ) 0 0 (none, mem L σ α τ' β' γ) ∧ RK g w v (mkA g w v) τ' β' ∧ (∀ k, k ≠ 33 → τ' k = τ k) ∧ (∀ c, c < 31 → β' c = β c) := by
    intro m
    induction m with
    | zero =>
      intro j hj τ1 β1 c1 c2 c3 c4
      have ej : j = g 1 := by omega
      subst ej
      rw [if_pos hv] at c1 c4
      obtain ⟨τ', β', hE, hrest⟩ := bones (g 3) 0 (by omega) τ1 β1 c1 c2 c3 c4 (fun b i hb => absurd hb (by omega))
      refine ⟨τ', β', q_131_7 ?_, hrest⟩
      rw [c2 1 (by decide), h.1.1, if_neg (nI_nlt (by omega) (by omega))]
      exact hE
    | succ m ih =>
      intro j hj τ1 β1 c1 c2 c3 c4
      have e1 : nI j = nI v ↔ j = v := nI_eq (by omega) (by omega)
      by_cases p : j = v
      · obtain ⟨τ', β', hE, hrest⟩ := ih (j + 1) (by omega) τ1 β1 (by rw [c1]; congr 1; split <;> split <;> omega) c2 c3 (fun k hk => c4 k (by split at hk <;> split <;> omega))
        refine ⟨τ', β', q_131_7 ?_, hrest⟩
        rw [c2 1 (by decide), h.1.1, if_pos (nI_lt (by omega) (by omega)), if_pos (e1.mpr p), nI_1]
        exact hE
      · have hn : (if v < j then j - 1 else j) < 3 := by split <;> omega
        generalize hq : (if v < j then j - 1 else j) = q at *
        have hjq : j = ot v q := by unfold ot; rw [← hq]; split <;> split <;> omega
        have hR1 : RM g w τ1 (va_up β1 34 (upd (β1 34) q (nI j))) := RM_scr h (fun k hk => c2 k (by omega)) (fun c hc => by
          have : ¬ c = 34 := by omega
          simp [va_up, this, c3 c hc])
        obtain ⟨τ', β', hE, hrest⟩ := ih (j + 1) (by omega) (upd τ1 33 (nI (q + 1))) (va_up (va_up β1 34 (upd (β1 34) q (nI j))) 33 (upd (β1 33) q (nI (many g w j)))) (by rw [pk_us]; congr 1; rw [← hq]; split <;> split <;> omega) (fun k hk => by rw [pk_un hk]; exact c2 k hk) (fun c hc => by
          have a1 : ¬ c = 33 := by omega
          have a2 : ¬ c = 34 := by omega
          simp [va_up, a1, a2, c3 c hc]) (fun k hk => by
          have hk : k < q + 1 := by rw [← hq]; split at hk <;> split <;> omega
          by_cases e : k = q
          · subst e; rw [← hjq]; simp [va_up, upd]
          · simp only [va_up, upd, if_neg e, if_true, show (34 : Nat) = 33 ↔ False from ⟨fun z => by omega, False.elim⟩, if_false]
            exact c4 k (by omega))
        refine ⟨τ', β', q_131_7 ?_, hrest⟩
        rw [c2 1 (by decide), h.1.1, if_pos (nI_lt (by omega) (by omega)), if_neg (fun z => p (e1.mp z)), c1, if_neg (in_nI hn (by decide)), cl_nI (by omega)]
        refine cli (m_many hR1 hg (by omega)) (q_131_46 ?_)
        rw [if_neg (in_nI hn (by decide)), cl_nI (by omega), c1, nI_1, nI_1]
        exact hE
  obtain ⟨τ', β', hE, hK, h1, h2⟩ := seats (g 1) 0 (by omega) (upd τ 33 0) β (by rw [pk_us]; simp [nI_0]) (fun k hk => pk_un hk) (fun _ _ => rfl) (fun k hk => by simp at hk)
  exact ⟨τ', β', e_start rfl rfl rfl (q_131_0 hE), hK, h1, h2⟩
end DB
