/-! the reference: deals, chance, held, safest -/
def DV (g : Nat → Nat) (w : Nat → Nat → Nat) (v : Nat) : Prop := (∀ k, rm g w v k ≤ 14) ∧ cn (un w v) (g 3) = many g w 10 + rm g w v 0 + rm g w v 1 + rm g w v 2
def dl (g : Nat → Nat) (w : Nat → Nat → Nat) (v : Nat) (m : Nat → Nat → Bool) : Int64 := lN (gw (un w v) m (g 3) (rm g w v 0) (rm g w v 1) (rm g w v 2))
def askB (g : Nat → Nat) (x : Int32) : Bool := decide (2 ≤ g 7) && bel x (g 1)
def aDeals (g : Nat → Nat) (w : Nat → Nat → Nat) (x : Int32) : Int64 := if askB g x then dl g w x.toNatClampNeg (mkA g w x.toNatClampNeg) else -1
/-- one bone at one place only -/
def mkC (g : Nat → Nat) (w : Nat → Nat → Nat) (v b : Nat) (z : Int32) (j k : Nat) : Bool := mkA g w v j k && (decide (¬ j = b) || (if k = 4 then decide (z = 10) else decide (nI (ot v k) = z)))
def aChance (g : Nat → Nat) (w : Nat → Nat → Nat) (x y z : Int32) : Int64 :=
  if askB g x && (bel y (g 3) && (bel z (g 1) || (decide (z = 10) || decide (z = 11)))) then
    (if un w x.toNatClampNeg y.toNatClampNeg = false then (if nI (w 21 y.toNatClampNeg) = z then dl g w x.toNatClampNeg (mkA g w x.toNatClampNeg) else 0)
     else if z = 11 then 0 else if z = x then 0 else dl g w x.toNatClampNeg (mkC g w x.toNatClampNeg y.toNatClampNeg z)) else -1
/-- one seat that can't answer two ends -/
def mkH (g : Nat → Nat) (w : Nat → Nat → Nat) (v a l r : Nat) (j k : Nat) : Bool := mkA g w v j k && (decide (k = 4) || !(decide (ot v k = a) && (hs j l || hs j r)))
def hdV (g : Nat → Nat) (w : Nat → Nat → Nat) (b e : Nat) : Int64 := dl g w (g 9) (mkH g w (g 9) ((g 9 + 1) % g 1) (lp (mpG g e) (mpW g w b e)) (rp (mpG g e) (mpW g w b e)))
def agr (g : Nat → Nat) (w w' : Nat → Nat → Nat) : Prop := (∀ i, i < 28 → w' 21 i = w 21 i) ∧ (∀ i, i < 4 → w' 22 i = w 22 i) ∧ (∀ i, g 14 ≤ i → i < g 15 → w' 23 i = w 23 i ∧ w' 24 i = w 24 i) ∧ ∀ t, t < g 22 → w' 25 t = w 25 t ∧ w' 26 t = w 26 t ∧ w' 27 t = w 27 t ∧ w' 28 t = w 28 t ∧ w' 29 t = w 29 t ∧ w' 30 t = w 30 t
theorem RM_agr {g : Nat → Nat} {w w' : Nat → Nat → Nat} {τ : Nat → Int32} {β : Nat → Nat → Int32} (h : RM g w' τ β) (ha : agr g w w') : RM g w τ β := by
  obtain ⟨k0, k15, k16, k17, k18⟩ := h
  obtain ⟨a1, a2, a3, a4⟩ := ha
  refine ⟨k0, fun i hi => by rw [k15 i hi, a1 i hi], fun i hi => by rw [k16 i hi, a2 i hi], fun i p q => ?_, fun t ht => ?_⟩
  · have := k17 i p q; rw [(a3 i p q).1, (a3 i p q).2] at this; exact this
  · have := k18 t ht
    obtain ⟨b1, b2, b3, b4, b5, b6⟩ := a4 t ht
    rw [b1, b2, b3, b4, b5, b6] at this; exact this
theorem va_up_id {α : Type} (g : Nat → α) (k : Nat) {v : α} (h : v = g k) : va_up g k v = g := by
  funext j; unfold va_up; split
  · rename_i e; rw [h, e]
  · rfl
theorem un_mp {g : Nat → Nat} {w : Nat → Nat → Nat} {b e : Nat} (h14 : 2 ≤ g 14) (he : e ≤ 1) : unG (mpG g e) (mpW g w b e) = g := by
  have e22 : mpG g e 22 = g 22 + 1 := by unfold mpG; split <;> simp [va_up, wrG]
  have a26 : mpW g w b e 26 (g 22) = b + 1 := by simp [mpW, wrW, tw, va_up]
  have a25 : mpW g w b e 25 (g 22) = g 9 := by simp [mpW, wrW, tw, va_up]
  have a28 : mpW g w b e 28 (g 22) = lp g w := by simp [mpW, wrW, tw, va_up]
  have a27 : mpW g w b e 27 (g 22) = mpE g e + 1 := by simp [mpW, wrW, tw, va_up]
  unfold unG
  rw [e22, Nat.add_sub_cancel, a25, a26, a27, a28, if_neg (by omega)]
  unfold mpE lp mpG
  by_cases hz : g 14 = g 15
  · rw [if_pos hz, if_pos hz, if_neg (fun z => z.1 rfl), if_neg (fun z => z.1 hz)]
    funext k
    simp only [va_up, wrG]
    by_cases k15 : k = 15
    · simp [k15]
    · by_cases k9 : k = 9
      · simp [k9]
      · by_cases k22 : k = 22
        · simp [k22]
        · simp [k15, k9, k22]
  · rw [if_neg hz, if_neg hz]
    by_cases h0 : e = 0
    · rw [if_pos ⟨by omega, by omega⟩, if_pos ⟨hz, h0⟩]
      funext k
      simp only [va_up, wrG]
      by_cases k15 : k = 14
      · simp [k15]; omega
      · by_cases k9 : k = 9
        · simp [k9]
        · by_cases k22 : k = 22
          · simp [k22]
          · simp [k15, k9, k22]
    · rw [if_neg (fun z => by omega), if_neg (fun z => h0 z.2)]
      funext k
      simp only [va_up, wrG]
      by_cases k15 : k = 15
      · simp [k15]
      · by_cases k9 : k = 9
        · simp [k9]
        · by_cases k22 : k = 22
          · simp [k22]
          · simp [k15, k9, k22]
theorem un_mpW {g : Nat → Nat} {w : Nat → Nat → Nat} {b e : Nat} (h14 : 2 ≤ g 14 ∧ g 14 ≤ g 15) (hp : w 21 b = g 9) : agr g w (unW (mpG g e) (mpW g w b e)) := by
  have e22 : mpG g e 22 = g 22 + 1 := by unfold mpG; split <;> simp [va_up, wrG]
  have a26 : mpW g w b e 26 (g 22) = b + 1 := by simp [mpW, wrW, tw, va_up]
  have a25 : mpW g w b e 25 (g 22) = g 9 := by simp [mpW, wrW, tw, va_up]
  unfold unW
  rw [e22, Nat.add_sub_cancel, a25, a26, if_neg (by omega), Nat.add_sub_cancel]
  refine ⟨fun i hi => ?_, fun i hi => ?_, fun i p q => ?_, fun t ht => ?_⟩
  · by_cases e : i = b
    · simp [tw, va_up, e, hp]
    · simp [tw, va_up, e, mpW, wrW]
  · simp [tw, va_up, mpW, wrW]
  · have : ¬ i = mpI g e := by unfold mpI; split <;> omega
    simp [tw, va_up, mpW, wrW, this]
  · have : ¬ t = g 22 := by omega
    simp [tw, va_up, mpW, wrW, this]
theorem un_wr {g : Nat → Nat} {w : Nat → Nat → Nat} {f : Nat} : unG (wrG g) (wrW g w 0 0 f) = g := by
  have a26 : wrW g w 0 0 f 26 (g 22) = 0 := by simp [wrW, tw, va_up]
  have a25 : wrW g w 0 0 f 25 (g 22) = g 9 := by simp [wrW, tw, va_up]
  have e22 : wrG g 22 = g 22 + 1 := by simp [wrG, va_up]
  unfold unG
  rw [e22, Nat.add_sub_cancel, a25, a26, if_pos rfl]
  funext k
  simp only [va_up, wrG]
  by_cases k9 : k = 9
  · simp [k9]
  · by_cases k22 : k = 22
    · simp [k22]
    · simp [k9, k22]
theorem un_wrW {g : Nat → Nat} {w : Nat → Nat → Nat} {f : Nat} : agr g w (unW (wrG g) (wrW g w 0 0 f)) := by
  have a26 : wrW g w 0 0 f 26 (g 22) = 0 := by simp [wrW, tw, va_up]
  have e22 : wrG g 22 = g 22 + 1 := by simp [wrG, va_up]
  unfold unW
  rw [e22, Nat.add_sub_cancel, a26, if_pos rfl]
  refine ⟨fun i hi => ?_, fun i hi => ?_, fun i p q => ?_, fun t ht => ?_⟩
  · simp [tw, va_up, wrW]
  · simp [tw, va_up, wrW]
  · simp [tw, va_up, wrW]
  · have : ¬ t = g 22 := by omega
    simp [tw, va_up, wrW, this]
section DE
variable {sc : Nat × (Nat → Int32)} {d : Nat} {L : Nat → Nat} {σ : Nat → Int32} {α : Nat → Nat → Int32} {τ : Nat → Int32} {β : Nat → Nat → Int32} {γ : Nat → Nat → Int64} {g : Nat → Nat} {w : Nat → Nat → Nat}
theorem m_isAsked (h : RM g w τ β) (hg : Bd g w) (x : Int32) : Ev sc (d + 2) 137 [.ref 21, .int x] (mem L σ α τ β γ) (some (.int (bI (askB g x))), mem L σ α τ β γ) := by
  have h7 := hg.2.2.2.1
  have e7 : nI (g 7) < (2 : Int32) ↔ g 7 < 2 := nI_ltI (b := 2) (by omega) (by decide)
  refine e_start rfl rfl rfl (q_137_0 ?_)
  rw [h.1.2.2.2.2.1]
  unfold askB
  by_cases a : g 7 < 2
  · rw [if_pos (e7.mpr a), decide_eq_false (by omega)]; rfl
  · rw [if_neg (fun z => a (e7.mp z)), decide_eq_true (by omega)]
    refine cli (m_isSeat h x) (q_137_13 ?_)
    cases bel x (g 1)
    · rw [if_pos (by decide)]; rfl
    · rw [if_neg (by decide)]; rfl
theorem askB_of {g : Nat → Nat} (hg : g 1 < 2 ^ 31) {x : Int32} (h : askB g x = true) : 2 ≤ g 7 ∧ ∃ v, v < g 1 ∧ x = nI v ∧ x.toNatClampNeg = v := by
  unfold askB at h
  simp only [Bool.and_eq_true, decide_eq_true_eq] at h
  obtain ⟨v, h1, h2⟩ := bel_of hg h.2
  exact ⟨h.1, v, h1, h2, by rw [h2]; exact cl_nI (by omega)⟩
theorem m_deals (h : RM g w τ β) (hg : Bd g w) (hD : ∀ v, v < g 1 → 2 ≤ g 7 → DV g w v) (x : Int32) : ∃ τ' β' γ', Ev sc (d + 6) 138 [.ref 21, .int x] (mem L σ α τ β γ) (some (.long (aDeals g w x)), mem L σ α τ' β' γ') ∧ RM g w τ' β' ∧ (askB g x = true → τ' 34 = x ∧ RK g w x.toNatClampNeg (mkA g w x.toNatClampNeg) τ' β') := by
  have h1 := hg.1
  unfold aDeals
  cases ha : askB g x with
  | false =>
    refine ⟨τ, β, γ, e_start rfl rfl rfl (q_138_0 (cli (m_isAsked h hg x) (q_138_5 ?_))), h, fun z => by cases z⟩
    rw [ha, if_pos (by decide)]; rfl
  | true =>
    obtain ⟨h7, v, hv, rfl, hc⟩ := askB_of (by omega) ha
    rw [hc]
    have hR1 : RM g w (upd τ 34 (nI v)) β := RM_up h (Or.inr (Or.inr (by omega)))
    obtain ⟨τ1, β1, hE1, hK, t1, t2⟩ := m_reckon (sc := sc) (d := d) (L := L) (σ := σ) (α := α) (γ := γ) hR1 hg hv
    have hR2 : RM g w τ1 β1 := RM_scr hR1 (fun k hk => t1 k (by omega)) t2
    have e34 : τ1 34 = nI v := by rw [t1 34 (by decide), pk_us]
    obtain ⟨q1, q2⟩ := hD v hv h7
    obtain ⟨γ2, hE2⟩ := m_count (sc := sc) (d := d + 2) (L := L) (σ := σ) (α := α) (γ := γ) hR2 hg hv e34 hK q1 q2
    refine ⟨τ1, β1, γ2, e_start rfl rfl rfl (q_138_0 (cli (m_isAsked h hg _) (q_138_5 ?_))), hR2, fun _ => ⟨e34, hK⟩⟩
    rw [ha, if_neg (by decide)]
    exact clv hE1 (q_138_22 (cll hE2 (q_138_26 rfl)))
theorem m_chance (h : RM g w τ β) (hg : Bd g w) (hD : ∀ v, v < g 1 → 2 ≤ g 7 → DV g w v) (x y z : Int32) : ∃ τ' β' γ', Ev sc (d + 7) 139 [.ref 21, .int x, .int y, .int z] (mem L σ α τ β γ) (some (.long (aChance g w x y z)), mem L σ α τ' β' γ') ∧ RM g w τ' β' := by
  obtain ⟨h1, -, ⟨-, h3⟩, -, -, -, hpl, -⟩ := id hg
  unfold aChance
  have n5 : (5 : Int32) = nI 5 := rfl
  have n4 : (4 : Int32) = nI 4 := rfl
  have nz : vp_nar .boolean (0 : Int32) = bI false := by decide
  cases ha : askB g x with
  | false =>
    refine ⟨τ, β, γ, e_start rfl rfl rfl (q_139_0 (cli (m_isAsked h hg x) (q_139_5 ?_))), h⟩
    rw [ha, if_pos (by decide)]; rfl
  | true =>
    cases hb : bel y (g 3) with
    | false =>
      refine ⟨τ, β, γ, e_start rfl rfl rfl (q_139_0 (cli (m_isAsked h hg x) (q_139_5 ?_))), h⟩
      rw [ha, if_neg (by decide)]
      refine cli (m_isBone h y) (q_139_13 ?_)
      rw [hb, if_pos (by decide)]; rfl
    | true =>
      cases hz : (bel z (g 1) || (decide (z = 10) || decide (z = 11))) with
      | false =>
        simp only [Bool.or_eq_false_iff, decide_eq_false_iff_not] at hz
        refine ⟨τ, β, γ, e_start rfl rfl rfl (q_139_0 (cli (m_isAsked h hg x) (q_139_5 ?_))), h⟩
        rw [ha, if_neg (by decide)]
        refine cli (m_isBone h y) (q_139_13 ?_)
        rw [hb, if_neg (by decide)]
        refine cli (m_isSeat h z) (q_139_21 ?_)
        rw [hz.1, if_pos (by decide), if_neg hz.2.1, if_neg hz.2.2]; rfl
      | true =>
        obtain ⟨b, hb1, rfl⟩ := bel_of (by omega) hb
        obtain ⟨τ1, β1, γ1, hE1, hR1, hk1⟩ := m_deals (sc := sc) (d := d) (L := L) (σ := σ) (α := α) (γ := γ) h hg hD x
        obtain ⟨h34, hK⟩ := hk1 ha
        obtain ⟨h7, v, hv, rfl, hc⟩ := askB_of (by omega) ha
        rw [hc] at hK
        have hcb : (nI b).toNatClampNeg = b := cl_nI (by omega)
        have hp := hpl b (by omega)
        rw [hc, hcb]
        -- the start of every way
        have start : ∀ {r}, EvL sc (d + 6) me_139 45 [some (.ref 21), some (.int (nI v)), some (.int (nI b)), some (.int z), none, none, none] [.long (aDeals g w (nI v))] (mem L σ α τ1 β1 γ1) 0 0 r → Ev sc (d + 7) 139 [.ref 21, .int (nI v), .int (nI b), .int z] (mem L σ α τ β γ) r := by
          intro r hr
          refine e_start rfl rfl rfl (q_139_0 (cli (m_isAsked h hg _) (q_139_5 ?_)))
          rw [ha, if_neg (by decide)]
          refine cli (m_isBone h _) (q_139_13 ?_)
          rw [hb, if_neg (by decide)]
          refine cli (m_isSeat h z) (q_139_21 ?_)
          simp only [Bool.or_eq_true, decide_eq_true_eq] at hz
          cases hzz : bel z (g 1) with
          | true =>
            rw [if_neg (by decide)]
            exact cll hE1 hr
          | false =>
            rw [if_pos (by decide)]
            by_cases q : z = 10
            · rw [if_pos q]; exact cll hE1 hr
            · rw [if_neg q, if_pos (by rw [hzz] at hz; simpa [q] using hz)]
              exact cll hE1 hr
        have hdl : aDeals g w (nI v) = dl g w v (mkA g w v) := by unfold aDeals; rw [ha, if_pos rfl, hc]
        simp only [Bool.and_true, if_true]
        cases hu : un w v b with
        | false =>
          refine ⟨τ1, β1, γ1, start (q_139_45 (cli (m_isUnseen hR1 hg (by omega) h34 (by omega)) (q_139_52 ?_))), hR1⟩
          rw [hu, if_pos (by decide), if_neg (in_nI (by omega) (by decide)), cl_nI (by omega), hR1.2.1 b (by omega), if_pos rfl, hdl]
          split <;> rfl
        | true =>
          simp only [Bool.true_eq_false, if_false]
          by_cases z11 : z = 11
          · refine ⟨τ1, β1, γ1, start (q_139_45 (cli (m_isUnseen hR1 hg (by omega) h34 (by omega)) (q_139_52 ?_))), hR1⟩
            rw [hu, if_neg (by decide), if_pos z11, if_pos z11]
          · by_cases zx : z = nI v
            · refine ⟨τ1, β1, γ1, start (q_139_45 (cli (m_isUnseen hR1 hg (by omega) h34 (by omega)) (q_139_52 ?_))), hR1⟩
              rw [hu, if_neg (by decide), if_neg z11, if_pos zx, if_neg z11, if_pos zx]
            · rw [if_neg z11, if_neg zx]
              obtain ⟨q1, q2⟩ := hD v hv h7
              obtain ⟨k1, k2, k3⟩ := hK
              -- the end, once all is marked
              have fin : ∀ β2, (∀ c, c < 31 → β2 c = β1 c) → RK g w v (mkC g w v b z) τ1 β2 → ∃ γ', Cll sc (d + 6) 134 [.ref 21] (mem L σ α τ1 β2 γ1) (fun y M2 => EvL sc (d + 6) me_139 147 [none, none, none, none, none, none, none] [.long y] M2 0 0 (some (.long (dl g w v (mkC g w v b z))), mem L σ α τ1 β2 γ')) := by
                intro β2 hs hK2
                obtain ⟨γ2, hE2⟩ := m_count (sc := sc) (d := d + 3) (L := L) (σ := σ) (α := α) (γ := γ1) (RM_scr hR1 (fun _ _ => rfl) hs) hg hv h34 hK2 q1 q2
                exact ⟨γ2, cll hE2 (q_139_147 rfl)⟩
              have loop : ∀ m j, j + m = g 1 - 1 → ∀ β2, (∀ c, c < 31 → β2 c = β1 c) → β2 34 = β1 34 → β2 33 = β1 33 → (∀ a i, a < g 3 → (i < g 1 - 1 ∨ i = 4) → β2 32 (5 * a + i) = bI (if a = b ∧ i < j then mkC g w v b z a i else mkA g w v a i)) → ∃ β' γ', EvL sc (d + 6) me_139 88 [some (.ref 21), none, some (.int (nI b)), some (.int z), none, none, some (.int (nI j))] [] (mem L σ α τ1 β2 γ1) 0 0 (some (.long (dl g w v (mkC g w v b z))), mem L σ α τ1 β' γ') ∧ (∀ c, c < 31 → β' c = β1 c) := by
                intro m
                induction m with
                | zero =>
                  intro j hj β2 s1 s2 s3 s4
                  have ej : j = g 1 - 1 := by omega
                  subst ej
                  by_cases z10 : z = 10
                  · obtain ⟨γ', hE⟩ := fin β2 s1 ⟨k1, fun k hk => by rw [s2, s3]; exact k2 k hk, fun a hba => ⟨fun k hk => by
                      rw [s4 a k hba (Or.inl hk)]
                      by_cases e : a = b
                      · rw [if_pos ⟨e, hk⟩]
                      · rw [if_neg (fun q => e q.1)]; congr 1; simp [mkC, e], by
                      rw [s4 a 4 hba (Or.inr rfl), if_neg (fun q => by omega)]; congr 1; simp [mkC, z10]⟩⟩
                    refine ⟨β2, γ', q_139_88 ?_, s1⟩
                    rw [k1, if_neg (nI_nlt (by omega) (by omega)), if_pos z10]
                    exact hE
                  · obtain ⟨γ', hE⟩ := fin (va_up β2 32 (upd (β2 32) (5 * b + 4) (bI false))) (fun c hc => by
                      have : ¬ c = 32 := by omega
                      simp [va_up, this, s1 c hc]) ⟨k1, fun k hk => by
                        have := k2 k hk
                        simp only [va_up, show ((34 : Nat) = 32) = False by simp, show ((33 : Nat) = 32) = False by simp, if_false]
                        rw [s2, s3]; exact this, fun a hba => ⟨fun k hk => by
                        have ne : ¬ 5 * a + k = 5 * b + 4 := by omega
                        simp only [va_up, upd, if_true, if_neg ne]
                        rw [s4 a k hba (Or.inl hk)]
                        by_cases e : a = b
                        · rw [if_pos ⟨e, hk⟩]
                        · rw [if_neg (fun q => e q.1)]; congr 1; simp [mkC, e], by
                        by_cases e : a = b
                        · subst e; simp [va_up, upd, mkC, z10]
                        · have ne : ¬ 5 * a + 4 = 5 * b + 4 := by omega
                          simp only [va_up, upd, if_true, if_neg ne]
                          rw [s4 a 4 hba (Or.inr rfl), if_neg (fun q => e q.1)]; congr 1; simp [mkC, e]⟩⟩
                    refine ⟨va_up β2 32 (upd (β2 32) (5 * b + 4) (bI false)), γ', q_139_88 ?_, fun c hc => by
                      have : ¬ c = 32 := by omega
                      simp [va_up, this, s1 c hc]⟩
                    rw [k1, if_neg (nI_nlt (by omega) (by omega)), if_neg z10, n5, pk_mul, n4, nI_add, if_neg (in_nI (by omega) (by decide)), cl_nI (by omega), nz]
                    exact hE
                | succ m ih =>
                  intro j hj β2 s1 s2 s3 s4
                  by_cases q : nI (ot v j) = z
                  · obtain ⟨β', γ', hE, hr⟩ := ih (j + 1) (by omega) β2 s1 s2 s3 (fun a i hba hi => by
                      rw [s4 a i hba hi]
                      congr 1
                      by_cases e : a = b ∧ i = j
                      · obtain ⟨rfl, rfl⟩ := e
                        rw [if_neg (fun q => by omega), if_pos ⟨rfl, by omega⟩]
                        have : ¬ i = 4 := by omega
                        simp [mkC, this, q]
                      · by_cases l : a = b ∧ i < j
                        · rw [if_pos l, if_pos ⟨l.1, by omega⟩]
                        · rw [if_neg l, if_neg (fun q => by omega)])
                    refine ⟨β', γ', q_139_88 ?_, hr⟩
                    rw [k1, if_pos (nI_lt (by omega) (by omega)), if_neg (in_nI (by omega) (by decide)), cl_nI (by omega), s2, (k2 j (by omega)).1, if_pos q, nI_1]
                    exact hE
                  · obtain ⟨β', γ', hE, hr⟩ := ih (j + 1) (by omega) (va_up β2 32 (upd (β2 32) (5 * b + j) (bI false))) (fun c hc => by
                      have : ¬ c = 32 := by omega
                      simp [va_up, this, s1 c hc]) (by simpa [va_up] using s2) (by simpa [va_up] using s3) (fun a i hba hi => by
                      by_cases e : a = b ∧ i = j
                      · obtain ⟨rfl, rfl⟩ := e
                        rw [if_pos ⟨rfl, by omega⟩]
                        have : ¬ i = 4 := by omega
                        simp [va_up, upd, mkC, this, q]
                      · have ne : ¬ 5 * a + i = 5 * b + j := by omega
                        simp only [va_up, upd, if_true, if_neg ne]
                        rw [s4 a i hba hi]
                        congr 1
                        by_cases l : a = b ∧ i < j
                        · rw [if_pos l, if_pos ⟨l.1, by omega⟩]
                        · rw [if_neg l, if_neg (fun q => by omega)])
                    refine ⟨β', γ', q_139_88 ?_, hr⟩
                    rw [k1, if_pos (nI_lt (by omega) (by omega)), if_neg (in_nI (by omega) (by decide)), cl_nI (by omega), s2, (k2 j (by omega)).1, if_neg q, n5, pk_mul, nI_add, if_neg (in_nI (by omega) (by decide)), cl_nI (by omega), nz, nI_1]
                    exact hE
              obtain ⟨β', γ', hE, hr⟩ := loop (g 1 - 1) 0 (by omega) β1 (fun _ _ => rfl) rfl rfl (fun a i hba hi => by
                rw [if_neg (fun q => by omega)]
                rcases hi with hi | hi
                · exact (k3 a hba).1 i hi
                · rw [hi]; exact (k3 a hba).2)
              refine ⟨τ1, β', γ', start (q_139_45 (cli (m_isUnseen hR1 hg (by omega) h34 (by omega)) (q_139_52 ?_))), RM_scr hR1 (fun _ _ => rfl) hr⟩
              rw [hu, if_neg (by decide), if_neg z11, if_neg zx]
              exact hE
end DE
