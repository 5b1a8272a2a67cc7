/-! the class: a turn is undone -/
def bq (g : Nat → Nat) : Nat → Nat := va_up (va_up (va_up g 23 0) 24 0) 7 2
section XG
variable {sc : Nat × (Nat → Int32)} {d : Nat} {L : Nat → Nat} {σ : Nat → Int32} {α : Nat → Nat → Int32} {τ : Nat → Int32} {β : Nat → Nat → Int32} {γ : Nat → Nat → Int64} {g : Nat → Nat} {w : Nat → Nat → Nat}
theorem x_undo_no (h : RT g w L σ α) (hB : Bs g w) (hz : g 22 = 0) : Ev sc (d + 3) 34 [.ref 1] (mem L σ α τ β γ) (some (.int 0), mem L σ α τ β γ) := by
  have s12 := h.2.1.2.2.2.2.2.2.2.2.2
  rw [hz] at s12
  have e : σ 12 - 1 = -1 := by rw [s12]; rfl
  have a1 : ∀ v, aTr g v (-1) = -1 := fun v => by unfold aTr; rw [bel_neg (by decide)]; rfl
  refine e_start rfl rfl rfl (q_34_0 ?_)
  rw [e]
  refine cli (x_seatOf h hB _) (q_34_18 (cli (x_boneOf h hB _) (q_34_27 ?_)))
  rw [a1]
  refine cli (x_isSeat h hB _) (q_34_33 ?_)
  rw [bel_neg (by decide), if_pos (by decide)]
theorem x_undo (h : RT g w L σ α) (hB : Bs g w) (h7 : 2 ≤ g 7) (hn : 0 < g 22) : ∃ σ' α', Ev sc (d + 3) 34 [.ref 1] (mem L σ α τ β γ) (some (.int 1), mem L σ' α' τ β γ) ∧ RT (unG (bq g) w) (unW g w) L σ' α' ∧ (∀ k, k < 4 ∨ 13 ≤ k → σ' k = σ k) ∧ (∀ c, c = 2 ∨ 12 ≤ c → α' c = α c) := by
  obtain ⟨⟨h1, -, h3, -, h9⟩, -, -, -, ⟨e14, e15, e11⟩, ht, -, -⟩ := id hB
  have hBd := Bs_Bd hB
  have h22 := hBd.2.2.2.2.2.2.2.2.1
  have hrw := hBd.2.2.2.2.2.2.2.1
  obtain ⟨n, hn'⟩ : ∃ n, g 22 = n + 1 := ⟨g 22 - 1, by omega⟩
  obtain ⟨⟨t1, t2, t3, t4, t5, t6⟩, tp7, tp8, tp9, tp10, tp11⟩ := ht n (by omega)
  have s12 : σ 12 = nI (n + 1) := by rw [h.2.1.2.2.2.2.2.2.2.2.2, hn']
  have e12 : σ 12 - 1 = nI n := by rw [s12]; exact pk_sub (b := 1) (by omega)
  have b22 : bq g 22 = n + 1 := by simp [bq, va_up, hn']
  have V : ∀ k, k ≠ 22 → k ≠ 9 → k ≠ 14 → k ≠ 15 → k ≠ 7 → k ≠ 23 → k ≠ 24 → unG (bq g) w k = g k := fun k a b c e f i j => by
    unfold unG; split
    · simp [va_up, bq, a, b, f, i, j]
    · split <;> simp [va_up, bq, a, b, c, e, f, i, j]
  have V22 : unG (bq g) w 22 = n := by unfold unG; rw [b22]; split <;> (try split) <;> simp [va_up]
  have V9 : unG (bq g) w 9 = w 25 n := by unfold unG; rw [b22]; split <;> (try split) <;> simp [va_up]
  have V7 : unG (bq g) w 7 = 2 := by unfold unG; split <;> (try split) <;> simp [va_up, bq]
  have V23 : unG (bq g) w 23 = 0 := by unfold unG; split <;> (try split) <;> simp [va_up, bq]
  have V24 : unG (bq g) w 24 = 0 := by unfold unG; split <;> (try split) <;> simp [va_up, bq]
  have V1 := V 1 (by decide) (by decide) (by decide) (by decide) (by decide) (by decide) (by decide)
  have V3 := V 3 (by decide) (by decide) (by decide) (by decide) (by decide) (by decide) (by decide)
  have V8 := V 8 (by decide) (by decide) (by decide) (by decide) (by decide) (by decide) (by decide)
  have hW : ∀ c, c ≠ 21 → unW g w c = w c := fun c hc => by unfold unW; split <;> simp [tw, va_up, hc]
  have pl : ∀ i, unW g w 21 i = if ¬ w 26 n = 0 ∧ i = w 26 n - 1 then w 25 n else w 21 i := fun i => by
    unfold unW
    rw [hn', Nat.add_sub_cancel]
    by_cases z : w 26 n = 0
    · rw [if_pos z, if_neg (fun q => q.1 z)]
    · rw [if_neg z]
      by_cases e : i = w 26 n - 1
      · rw [if_pos ⟨z, e⟩, e]; simp [tw, va_up]
      · rw [if_neg (fun q => e q.2)]; simp [tw, va_up, e]
  obtain ⟨⟨l0, l1, lW, kW⟩, ⟨s2, s3, s4, s5, s7, s8, s9, s10, s11, -⟩, k6, kh, kr, kt, kb⟩ := id h
  obtain ⟨r6, r7, r8, r10, r9⟩ := kt n (by omega)
  -- what is the same in all ways
  have key : ∀ (σ1 : Nat → Int32) (α1 : Nat → Nat → Int32), (∀ k, k ≠ 10 → k ≠ 11 → σ1 k = σ k) → (∀ c, c ≠ 11 → c ≠ 5 → α1 c = α c) → (∀ s, s < sides (g 1) → α1 5 s = nI (own (unG (bq g) w) (unW g w) s)) → (∀ s, s < g 1 → ∀ i, i < 32 → bt (α1 11 s) i = (decide (i < g 3) && decide (unW g w 21 i = s))) → (∀ i, i < 32 → (decide (w 21 i = 10)) = decide (unW g w 21 i = 10)) → σ1 10 = (if unG (bq g) w 14 = unG (bq g) w 15 then 28 else nI (unG (bq g) w 14 - 3)) → σ1 11 = nI (unG (bq g) w 15 - unG (bq g) w 14) → g 14 ≤ unG (bq g) w 14 → unG (bq g) w 15 ≤ g 15 → RT (unG (bq g) w) (unW g w) L (upd (upd (upd (upd (upd σ1 12 (nI n)) 4 2) 7 (nI (w 25 n))) 8 (-1)) 9 0) α1 := by
    intro σ1 α1 as aa aw ah a6 a10 a11 b14 b15
    have n2 : (2 : Int32) = nI 2 := rfl
    refine ⟨⟨by rw [V1]; exact l0, by rw [V3]; exact l1, by rw [V1]; exact lW, fun _ s hs => aw s (by rw [V1] at hs; exact hs)⟩, ⟨?_, ?_, ?_, ?_, ?_, ?_, ?_, ?_, ?_, ?_⟩, ?_, ?_, ?_, ?_, ?_⟩
    · simp [upd, as 2, V1, s2]
    · simp [upd, as 3, V3, s3]
    · simp [upd, V7, n2]
    · simp [upd, as 5, V8, s5]
    · simp [upd, V7, V9]
    · simp [upd, V23, mI_0]
    · simp [upd, V24, nI_0]
    · simpa [upd] using a10
    · simpa [upd] using a11
    · simp [upd, V22]
    · intro i hi
      rw [V7, V3, ← a6 i hi]
      have := k6 i hi
      rw [decide_eq_true (show 1 ≤ g 7 by omega)] at this
      simpa [upd, as 6] using this
    · rw [V1, V7, V3]
      intro s hs i hi
      simpa using ah s hs i hi
    · intro i a b
      rw [aa 4 (by decide) (by decide), hW 23 (by decide), hW 24 (by decide)]
      exact kr i (by omega) (by omega)
    · rw [V22, V3]
      intro t htt
      rw [aa 6 (by decide) (by decide), aa 7 (by decide) (by decide), aa 8 (by decide) (by decide), aa 9 (by decide) (by decide), aa 10 (by decide) (by decide), hW 25 (by decide), hW 26 (by decide), hW 27 (by decide), hW 28 (by decide), hW 29 (by decide), hW 30 (by decide)]
      exact kt t (by omega)
    · rw [V3, aa 2 (by decide) (by decide)]; exact kb
  have frame : ∀ (σ1 : Nat → Int32), (∀ k, k ≠ 10 → k ≠ 11 → σ1 k = σ k) → ∀ k, k < 4 ∨ 13 ≤ k → (upd (upd (upd (upd (upd σ1 12 (nI n)) 4 2) 7 (nI (w 25 n))) 8 (-1)) 9 0) k = σ k := fun σ1 as k hk => by
    rw [pk_un (by omega), pk_un (by omega), pk_un (by omega), pk_un (by omega), pk_un (by omega)]; exact as k (by omega) (by omega)
  have start : ∀ {r}, (if mI (w 26 n) = (-1) then EvL sc (d + 2) me_34 64 [some (.ref 1), none, some (.int (nI (w 25 n))), none] [] (mem L σ α τ β γ) 0 0 r else Cli sc (d + 2) 61 [.ref 5, .int (nI n)] (mem L σ α τ β γ) (fun y M2 => EvL sc (d + 2) me_34 55 [some (.ref 1), none, some (.int (nI (w 25 n))), some (.int (mI (w 26 n)))] [.int y, .ref 3] M2 0 0 r)) → Ev sc (d + 3) 34 [.ref 1] (mem L σ α τ β γ) r := by
    intro r hr
    refine e_start rfl rfl rfl (q_34_0 ?_)
    rw [e12]
    have q1 := x_seatOf (sc := sc) (d := d) (τ := τ) (β := β) (γ := γ) h hB (nI n)
    have q2 := x_boneOf (sc := sc) (d := d) (τ := τ) (β := β) (γ := γ) h hB (nI n)
    rw [aTr_nI h22 (by omega)] at q1 q2
    refine cli q1 (q_34_18 (cli q2 (q_34_27 (cli (x_isSeat h hB _) (q_34_33 ?_)))))
    rw [bel_nI (by omega) (by omega), decide_eq_true t1, if_neg (by decide)]
    exact hr
  have drop : ∀ (σ1 : Nat → Int32) (α1 : Nat → Nat → Int32), σ1 12 = nI (n + 1) → Ev sc (d + 2) 57 [.ref 5] (mem L σ1 α1 τ β γ) (none, mem L (upd σ1 12 (nI n)) α1 τ β γ) := by
    intro σ1 α1 q
    refine e_start rfl rfl rfl (q_57_0 ?_)
    rw [q, if_pos (show (0 : Int32) < nI (n + 1) from nI_lt (a := 0) (by omega) (by omega)), show nI (n + 1) - 1 = nI n from pk_sub (b := 1) (by omega)]
  by_cases hp : w 26 n = 0
  · -- a pass
    have u14 : unG (bq g) w 14 = g 14 := by unfold unG; rw [b22, Nat.add_sub_cancel, if_pos hp]; simp [va_up, bq]
    have u15 : unG (bq g) w 15 = g 15 := by unfold unG; rw [b22, Nat.add_sub_cancel, if_pos hp]; simp [va_up, bq]
    refine ⟨upd (upd (upd (upd (upd σ 12 (nI n)) 4 2) 7 (nI (w 25 n))) 8 (-1)) 9 0, α, start ?_, ?_, frame σ (fun _ _ _ => rfl), fun _ _ => rfl⟩
    · rw [hp, if_pos mI_0]
      exact q_34_64 (clv (drop σ α s12) (q_34_71 rfl))
    · refine key σ α (fun _ _ _ => rfl) (fun _ _ _ => rfl) (fun s hs => by rw [own_same V1 V3 (fun i _ => by rw [pl, if_neg (fun q => q.1 hp)])]; exact kW (by omega) s hs) (fun s hs i hi => ?_) (fun i hi => by rw [pl, if_neg (fun q => q.1 hp)]) (by rw [u14, u15]; exact s10) (by rw [u14, u15]; exact s11) (by omega) (by omega)
      rw [pl, if_neg (fun q => q.1 hp), kh s hs i hi]
      simp; omega
  · obtain ⟨b, hb⟩ : ∃ b, w 26 n = b + 1 := ⟨w 26 n - 1, by omega⟩
    have hb28 : b < g 3 := by omega
    have p11 := (tp8 hp).2
    rw [hb, Nat.add_sub_cancel] at p11
    have pl' : ∀ i, unW g w 21 i = if i = b then w 25 n else w 21 i := fun i => by
      rw [pl, hb, Nat.add_sub_cancel]
      by_cases q : i = b
      · rw [if_pos ⟨by omega, q⟩, if_pos q]
      · rw [if_neg (fun z => q z.2), if_neg q]
    rw [hn'] at e14 e15 e11
    simp only [cn] at e14 e15 e11
    have elf : lfP w n = decide (¬ w 26 n = 0 ∧ ¬ w 28 n = 0 ∧ w 27 n = 1) := rfl
    have ert : rtP w n = decide (¬ w 26 n = 0 ∧ ¬ (¬ w 28 n = 0 ∧ w 27 n = 1)) := rfl
    rw [elf] at e14
    rw [ert] at e15
    have hsum := pl_sum w n
    have hne : ¬ g 14 = g 15 := by
      intro z
      by_cases q : ¬ w 28 n = 0 ∧ w 27 n = 1
      · rw [if_pos (decide_eq_true ⟨hp, q⟩)] at e14
        split at e15 <;> omega
      · rw [if_pos (decide_eq_true ⟨hp, q⟩)] at e15
        omega
    have r3 := row3 hB hne
    have s10' : σ 10 = nI (g 14 - 3) := by rw [s10, if_neg hne]
    -- the bone comes back
    have tail : ∀ (σ1 : Nat → Int32), σ1 12 = nI (n + 1) → σ1 2 = σ 2 → σ1 3 = σ 3 → EvL sc (d + 2) me_34 58 [some (.ref 1), none, some (.int (nI (w 25 n))), some (.int (mI (w 26 n)))] [] (mem L σ1 α τ β γ) 0 0 (some (.int 1), mem L (upd (upd (upd (upd (upd σ1 12 (nI n)) 4 2) 7 (nI (w 25 n))) 8 (-1)) 9 0) (va_up (va_up α 11 (upd (α 11) (w 25 n) (α 11 (w 25 n) ||| ((1 : Int32) <<< (nI b &&& 31))))) 5 (upd (α 5) (side (g 1) (w 25 n)) (α 5 (side (g 1) (w 25 n)) + nI (wt b)))) τ β γ) := by
      intro σ1 q q2 q3
      refine q_34_58 ?_
      rw [hb, mI_succ]
      exact clv (y_pickUp h1 h3.2 l0 lW (by rw [q2]; exact s2) (by rw [q3]; exact s3) t1 hb28) (q_34_64 (clv (drop σ1 _ q) (q_34_71 rfl)))
    have wgt : ∀ s, s < sides (g 1) → ((va_up (va_up α 11 (upd (α 11) (w 25 n) (α 11 (w 25 n) ||| ((1 : Int32) <<< (nI b &&& 31))))) 5 (upd (α 5) (side (g 1) (w 25 n)) (α 5 (side (g 1) (w 25 n)) + nI (wt b))))) 5 s = nI (own (unG (bq g) w) (unW g w) s) := by
      intro s hs
      have om := own_move V1 V3 hb28 pl' s
      have hk := kW (by omega) s hs
      rw [p11, if_neg (c := 11 < g 1 ∧ side (g 1) 11 = s) (fun z => by omega)] at om
      simp only [va_up, if_true]
      by_cases q : s = side (g 1) (w 25 n)
      · subst q
        rw [if_pos ⟨t1, rfl⟩] at om
        rw [pk_us, hk, nI_add]
        congr 1
        omega
      · rw [if_neg (c := w 25 n < g 1 ∧ side (g 1) (w 25 n) = s) (fun z => q z.2.symm)] at om
        rw [pk_un q, hk]
        congr 1
        omega
    have hands : ∀ s, s < g 1 → ∀ i, i < 32 → bt ((va_up (va_up α 11 (upd (α 11) (w 25 n) (α 11 (w 25 n) ||| ((1 : Int32) <<< (nI b &&& 31))))) 5 (upd (α 5) (side (g 1) (w 25 n)) (α 5 (side (g 1) (w 25 n)) + nI (wt b)))) 11 s) i = (decide (i < g 3) && decide (unW g w 21 i = s)) := by
      intro s hs i hi
      rw [pl']
      simp only [va_up, show ((11 : Nat) = 5) = False by simp, if_true, if_false]
      by_cases q : s = w 25 n
      · rw [q, pk_us, b_put (by omega) hi, kh (w 25 n) t1 i hi]
        by_cases z : i = b
        · simp [z, hb28]
        · simp [z]; omega
      · rw [pk_un q, kh s hs i hi]
        by_cases z : i = b
        · have a1 : ¬ (11 : Nat) = s := by omega
          have a2 : ¬ w 25 n = s := fun r => q r.symm
          simp [z, p11, a1, a2]
        · simp [z]; omega
    have st10 : ∀ i, i < 32 → (decide (w 21 i = 10)) = decide (unW g w 21 i = 10) := fun i hi => by
      rw [pl']
      by_cases z : i = b
      · have : ¬ w 25 n = 10 := by omega
        rw [if_pos z, z, p11]; simp [this]
      · rw [if_neg z]
    have fr2 : ∀ c, c = 2 ∨ 12 ≤ c → (va_up (va_up α 11 (upd (α 11) (w 25 n) (α 11 (w 25 n) ||| ((1 : Int32) <<< (nI b &&& 31))))) 5 (upd (α 5) (side (g 1) (w 25 n)) (α 5 (side (g 1) (w 25 n)) + nI (wt b)))) c = α c := fun c hc => by
      simp only [va_up]; rw [if_neg (by omega), if_neg (by omega)]
    have e1 : ∀ {r} (σ1 : Nat → Int32), Ev sc (d + 2) 8 [.ref 3, .int (mI (w 27 n))] (mem L σ α τ β γ) (none, mem L σ1 α τ β γ) → EvL sc (d + 2) me_34 58 [some (.ref 1), none, some (.int (nI (w 25 n))), some (.int (mI (w 26 n)))] [] (mem L σ1 α τ β γ) 0 0 r → Ev sc (d + 3) 34 [.ref 1] (mem L σ α τ β γ) r := by
      intro r σ1 hd hr
      refine start ?_
      rw [if_neg (fun z => hp ((mI_eq_m1 (by omega)).mp z))]
      have q3 := x_endOf (sc := sc) (d := d) (τ := τ) (β := β) (γ := γ) h hB (nI n)
      rw [aTr_nI h22 (by omega)] at q3
      exact cli q3 (q_34_55 (clv hd hr))
    have e27 : mI (w 27 n) = 0 ↔ w 27 n = 1 := by
      have : (0 : Int32) = mI 1 := by decide
      rw [this]; exact mI_inj (by omega) (by omega)
    have m11 : σ 11 - 1 = nI (g 15 - g 14 - 1) := by rw [s11]; exact pk_sub (b := 1) (by omega)
    by_cases hl : w 27 n = 1
    · have hd : Ev sc (d + 2) 8 [.ref 3, .int (mI (w 27 n))] (mem L σ α τ β γ) (none, mem L (upd (upd σ 10 (σ 10 + 1)) 11 (σ 11 - 1)) α τ β γ) := by
        refine e_start rfl rfl rfl (q_8_0 (cli (x_isEmpty h hB) (q_8_4 ?_)))
        rw [if_pos (by simp [hne, bI]), if_pos (e27.mpr hl)]
      refine ⟨_, _, e1 _ hd (tail (upd (upd σ 10 (σ 10 + 1)) 11 (σ 11 - 1)) (by rw [pk_un (by decide), pk_un (by decide)]; exact s12) (by rw [pk_un (by decide), pk_un (by decide)]) (by rw [pk_un (by decide), pk_un (by decide)])), ?_, frame _ (fun k a b => by rw [pk_un b, pk_un a]), fr2⟩
      by_cases hz : w 28 n = 0
      · -- the first bone of the row
        have z0 := tp9.mp hz
        rw [if_neg (by simp [hz])] at e14
        rw [if_pos (by simp [hp, hz])] at e15
        have u14 : unG (bq g) w 14 = g 14 := by unfold unG; rw [b22, Nat.add_sub_cancel, if_neg hp, if_neg (fun q => q.1 hz)]; simp [va_up, bq]
        have u15 : unG (bq g) w 15 = g 15 - 1 := by unfold unG; rw [b22, Nat.add_sub_cancel, if_neg hp, if_neg (fun q => q.1 hz)]; simp [va_up, bq]
        refine key _ _ (fun k a b => by rw [pk_un b, pk_un a]) (fun c hc hc5 => by simp [va_up, hc, hc5]) wgt hands st10 ?_ ?_ (by omega) (by omega)
        · rw [u14, u15, if_pos (by omega), pk_un (by decide), pk_us, s10', show g 14 - 3 = 27 by omega]; rfl
        · rw [u14, u15, pk_us, m11]; congr 1; try omega
      · rw [if_pos (by simp [hp, hz, hl])] at e14
        rw [if_neg (by simp [hz, hl])] at e15
        have u14 : unG (bq g) w 14 = g 14 + 1 := by unfold unG; rw [b22, Nat.add_sub_cancel, if_neg hp, if_pos ⟨hz, hl⟩]; simp [va_up, bq]
        have u15 : unG (bq g) w 15 = g 15 := by unfold unG; rw [b22, Nat.add_sub_cancel, if_neg hp, if_pos ⟨hz, hl⟩]; simp [va_up, bq]
        have ro := row_one ht n (by omega)
        have : ¬ cn (plP w) n = 0 := fun z => hz (tp9.mpr z)
        refine key _ _ (fun k a b => by rw [pk_un b, pk_un a]) (fun c hc hc5 => by simp [va_up, hc, hc5]) wgt hands st10 ?_ ?_ (by omega) (by omega)
        · rw [u14, u15, if_neg (by omega), pk_un (by decide), pk_us, s10', nI_1]; congr 1; omega
        · rw [u14, u15, pk_us, m11]; congr 1; try omega
    · have hz : ¬ w 28 n = 0 := fun z => hl (tp10 z).2
      have hd : Ev sc (d + 2) 8 [.ref 3, .int (mI (w 27 n))] (mem L σ α τ β γ) (none, mem L (upd σ 11 (σ 11 - 1)) α τ β γ) := by
        refine e_start rfl rfl rfl (q_8_0 (cli (x_isEmpty h hB) (q_8_4 ?_)))
        rw [if_pos (by simp [hne, bI]), if_neg (fun z => hl (e27.mp z))]
      rw [if_neg (by simp [hl])] at e14
      rw [if_pos (by simp [hp, hl])] at e15
      have u14 : unG (bq g) w 14 = g 14 := by unfold unG; rw [b22, Nat.add_sub_cancel, if_neg hp, if_neg (fun q => hl q.2)]; simp [va_up, bq]
      have u15 : unG (bq g) w 15 = g 15 - 1 := by unfold unG; rw [b22, Nat.add_sub_cancel, if_neg hp, if_neg (fun q => hl q.2)]; simp [va_up, bq]
      have ro := row_one ht n (by omega)
      have : ¬ cn (plP w) n = 0 := fun z => hz (tp9.mpr z)
      refine ⟨_, _, e1 _ hd (tail (upd σ 11 (σ 11 - 1)) (by rw [pk_un (by decide)]; exact s12) (pk_un (by decide)) (pk_un (by decide))), ?_, frame _ (fun k a b => by rw [pk_un b]), fr2⟩
      refine key _ _ (fun k a b => by rw [pk_un b]) (fun c hc hc5 => by simp [va_up, hc, hc5]) wgt hands st10 ?_ ?_ (by omega) (by omega)
      · rw [u14, u15, if_neg (by omega), pk_un (by decide), s10']
      · rw [u14, u15, pk_us, m11]; congr 1; try omega
end XG
