/-! the whole run of the law -/
def iG (S T B : Nat) : Nat → Nat := fun k => if k = 1 then S else if k = 2 then T else if k = 3 then B else if k = 14 then 30 else if k = 15 then 30 else 0
theorem INV_0 {P S T : Nat} {α : Nat → Nat → Int32} (hP : 2 ≤ P ∧ P ≤ 6) (hS : 2 ≤ S ∧ S ≤ 4) (hT : 1 ≤ T ∧ T ≤ 1000) (hK : KB ((P + 1) * (P + 2) / 2) 7 0 α) (hR : RP α) (ha : ∀ c, 4 ≤ c → c < 14 → α c = fun _ => 0) : INV (iG S T ((P + 1) * (P + 2) / 2)) (fun _ _ => 0) (iL S ((P + 1) * (P + 2) / 2) (sides S)) (iS (nI T) S ((P + 1) * (P + 2) / 2)) α (iT P S T ((P + 1) * (P + 2) / 2)) (fun _ _ => 0) := by
  have hB : 6 ≤ (P + 1) * (P + 2) / 2 ∧ (P + 1) * (P + 2) / 2 ≤ 28 := by
    have : ∀ p, p ≤ 6 → 2 ≤ p → 6 ≤ (p + 1) * (p + 2) / 2 ∧ (p + 1) * (p + 2) / 2 ≤ 28 := by decide
    exact this P hP.2 hP.1
  generalize (P + 1) * (P + 2) / 2 = B at hK hB ⊢
  have g1 : iG S T B 1 = S := rfl
  have g2 : iG S T B 2 = T := rfl
  have g3 : iG S T B 3 = B := rfl
  have g7 : iG S T B 7 = 0 := rfl
  have g14 : iG S T B 14 = 30 := rfl
  have g15 : iG S T B 15 = 30 := rfl
  have g22 : iG S T B 22 = 0 := rfl
  have m0 : mI 0 = -1 := mI_0
  refine ⟨⟨⟨rfl, rfl, rfl, rfl, rfl, rfl, rfl, rfl, rfl, rfl, rfl, rfl, rfl, rfl⟩, fun _ _ => rfl, fun _ _ => rfl, fun i a b => ?_, fun t ht => ?_⟩, ⟨⟨rfl, rfl, rfl, fun z => absurd z (by rw [g7]; decide)⟩, ⟨rfl, rfl, rfl, rfl, rfl, rfl, rfl, rfl, rfl, rfl⟩, fun i hi => ?_, fun s hs i hi => ?_, fun i a b => ?_, fun t ht => ?_, fun p hp i hi => ?_⟩, ⟨rfl, rfl, rfl, fun s hs => ?_⟩, hR, ⟨⟨⟨hS, hT, hB, by rw [g7]; omega, ?_⟩, fun _ _ => Nat.zero_le _, fun z => ?_, fun _ => rfl, ⟨rfl, rfl, ?_⟩, fun t ht => ?_, fun t u ht => ?_, fun i a b => ?_⟩, fun _ => rfl, fun _ => ⟨rfl, rfl, rfl, fun s hs => ?_⟩, fun z => ?_, fun z => ?_⟩⟩
  · omega
  · omega
  · rw [show iS (nI T) S B 6 = 0 from rfl, b_0, g7]; rfl
  · rw [ha 11 (by decide) (by decide), b_0, g7]; rfl
  · omega
  · omega
  · rw [hK p hp i hi, decide_eq_true (show p < 7 ∨ p = 7 ∧ i < 0 from Or.inl hp), g3]; rfl
  · rw [ha 13 (by decide) (by decide)]; rfl
  · rw [g1, show iG S T B 9 = 0 from rfl]; omega
  · rw [g7] at z; omega
  · unfold many
    rw [cn_zero.mpr (fun i hi => by simp), g22]; rfl
  · omega
  · omega
  · omega
  · show 0 < iG S T B 2
    rw [g2]; omega
  · rw [g7] at z; omega
  · rw [g7] at z; omega
theorem law_run {sc : Nat × (Nat → Int32)} (hn : sc.1 ≤ 2051) : ∃ (d : Nat) (M' : dk_M), d ≤ 1000 ∧ EvL sc d me_151 0 [some (.ref 1002), none, none, none] [] [] 0 0 (some (.int 1), M') := by
  obtain ⟨a0, h0⟩ : ∃ a0, a0 = if 0 < sc.1 then sc.2 0 else 0 := ⟨_, rfl⟩
  obtain ⟨a1, h1⟩ : ∃ a1, a1 = if 1 < sc.1 then sc.2 1 else 0 := ⟨_, rfl⟩
  obtain ⟨a2, h2⟩ : ∃ a2, a2 = if 2 < sc.1 then sc.2 2 else 0 := ⟨_, rfl⟩
  have r0 : ∀ M, Ev sc 20 147 [.ref 1002, .int (0 : Int32)] M (some (.int a0), M) := fun M => by rw [h0]; exact x_read hn (j := 0) (by decide)
  have r1 : ∀ M, Ev sc 20 147 [.ref 1002, .int (1 : Int32)] M (some (.int a1), M) := fun M => by rw [h1]; exact x_read hn (j := 1) (by decide)
  have r2 : ∀ M, Ev sc 20 147 [.ref 1002, .int (2 : Int32)] M (some (.int a2), M) := fun M => by rw [h2]; exact x_read hn (j := 2) (by decide)
  obtain ⟨P, p1, p2, eP⟩ := clp_ok a0 (a := 2) (b := 6) (by decide) (by decide)
  obtain ⟨S, s1, s2, eS⟩ := clp_ok a1 (a := 2) (b := 4) (by decide) (by decide)
  obtain ⟨T, t1, t2, eT⟩ := clp_ok a2 (a := 1) (b := 1000) (by decide) (by decide)
  obtain ⟨α, hE1, hK, hR, ha⟩ := x_init (sc := sc) (d := 17) a0 a1 a2 (P := P) (S := S) (t := nI T) ⟨p1, p2⟩ ⟨s1, s2⟩ eP eS eT
  have hE2 := x_ref (sc := sc) (d := 18) (L := iL S ((P + 1) * (P + 2) / 2) (sides S)) (σ := iS (nI T) S ((P + 1) * (P + 2) / 2)) α a0 a1 a2 (P := P) (S := S) (T := T) ⟨p1, p2⟩ ⟨s1, s2⟩ eP eS eT
  have hI := INV_0 (α := α) ⟨p1, p2⟩ ⟨s1, s2⟩ ⟨t1, t2⟩ hK hR ha
  generalize hL : iL S ((P + 1) * (P + 2) / 2) (sides S) = L at hE1 hE2 hI
  generalize hs : iS (nI T) S ((P + 1) * (P + 2) / 2) = σ at hE1 hE2 hI
  generalize ht : iT P S T ((P + 1) * (P + 2) / 2) = τ at hE2 hI
  obtain ⟨M', hE⟩ := law_loop (sc := sc) (L := L) hn (sc.1) 3 (by omega) (by omega) _ _ σ α τ (fun _ _ => 0) (fun _ _ => 0) hI
  refine ⟨20, M', by decide, ?_⟩
  refine q_151_0 (cli (r0 _) (q_151_9 (cli (r1 _) (q_151_14 (cli (r2 _) (q_151_19 (clv hE1 ?_)))))))
  refine q_151_22 (L := L) (σ := σ) (α := α) (cli (r0 _) (q_151_32 (L := L) (σ := σ) (α := α) (cli (r1 _) (q_151_37 (L := L) (σ := σ) (α := α) (cli (r2 _) (q_151_42 (L := L) (σ := σ) (α := α) ?_))))))
  refine clv hE2 (q_151_45 ?_)
  exact hE
