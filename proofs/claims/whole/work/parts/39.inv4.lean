/-! what holds of every state is kept by back, lay, give, shuffle, begin -/
/-- an injection does not make more -/
theorem cn_inj {p : Nat → Bool} {M : Nat} (h : Nat → Nat) : ∀ {N : Nat} {q : Nat → Bool}, (∀ b, b < N → p b = true → h b < M ∧ q (h b) = true) → (∀ b c, b < N → c < N → p b = true → p c = true → h b = h c → b = c) → cn p N ≤ cn q M
  | 0, _, _, _ => Nat.zero_le _
  | N + 1, q, hm, hi => by
    simp only [cn]
    by_cases hp : p N = true
    · rw [if_pos hp]
      obtain ⟨h1, h2⟩ := hm N (by omega) hp
      have ih := cn_inj (p := p) (M := M) h (N := N) (q := fun n => q n && !decide (n = h N)) (fun b hb hpb => by
        obtain ⟨a, c⟩ := hm b (by omega) hpb
        refine ⟨a, ?_⟩
        have : ¬ h b = h N := fun z => by have := hi b N (by omega) (by omega) hpb hp z; omega
        simp [c, this]) (fun b c hb hc => hi b c (by omega) (by omega))
      have := cn_upd (p := q) (q := fun n => q n && !decide (n = h N)) (k := h N) (fun i hi => by simp [hi]) h1
      simp only [h2, decide_true, Bool.not_true, Bool.and_false, Bool.false_eq_true, if_false, if_true] at this
      omega
    · rw [if_neg hp]
      have := cn_inj (p := p) (M := M) h (N := N) (q := q) (fun b hb => hm b (by omega)) (fun b c hb hc => hi b c (by omega) (by omega))
      omega
theorem cn_all (n : Nat) : cn (fun _ => true) n = n := by induction n with
  | zero => rfl
  | succ n ih => simp only [cn, ih]; rfl
/-- a row of the bones below n, each once, with the place of each -/
def permI (n : Nat) (o o' : Nat → Nat) : Prop := (∀ i, i < n → o i < n ∧ o' (o i) = i) ∧ ∀ b, b < n → o' b < n ∧ o (o' b) = b
theorem permI_swp {n : Nat} {o o' : Nat → Nat} (h : permI n o o') {i j : Nat} (hi : i < n) (hj : j < n) : ∃ o'', permI n (swp o i j) o'' := by
  have e : ∀ k, swp o i j k = o (if k = j then i else if k = i then j else k) := by
    intro k
    unfold swp va_up
    by_cases h1 : k = j
    · simp [h1]
    · by_cases h2 : k = i
      · simp [h2]; split <;> rfl
      · simp [h1, h2]
  have tt : ∀ k, (if (if k = j then i else if k = i then j else k) = j then i else if (if k = j then i else if k = i then j else k) = i then j else (if k = j then i else if k = i then j else k)) = k := by
    intro k
    by_cases h1 : k = j
    · simp [h1]
    · by_cases h2 : k = i
      · simp [h1, h2]
      · simp [h1, h2]
  have tl : ∀ k, k < n → (if k = j then i else if k = i then j else k) < n := fun k hk => by
    split
    · exact hi
    · split <;> assumption
  refine ⟨fun b => (if o' b = j then i else if o' b = i then j else o' b), fun k hk => ?_, fun b hb => ?_⟩
  · rw [e]
    obtain ⟨a, c⟩ := h.1 _ (tl k hk)
    refine ⟨a, ?_⟩
    simp only [c]
    exact tt k
  · obtain ⟨a, c⟩ := h.2 b hb
    refine ⟨tl _ a, ?_⟩
    rw [e, tt, c]
theorem permI_mix {n : Nat} : ∀ (i : Nat) (x : Int64) (o o' : Nat → Nat), i < n → permI n o o' → ∃ o'', permI n (mixF i x o) o''
  | 0, _, o, o', _, h => ⟨o', h⟩
  | i + 1, x, o, o', hi, h => by
    have hj : hn (lcg x) % (i + 2) < i + 2 := Nat.mod_lt _ (by omega)
    obtain ⟨o2, h2⟩ := permI_swp h (i := i + 1) (j := hn (lcg x) % (i + 2)) hi (by omega)
    exact permI_mix i (lcg x) _ o2 (by omega) h2
theorem plF_at {g : Nat → Nat} {N : Nat} {o o' p : Nat → Nat} (h : permI N o o') : ∀ n, n ≤ N → ∀ b, b < N → plF g o p n b = if o' b < n then (if o' b < g 8 * g 1 then o' b / g 8 else 10) else p b
  | 0, _, b, _ => by simp [plF]
  | n + 1, hn, b, hb => by
    simp only [plF, va_up]
    by_cases e : b = o n
    · rw [if_pos e]
      have : o' b = n := by rw [e]; exact (h.1 n (by omega)).2
      rw [this, if_pos (c := n < n + 1) (by omega)]
    · rw [if_neg e, plF_at h n (by omega) b hb]
      have : ¬ o' b = n := fun z => e (by rw [← z]; exact ((h.2 b hb).2).symm)
      by_cases l : o' b < n
      · rw [if_pos l, if_pos (c := o' b < n + 1) (by omega)]
      · rw [if_neg l, if_neg (c := o' b < n + 1) (by omega)]
section ID
variable {g G : Nat → Nat} {w W : Nat → Nat → Nat}
/-- the numbers that don't matter -/
theorem Bs_keep (hB : Bs g w) (hG : ∀ k, k ≠ 7 → k ≠ 23 → k ≠ 24 → k ≠ 11 → k ≠ 10 → k ≠ 9 → G k = g k) (h7 : 1 ≤ g 7) (hG7 : 1 ≤ G 7 ∧ G 7 ≤ 3) (hG9 : G 9 < G 1) (hW : ∀ c, c ≠ 22 → W c = w c) : Bs G W := by
  obtain ⟨⟨h1, h22, h3, h7', h9⟩, hp, hD, h8, ⟨e14, e15, e11⟩, ht, hd, hr⟩ := hB
  have G1 := hG 1 (by decide) (by decide) (by decide) (by decide) (by decide) (by decide)
  have G3 := hG 3 (by decide) (by decide) (by decide) (by decide) (by decide) (by decide)
  have G22 := hG 22 (by decide) (by decide) (by decide) (by decide) (by decide) (by decide)
  have G8 := hG 8 (by decide) (by decide) (by decide) (by decide) (by decide) (by decide)
  have G14 := hG 14 (by decide) (by decide) (by decide) (by decide) (by decide) (by decide)
  have G15 := hG 15 (by decide) (by decide) (by decide) (by decide) (by decide) (by decide)
  have mn : ∀ s, many G W s = many g w s := fun s => many_same G3 (fun i _ => by rw [hW 21 (by decide)]) s
  have c1 : cn (plP W) (g 22) = cn (plP w) (g 22) := plP_cong (fun t _ => by rw [hW 26 (by decide)])
  have c2 : cn (lfP W) (g 22) = cn (lfP w) (g 22) := lfP_cong (fun t _ => by rw [hW 26 (by decide), hW 27 (by decide), hW 28 (by decide)]; exact ⟨rfl, rfl, rfl⟩)
  have c3 : cn (rtP W) (g 22) = cn (rtP w) (g 22) := rtP_cong (fun t _ => by rw [hW 26 (by decide), hW 27 (by decide), hW 28 (by decide)]; exact ⟨rfl, rfl, rfl⟩)
  refine ⟨⟨?_, ?_, ?_, ?_, ?_⟩, ?_, ?_, ?_, ⟨?_, ?_, ?_⟩, ?_, ?_, ?_⟩
  · rw [G1]; exact h1
  · rw [hG 2 (by decide) (by decide) (by decide) (by decide) (by decide) (by decide)]; exact h22
  · rw [G3]; exact h3
  · omega
  · exact hG9
  · rw [hW 21 (by decide)]; exact hp
  · intro _
    rw [G8, G1, G3, hW 21 (by decide)]
    obtain ⟨a, b, c, e⟩ := hD h7
    exact ⟨a, b, c, fun s hs => by rw [mn, G22, pbP_cong (fun t _ => by rw [hW 26 (by decide), hW 25 (by decide)]; exact ⟨rfl, rfl⟩)]; exact e s hs⟩
  · intro z; omega
  · rw [G14, G22, c2]; exact e14
  · rw [G15, G22, c3]; exact e15
  · rw [mn, G22, c1]; exact e11
  · rw [G22]
    intro t htt
    exact TR_keep (ht t htt) G1 G3 (fun u _ => by rw [hW 26 (by decide)]) (by rw [hW 25 (by decide), hW 27 (by decide), hW 28 (by decide), hW 29 (by decide), hW 30 (by decide)]; exact ⟨rfl, rfl, rfl, rfl, rfl⟩) (fun _ z => by rw [hW 21 (by decide)]; exact z)
  · rw [G22, hW 26 (by decide)]; exact hd
  · rw [G14, G15, hW 23 (by decide), hW 24 (by decide)]; exact hr
theorem PS_bk (h : IN g w) (h2 : 2 ≤ g 7) (hn : 0 < g 22) : PS (bkG g) (bkW g w) := by
  obtain ⟨hB, -, hS, hP, hO⟩ := h
  have h7 := hB.1.2.2.2.1
  have hG : ∀ k, k ≠ 7 → k ≠ 23 → k ≠ 24 → k ≠ 11 → bkG g k = g k := fun k a b c d => by
    unfold bkG; split <;> simp [va_up, a, b, c, d]
  have hW : ∀ c, c ≠ 22 → bkW g w c = w c := fun c hc => by unfold bkW; split <;> simp [tw, va_up, hc]
  have G1 := hG 1 (by decide) (by decide) (by decide) (by decide)
  have G22 := hG 22 (by decide) (by decide) (by decide) (by decide)
  have G7 : bkG g 7 = 2 := by unfold bkG; split <;> simp [va_up]
  refine ⟨Bs_keep hB (fun k a b c d _ _ => hG k a b c d) (by omega) (by omega) (by rw [G1, hG 9 (by decide) (by decide) (by decide) (by decide)]; exact hB.1.2.2.2.2) hW, G7, by omega, ?_, ?_⟩
  · refine ⟨by unfold bkG; split <;> simp [va_up], by unfold bkG; split <;> simp [va_up], ?_, fun s hs => ?_⟩
    · unfold bkG
      by_cases z : g 7 = 3 ∧ ¬ g 23 = 0
      · rw [if_pos z]; simp [va_up]
      · rw [if_neg z]
        simp [va_up]
        by_cases z3 : g 7 = 3
        · exact ((hO z3).2.2.2.2.1 (Decidable.byContradiction fun q => z ⟨z3, q⟩)).2
        · exact (hS (by omega)).2.2.1
    · rw [hG 2 (by decide) (by decide) (by decide) (by decide)]
      unfold bkW
      by_cases z : g 7 = 3 ∧ ¬ g 23 = 0
      · rw [if_pos z]
        obtain ⟨-, -, -, a, -, b⟩ := hO z.1
        by_cases e : s = g 23 - 1
        · rw [e, tw_s]; exact (b z.2).2.1
        · rw [tw_i _ _ _ e]; exact a s hs (by omega)
      · rw [if_neg z]
        by_cases z3 : g 7 = 3
        · exact (hO z3).2.2.2.1 s hs (fun q => z ⟨z3, by omega⟩)
        · exact (hS (by omega)).2.2.2 s hs
  · intro s hs
    rw [G1] at hs
    rw [G22, hW 25 (by decide), hW 26 (by decide), many_same (hG 3 (by decide) (by decide) (by decide) (by decide)) (fun i _ => by rw [hW 21 (by decide)])]
    by_cases z3 : g 7 = 3
    · exact (hO z3).2.2.1 s hs
    · left; exact (hP (by omega)).2 s hs
theorem IN_lay (h : IN g w) {k : Nat} (h2 : ¬ g 7 = 2) (hk : 1 ≤ k) (hk2 : k ≤ g 3 / g 1) (h11 : g 11 = 0) : IN (layG g k) (layW g w) := by
  obtain ⟨hB, -, hS, -, hO⟩ := h
  obtain ⟨⟨h1, h22, h3, h7', h9⟩, hp, hD, h8, ⟨e14, e15, e11⟩, ht, hd, hr⟩ := hB
  have hG : ∀ j, j = 1 ∨ j = 2 ∨ j = 3 ∨ j = 9 ∨ j = 11 → layG g k j = g j := fun j hj => by
    rcases hj with rfl | rfl | rfl | rfl | rfl <;> simp [layG, va_up]
  have hkS : k * g 1 ≤ g 3 := by
    have a := Nat.mul_le_mul_right (g 1) hk2
    have b := Nat.div_mul_le_self (g 3) (g 1)
    omega
  have L7 : layG g k 7 = 1 := by simp [layG, va_up]
  have L8 : layG g k 8 = k := by simp [layG, va_up]
  have L22 : layG g k 22 = 0 := by simp [layG, va_up]
  have L14 : layG g k 14 = 30 := by simp [layG, va_up]
  have L15 : layG g k 15 = 30 := by simp [layG, va_up]
  have L23 : layG g k 23 = 0 := by simp [layG, va_up]
  have L24 : layG g k 24 = 0 := by simp [layG, va_up]
  have W21 : ∀ i, i < g 3 → layW g w 21 i = 10 := fun i hi => by simp [layW, va_up, hi]
  have W22 : layW g w 22 = w 22 := by simp [layW, va_up]
  have mz : ∀ s, s ≠ 10 → many (layG g k) (layW g w) s = 0 := fun s hs => by
    unfold many
    rw [hG 3 (by simp), cn_zero]
    intro i hi
    rw [W21 i hi]
    simp; omega
  refine ⟨⟨⟨?_, ?_, ?_, ?_, ?_⟩, ?_, ?_, ?_, ⟨?_, ?_, ?_⟩, ?_, ?_, ?_⟩, ?_, ?_, ?_, ?_⟩
  · rw [hG 1 (by simp)]; exact h1
  · rw [hG 2 (by simp)]; exact h22
  · rw [hG 3 (by simp)]; exact h3
  · omega
  · rw [hG 9 (by simp), hG 1 (by simp)]; exact h9
  · intro i hi
    by_cases l : i < g 3
    · rw [W21 i l]; omega
    · have := hp i hi
      simpa [layW, va_up, l] using this
  · intro _
    rw [L8, hG 1 (by simp), hG 3 (by simp), L22]
    refine ⟨hk, hkS, fun b hb => Or.inr (Or.inl (W21 b hb)), fun s hs => ?_⟩
    rw [mz s (by omega)]
    simp [cn]
  · omega
  · rw [L14, L22]; rfl
  · rw [L15, L22]; rfl
  · rw [mz 11 (by decide), L22]; rfl
  · rw [L22]; intro t ht; omega
  · rw [L22]; intro t u ht; omega
  · rw [L14, L15]; intro i a b; omega
  · intro _; exact L22
  · intro _
    refine ⟨L23, L24, by rw [hG 11 (by simp)]; exact h11, fun s hs => ?_⟩
    rw [W22, hG 2 (by simp)]
    by_cases z3 : g 7 = 3
    · obtain ⟨-, -, -, a, b, c⟩ := hO z3
      by_cases e : s + 1 = g 23
      · have := (c (by omega)).2.2.2
        rw [h11] at this
        rw [show g 23 - 1 = s by omega] at this
        split at this <;> omega
      · exact a s hs e
    · exact (hS (by omega)).2.2.2 s hs
  · intro z; omega
  · intro z; omega
theorem IN_give (h : IN g w) {s b : Nat} (hB : giveB g w s b = true) : IN g (tw w 21 b s) := by
  unfold giveB at hB
  simp only [Bool.and_eq_true, decide_eq_true_eq] at hB
  obtain ⟨a7, hs, hb, a10, am⟩ := hB
  obtain ⟨hB, h2, hS, -, -⟩ := h
  have e22 := h2 (by omega)
  have hSc := hS (by omega)
  obtain ⟨⟨h1, h22, h3, h7', h9⟩, hp, hD, h8, ⟨e14, e15, e11⟩, ht, hd, hr⟩ := hB
  obtain ⟨d1, d2, d3, d4⟩ := hD (by omega)
  have pl : ∀ i, tw w 21 b s 21 i = if i = b then s else w 21 i := fun i => by simp [tw, va_up]
  have mn := fun x => many_up (g := g) (g' := g) (w := w) (w' := tw w 21 b s) rfl hb pl x
  rw [e22] at e14 e15 e11
  refine ⟨⟨⟨h1, h22, h3, h7', h9⟩, ?_, ?_, h8, ⟨?_, ?_, ?_⟩, ?_, ?_, ?_⟩, fun _ => e22, fun _ => ?_, fun z => by omega, fun z => by omega⟩
  · intro i hi; rw [pl]; split
    · omega
    · exact hp i hi
  · intro _
    refine ⟨d1, d2, fun i hi => ?_, fun x hx => ?_⟩
    · rw [pl]; split
      · left; exact hs
      · exact d3 i hi
    · have m := mn x
      have dx := d4 x hx
      rw [a10, if_neg (by omega)] at m
      rw [e22] at dx ⊢
      simp only [cn] at dx ⊢
      by_cases e : s = x
      · subst e; rw [if_pos rfl] at m; omega
      · rw [if_neg e] at m; omega
  · rw [e22]; exact e14
  · rw [e22]; exact e15
  · have m := mn 11
    rw [a10, if_neg (by omega), if_neg (by omega)] at m
    rw [e22, ← show cn (plP w) 0 = cn (plP (tw w 21 b s)) 0 from rfl]
    omega
  · rw [e22]; intro t ht; omega
  · rw [e22]; intro t u ht; omega
  · intro i a c
    simpa [tw, va_up] using hr i a c
  · obtain ⟨z1, z2, z3, z4⟩ := hSc
    exact ⟨z1, z2, z3, fun s hs => by simpa [tw, va_up] using z4 s hs⟩
theorem IN_begin (h : IN g w) {s : Nat} (hB : beginB g w s = true) : IN (bgG g s) w := by
  unfold beginB at hB
  simp only [Bool.and_eq_true, decide_eq_true_eq] at hB
  obtain ⟨a7, hs, hc⟩ := hB
  obtain ⟨hB, h2, hS, -, -⟩ := h
  have e22 := h2 (by omega)
  obtain ⟨z1, z2, z3, z4⟩ := hS (by omega)
  have d1 := (hB.2.2.1 (by omega)).1
  have hG : ∀ k, k ≠ 7 → k ≠ 9 → k ≠ 10 → bgG g s k = g k := fun k a b c => by simp [bgG, va_up, a, b, c]
  have G1 := hG 1 (by decide) (by decide) (by decide)
  refine ⟨Bs_keep hB (fun k a _ _ _ e f => hG k a f e) (by omega) (by simp [bgG, va_up]) (by rw [G1]; simpa [bgG, va_up] using hs) (fun _ _ => rfl), fun z => by simp [bgG, va_up] at z, fun _ => ?_, fun _ => ?_, fun z => by simp [bgG, va_up] at z⟩
  · exact ⟨by rw [hG 23 (by decide) (by decide) (by decide)]; exact z1, by rw [hG 24 (by decide) (by decide) (by decide)]; exact z2, by rw [hG 11 (by decide) (by decide) (by decide)]; exact z3, by rw [hG 2 (by decide) (by decide) (by decide)]; exact z4⟩
  · rw [hG 22 (by decide) (by decide) (by decide), e22, G1]
    refine ⟨by simp [tp]; have := hB.1.1; omega, fun x hx => ?_⟩
    have := cn_zero.mp hc x hx
    simp at this
    rw [many_same (hG 3 (by decide) (by decide) (by decide)) (fun _ _ => rfl), this]
    exact d1
theorem shW_at {x : Int64} (hg : 6 ≤ g 3) : ∃ o', permI (g 3) (mixF (g 3 - 1) x (fun i => i)) o' ∧ ∀ b, b < g 3 → shW g w x 21 b = if o' b < g 8 * g 1 then o' b / g 8 else 10 := by
  obtain ⟨o', ho⟩ := permI_mix (n := g 3) (g 3 - 1) x (fun i => i) (fun i => i) (by omega) ⟨fun i hi => ⟨hi, rfl⟩, fun i hi => ⟨hi, rfl⟩⟩
  refine ⟨o', ho, fun b hb => ?_⟩
  have := plF_at (g := g) (p := w 21) ho (g 3) (Nat.le_refl _) b hb
  rw [if_pos (ho.2 b hb).1] at this
  simpa [shW, va_up] using this
theorem plF_hi {o p : Nat → Nat} {N : Nat} (ho : ∀ i, i < N → o i < N) : ∀ n, n ≤ N → ∀ b, N ≤ b → plF g o p n b = p b
  | 0, _, _, _ => rfl
  | n + 1, hn, b, hb => by
    simp only [plF, va_up]
    have := ho n (by omega)
    rw [if_neg (by omega), plF_hi ho n (by omega) b hb]
theorem IN_shuffle (h : IN g w) (h7 : g 7 = 1) (x : Int64) : IN g (shW g w x) := by
  obtain ⟨hB, h2, hS, -, -⟩ := h
  have e22 := h2 (by omega)
  have hSc := hS (by omega)
  obtain ⟨⟨h1, h22, h3, h7', h9⟩, hp, hD, h8, ⟨e14, e15, e11⟩, ht, hd, hr⟩ := hB
  obtain ⟨d1, d2, d3, d4⟩ := hD (by omega)
  obtain ⟨o', ho, hv⟩ := shW_at (g := g) (w := w) (x := x) h3.1
  have dv : ∀ n, n < g 8 * g 1 → n / g 8 < g 1 := fun n hn => Nat.div_lt_of_lt_mul hn
  have hval : ∀ b, b < g 3 → shW g w x 21 b < g 1 ∨ shW g w x 21 b = 10 := fun b hb => by
    rw [hv b hb]; split
    · left; exact dv _ (by assumption)
    · right; rfl
  have hW : ∀ c, c ≠ 21 → shW g w x c = w c := fun c hc => by simp [shW, va_up, hc]
  rw [e22] at e14 e15 e11
  refine ⟨⟨⟨h1, h22, h3, h7', h9⟩, ?_, ?_, h8, ⟨?_, ?_, ?_⟩, ?_, ?_, ?_⟩, fun _ => e22, fun _ => ?_, fun z => by omega, fun z => by omega⟩
  · intro i hi
    by_cases l : i < g 3
    · rcases hval i l with q | q <;> omega
    · have e : shW g w x 21 i = w 21 i := by
        simp only [shW, va_up, if_true]
        exact plF_hi (fun j hj => (ho.1 j hj).1) (g 3) (Nat.le_refl _) i (by omega)
      rw [e]; exact hp i hi
  · intro _
    refine ⟨d1, d2, fun b hb => ?_, fun s hs => ?_⟩
    · rcases hval b hb with q | q
      · left; exact q
      · right; left; exact q
    · rw [e22]
      simp only [cn, Nat.add_zero]
      have key : many g (shW g w x) s ≤ cn (fun _ => true) (g 8) := by
        unfold many
        refine cn_inj (fun b => o' b - s * g 8) (fun b hb hpb => ?_) (fun b c hb hc hpb hpc heq => ?_)
        · simp only [decide_eq_true_eq] at hpb
          rw [hv b hb] at hpb
          refine ⟨?_, rfl⟩
          split at hpb
          · have a1 := Nat.div_add_mod (o' b) (g 8)
            have a2 := Nat.mod_lt (o' b) (show 0 < g 8 by omega)
            rw [hpb, Nat.mul_comm] at a1
            omega
          · omega
        · simp only [decide_eq_true_eq] at hpb hpc
          rw [hv b hb] at hpb
          rw [hv c hc] at hpc
          have lo : ∀ z, (if o' z < g 8 * g 1 then o' z / g 8 else 10) = s → s * g 8 ≤ o' z := by
            intro z hz
            split at hz
            · have := Nat.div_mul_le_self (o' z) (g 8)
              rw [hz] at this; exact this
            · omega
          have l1 := lo b hpb
          have l2 := lo c hpc
          have : o' b = o' c := by omega
          have e1 := (ho.2 b hb).2
          have e2 := (ho.2 c hc).2
          rw [← e1, ← e2, this]
      rw [cn_all] at key
      exact key
  · rw [e22]; exact e14
  · rw [e22]; exact e15
  · rw [e22]
    unfold many
    show _ = 0
    rw [cn_zero]
    intro i hi
    rcases hval i hi with q | q <;> simp <;> omega
  · rw [e22]; intro t ht; omega
  · rw [e22]; intro t u ht; omega
  · rw [hW 23 (by decide), hW 24 (by decide)]; exact hr
  · obtain ⟨z1, z2, z3, z4⟩ := hSc
    exact ⟨z1, z2, z3, by rw [hW 22 (by decide)]; exact z4⟩
def onePl (S v p : Nat) : Bool := !(decide (2 ≤ S) && decide (v < S) && (decide (p < S) || decide (p = 10) || decide (p = 11))) || Nat.beq (if (decide (¬ p = v) && decide (¬ p = 11)) = true then 1 else 0) ((if p = 10 then 1 else 0) + (if 0 < S - 1 ∧ p = ot v 0 then 1 else 0) + (if 1 < S - 1 ∧ p = ot v 1 then 1 else 0) + (if 2 < S - 1 ∧ p = ot v 2 then 1 else 0))
theorem onePl_ok : ∀ S, S < 5 → ∀ v, v < 5 → ∀ p, p < 12 → onePl S v p = true := by decide +kernel
theorem one_place (S : Nat) (h5 : S < 5) (h2 : 2 ≤ S) (v : Nat) (hv : v < S) (p : Nat) (hp : p < S ∨ p = 10 ∨ p = 11) : (if (decide (¬ p = v) && decide (¬ p = 11)) = true then 1 else 0) = (if p = 10 then 1 else 0) + (if 0 < S - 1 ∧ p = ot v 0 then 1 else 0) + (if 1 < S - 1 ∧ p = ot v 1 then 1 else 0) + (if 2 < S - 1 ∧ p = ot v 2 then 1 else 0) := by
  have key := onePl_ok S h5 v (by omega) p (by omega)
  unfold onePl at key
  have e : (decide (2 ≤ S) && decide (v < S) && (decide (p < S) || decide (p = 10) || decide (p = 11))) = true := by
    simp [h2, hv]; omega
  rw [e] at key
  exact Nat.eq_of_beq_eq_true (by simpa using key)
theorem DV_of (h : Bs g w) (h7 : 1 ≤ g 7) {v : Nat} (hv : v < g 1) : DV g w v := by
  have hBd := Bs_Bd h
  obtain ⟨⟨h1, h22, h3, h7', h9⟩, hp, hD, h8, ⟨e14, e15, e11⟩, ht, hd, hr⟩ := h
  obtain ⟨d1, d2, d3, d4⟩ := hD h7
  have g8 := hBd.2.2.2.2.1
  refine ⟨fun k => ?_, ?_⟩
  · unfold rm
    split
    · have : ot v k < g 1 := by unfold ot; split <;> omega
      have := d4 _ this
      omega
    · omega
  · have key : ∀ n, n ≤ g 3 → cn (un w v) n = cn (fun b => decide (w 21 b = 10)) n + (if 0 < g 1 - 1 then cn (fun b => decide (w 21 b = ot v 0)) n else 0) + (if 1 < g 1 - 1 then cn (fun b => decide (w 21 b = ot v 1)) n else 0) + (if 2 < g 1 - 1 then cn (fun b => decide (w 21 b = ot v 2)) n else 0) := by
      intro n
      induction n with
      | zero => intro _; simp [cn]
      | succ n ih =>
        intro hn
        have ih := ih (by omega)
        have o := one_place (g 1) (by omega) h1.1 v hv (w 21 n) (d3 n (by omega))
        simp only [cn]
        have eu : un w v n = (decide (¬ w 21 n = v) && decide (¬ w 21 n = 11)) := rfl
        rw [ih, eu, o]
        simp only [decide_eq_true_eq]
        by_cases a0 : 0 < g 1 - 1 <;> by_cases a1 : 1 < g 1 - 1 <;> by_cases a2 : 2 < g 1 - 1 <;> simp only [a0, a1, a2, if_true, if_false, true_and, false_and] <;> omega
    exact key (g 3) (Nat.le_refl _)
end ID
