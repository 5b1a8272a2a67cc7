/-! what holds of every state is kept by taking back, laying, giving, shuffling, beginning -/
section IC
variable {g : Nat → Nat} {w : Nat → Nat → Nat}
/-- the latest turn is taken back -/
theorem IN_un (h : PS g w) : IN (unG g w) (unW g w) := by
  obtain ⟨hB, h7, hn, ⟨z23, z24, z11, hsc⟩, hM⟩ := h
  have hBd := Bs_Bd hB
  have h14 := hBd.2.2.2.2.2.2.2.1
  obtain ⟨⟨h1, h22, h3, h7', h9⟩, hp, hD, h8, ⟨e14, e15, e11⟩, ht, hd, hr⟩ := hB
  obtain ⟨n, hn'⟩ : ∃ n, g 22 = n + 1 := ⟨g 22 - 1, by omega⟩
  obtain ⟨⟨t1, t2, t3, t4, t5, t6⟩, t7, t8, t9, t10, t11⟩ := ht n (by omega)
  have en : g 22 - 1 = n := by omega
  obtain ⟨d1, d2, d3, d4⟩ := hD (by omega)
  have hsum := pl_sum w n
  have hG : ∀ k, k ≠ 22 → k ≠ 9 → k ≠ 14 → k ≠ 15 → unG g w k = g k := fun k a b c d => by
    unfold unG; split
    · simp [va_up, a, b]
    · split <;> simp [va_up, a, b, c, d]
  have G22 : unG g w 22 = n := by unfold unG; rw [en]; split <;> (try split) <;> simp [va_up]
  have G9 : unG g w 9 = w 25 n := by unfold unG; rw [en]; split <;> (try split) <;> simp [va_up]
  have hW : ∀ c, c ≠ 21 → unW g w c = w c := fun c hc => by unfold unW; split <;> simp [tw, va_up, hc]
  have G1 := hG 1 (by decide) (by decide) (by decide) (by decide)
  have G3 := hG 3 (by decide) (by decide) (by decide) (by decide)
  have G7 := hG 7 (by decide) (by decide) (by decide) (by decide)
  have G8 := hG 8 (by decide) (by decide) (by decide) (by decide)
  have c1 : cn (plP (unW g w)) n = cn (plP w) n := plP_cong (fun t _ => by rw [hW 26 (by decide)])
  have c2 : cn (lfP (unW g w)) n = cn (lfP w) n := lfP_cong (fun t _ => by rw [hW 26 (by decide), hW 27 (by decide), hW 28 (by decide)]; exact ⟨rfl, rfl, rfl⟩)
  have c3 : cn (rtP (unW g w)) n = cn (rtP w) n := rtP_cong (fun t _ => by rw [hW 26 (by decide), hW 27 (by decide), hW 28 (by decide)]; exact ⟨rfl, rfl, rfl⟩)
  have c4 : ∀ t, tp (unW g w) t = tp w t := fun t => tp_cong (fun u _ => by rw [hW 26 (by decide)])
  rw [hn'] at e14 e15 e11
  simp only [cn] at e14 e15 e11
  have epl : plP w n = decide (¬ w 26 n = 0) := rfl
  have elf : lfP w n = decide (¬ w 26 n = 0 ∧ ¬ w 28 n = 0 ∧ w 27 n = 1) := rfl
  have ert : rtP w n = decide (¬ w 26 n = 0 ∧ ¬ (¬ w 28 n = 0 ∧ w 27 n = 1)) := rfl
  rw [elf] at e14
  rw [ert] at e15
  rw [epl] at e11
  -- places
  have pl : ∀ i, unW g w 21 i = if ¬ w 26 n = 0 ∧ i = w 26 n - 1 then w 25 n else w 21 i := fun i => by
    unfold unW
    rw [en]
    by_cases z : w 26 n = 0
    · rw [if_pos z, if_neg (fun q => q.1 z)]
    · rw [if_neg z]
      by_cases e : i = w 26 n - 1
      · rw [if_pos ⟨z, e⟩, e]; simp [tw, va_up]
      · rw [if_neg (fun q => e q.2)]; simp [tw, va_up, e]
  have mn : ∀ s, s ≠ 11 → many (unG g w) (unW g w) s = many g w s + (if ¬ w 26 n = 0 ∧ w 25 n = s then 1 else 0) := by
    intro s hs
    by_cases z : w 26 n = 0
    · rw [if_neg (fun q => q.1 z), many_same G3 (fun i _ => by rw [pl, if_neg (fun q => q.1 z)])]; rfl
    · have := many_up (g := g) (w := w) (w' := unW g w) (g' := unG g w) G3 (b := w 26 n - 1) (y := w 25 n) (by omega) (fun i => by
        rw [pl]
        by_cases e : i = w 26 n - 1
        · rw [if_pos ⟨z, e⟩, if_pos e]
        · rw [if_neg (fun q => e q.2), if_neg e]) s
      rw [(t8 z).2, if_neg (fun q => hs q.symm)] at this
      by_cases q : w 25 n = s
      · rw [if_pos ⟨z, q⟩]; rw [if_pos q] at this; omega
      · rw [if_neg (fun r => q r.2)]; rw [if_neg q] at this; omega
  have m11 : many (unG g w) (unW g w) 11 = cn (plP w) n := by
    by_cases z : w 26 n = 0
    · rw [many_same G3 (fun i _ => by rw [pl, if_neg (fun q => q.1 z)])]
      rw [if_neg (by simp [z])] at e11
      exact e11
    · have := many_up (g := g) (w := w) (w' := unW g w) (g' := unG g w) G3 (b := w 26 n - 1) (y := w 25 n) (by omega) (fun i => by
        rw [pl]
        by_cases e : i = w 26 n - 1
        · rw [if_pos ⟨z, e⟩, if_pos e]
        · rw [if_neg (fun q => e q.2), if_neg e]) 11
      rw [(t8 z).2, if_pos rfl, if_neg (by omega)] at this
      rw [if_pos (by simp [z])] at e11
      omega
  have r14 : unG g w 14 + cn (lfP w) n = 30 ∧ unG g w 15 = 30 + cn (rtP w) n ∧ g 14 ≤ unG g w 14 ∧ unG g w 15 ≤ g 15 := by
    unfold unG
    rw [en]
    by_cases z : w 26 n = 0
    · rw [if_pos z]
      rw [if_neg (by simp [z])] at e14 e15
      simp [va_up]; omega
    · rw [if_neg z]
      by_cases q : ¬ w 28 n = 0 ∧ w 27 n = 1
      · rw [if_pos q]
        rw [if_pos (by simp [z, q])] at e14
        rw [if_neg (by simp [q])] at e15
        simp [va_up]; omega
      · rw [if_neg q]
        rw [if_neg (by rw [decide_eq_false (fun r => q r.2)]; simp)] at e14
        rw [if_pos (decide_eq_true ⟨z, q⟩)] at e15
        simp [va_up]; omega
  refine ⟨⟨⟨?_, ?_, ?_, ?_, ?_⟩, ?_, ?_, ?_, ⟨?_, ?_, ?_⟩, ?_, ?_, ?_⟩, ?_, ?_, ?_, ?_⟩
  · rw [G1]; exact h1
  · rw [hG 2 (by decide) (by decide) (by decide) (by decide)]; exact h22
  · rw [G3]; exact h3
  · rw [G7]; exact h7'
  · rw [G9, G1]; exact t1
  · intro i hi; rw [pl]; split
    · omega
    · exact hp i hi
  · rw [G7, G8, G1, G3]
    intro z
    refine ⟨d1, d2, fun i hi => ?_, fun s hs => ?_⟩
    · rw [pl]; split
      · left; exact t1
      · exact d3 i hi
    · rw [mn s (by omega), G22, pbP_cong (fun t _ => by rw [hW 26 (by decide), hW 25 (by decide)]; exact ⟨rfl, rfl⟩)]
      have := d4 s hs
      rw [hn'] at this
      simp only [cn] at this
      have ep : pbP w s n = decide (¬ w 26 n = 0 ∧ w 25 n = s) := rfl
      rw [ep] at this
      by_cases q : ¬ w 26 n = 0 ∧ w 25 n = s
      · rw [if_pos q]
        rw [if_pos (decide_eq_true q)] at this
        omega
      · rw [if_neg q]
        rw [if_neg (by rw [decide_eq_false q]; simp)] at this
        exact this
  · rw [G7, G8]; exact h8
  · rw [G22, c2]; exact r14.1
  · rw [G22, c3]; exact r14.2.1
  · rw [G22, c1]; exact m11
  · rw [G22]
    intro t htt
    refine TR_keep (ht t (by omega)) G1 G3 (fun u _ => by rw [hW 26 (by decide)]) (by rw [hW 25 (by decide), hW 27 (by decide), hW 28 (by decide), hW 29 (by decide), hW 30 (by decide)]; exact ⟨rfl, rfl, rfl, rfl, rfl⟩) (fun a z => ?_)
    rw [pl]
    split
    · rename_i q
      have hb := ht t (by omega)
      have : w 26 t = w 26 n := by
        have := hb.1.2.1; omega
      have := hd t n (by omega) (by omega) a this
      omega
    · exact z
  · rw [G22, hW 26 (by decide)]
    exact fun t u a b => hd t u (by omega) (by omega)
  · rw [hW 23 (by decide), hW 24 (by decide)]
    exact fun i a b => hr i (by omega) (by omega)
  · rw [G7]; intro z; omega
  · intro _
    unfold Sc
    rw [hG 23 (by decide) (by decide) (by decide) (by decide), hG 24 (by decide) (by decide) (by decide) (by decide), hG 11 (by decide) (by decide) (by decide) (by decide), hG 2 (by decide) (by decide) (by decide) (by decide), hW 22 (by decide)]
    exact ⟨z23, z24, z11, hsc⟩
  · intro _
    rw [G22, G1, c4]
    refine ⟨t11, fun s hs => ?_⟩
    rw [mn s (by omega)]
    have := hM s hs
    rw [en] at this
    by_cases q : ¬ w 26 n = 0 ∧ w 25 n = s
    · rw [if_pos q]; omega
    · rw [if_neg q]
      rcases this with r | r
      · exact r
      · exact absurd ⟨r.2, r.1.symm⟩ q
  · rw [G7]; intro z; omega
end IC
