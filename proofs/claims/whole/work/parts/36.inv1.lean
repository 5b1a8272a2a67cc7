/-! what holds of every state of play -/
def plP (w : Nat → Nat → Nat) (t : Nat) : Bool := decide (¬ w 26 t = 0)
def lfP (w : Nat → Nat → Nat) (t : Nat) : Bool := decide (¬ w 26 t = 0 ∧ ¬ w 28 t = 0 ∧ w 27 t = 1)
def rtP (w : Nat → Nat → Nat) (t : Nat) : Bool := decide (¬ w 26 t = 0 ∧ ¬ (¬ w 28 t = 0 ∧ w 27 t = 1))
/-- a play of a seat -/
def pbP (w : Nat → Nat → Nat) (s t : Nat) : Bool := decide (¬ w 26 t = 0 ∧ w 25 t = s)
theorem pl_sum (w : Nat → Nat → Nat) : ∀ n, cn (plP w) n = cn (lfP w) n + cn (rtP w) n
  | 0 => rfl
  | n + 1 => by
    simp only [cn]
    rw [pl_sum w n]
    unfold plP lfP rtP
    by_cases a : w 26 n = 0
    · simp [a]
    · by_cases b : ¬ w 28 n = 0 ∧ w 27 n = 1
      · simp [a, b]; omega
      · rw [decide_eq_true (p := ¬ w 26 n = 0) a, decide_eq_false (p := ¬ w 26 n = 0 ∧ ¬ w 28 n = 0 ∧ w 27 n = 1) (fun z => b z.2), decide_eq_true (p := ¬ w 26 n = 0 ∧ ¬ (¬ w 28 n = 0 ∧ w 27 n = 1)) ⟨a, b⟩]
        simp; omega
/-- what holds of a turn -/
def TR (g : Nat → Nat) (w : Nat → Nat → Nat) (t : Nat) : Prop := (w 25 t < g 1 ∧ w 26 t ≤ g 3 ∧ w 27 t ≤ 2 ∧ w 28 t ≤ 7 ∧ w 29 t ≤ 7 ∧ w 30 t ≤ 1) ∧ (w 26 t = 0 → w 27 t = 0) ∧ (¬ w 26 t = 0 → ¬ w 27 t = 0 ∧ w 21 (w 26 t - 1) = 11) ∧ (w 28 t = 0 ↔ cn (plP w) t = 0) ∧ (w 28 t = 0 → ¬ w 26 t = 0 ∧ w 27 t = 1) ∧ tp w t < g 1
def Bs (g : Nat → Nat) (w : Nat → Nat → Nat) : Prop :=
  ((2 ≤ g 1 ∧ g 1 ≤ 4) ∧ (1 ≤ g 2 ∧ g 2 ≤ 1000) ∧ (6 ≤ g 3 ∧ g 3 ≤ 28) ∧ g 7 ≤ 3 ∧ g 9 < g 1) ∧ (∀ i, i < 28 → w 21 i ≤ 11) ∧
  (1 ≤ g 7 → 1 ≤ g 8 ∧ g 8 * g 1 ≤ g 3 ∧ (∀ b, b < g 3 → w 21 b < g 1 ∨ w 21 b = 10 ∨ w 21 b = 11) ∧ ∀ s, s < g 1 → many g w s + cn (pbP w s) (g 22) ≤ g 8) ∧ (g 7 = 0 → g 8 = 0) ∧
  (g 14 + cn (lfP w) (g 22) = 30 ∧ g 15 = 30 + cn (rtP w) (g 22) ∧ many g w 11 = cn (plP w) (g 22)) ∧
  (∀ t, t < g 22 → TR g w t) ∧ (∀ t u, t < g 22 → u < g 22 → ¬ w 26 t = 0 → w 26 t = w 26 u → t = u) ∧
  (∀ i, g 14 ≤ i → i < g 15 → w 23 i ≤ 6 ∧ w 24 i ≤ 6)
/-- no hand has been won yet, and no side is there -/
def Sc (g : Nat → Nat) (w : Nat → Nat → Nat) : Prop := g 23 = 0 ∧ g 24 = 0 ∧ g 11 = 0 ∧ ∀ s, s < 4 → w 22 s < g 2
/-- every seat has a bone, or has just played its last -/
def Mn (g : Nat → Nat) (w : Nat → Nat → Nat) : Prop := ∀ s, s < g 1 → 1 ≤ many g w s ∨ (s = w 25 (g 22 - 1) ∧ ¬ w 26 (g 22 - 1) = 0)
/-- a turn was made, and it is not yet looked whether the hand is over -/
def PS (g : Nat → Nat) (w : Nat → Nat → Nat) : Prop := Bs g w ∧ g 7 = 2 ∧ 0 < g 22 ∧ Sc g w ∧ Mn g w
def IN (g : Nat → Nat) (w : Nat → Nat → Nat) : Prop := Bs g w ∧ (g 7 < 2 → g 22 = 0) ∧ (g 7 ≤ 2 → Sc g w) ∧ (g 7 = 2 → tp w (g 22) < g 1 ∧ ∀ s, s < g 1 → 1 ≤ many g w s) ∧
  (g 7 = 3 → 0 < g 22 ∧ g 23 ≤ sides (g 1) ∧ Mn g w ∧ (∀ s, s < 4 → s + 1 ≠ g 23 → w 22 s < g 2) ∧ (g 23 = 0 → g 24 = 0 ∧ g 11 = 0) ∧ (¬ g 23 = 0 → g 24 ≤ w 22 (g 23 - 1) ∧ w 22 (g 23 - 1) - g 24 < g 2 ∧ g 24 ≤ 336 ∧ g 11 = if g 2 ≤ w 22 (g 23 - 1) then g 23 else 0))
section IA
variable {g g' : Nat → Nat} {w w' : Nat → Nat → Nat}
theorem tp_cong : ∀ {n : Nat}, (∀ t, t < n → w' 26 t = w 26 t) → tp w' n = tp w n
  | 0, _ => rfl
  | n + 1, h => by simp only [tp]; rw [tp_cong (fun t ht => h t (by omega)), h n (by omega)]
theorem plP_cong {n : Nat} (h : ∀ t, t < n → w' 26 t = w 26 t) : cn (plP w') n = cn (plP w) n := cn_cong (fun t ht => by unfold plP; rw [h t ht])
theorem lfP_cong {n : Nat} (h : ∀ t, t < n → w' 26 t = w 26 t ∧ w' 27 t = w 27 t ∧ w' 28 t = w 28 t) : cn (lfP w') n = cn (lfP w) n := cn_cong (fun t ht => by unfold lfP; rw [(h t ht).1, (h t ht).2.1, (h t ht).2.2])
theorem rtP_cong {n : Nat} (h : ∀ t, t < n → w' 26 t = w 26 t ∧ w' 27 t = w 27 t ∧ w' 28 t = w 28 t) : cn (rtP w') n = cn (rtP w) n := cn_cong (fun t ht => by unfold rtP; rw [(h t ht).1, (h t ht).2.1, (h t ht).2.2])
theorem pbP_cong {n s : Nat} (h : ∀ t, t < n → w' 26 t = w 26 t ∧ w' 25 t = w 25 t) : cn (pbP w' s) n = cn (pbP w s) n := cn_cong (fun t ht => by unfold pbP; rw [(h t ht).1, (h t ht).2])
theorem t_bound {S : Nat} : ∀ {n : Nat}, (∀ t, t < n → tp w t < S) → n ≤ cn (plP w) n * S + tp w n
  | 0, _ => Nat.zero_le _
  | n + 1, h => by
    have ih := t_bound (S := S) (n := n) (fun t ht => h t (by omega))
    have hn := h n (by omega)
    simp only [cn, tp]
    have e : plP w n = decide (¬ w 26 n = 0) := rfl
    rw [e]
    by_cases a : w 26 n = 0
    · rw [if_neg (by simp [a]), if_pos a]
      show n + 1 ≤ cn (plP w) n * S + (tp w n + 1)
      omega
    · rw [if_pos (by simp [a]), if_neg a, Nat.add_mul, Nat.one_mul]
      omega
theorem many_le (g : Nat → Nat) (w : Nat → Nat → Nat) (x : Nat) : many g w x ≤ g 3 := cn_le _ _
theorem Bs_Bd (h : Bs g w) : Bd g w := by
  obtain ⟨⟨h1, h2, h3, h7, h9⟩, hp, hD, h8, ⟨e14, e15, e11⟩, ht, hd, hr⟩ := h
  have hs := pl_sum w (g 22)
  have hm := many_le g w 11
  refine ⟨h1, h2, h3, h7, ?_, h9, hp, ⟨by omega, by omega, by omega, by omega⟩, ?_, hr, fun t htt => (ht t htt).1⟩
  · by_cases z : g 7 = 0
    · rw [h8 z]; omega
    · obtain ⟨a, b, -⟩ := hD (by omega)
      have := Nat.mul_le_mul_left (g 8) h1.1
      omega
  · have hb := t_bound (S := g 1) (n := g 22) (w := w) (fun t htt => (ht t htt).2.2.2.2.2)
    have hm' : cn (plP w) (g 22) * g 1 ≤ 28 * 4 := Nat.mul_le_mul (by omega) h1.2
    have : tp w (g 22) ≤ 4 := by
      cases hn : g 22 with
      | zero => simp [tp]
      | succ n =>
        have := (ht n (by omega)).2.2.2.2.2
        simp only [tp]
        split <;> omega
    omega
theorem PS_Bd (h : PS g w) : Bd g w := Bs_Bd h.1
theorem IN_Bd (h : IN g w) : Bd g w := Bs_Bd h.1
/-- a bone goes to another place -/
theorem many_up (h3 : g' 3 = g 3) {b y : Nat} (hb : b < g 3) (hw : ∀ i, w' 21 i = if i = b then y else w 21 i) (s : Nat) : many g' w' s + (if w 21 b = s then 1 else 0) = many g w s + (if y = s then 1 else 0) := by
  unfold many
  rw [h3]
  have := cn_upd (p := fun i => decide (w 21 i = s)) (q := fun i => decide (w' 21 i = s)) (k := b) (fun i hi => by simp [hw, hi]) hb
  simpa [hw] using this
theorem many_same (h3 : g' 3 = g 3) (hw : ∀ i, i < g 3 → w' 21 i = w 21 i) (s : Nat) : many g' w' s = many g w s := by
  unfold many
  rw [h3]
  exact cn_cong (fun i hi => by show decide (w' 21 i = s) = decide (w 21 i = s); rw [hw i hi])
/-- a turn keeps what holds of it -/
theorem TR_keep {t : Nat} (h : TR g w t) (h1 : g' 1 = g 1) (h3 : g' 3 = g 3) (hr : ∀ u, u ≤ t → w' 26 u = w 26 u) (hr2 : w' 25 t = w 25 t ∧ w' 27 t = w 27 t ∧ w' 28 t = w 28 t ∧ w' 29 t = w 29 t ∧ w' 30 t = w 30 t) (hp : ¬ w 26 t = 0 → w 21 (w 26 t - 1) = 11 → w' 21 (w 26 t - 1) = 11) : TR g' w' t := by
  obtain ⟨a, b, c, e, f, i⟩ := h
  obtain ⟨r1, r2, r3, r4, r5⟩ := hr2
  unfold TR
  rw [plP_cong (fun u hu => hr u (by omega)), tp_cong (fun u hu => hr u (by omega)), hr t (by omega), r1, r2, r3, r4, r5, h1, h3]
  exact ⟨a, b, fun z => ⟨(c z).1, hp z (c z).2⟩, e, f, i⟩
theorem lp_zero (hr : g 14 ≤ 30 ∧ 30 ≤ g 15) : lp g w = 0 ↔ g 14 = g 15 := by
  unfold lp; split <;> simp_all
end IA
