/-! the reference counts deals -/
theorem i_ring (q a c e r0 r1 r2 : Int32) : (q + 1) - 1 - (((((r0 - a) + r1) - c) + r2) - e) = (q + a + c + e) - (r0 + r1 + r2) := by grind
theorem i_less {q a c e r0 r1 r2 st : Nat} (h1 : q < 1000) (h2 : a < 1000) (h3 : c < 1000) (h4 : e < 1000) (h5 : r0 < 1000) (h6 : r1 < 1000) (h7 : r2 < 1000) (h8 : st < 1000) : nI (q + 1) - 1 - (((((nI r0 - nI a) + nI r1) - nI c) + nI r2) - nI e) < nI st ↔ q + a + c + e < st + r0 + r1 + r2 := by
  rw [← nI_1, i_ring, nI_add, nI_add, nI_add, nI_add, nI_add, Int32.lt_iff_toInt_lt, pk_sub_toInt (by omega) (by omega), nI_toInt (by omega)]
  omega
/-- what one state gives to another when a bone is laid -/
def ct (f : Nat → Int64) (y : Nat → Int32) (b q st r0 r1 r2 s k : Nat) : Int64 :=
  (if s + 1 = k ∧ 0 < k % 15 ∧ ¬ y (5 * b) = 0 then f k else 0) + (if s + 15 = k ∧ 0 < k / 15 % 15 ∧ ¬ y (5 * b + 1) = 0 then f k else 0) + (if s + 225 = k ∧ 0 < k / 225 ∧ ¬ y (5 * b + 2) = 0 then f k else 0) + (if s = k ∧ q + k % 15 + k / 15 % 15 + k / 225 < st + r0 + r1 + r2 ∧ ¬ y (5 * b + 4) = 0 then f k else 0)
theorem rm_le {g : Nat → Nat} {w : Nat → Nat → Nat} (hg : Bd g w) (v k : Nat) : rm g w v k ≤ 28 := by
  have := hg.2.2.1
  unfold rm
  split
  · have := cn_le (fun b => decide (w 21 b = ot v k)) (g 3); unfold many; omega
  · omega
theorem ad_ok (γ1 : Nat → Nat → Int64) {p k : Nat} (hp : p ≤ k) (x : Int64) (s : Nat) : (va_up γ1 36 (vp_updL (γ1 36) (k - p) (γ1 36 (k - p) + x))) 36 s = γ1 36 s + (if s + p = k then x else 0) := by
  by_cases e : s + p = k
  · have : s = k - p := by omega
    rw [if_pos e, this]; simp [va_up, vp_updL]
  · have : ¬ s = k - p := by omega
    rw [if_neg e, Int64.add_zero]; simp [va_up, vp_updL, this]
theorem ad_35 (γ1 : Nat → Nat → Int64) (f : Nat → Int64) : va_up γ1 36 f 35 = γ1 35 := rfl
section DC
variable {sc : Nat × (Nat → Int32)} {d : Nat} {L : Nat → Nat} {σ : Nat → Int32} {α : Nat → Nat → Int32} {τ : Nat → Int32} {β : Nat → Nat → Int32} {γ : Nat → Nat → Int64} {g : Nat → Nat} {w : Nat → Nat → Nat}
theorem m_lays (hg : Bd g w) {v : Nat} {m : Nat → Nat → Bool} (hk : RK g w v m τ β) {b k q st : Nat} (hb : b < 28) (hk3 : k < 3375) (hq : q < 100) (hst : st < 100) : ∃ γ', Ev sc (d + 2) 136 [.ref 21, .int (nI b), .int (nI k), .int (nI (q + 1)), .int (nI st)] (mem L σ α τ β γ) (none, mem L σ α τ β γ') ∧ (∀ c, c ≠ 36 → γ' c = γ c) ∧ ∀ s, γ' 36 s = γ 36 s + ct (γ 35) (β 32) b q st (rm g w v 0) (rm g w v 1) (rm g w v 2) s k := by
  have n15 : (15 : Int32) = nI 15 := rfl
  have n225 : (225 : Int32) = nI 225 := rfl
  have n5 : (5 : Int32) = nI 5 := rfl
  have n1 : (1 : Int32) = nI 1 := rfl
  have n2 : (2 : Int32) = nI 2 := rfl
  have n4 : (4 : Int32) = nI 4 := rfl
  have r0 := rm_le hg v 0
  have r1 := rm_le hg v 1
  have r2 := rm_le hg v 2
  have d1 : k % 15 < 15 := Nat.mod_lt _ (by omega)
  have d2 : k / 15 % 15 < 15 := Nat.mod_lt _ (by omega)
  have d3 : k / 225 < 15 := by omega
  -- the last of the four
  have last : ∀ γ1 : Nat → Nat → Int64, ∃ γ', EvL sc (d + 1) me_136 128 [some (.ref 21), some (.int (nI b)), some (.int (nI k)), some (.int (nI (q + 1))), some (.int (nI st)), some (.int (nI (k % 15))), some (.int (nI (k / 15 % 15))), some (.int (nI (k / 225))), none] [] (mem L σ α τ β γ1) 0 0 (none, mem L σ α τ β γ') ∧ (∀ c, c ≠ 36 → γ' c = γ1 c) ∧ ∀ s, γ' 36 s = γ1 36 s + (if s = k ∧ q + k % 15 + k / 15 % 15 + k / 225 < st + rm g w v 0 + rm g w v 1 + rm g w v 2 ∧ ¬ β 32 (5 * b + 4) = 0 then γ1 35 k else 0) := by
    intro γ1
    have hl := i_less (q := q) (a := k % 15) (c := k / 15 % 15) (e := k / 225) (r0 := rm g w v 0) (r1 := rm g w v 1) (r2 := rm g w v 2) (st := st) (by omega) (by omega) (by omega) (by omega) (by omega) (by omega) (by omega) (by omega)
    have go : ∀ {r}, EvL sc (d + 1) me_136 153 [some (.ref 21), some (.int (nI b)), some (.int (nI k)), none, some (.int (nI st)), none, none, some (.int (nI (k / 225))), none] [.int (nI (rm g w v 2)), .int (nI (rm g w v 0) - nI (k % 15) + nI (rm g w v 1) - nI (k / 15 % 15)), .int (nI (q + 1) - 1)] (mem L σ α τ β γ1) 0 0 r → EvL sc (d + 1) me_136 128 [some (.ref 21), some (.int (nI b)), some (.int (nI k)), some (.int (nI (q + 1))), some (.int (nI st)), some (.int (nI (k % 15))), some (.int (nI (k / 15 % 15))), some (.int (nI (k / 225))), none] [] (mem L σ α τ β γ1) 0 0 r := fun h =>
      q_136_128 (cli (m_roomOf hg hk (k := 0) (by omega)) (q_136_136 (cli (m_roomOf hg hk (k := 1) (by omega)) (q_136_144 (cli (m_roomOf hg hk (k := 2) (by omega)) h)))))
    have hin : ¬ (nI k < 0 ∨ 3375 ≤ k) := in_cl hk3 (by decide)
    by_cases c1 : q + k % 15 + k / 15 % 15 + k / 225 < st + rm g w v 0 + rm g w v 1 + rm g w v 2
    · by_cases c2 : β 32 (5 * b + 4) = 0
      · refine ⟨γ1, go (q_136_153 ?_), fun _ _ => rfl, fun s => by rw [if_neg (fun z => z.2.2 c2), Int64.add_zero]⟩
        rw [if_pos (hl.mpr c1), n5, pk_mul, n4, nI_add, if_neg (in_nI (by omega) (by decide)), cl_nI (by omega), if_pos c2]
      · refine ⟨va_up γ1 36 (vp_updL (γ1 36) k (γ1 36 k + γ1 35 k)), go (q_136_153 ?_), fun c hc => by simp [va_up, hc], fun s => ?_⟩
        · rw [if_pos (hl.mpr c1), n5, pk_mul, n4, nI_add, if_neg (in_nI (by omega) (by decide)), cl_nI (by omega), if_neg c2, cl_nI (by omega), if_neg hin, if_neg hin, if_neg hin]
        · by_cases e : s = k
          · rw [if_pos ⟨e, c1, c2⟩, e]; simp [va_up, vp_updL]
          · rw [if_neg (fun z => e z.1), Int64.add_zero]; simp [va_up, vp_updL, e]
    · refine ⟨γ1, go (q_136_153 ?_), fun _ _ => rfl, fun s => by rw [if_neg (fun z => c1 z.2.1), Int64.add_zero]⟩
      rw [if_neg (fun z => c1 (hl.mp z))]
  have p3 : ∀ γ1 : Nat → Nat → Int64, ∃ γ', EvL sc (d + 1) me_136 91 [some (.ref 21), some (.int (nI b)), some (.int (nI k)), some (.int (nI (q + 1))), some (.int (nI st)), some (.int (nI (k % 15))), some (.int (nI (k / 15 % 15))), some (.int (nI (k / 225))), none] [] (mem L σ α τ β γ1) 0 0 (none, mem L σ α τ β γ') ∧ (∀ c, c ≠ 36 → γ' c = γ1 c) ∧ ∀ s, γ' 36 s = γ1 36 s + (if s + 225 = k ∧ 0 < k / 225 ∧ ¬ β 32 (5 * b + 2) = 0 then γ1 35 k else 0) + (if s = k ∧ q + k % 15 + k / 15 % 15 + k / 225 < st + rm g w v 0 + rm g w v 1 + rm g w v 2 ∧ ¬ β 32 (5 * b + 4) = 0 then γ1 35 k else 0) := by
    intro γ1
    by_cases c1 : 0 < k / 225
    · have c1' : (0 : Int32) < nI (k / 225) := nI_lt (a := 0) c1 (by omega)
      have e5 : nI k - 225 = nI (k - 225) := pk_sub (b := 225) (by omega)
      by_cases c2 : β 32 (5 * b + 2) = 0
      · obtain ⟨γ', hE, h1, h2⟩ := last γ1
        refine ⟨γ', q_136_91 ?_, h1, fun s => by rw [if_neg (fun z => z.2.2 c2), Int64.add_zero]; exact h2 s⟩
        rw [if_pos c1', n5, pk_mul, n2, nI_add, if_neg (in_nI (by omega) (by decide)), cl_nI (by omega), if_pos c2]
        exact hE
      · obtain ⟨γ', hE, h1, h2⟩ := last (va_up γ1 36 (vp_updL (γ1 36) (k - 225) (γ1 36 (k - 225) + γ1 35 k)))
        refine ⟨γ', q_136_91 ?_, fun c hc => by rw [h1 c hc]; simp [va_up, hc], fun s => ?_⟩
        · rw [if_pos c1', n5, pk_mul, n2, nI_add, if_neg (in_nI (by omega) (by decide)), cl_nI (by omega), if_neg c2, e5, cl_nI (by omega), cl_nI (by omega), if_neg (in_cl (by omega) (by decide)), if_neg (in_cl (by omega) (by decide)), if_neg (in_cl (by omega) (by decide))]
          exact hE
        · rw [h2 s, ad_ok γ1 (by omega), ad_35]; simp [c1, c2]
    · obtain ⟨γ', hE, h1, h2⟩ := last γ1
      refine ⟨γ', q_136_91 ?_, h1, fun s => by rw [if_neg (fun z => c1 z.2.1), Int64.add_zero]; exact h2 s⟩
      rw [if_neg (show ¬ (0 : Int32) < nI (k / 225) from nI_nlt (a := 0) (by omega) (by decide))]
      exact hE
  have p2 : ∀ γ1 : Nat → Nat → Int64, ∃ γ', EvL sc (d + 1) me_136 55 [some (.ref 21), some (.int (nI b)), some (.int (nI k)), some (.int (nI (q + 1))), some (.int (nI st)), some (.int (nI (k % 15))), some (.int (nI (k / 15 % 15))), some (.int (nI (k / 225))), none] [] (mem L σ α τ β γ1) 0 0 (none, mem L σ α τ β γ') ∧ (∀ c, c ≠ 36 → γ' c = γ1 c) ∧ ∀ s, γ' 36 s = γ1 36 s + (if s + 15 = k ∧ 0 < k / 15 % 15 ∧ ¬ β 32 (5 * b + 1) = 0 then γ1 35 k else 0) + (if s + 225 = k ∧ 0 < k / 225 ∧ ¬ β 32 (5 * b + 2) = 0 then γ1 35 k else 0) + (if s = k ∧ q + k % 15 + k / 15 % 15 + k / 225 < st + rm g w v 0 + rm g w v 1 + rm g w v 2 ∧ ¬ β 32 (5 * b + 4) = 0 then γ1 35 k else 0) := by
    intro γ1
    by_cases c1 : 0 < k / 15 % 15
    · have c1' : (0 : Int32) < nI (k / 15 % 15) := nI_lt (a := 0) c1 (by omega)
      have e5 : nI k - 15 = nI (k - 15) := pk_sub (b := 15) (by omega)
      by_cases c2 : β 32 (5 * b + 1) = 0
      · obtain ⟨γ', hE, h1, h2⟩ := p3 γ1
        refine ⟨γ', q_136_55 ?_, h1, fun s => by rw [if_neg (fun z => z.2.2 c2), Int64.add_zero]; exact h2 s⟩
        rw [if_pos c1', n5, pk_mul, n1, nI_add, if_neg (in_nI (by omega) (by decide)), cl_nI (by omega), if_pos c2]
        exact hE
      · obtain ⟨γ', hE, h1, h2⟩ := p3 (va_up γ1 36 (vp_updL (γ1 36) (k - 15) (γ1 36 (k - 15) + γ1 35 k)))
        refine ⟨γ', q_136_55 ?_, fun c hc => by rw [h1 c hc]; simp [va_up, hc], fun s => ?_⟩
        · rw [if_pos c1', n5, pk_mul, n1, nI_add, if_neg (in_nI (by omega) (by decide)), cl_nI (by omega), if_neg c2, e5, cl_nI (by omega), cl_nI (by omega), if_neg (in_cl (by omega) (by decide)), if_neg (in_cl (by omega) (by decide)), if_neg (in_cl (by omega) (by decide))]
          exact hE
        · rw [h2 s, ad_ok γ1 (by omega), ad_35]; simp [c1, c2]
    · obtain ⟨γ', hE, h1, h2⟩ := p3 γ1
      refine ⟨γ', q_136_55 ?_, h1, fun s => by rw [if_neg (fun z => c1 z.2.1), Int64.add_zero]; exact h2 s⟩
      rw [if_neg (show ¬ (0 : Int32) < nI (k / 15 % 15) from nI_nlt (a := 0) (by omega) (by decide))]
      exact hE
  have p1 : ∀ γ1 : Nat → Nat → Int64, ∃ γ', EvL sc (d + 1) me_136 22 [some (.ref 21), some (.int (nI b)), some (.int (nI k)), some (.int (nI (q + 1))), some (.int (nI st)), some (.int (nI (k % 15))), some (.int (nI (k / 15 % 15))), some (.int (nI (k / 225))), none] [] (mem L σ α τ β γ1) 0 0 (none, mem L σ α τ β γ') ∧ (∀ c, c ≠ 36 → γ' c = γ1 c) ∧ ∀ s, γ' 36 s = γ1 36 s + (if s + 1 = k ∧ 0 < k % 15 ∧ ¬ β 32 (5 * b) = 0 then γ1 35 k else 0) + (if s + 15 = k ∧ 0 < k / 15 % 15 ∧ ¬ β 32 (5 * b + 1) = 0 then γ1 35 k else 0) + (if s + 225 = k ∧ 0 < k / 225 ∧ ¬ β 32 (5 * b + 2) = 0 then γ1 35 k else 0) + (if s = k ∧ q + k % 15 + k / 15 % 15 + k / 225 < st + rm g w v 0 + rm g w v 1 + rm g w v 2 ∧ ¬ β 32 (5 * b + 4) = 0 then γ1 35 k else 0) := by
    intro γ1
    by_cases c1 : 0 < k % 15
    · have c1' : (0 : Int32) < nI (k % 15) := nI_lt (a := 0) c1 (by omega)
      have e5 : nI k - 1 = nI (k - 1) := pk_sub (b := 1) (by omega)
      by_cases c2 : β 32 (5 * b) = 0
      · obtain ⟨γ', hE, h1, h2⟩ := p2 γ1
        refine ⟨γ', q_136_22 ?_, h1, fun s => by rw [if_neg (fun z => z.2.2 c2), Int64.add_zero]; exact h2 s⟩
        rw [if_pos c1', n5, pk_mul, if_neg (in_nI (by omega) (by decide)), cl_nI (by omega), if_pos c2]
        exact hE
      · obtain ⟨γ', hE, h1, h2⟩ := p2 (va_up γ1 36 (vp_updL (γ1 36) (k - 1) (γ1 36 (k - 1) + γ1 35 k)))
        refine ⟨γ', q_136_22 ?_, fun c hc => by rw [h1 c hc]; simp [va_up, hc], fun s => ?_⟩
        · rw [if_pos c1', n5, pk_mul, if_neg (in_nI (by omega) (by decide)), cl_nI (by omega), if_neg c2, e5, cl_nI (by omega), cl_nI (by omega), if_neg (in_cl (by omega) (by decide)), if_neg (in_cl (by omega) (by decide)), if_neg (in_cl (by omega) (by decide))]
          exact hE
        · rw [h2 s, ad_ok γ1 (by omega), ad_35]; simp [c1, c2]
    · obtain ⟨γ', hE, h1, h2⟩ := p2 γ1
      refine ⟨γ', q_136_22 ?_, h1, fun s => by rw [if_neg (fun z => c1 z.2.1), Int64.add_zero]; exact h2 s⟩
      rw [if_neg (show ¬ (0 : Int32) < nI (k % 15) from nI_nlt (a := 0) (by omega) (by decide))]
      exact hE
  obtain ⟨γ', hE, h1, h2⟩ := p1 γ
  refine ⟨γ', e_start rfl rfl rfl (q_136_0 ?_), h1, fun s => by rw [h2 s]; unfold ct; rw [← Int64.add_assoc, ← Int64.add_assoc, ← Int64.add_assoc]⟩
  have a1 := pk_rem (a := k) (d := 15) (by omega) (by omega) (by omega)
  have a2 := pk_div (a := k) (d := 15) (by omega) (by omega) (by omega)
  have a3 := pk_rem (a := k / 15) (d := 15) (by omega) (by omega) (by omega)
  have a4 := pk_div (a := k) (d := 225) (by omega) (by omega) (by omega)
  rw [n15, n225, a1, a2, a3, a4]
  exact hE
end DC
