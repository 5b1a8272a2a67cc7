/-! longs as numbers (rows of the kit's BITS family first); shuffling, and the reference's shuffle -/
theorem wb_tb (n : Nat) : (lN n).toBitVec = BitVec.ofNat 64 n := rfl
theorem wb_inj {a b : Int64} (h : a.toBitVec = b.toBitVec) : a = b := Int64.toBitVec_inj.mp h
theorem wb_tn {n : Nat} (h : n < 2 ^ 64) : (lN n).toBitVec.toNat = n := by rw [wb_tb, BitVec.toNat_ofNat, Nat.mod_eq_of_lt h]
theorem wb_of (x : Int64) : ∃ n, n < 2 ^ 64 ∧ x = lN n := ⟨x.toBitVec.toNat, x.toBitVec.isLt, wb_inj (by rw [wb_tb]; simp)⟩
theorem wb_of32 (x : Int32) : ∃ n, n < 2 ^ 32 ∧ x = nI n := ⟨x.toBitVec.toNat, x.toBitVec.isLt, Int32.toBitVec_inj.mp (by show _ = BitVec.ofNat 32 _; simp)⟩
theorem wb_c : ∀ k, k < 64 → ((nI k).toInt64 &&& 63) = lN k := by decide +kernel
theorem wb_cu : ∀ k, k < 64 → ((nI k).toInt64.toUInt64 &&& Int64.toUInt64 63) = UInt64.ofNat k := by decide +kernel
theorem wb_sm : ∀ k, k < 64 → (BitVec.ofNat 64 k).smod 64 = BitVec.ofNat 64 k := by decide +kernel
theorem wb_pw {a b : Nat} (h : a ≤ b) : 2 ^ b = 2 ^ a * 2 ^ (b - a) := by rw [← Nat.pow_add]; congr 1; omega
theorem wb_lt2 {a b : Nat} (h : a < b) : 2 ^ a < 2 ^ b := Nat.pow_lt_pow_right (by decide) h
theorem wb_mod (n : Nat) : lN n = lN (n % 2 ^ 64) := wb_inj (by rw [wb_tb, wb_tb]; apply BitVec.eq_of_toNat_eq; rw [BitVec.toNat_ofNat, BitVec.toNat_ofNat, Nat.mod_mod])
theorem wb_shr {n k : Nat} (hn : n < 2 ^ 64) (hk : k < 64) : ((lN n).toUInt64 >>> ((nI k).toInt64.toUInt64 &&& Int64.toUInt64 63)).toInt64 = lN (n / 2 ^ k) := by
  rw [wb_cu k hk]
  apply wb_inj
  apply BitVec.eq_of_toNat_eq
  show ((lN n).toUInt64 >>> UInt64.ofNat k).toNat = (BitVec.ofNat 64 _).toNat
  have h1 : (UInt64.ofNat k).toNat = k := by
    show (BitVec.ofNat 64 k).toNat = k
    rw [BitVec.toNat_ofNat, Nat.mod_eq_of_lt (by omega)]
  have h2 : (lN n).toUInt64.toNat = n := wb_tn hn
  rw [UInt64.toNat_shiftRight, h1, h2, Nat.mod_eq_of_lt hk, Nat.shiftRight_eq_div_pow, BitVec.toNat_ofNat, Nat.mod_eq_of_lt (Nat.lt_of_le_of_lt (Nat.div_le_self _ _) hn)]
theorem wb_shl (n : Nat) {k : Nat} (hk : k < 64) : lN n <<< ((nI k).toInt64 &&& 63) = lN (n * 2 ^ k) := by
  rw [wb_c k hk]
  apply wb_inj
  rw [Int64.toBitVec_shiftLeft, wb_tb, wb_tb, wb_tb, wb_sm k hk]
  apply BitVec.eq_of_toNat_eq
  rw [BitVec.shiftLeft_eq', BitVec.toNat_shiftLeft, BitVec.toNat_ofNat, BitVec.toNat_ofNat, BitVec.toNat_ofNat, Nat.mod_eq_of_lt (show k < 2 ^ 64 by omega), Nat.shiftLeft_eq, Nat.mul_mod, Nat.mod_mod, ← Nat.mul_mod]
theorem wb_and {a b : Nat} (ha : a < 2 ^ 64) (hb : b < 2 ^ 64) : lN a &&& lN b = lN (a &&& b) := by
  apply wb_inj
  rw [Int64.toBitVec_and, wb_tb, wb_tb, wb_tb]
  apply BitVec.eq_of_toNat_eq
  rw [BitVec.toNat_and, BitVec.toNat_ofNat, BitVec.toNat_ofNat, BitVec.toNat_ofNat, Nat.mod_eq_of_lt ha, Nat.mod_eq_of_lt hb, Nat.mod_eq_of_lt (Nat.and_lt_two_pow _ hb)]
theorem wb_or {a b : Nat} (ha : a < 2 ^ 64) (hb : b < 2 ^ 64) : lN a ||| lN b = lN (a ||| b) := by
  apply wb_inj
  rw [Int64.toBitVec_or, wb_tb, wb_tb, wb_tb]
  apply BitVec.eq_of_toNat_eq
  rw [BitVec.toNat_or, BitVec.toNat_ofNat, BitVec.toNat_ofNat, BitVec.toNat_ofNat, Nat.mod_eq_of_lt ha, Nat.mod_eq_of_lt hb, Nat.mod_eq_of_lt (Nat.or_lt_two_pow ha hb)]
theorem wb_mask {n k : Nat} (hn : n < 2 ^ 64) (hk : k < 64) : lN n &&& lN (2 ^ k - 1) = lN (n % 2 ^ k) := by
  rw [wb_and hn (by have := wb_lt2 hk; omega), Nat.and_two_pow_sub_one_eq_mod]
theorem wb_a1 {n : Nat} (hn : n < 2 ^ 64) : lN n &&& 1 = lN (n % 2) := wb_mask (k := 1) hn (by decide)
theorem wb_bit {n k : Nat} (hn : n < 2 ^ 64) (hk : k < 64) : ((lN n).toUInt64 >>> ((nI k).toInt64.toUInt64 &&& Int64.toUInt64 63)).toInt64 &&& 1 = lN (n / 2 ^ k % 2) := by
  rw [wb_shr hn hk, wb_a1 (Nat.lt_of_le_of_lt (Nat.div_le_self _ _) hn)]
def lcg (x : Int64) : Int64 := x * 6364136223846793005 + 1442695040888963407
def hn (x : Int64) : Nat := x.toBitVec.toNat / 2 ^ 33
def swp (o : Nat → Nat) (i j : Nat) : Nat → Nat := va_up (va_up o i (o j)) j (o i)
def mixF : Nat → Int64 → (Nat → Nat) → Nat → Nat
  | 0, _, o => o
  | i + 1, x, o => mixF i (lcg x) (swp o (i + 1) (hn (lcg x) % (i + 2)))
theorem hn_ok (x : Int64) {i : Nat} (hi : i < 100) : ((x.toUInt64 >>> ((33 : Int32).toInt64.toUInt64 &&& Int64.toUInt64 63)).toInt64 - (x.toUInt64 >>> ((33 : Int32).toInt64.toUInt64 &&& Int64.toUInt64 63)).toInt64 / (nI i + 1).toInt64 * (nI i + 1).toInt64).toInt32 = nI (hn x % (i + 1)) := by
  obtain ⟨n, hn', rfl⟩ := wb_of x
  have e1 : ((lN n).toUInt64 >>> ((33 : Int32).toInt64.toUInt64 &&& Int64.toUInt64 63)).toInt64 = lN (n / 2 ^ 33) := wb_shr (k := 33) hn' (by omega)
  have e2 : hn (lN n) = n / 2 ^ 33 := by unfold hn; rw [wb_tn hn']
  rw [e1, e2, nI_1, nI_l (by omega), pk_lRem (by omega) (by omega) (by omega), lN_i]
theorem hn_nz {i : Nat} (hi : i < 100) : ¬ (nI i + 1).toInt64 = 0 := by
  rw [nI_1, nI_l (by omega)]
  intro z
  have := (pk_lEQ (a := i + 1) (b := 0) (by omega) (by omega)).mp z
  omega
/-- a row of the bones below n, each once -/
def permB (n : Nat) (o : Nat → Nat) : Prop := (∀ i, i < n → o i < n) ∧ ∀ i j, i < n → j < n → o i = o j → i = j
theorem permB_swp {n : Nat} {o : Nat → Nat} (h : permB n o) {i j : Nat} (hi : i < n) (hj : j < n) : permB n (swp o i j) := by
  have e : ∀ k, swp o i j k = o (if k = j then i else if k = i then j else k) := by
    intro k
    unfold swp va_up
    by_cases h1 : k = j
    · simp [h1]
    · by_cases h2 : k = i
      · simp [h2]
        split <;> rfl
      · simp [h1, h2]
  refine ⟨fun k hk => ?_, fun k l hk hl hkl => ?_⟩
  · rw [e]; apply h.1; split
    · exact hi
    · split <;> assumption
  · rw [e, e] at hkl
    have hb : ∀ k, k < n → (if k = j then i else if k = i then j else k) < n := fun k hk => by
      split
      · exact hi
      · split <;> assumption
    have := h.2 _ _ (hb k hk) (hb l hl) hkl
    split at this <;> split at this <;> (try split at this) <;> (try split at this) <;> omega
theorem permB_mix {n : Nat} : ∀ (i : Nat) (x : Int64) (o : Nat → Nat), permB n o → i < n → permB n (mixF i x o)
  | 0, _, _, h, _ => h
  | i + 1, x, o, h, hi => by
    simp only [mixF]
    refine permB_mix i _ _ (permB_swp h hi ?_) (by omega)
    have := Nat.mod_lt (hn (lcg x)) (show 0 < i + 2 by omega)
    omega
theorem permB_id (n : Nat) : permB n (fun i => i) := ⟨fun _ h => h, fun _ _ _ _ h => h⟩
/-- places by a shuffled row -/
def plF (g : Nat → Nat) (o p : Nat → Nat) : Nat → Nat → Nat
  | 0 => p
  | n + 1 => va_up (plF g o p n) (o n) (if n < g 8 * g 1 then n / g 8 else 10)
def shW (g : Nat → Nat) (w : Nat → Nat → Nat) (x : Int64) : Nat → Nat → Nat := va_up w 21 (plF g (mixF (g 3 - 1) x (fun i => i)) (w 21) (g 3))
section MJ
variable {sc : Nat × (Nat → Int32)} {d : Nat} {L : Nat → Nat} {σ : Nat → Int32} {α : Nat → Nat → Int32} {τ : Nat → Int32} {β : Nat → Nat → Int32} {γ : Nat → Nat → Int64} {g : Nat → Nat} {w : Nat → Nat → Nat}
theorem m_shuffle_no (h : RM g w τ β) (hg : Bd g w) (x : Int64) (hc : ¬ g 7 = 1) : Ev sc (d + 1) 107 [.ref 21, .long x] (mem L σ α τ β γ) (some (.int 0), mem L σ α τ β γ) := by
  have h7 := hg.2.2.2.1
  have e7 : nI (g 7) = (1 : Int32) ↔ g 7 = 1 := nI_eq (b := 1) (by omega) (by decide)
  refine e_start rfl rfl rfl (q_107_0 ?_)
  rw [h.1.2.2.2.2.1, if_neg (fun z => hc (e7.mp z))]
theorem m_shuffle_yes (h : RM g w τ β) (hg : Bd g w) (x : Int64) (h7 : g 7 = 1) (h8 : 1 ≤ g 8) : ∃ β', Ev sc (d + 1) 107 [.ref 21, .long x] (mem L σ α τ β γ) (some (.int 1), mem L σ α τ β' γ) ∧ RM g (shW g w x) τ β' := by
  obtain ⟨hS, -, ⟨h3a, h3⟩, -, h8b, -, -, -⟩ := id hg
  obtain ⟨⟨k1, k2, k3, k4, k5, k6, k7, k8, k9, k10, k11, k12, k13, k14⟩, k15, k16, k17, k18⟩ := id h
  have n10 : (10 : Int32) = nI 10 := rfl
  -- the bones are laid out by their places
  have put : ∀ (o : Nat → Nat), permB (g 3) o → ∀ m j, j + m = g 3 → ∀ β1, (∀ i, i < g 3 → β1 31 i = nI (o i)) → (∀ i, i < 28 → β1 21 i = nI (plF g o (w 21) j i)) → (∀ c, c ≠ 21 → c ≠ 31 → β1 c = β c) → ∃ β', EvL sc d me_107 112 [some (.ref 21), none, none, none, none, some (.int (nI j)), none, none] [] (mem L σ α τ β1 γ) 0 0 (some (.int 1), mem L σ α τ β' γ) ∧ (∀ i, i < 28 → β' 21 i = nI (plF g o (w 21) (g 3) i)) ∧ (∀ c, c ≠ 21 → c ≠ 31 → β' c = β c) := by
    intro o ho m
    induction m with
    | zero =>
      intro j hj β1 b1 b2 b3
      have ej : j = g 3 := by omega
      subst ej
      refine ⟨β1, q_107_112 ?_, b2, b3⟩
      rw [k3, if_neg (nI_nlt (by omega) (by omega))]
    | succ m ih =>
      intro j hj β1 b1 b2 b3
      have hoj := ho.1 j (by omega)
      have hmul : g 8 * g 1 ≤ 56 := Nat.le_trans (Nat.mul_le_mul h8b hS.2) (by omega)
      obtain ⟨β', hE, hA, hB⟩ := ih (j + 1) (by omega) (va_up β1 21 (upd (β1 21) (o j) (nI (if j < g 8 * g 1 then j / g 8 else 10)))) (fun i hi => by simpa [va_up] using b1 i hi) (fun i hi => by
        simp only [plF]
        by_cases e : i = o j
        · simp [va_up, upd, e]
        · simpa [va_up, upd, e] using b2 i hi) (fun c c1 c2 => by simp [va_up, c1]; exact b3 c c1 c2)
      refine ⟨β', q_107_112 ?_, hA, hB⟩
      have eL : nI j < nI (g 8 * g 1) ↔ j < g 8 * g 1 := nI_ltI (by omega) (by omega)
      rw [k3, if_pos (nI_lt (by omega) (by omega)), cl_nI (by omega), if_neg (in_cl (by omega) (by decide)), b1 j (by omega), k6, k1, pk_mul, cl_nI (by omega), nI_1]
      by_cases hl : j < g 8 * g 1
      · rw [if_pos (eL.mpr hl), if_neg (nI_ne0 (by omega) (by omega)), if_neg (in_cl (by omega) (by decide)), pk_div (by omega) (by omega) (by omega)]
        rw [if_pos hl] at hE
        exact hE
      · rw [if_neg (fun z => hl (eL.mp z)), if_neg (in_cl (by omega) (by decide)), n10]
        rw [if_neg hl] at hE
        exact hE
  -- the row is mixed
  have mix : ∀ i, i < g 3 → ∀ (x : Int64) (o : Nat → Nat), permB (g 3) o → ∀ β1, (∀ i, i < g 3 → β1 31 i = nI (o i)) → (∀ c, c ≠ 31 → β1 c = β c) → ∃ β', EvL sc d me_107 43 [some (.ref 21), none, none, some (.long x), none, some (.int (nI i)), none, none] [] (mem L σ α τ β1 γ) 0 0 (some (.int 1), mem L σ α τ β' γ) ∧ (∀ j, j < 28 → β' 21 j = nI (plF g (mixF i x o) (w 21) (g 3) j)) ∧ (∀ c, c ≠ 21 → c ≠ 31 → β' c = β c) := by
    intro i
    induction i with
    | zero =>
      intro _ x o ho β1 b1 b2
      obtain ⟨β', hE, hA, hB⟩ := put o ho (g 3) 0 (by omega) β1 b1 (fun j hj => by rw [b2 21 (by decide)]; exact k15 j hj) (fun c _ c2 => b2 c c2)
      refine ⟨β', q_107_43 ?_, hA, hB⟩
      rw [if_neg (by decide)]
      exact hE
    | succ i ih =>
      intro hi x o ho β1 b1 b2
      have hj : hn (lcg x) % (i + 2) < i + 2 := Nat.mod_lt _ (by omega)
      obtain ⟨β', hE, hA, hB⟩ := ih (by omega) (lcg x) (swp o (i + 1) (hn (lcg x) % (i + 2))) (permB_swp ho hi (by omega)) (va_up β1 31 (upd (upd (β1 31) (i + 1) (β1 31 (hn (lcg x) % (i + 2)))) (hn (lcg x) % (i + 2)) (β1 31 (i + 1)))) (fun k hk => by
        unfold swp
        by_cases e1 : k = hn (lcg x) % (i + 2)
        · simp [va_up, upd, e1, b1 (i + 1) hi]
        · by_cases e2 : k = i + 1
          · have e3 : ¬ i + 1 = hn (lcg x) % (i + 2) := fun z => e1 (e2.trans z)
            simp [va_up, upd, e2, e3, b1 (hn (lcg x) % (i + 2)) (by omega)]
          · simp [va_up, upd, e1, e2, b1 k hk]) (fun c hc => by simp [va_up, hc, b2 c hc])
      refine ⟨β', q_107_43 ?_, hA, hB⟩
      rw [if_pos (show (0 : Int32) < nI (i + 1) from nI_lt (a := 0) (by omega) (by omega))]
      refine q_107_58 ?_
      rw [if_neg (hn_nz (by omega)), hn_ok _ (by omega)]
      refine q_107_71 ?_
      rw [show x * 6364136223846793005 + 1442695040888963407 = lcg x from rfl, show i + 1 + 1 = i + 2 from rfl]
      rw [cl_nI (by omega), cl_nI (by omega), if_neg (in_cl (by omega) (by decide)), if_neg (in_cl (by omega) (by decide)), if_neg (in_cl (by omega) (by decide)), if_neg (in_cl (by omega) (by decide)), pk_m1]
      exact hE
  -- the row at first
  have first : ∀ m j, j + m = g 3 → ∀ β1, (∀ i, i < j → β1 31 i = nI i) → (∀ c, c ≠ 31 → β1 c = β c) → ∃ β', EvL sc d me_107 12 [some (.ref 21), some (.long x), none, some (.int (nI j)), none, none, none, none] [] (mem L σ α τ β1 γ) 0 0 (some (.int 1), mem L σ α τ β' γ) ∧ (∀ i, i < 28 → β' 21 i = nI (plF g (mixF (g 3 - 1) x (fun i => i)) (w 21) (g 3) i)) ∧ (∀ c, c ≠ 21 → c ≠ 31 → β' c = β c) := by
    intro m
    induction m with
    | zero =>
      intro j hj β1 b1 b2
      have ej : j = g 3 := by omega
      subst ej
      obtain ⟨β', hE, hA, hB⟩ := mix (g 3 - 1) (by omega) x (fun i => i) (permB_id _) β1 b1 b2
      refine ⟨β', q_107_12 ?_, hA, hB⟩
      have e1 : nI (g 3) - 1 = nI (g 3 - 1) := pk_sub (b := 1) (by omega)
      rw [k3, if_neg (nI_nlt (by omega) (by omega)), e1]
      exact hE
    | succ m ih =>
      intro j hj β1 b1 b2
      obtain ⟨β', hE, hA, hB⟩ := ih (j + 1) (by omega) (va_up β1 31 (upd (β1 31) j (nI j))) (fun i hi => by
        by_cases e : i = j
        · simp [va_up, upd, e]
        · simp [va_up, upd, e, b1 i (by omega)]) (fun c hc => by simp [va_up, hc, b2 c hc])
      refine ⟨β', q_107_12 ?_, hA, hB⟩
      rw [k3, if_pos (nI_lt (by omega) (by omega)), cl_nI (by omega), if_neg (in_cl (by omega) (by decide)), nI_1]
      exact hE
  obtain ⟨β', hE, hA, hB⟩ := first (g 3) 0 (by omega) β (fun i hi => by omega) (fun _ _ => rfl)
  refine ⟨β', e_start rfl rfl rfl (q_107_0 ?_), ?_⟩
  · rw [k5, h7, if_pos (by decide)]
    exact hE
  · refine ⟨⟨k1, k2, k3, k4, k5, k6, k7, k8, k9, k10, k11, k12, k13, k14⟩, ?_, ?_, ?_, ?_⟩
    · intro i hi; rw [hA i hi]; simp [shW, va_up]
    · intro i hi; rw [hB 22 (by decide) (by decide)]; simpa [shW, va_up] using k16 i hi
    · intro i a c; rw [hB 23 (by decide) (by decide), hB 24 (by decide) (by decide)]; simpa [shW, va_up] using k17 i a c
    · intro i hi
      rw [hB 25 (by decide) (by decide), hB 26 (by decide) (by decide), hB 27 (by decide) (by decide), hB 28 (by decide) (by decide), hB 29 (by decide) (by decide), hB 30 (by decide) (by decide)]
      simpa [shW, va_up] using k18 i hi
end MJ
