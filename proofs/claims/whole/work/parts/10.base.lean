/-! numbers: counts, sums, small ints -/
def mI (n : Nat) : Int32 := nI n - 1
def bI (b : Bool) : Int32 := if b then 1 else 0
theorem bI_t : bI true = 1 := rfl
theorem bI_f : bI false = 0 := rfl
theorem bI_and (b : Bool) : bI b &&& 1 = bI b := by cases b <;> decide
theorem bI_eq0 (b : Bool) : bI b = 0 ↔ b = false := by cases b <;> decide
theorem bI_nar (b : Bool) : vp_nar .boolean (bI b) = bI b := by cases b <;> decide
theorem nI_lit (n : Nat) : (Int32.ofNat n) = nI n := rfl
theorem mI_0 : mI 0 = -1 := by decide
theorem mI_succ (n : Nat) : mI (n + 1) = nI n := nI_pred n
theorem mI_inj {a b : Nat} (ha : a < 2 ^ 31) (hb : b < 2 ^ 31) : mI a = mI b ↔ a = b := by
  constructor
  · intro h
    have h1 : nI a = nI b := by
      have := congrArg (· + 1) h
      simpa [mI] using this
    exact (nI_eq ha hb).mp h1
  · rintro rfl; rfl
theorem nI_ne_m1 {n : Nat} (h : n < 2 ^ 31) : ¬ nI n = -1 := by
  intro e
  have h1 := congrArg Int32.toInt e
  rw [nI_toInt h] at h1
  have h2 : (-1 : Int32).toInt = -1 := by decide
  omega
theorem mI_eq_m1 {n : Nat} (h : n < 2 ^ 31) : mI n = -1 ↔ n = 0 := by
  rw [← mI_0]; exact mI_inj h (by decide)
theorem m1_lt0 : (-1 : Int32) < 0 := by decide
/-- an index within a row, and its number -/
theorem in_nI {n N : Nat} (h : n < N) (hN : N < 2 ^ 31) : ¬ (nI n < 0 ∨ N ≤ (nI n).toNatClampNeg) := vp_in_nI h hN
theorem cl_nI {n : Nat} (h : n < 2 ^ 31) : (nI n).toNatClampNeg = n := nI_clamp h
theorem any_nI (x : Int32) : x < 0 ∨ ∃ n : Nat, n < 2 ^ 31 ∧ x = nI n := by
  by_cases h : x < 0
  · exact Or.inl h
  · exact Or.inr (nI_of h)
/-- how many i below n are of a kind -/
def cn (p : Nat → Bool) : Nat → Nat
  | 0 => 0
  | n + 1 => cn p n + (if p n then 1 else 0)
/-- the sum of f below n -/
def sm (f : Nat → Nat) : Nat → Nat
  | 0 => 0
  | n + 1 => sm f n + f n
theorem cn_le (p : Nat → Bool) : ∀ n, cn p n ≤ n
  | 0 => Nat.le_refl 0
  | n + 1 => by have := cn_le p n; simp only [cn]; split <;> omega
theorem cn_cong {p q : Nat → Bool} : ∀ {n : Nat}, (∀ i, i < n → p i = q i) → cn p n = cn q n
  | 0, _ => rfl
  | n + 1, h => by simp only [cn]; rw [cn_cong (fun i hi => h i (by omega)), h n (by omega)]
theorem cn_zero {p : Nat → Bool} : ∀ {n : Nat}, cn p n = 0 ↔ ∀ i, i < n → p i = false
  | 0 => ⟨fun _ i hi => by omega, fun _ => rfl⟩
  | n + 1 => by
    simp only [cn]
    have ih := cn_zero (p := p) (n := n)
    constructor
    · intro h i hi
      by_cases hp : p n = true
      · rw [if_pos hp] at h; omega
      · rw [if_neg hp] at h
        by_cases hin : i = n
        · rw [hin]; simpa using hp
        · exact ih.mp (by omega) i (by omega)
    · intro h
      rw [ih.mpr (fun i hi => h i (by omega)), h n (by omega)]
      rfl
theorem cn_upd {p q : Nat → Bool} {k : Nat} (hq : ∀ i, i ≠ k → q i = p i) : ∀ {n : Nat}, k < n → cn q n + (if p k then 1 else 0) = cn p n + (if q k then 1 else 0)
  | 0, h => by omega
  | n + 1, h => by
    simp only [cn]
    by_cases hk : k = n
    · subst hk
      rw [cn_cong (p := q) (q := p) (fun i hi => hq i (by omega))]
      omega
    · have := cn_upd hq (n := n) (by omega)
      rw [hq n (fun z => hk z.symm)]
      omega
theorem cn_ext {p : Nat → Bool} {n : Nat} : ∀ m : Nat, n ≤ m → (∀ i, n ≤ i → i < m → p i = false) → cn p m = cn p n
  | 0, h, _ => by rw [show n = 0 by omega]
  | m + 1, h, hp => by
    by_cases hm : n = m + 1
    · rw [hm]
    · simp only [cn]
      rw [cn_ext m (by omega) (fun i h1 h2 => hp i h1 (by omega)), hp m (by omega) (by omega)]
      rfl
theorem sm_cong {f g : Nat → Nat} : ∀ {n : Nat}, (∀ i, i < n → f i = g i) → sm f n = sm g n
  | 0, _ => rfl
  | n + 1, h => by simp only [sm]; rw [sm_cong (fun i hi => h i (by omega)), h n (by omega)]
theorem sm_add (f g : Nat → Nat) : ∀ n, sm (fun i => f i + g i) n = sm f n + sm g n
  | 0 => rfl
  | n + 1 => by simp only [sm]; rw [sm_add f g n]; omega
theorem sm_le {f : Nat → Nat} {c : Nat} (h : ∀ i, f i ≤ c) : ∀ n, sm f n ≤ n * c
  | 0 => Nat.zero_le _
  | n + 1 => by have := sm_le h n; have := h n; simp only [sm]; rw [Nat.succ_mul]; omega
theorem cn_sm (p : Nat → Bool) : ∀ n, cn p n = sm (fun i => if p i then 1 else 0) n
  | 0 => rfl
  | n + 1 => by simp only [cn, sm]; rw [cn_sm p n]
/-- a rule for a run that begins: the entry of a method -/
theorem ev_of {sc : Nat × (Nat → Int32)} {d y : Nat} {av : List Value} {M : dk_M} {r r' : Option Value × dk_M} (h : Ev sc d y av M r) (e : r = r') : Ev sc d y av M r' := e ▸ h
theorem cli {sc : Nat × (Nat → Int32)} {d y : Nat} {av : List Value} {M M2 : dk_M} {x : Int32} {P : Int32 → dk_M → Prop} (h : Ev sc d y av M (some (.int x), M2)) (hp : P x M2) : Cli sc d y av M P := ⟨x, M2, h, hp⟩
theorem cll {sc : Nat × (Nat → Int32)} {d y : Nat} {av : List Value} {M M2 : dk_M} {x : Int64} {P : Int64 → dk_M → Prop} (h : Ev sc d y av M (some (.long x), M2)) (hp : P x M2) : Cll sc d y av M P := ⟨x, M2, h, hp⟩
theorem clv {sc : Nat × (Nat → Int32)} {d y : Nat} {av : List Value} {M M2 : dk_M} {P : dk_M → Prop} (h : Ev sc d y av M (none, M2)) (hp : P M2) : Clv sc d y av M P := ⟨M2, h, hp⟩
