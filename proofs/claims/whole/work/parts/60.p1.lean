/-! how many deals: a product of operators, and its binomial form -/
def ch : Nat → Nat → Nat
  | _, 0 => 1
  | 0, _ + 1 => 0
  | n + 1, k + 1 => ch n k + ch n (k + 1)
theorem ch_0 (n : Nat) : ch n 0 = 1 := by cases n <;> rfl
theorem ch_gt : ∀ (n k : Nat), n < k → ch n k = 0
  | 0, k + 1, _ => rfl
  | n + 1, k + 1, h => by simp only [ch]; rw [ch_gt n k (by omega), ch_gt n (k + 1) (by omega)]
theorem ch_s (n k : Nat) : ch (n + 1) k = ch n k + (if 0 < k then ch n (k - 1) else 0) := by
  cases k with
  | zero => simp [ch_0]
  | succ k => simp only [ch]; rw [if_pos (by omega), Nat.add_sub_cancel]; omega
theorem sm_shift (f : Nat → Nat) : ∀ n, sm f (n + 1) = f 0 + sm (fun i => f (i + 1)) n
  | 0 => by simp [sm]
  | n + 1 => by rw [sm_succ, sm_shift f n, sm_succ]; omega
theorem sm_0 {f : Nat → Nat} : ∀ n, (∀ i, i < n → f i = 0) → sm f n = 0
  | 0, _ => rfl
  | n + 1, h => by rw [sm_succ, sm_0 n (fun i hi => h i (by omega)), h n (by omega)]
theorem sm_mul (c : Nat) (f : Nat → Nat) : ∀ n, sm (fun i => c * f i) n = c * sm f n
  | 0 => rfl
  | n + 1 => by rw [sm_succ, sm_mul c f n, sm_succ, Nat.mul_add]
theorem sm_tail {f : Nat → Nat} {a : Nat} : ∀ n, a ≤ n → (∀ i, a ≤ i → i < n → f i = 0) → sm f n = sm f a
  | 0, h, _ => by rw [show a = 0 by omega]
  | n + 1, h, hz => by
    by_cases e : a = n + 1
    · rw [e]
    · rw [sm_succ, sm_tail n (by omega) (fun i h1 h2 => hz i h1 (by omega)), hz n (by omega) (by omega), Nat.add_zero]
def itf {V : Type} (T : V → V) : Nat → V → V
  | 0, F => F
  | n + 1, F => T (itf T n F)
theorem itf_comm {V : Type} {T U : V → V} (h : ∀ F, T (U F) = U (T F)) (F : V) : ∀ n, T (itf U n F) = itf U n (T F)
  | 0 => rfl
  | n + 1 => by simp only [itf]; rw [h, itf_comm h F n]
theorem itf_comm2 {V : Type} {T U : V → V} (h : ∀ F, T (U F) = U (T F)) (F : V) (m : Nat) : ∀ n, itf T n (itf U m F) = itf U m (itf T n F)
  | 0 => rfl
  | n + 1 => by simp only [itf]; rw [itf_comm2 h F m n, itf_comm h]
theorem itf_add {V : Type} (T : V → V) (F : V) (b : Nat) : ∀ a, itf T (a + b) F = itf T a (itf T b F)
  | 0 => by rw [Nat.zero_add]; rfl
  | a + 1 => by rw [show a + 1 + b = (a + b) + 1 by omega]; simp only [itf]; rw [itf_add T F b a]
def Li {ι : Type} (A : (ι → Nat) → ι → Nat) : Prop := (∀ f h, A (fun p => f p + h p) = fun p => A f p + A h p) ∧ A (fun _ => 0) = fun _ => 0
theorem Li_mul {ι : Type} {A : (ι → Nat) → ι → Nat} (h : Li A) (f : ι → Nat) : ∀ c : Nat, A (fun p => c * f p) = fun p => c * A f p
  | 0 => by simp only [Nat.zero_mul]; exact h.2
  | c + 1 => by simp only [Nat.succ_mul]; rw [h.1, Li_mul h f c]
theorem Li_sm {ι : Type} {A : (ι → Nat) → ι → Nat} (h : Li A) (f : Nat → ι → Nat) : ∀ n, A (fun p => sm (fun i => f i p) n) = fun p => sm (fun i => A (f i) p) n
  | 0 => h.2
  | n + 1 => by simp only [sm]; rw [h.1, Li_sm h f n]
theorem Li_itf {ι : Type} {A : (ι → Nat) → ι → Nat} (h : Li A) : ∀ n, Li (itf A n)
  | 0 => ⟨fun _ _ => rfl, rfl⟩
  | n + 1 => by
    obtain ⟨a, b⟩ := Li_itf h n
    refine ⟨fun f g => ?_, ?_⟩
    · simp only [itf]; rw [a, h.1]
    · simp only [itf]; rw [b, h.2]
def stp {ι : Type} (A : (ι → Nat) → ι → Nat) (F : Nat → ι → Nat) : Nat → ι → Nat := fun x p => A (F x) p + (if 0 < x then F (x - 1) p else 0)
theorem bin {ι : Type} {A : (ι → Nat) → ι → Nat} (h : Li A) (F : Nat → ι → Nat) : ∀ K x p, itf (stp A) K F x p = sm (fun i => ch K i * itf A (K - i) (F (x - i)) p) (x + 1)
  | 0, x, p => by
    rw [sm_shift, sm_0 x (fun i _ => by simp [ch])]
    simp [ch, itf]
  | K + 1, x, p => by
    have ih := fun x => funext (fun p => bin h F K x p)
    simp only [itf]
    have e : A (itf (stp A) K F x) = fun p => sm (fun i => ch K i * itf A (K + 1 - i) (F (x - i)) p) (x + 1) := by
      rw [ih x, Li_sm h]
      funext p
      refine sm_cong (fun i _ => ?_)
      rw [Li_mul h]
      show ch K i * A (itf A (K - i) (F (x - i))) p = _
      by_cases l : i ≤ K
      · rw [show K + 1 - i = (K - i) + 1 by omega]; rfl
      · rw [ch_gt K i (by omega), Nat.zero_mul, Nat.zero_mul]
    show A (itf (stp A) K F x) p + (if 0 < x then itf (stp A) K F (x - 1) p else 0) = _
    rw [e]
    cases x with
    | zero => simp [sm, ch_0]
    | succ y =>
      rw [if_pos (by omega), Nat.add_sub_cancel, ih y]
      show sm (fun i => ch K i * itf A (K + 1 - i) (F (y + 1 - i)) p) (y + 1 + 1) + _ = _
      rw [sm_shift, sm_shift (fun i => ch (K + 1) i * itf A (K + 1 - i) (F (y + 1 - i)) p)]
      simp only [ch, ch_0, Nat.add_mul, Nat.add_sub_add_right]
      rw [sm_add]
      omega
/-- one seat's bones only are wanted -/
theorem bin0 {ι : Type} {A : (ι → Nat) → ι → Nat} (h : Li A) (f : ι → Nat) (K x : Nat) (p : ι) : itf (stp A) K (fun x p => if x = 0 then f p else 0) x p = ch K x * itf A (K - x) f p := by
  rw [bin h, sm_succ, sm_0 x]
  · simp
  · intro i hi
    have : (fun p : ι => if x - i = 0 then f p else 0) = fun _ => 0 := by funext p; rw [if_neg (by omega)]
    show ch K i * itf A (K - i) (fun p => if x - i = 0 then f p else 0) p = 0
    rw [this, (Li_itf h _).2, Nat.mul_zero]
/-- two seats -/
def uu (b c : Bool) (f : Nat × Nat → Nat) : Nat × Nat → Nat := fun p => f p + (if b = true ∧ 0 < p.1 then f (p.1 - 1, p.2) else 0) + (if c = true ∧ 0 < p.2 then f (p.1, p.2 - 1) else 0)
theorem uu_li (b c : Bool) : Li (uu b c) := by
  refine ⟨fun f h => ?_, ?_⟩
  · funext p; simp only [uu]
    split <;> split <;> omega
  · funext p; simp [uu]
theorem uu_comm (b c b' c' : Bool) (f : Nat × Nat → Nat) : uu b c (uu b' c' f) = uu b' c' (uu b c f) := by
  funext p
  obtain ⟨y, z⟩ := p
  cases b <;> cases c <;> cases b' <;> cases c' <;> cases y <;> cases z <;> simp [uu] <;> omega
/-- three seats: one bone -/
def oo (a b c : Bool) (F : Nat → Nat × Nat → Nat) : Nat → Nat × Nat → Nat := fun x p => uu b c (F x) p + (if a = true ∧ 0 < x then F (x - 1) p else 0)
theorem oo_stp (b c : Bool) : oo true b c = stp (uu b c) := by
  funext F x p; simp [oo, stp]
theorem oo_comm (a b c a' b' c' : Bool) (F : Nat → Nat × Nat → Nat) : oo a b c (oo a' b' c' F) = oo a' b' c' (oo a b c F) := by
  have k : ∀ (b c a' b' c' : Bool) (x : Nat) p, uu b c (oo a' b' c' F x) p = uu b c (uu b' c' (F x)) p + (if a' = true ∧ 0 < x then uu b c (F (x - 1)) p else 0) := by
    intro b c a' b' c' x p
    have := congrFun ((uu_li b c).1 (uu b' c' (F x)) (fun p => if a' = true ∧ 0 < x then F (x - 1) p else 0)) p
    refine Eq.trans this ?_
    by_cases q : a' = true ∧ 0 < x
    · simp only [q, if_true, and_self]
    · simp only [if_neg q, (uu_li b c).2]
  funext x p
  show uu b c (oo a' b' c' F x) p + (if a = true ∧ 0 < x then oo a' b' c' F (x - 1) p else 0) = uu b' c' (oo a b c F x) p + (if a' = true ∧ 0 < x then oo a b c F (x - 1) p else 0)
  rw [k, k, uu_comm b c b' c']
  simp only [oo]
  cases a <;> cases a' <;> cases x <;> simp <;> omega
theorem oo_fff (F : Nat → Nat × Nat → Nat) : oo false false false F = F := by
  funext x p; simp [oo, uu]
def gF (u : Nat → Bool) (m : Nat → Nat → Bool) (B : Nat) : Nat → Nat × Nat → Nat := fun x p => gw u m B x p.1 p.2
theorem gF_s (u : Nat → Bool) (m : Nat → Nat → Bool) {B : Nat} (hu : u B = true) (h4 : m B 4 = true) : gF u m (B + 1) = oo (m B 0) (m B 1) (m B 2) (gF u m B) := by
  funext x p
  simp only [gF, oo, uu, gw, hu, h4, if_true]
  omega
theorem gF_n (u : Nat → Bool) (m : Nat → Nat → Bool) {B : Nat} (hu : u B = false) : gF u m (B + 1) = gF u m B := by
  funext x p
  simp [gF, gw, hu]
def d2 : Nat × Nat → Nat := fun p => if p.1 = 0 ∧ p.2 = 0 then 1 else 0
def d3 : Nat → Nat × Nat → Nat := fun x p => if x = 0 then d2 p else 0
/-- how many bones of a kind -/
def kd (u : Nat → Bool) (m : Nat → Nat → Bool) (a b c : Bool) : Nat → Nat := cn (fun i => u i && ((m i 0 == a) && ((m i 1 == b) && (m i 2 == c))))
theorem kd_s (u : Nat → Bool) (m : Nat → Nat → Bool) (a b c : Bool) (B : Nat) : kd u m a b c (B + 1) = kd u m a b c B + (if (u B && ((m B 0 == a) && ((m B 1 == b) && (m B 2 == c)))) = true then 1 else 0) := rfl
theorem gF_eq (u : Nat → Bool) (m : Nat → Nat → Bool) : ∀ B, (∀ i, i < B → u i = true → m i 4 = true) → gF u m B = itf (oo true false false) (kd u m true false false B) (itf (oo true true false) (kd u m true true false B) (itf (oo true false true) (kd u m true false true B) (itf (oo true true true) (kd u m true true true B) (itf (oo false true true) (kd u m false true true B) (itf (oo false false true) (kd u m false false true B) (itf (oo false true false) (kd u m false true false B) d3))))))
  | 0, _ => by
    funext x p
    simp only [kd, cn, itf, gF, gw, d3, d2]
    by_cases h : x = 0
    · simp [h]
    · simp [h]
  | B + 1, h => by
    have ih := gF_eq u m B (fun i hi => h i (by omega))
    cases hu : u B with
    | false =>
      rw [gF_n u m hu, ih]
      simp only [kd_s, hu, Bool.false_and, Bool.false_eq_true, if_false, Nat.add_zero]
    | true =>
      rw [gF_s u m hu (h B (by omega) hu), ih]
      simp only [kd_s, hu, Bool.true_and]
      have b1 : (true == false) = false := rfl
      have b2 : (false == true) = false := rfl
      cases m B 0 <;> cases m B 1 <;> cases m B 2 <;> simp only [Bool.and_true, Bool.and_false, Bool.false_eq_true, if_false, if_true, Nat.add_zero, beq_self_eq_true, b1, b2, itf]
      · rw [oo_fff]
      · rw [itf_comm (T := oo false false true) (U := oo true false false) (oo_comm _ _ _ _ _ _), itf_comm (T := oo false false true) (U := oo true true false) (oo_comm _ _ _ _ _ _), itf_comm (T := oo false false true) (U := oo true false true) (oo_comm _ _ _ _ _ _), itf_comm (T := oo false false true) (U := oo true true true) (oo_comm _ _ _ _ _ _), itf_comm (T := oo false false true) (U := oo false true true) (oo_comm _ _ _ _ _ _)]
      · rw [itf_comm (T := oo false true false) (U := oo true false false) (oo_comm _ _ _ _ _ _), itf_comm (T := oo false true false) (U := oo true true false) (oo_comm _ _ _ _ _ _), itf_comm (T := oo false true false) (U := oo true false true) (oo_comm _ _ _ _ _ _), itf_comm (T := oo false true false) (U := oo true true true) (oo_comm _ _ _ _ _ _), itf_comm (T := oo false true false) (U := oo false true true) (oo_comm _ _ _ _ _ _), itf_comm (T := oo false true false) (U := oo false false true) (oo_comm _ _ _ _ _ _)]
      · rw [itf_comm (T := oo false true true) (U := oo true false false) (oo_comm _ _ _ _ _ _), itf_comm (T := oo false true true) (U := oo true true false) (oo_comm _ _ _ _ _ _), itf_comm (T := oo false true true) (U := oo true false true) (oo_comm _ _ _ _ _ _), itf_comm (T := oo false true true) (U := oo true true true) (oo_comm _ _ _ _ _ _)]
      · rw [itf_comm (T := oo true false true) (U := oo true false false) (oo_comm _ _ _ _ _ _), itf_comm (T := oo true false true) (U := oo true true false) (oo_comm _ _ _ _ _ _)]
      · rw [itf_comm (T := oo true true false) (U := oo true false false) (oo_comm _ _ _ _ _ _)]
      · rw [itf_comm (T := oo true true true) (U := oo true false false) (oo_comm _ _ _ _ _ _), itf_comm (T := oo true true true) (U := oo true true false) (oo_comm _ _ _ _ _ _), itf_comm (T := oo true true true) (U := oo true false true) (oo_comm _ _ _ _ _ _)]
/-- the second and the third seat -/
def OO (s t v y z : Nat) : Nat := sm (fun j => ch v j * (ch s (y - j) * ch (v - j + t) z)) (y + 1)
def z1 (h : Nat → Nat) : Nat → Nat := fun z => h z + (if 0 < z then h (z - 1) else 0)
theorem z1_li : Li z1 := by
  refine ⟨fun f h => ?_, ?_⟩
  · funext p; simp only [z1]
    split <;> omega
  · funext p; simp [z1]
theorem z1_ch (t : Nat) : ∀ n, itf z1 n (ch t) = ch (n + t)
  | 0 => by rw [Nat.zero_add]; rfl
  | n + 1 => by
    simp only [itf]; rw [z1_ch t n, show n + 1 + t = (n + t) + 1 by omega]
    funext z; rw [ch_s]; rfl
theorem uu_s : ∀ s y z, itf (uu true false) s d2 (y, z) = ch s y * (if z = 0 then 1 else 0)
  | 0, y, z => by cases y <;> simp [itf, d2, ch]
  | s + 1, y, z => by
    simp only [itf, uu]
    rw [uu_s s, uu_s s, ch_s]
    cases y <;> simp <;> split <;> simp
theorem uu_t (s : Nat) : ∀ t y z, itf (uu false true) t (itf (uu true false) s d2) (y, z) = ch s y * ch t z
  | 0, y, z => by
    show itf (uu true false) s d2 (y, z) = _
    rw [uu_s]; cases z <;> simp [ch]
  | t + 1, y, z => by
    simp only [itf, uu]
    rw [uu_t s t, ch_s]
    cases z <;> simp [Nat.mul_add, uu_t s t]
theorem uu_v (f : Nat × Nat → Nat) : ∀ v y z, itf (uu true true) v f (y, z) = itf (stp z1) v (fun y z => f (y, z)) y z
  | 0, y, z => rfl
  | v + 1, y, z => by
    simp only [itf, uu, stp, z1]
    rw [uu_v f v, uu_v f v, uu_v f v]
    simp; omega
theorem OO_eq (s t v y z : Nat) : itf (uu true true) v (itf (uu false true) t (itf (uu true false) s d2)) (y, z) = OO s t v y z := by
  rw [uu_v, bin z1_li]
  refine sm_cong (fun j _ => ?_)
  have : (fun z => itf (uu false true) t (itf (uu true false) s d2) (y - j, z)) = fun z => ch s (y - j) * ch t z := by
    funext z; rw [uu_t]
  show ch v j * itf z1 (v - j) (fun z => itf (uu false true) t (itf (uu true false) s d2) (y - j, z)) z = _
  rw [this, Li_mul (Li_itf z1_li _), z1_ch]
theorem oo_base (b c : Bool) (f : Nat × Nat → Nat) : ∀ k, itf (oo false b c) k (fun x p => if x = 0 then f p else 0) = fun x p => if x = 0 then itf (uu b c) k f p else 0
  | 0 => rfl
  | k + 1 => by
    simp only [itf]
    rw [oo_base b c f k]
    funext x p
    simp only [oo]
    by_cases h : x = 0
    · simp [h]
    · simp only [if_neg h, (uu_li b c).2]; simp
/-- the whole number, of the kinds of bones: k2, k3 .. those whom the seats by the bits may have -/
def PH (k1 k2 k3 k4 k5 k6 k7 x y z : Nat) : Nat := sm (fun a => sm (fun b => sm (fun c => ch k1 a * ch k3 b * ch k5 c * ch k7 (x - a - b - c) * OO (k2 + k3 - b) (k4 + k5 - c) (k6 + k7 - (x - a - b - c)) y z) (x - a - b + 1)) (x - a + 1)) (x + 1)
theorem PH_eq (k1 k2 k3 k4 k5 k6 k7 x y z : Nat) : itf (oo true false false) k1 (itf (oo true true false) k3 (itf (oo true false true) k5 (itf (oo true true true) k7 (itf (oo false true true) k6 (itf (oo false false true) k4 (itf (oo false true false) k2 d3)))))) x (y, z) = PH k1 k2 k3 k4 k5 k6 k7 x y z := by
  have e0 : itf (oo false true true) k6 (itf (oo false false true) k4 (itf (oo false true false) k2 d3)) = fun x p => if x = 0 then itf (uu true true) k6 (itf (uu false true) k4 (itf (uu true false) k2 d2)) p else 0 := by
    unfold d3
    rw [oo_base, oo_base, oo_base]
  have id1 : ∀ n (f : Nat × Nat → Nat), itf (uu false false) n f = f := by
    intro n f
    induction n with
    | zero => rfl
    | succ n ih => simp only [itf]; rw [ih]; funext p; simp [uu]
  rw [e0, oo_stp, oo_stp, oo_stp, oo_stp]
  generalize hf : itf (uu true true) k6 (itf (uu false true) k4 (itf (uu true false) k2 d2)) = f
  have e7 : itf (stp (uu true true)) k7 (fun x p => if x = 0 then f p else 0) = fun x p => ch k7 x * itf (uu true true) (k7 - x) f p := by
    funext x p; exact bin0 (uu_li _ _) f k7 x p
  rw [e7]
  have e5 : itf (stp (uu false true)) k5 (fun x p => ch k7 x * itf (uu true true) (k7 - x) f p) = fun x p => sm (fun c => ch k5 c * (ch k7 (x - c) * itf (uu false true) (k5 - c) (itf (uu true true) (k7 - (x - c)) f) p)) (x + 1) := by
    funext x p
    rw [bin (uu_li _ _)]
    refine sm_cong (fun c _ => ?_)
    show ch k5 c * itf (uu false true) (k5 - c) (fun p => ch k7 (x - c) * itf (uu true true) (k7 - (x - c)) f p) p = _
    rw [Li_mul (Li_itf (uu_li _ _) _)]
  rw [e5]
  have e3 : itf (stp (uu true false)) k3 (fun x p => sm (fun c => ch k5 c * (ch k7 (x - c) * itf (uu false true) (k5 - c) (itf (uu true true) (k7 - (x - c)) f) p)) (x + 1)) = fun x p => sm (fun b => ch k3 b * sm (fun c => ch k5 c * (ch k7 (x - b - c) * itf (uu true false) (k3 - b) (itf (uu false true) (k5 - c) (itf (uu true true) (k7 - (x - b - c)) f)) p)) (x - b + 1)) (x + 1) := by
    funext x p
    rw [bin (uu_li _ _)]
    refine sm_cong (fun b _ => ?_)
    show ch k3 b * itf (uu true false) (k3 - b) (fun p => sm (fun c => ch k5 c * (ch k7 (x - b - c) * itf (uu false true) (k5 - c) (itf (uu true true) (k7 - (x - b - c)) f) p)) (x - b + 1)) p = _
    rw [Li_sm (Li_itf (uu_li _ _) _) (fun c p => ch k5 c * (ch k7 (x - b - c) * itf (uu false true) (k5 - c) (itf (uu true true) (k7 - (x - b - c)) f) p))]
    show ch k3 b * sm _ _ = ch k3 b * sm _ _
    refine congrArg (fun q => ch k3 b * q) (sm_cong (fun c _ => ?_))
    rw [Li_mul (Li_itf (uu_li _ _) _) (fun p => ch k7 (x - b - c) * itf (uu false true) (k5 - c) (itf (uu true true) (k7 - (x - b - c)) f) p)]
    show ch k5 c * itf (uu true false) (k3 - b) (fun p => ch k7 (x - b - c) * itf (uu false true) (k5 - c) (itf (uu true true) (k7 - (x - b - c)) f) p) p = _
    rw [Li_mul (Li_itf (uu_li _ _) _)]
  rw [e3, bin (uu_li _ _)]
  unfold PH
  refine sm_cong (fun a _ => ?_)
  rw [id1]
  show ch k1 a * sm _ _ = _
  rw [← sm_mul]
  refine sm_cong (fun b _ => ?_)
  show ch k1 a * (ch k3 b * sm _ _) = _
  rw [← Nat.mul_assoc, ← sm_mul]
  refine sm_cong (fun c _ => ?_)
  show ch k1 a * ch k3 b * (ch k5 c * (ch k7 (x - a - b - c) * itf (uu true false) (k3 - b) (itf (uu false true) (k5 - c) (itf (uu true true) (k7 - (x - a - b - c)) f)) (y, z))) = _
  rw [← Nat.mul_assoc, ← Nat.mul_assoc]
  generalize x - a - b - c = e
  by_cases hb : b ≤ k3
  · by_cases hc : c ≤ k5
    · by_cases he : e ≤ k7
      · congr 1
        rw [← OO_eq, ← hf]
        have c1 : ∀ F, uu true false (uu true true F) = uu true true (uu true false F) := uu_comm _ _ _ _
        have c2 : ∀ F, uu false true (uu true true F) = uu true true (uu false true F) := uu_comm _ _ _ _
        have c3 : ∀ F, uu true false (uu false true F) = uu false true (uu true false F) := uu_comm _ _ _ _
        rw [itf_comm2 c2, itf_comm2 c1, itf_comm2 c2, itf_comm2 c1, itf_comm2 c3, itf_comm2 c3, ← itf_add, ← itf_add, ← itf_add]
        rw [show k7 - e + k6 = k6 + k7 - e by omega, show k5 - c + k4 = k4 + k5 - c by omega, show k3 - b + k2 = k2 + k3 - b by omega]
      · rw [ch_gt k7 e (by omega)]; simp
    · rw [ch_gt k5 c (by omega)]; simp
  · rw [ch_gt k3 b (by omega)]; simp
theorem gw_PH (u : Nat → Bool) (m : Nat → Nat → Bool) {B : Nat} (h : ∀ i, i < B → u i = true → m i 4 = true) (x y z : Nat) : gw u m B x y z = PH (kd u m true false false B) (kd u m false true false B) (kd u m true true false B) (kd u m false false true B) (kd u m true false true B) (kd u m false true true B) (kd u m true true true B) x y z := by
  rw [← PH_eq, ← gF_eq u m B h]
  rfl
/-! a bone that lies at one place -/
theorem gw_cong {u u' : Nat → Bool} {m m' : Nat → Nat → Bool} : ∀ B, (∀ i, i < B → u' i = u i) → (∀ i, i < B → u i = true → ∀ k, k < 5 → m' i k = m i k) → ∀ x y z, gw u' m' B x y z = gw u m B x y z
  | 0, _, _, x, y, z => rfl
  | B + 1, h1, h2, x, y, z => by
    have ih := gw_cong B (fun i hi => h1 i (by omega)) (fun i hi => h2 i (by omega))
    simp only [gw]
    rw [h1 B (by omega)]
    cases hu : u B with
    | false => simp [ih]
    | true =>
      have q := h2 B (by omega) hu
      rw [q 0 (by omega), q 1 (by omega), q 2 (by omega), q 4 (by omega)]
      simp only [ih]
theorem gw_stock {u u' : Nat → Bool} {m m' : Nat → Nat → Bool} {b : Nat} (hu : ∀ i, i ≠ b → u' i = u i) (hb : u' b = false) (hm : ∀ i, i ≠ b → ∀ k, m' i k = m i k) (h0 : m' b 0 = false) (h1 : m' b 1 = false) (h2 : m' b 2 = false) (h4 : m' b 4 = true) : ∀ B x y z, gw u m' B x y z = gw u' m B x y z
  | 0, x, y, z => rfl
  | B + 1, x, y, z => by
    have ih := gw_stock hu hb hm h0 h1 h2 h4 B
    simp only [gw, ih]
    by_cases e : B = b
    · rw [e, hb, h0, h1, h2, h4]; simp
    · rw [hu B e, hm B e, hm B e, hm B e, hm B e]
theorem gw_at0 {u u' : Nat → Bool} {m m' : Nat → Nat → Bool} {b : Nat} (hub : u b = true) (hu : ∀ i, i ≠ b → u' i = u i) (hb : u' b = false) (hm : ∀ i, i ≠ b → ∀ k, m' i k = m i k) (h1 : m' b 1 = false) (h2 : m' b 2 = false) (h4 : m' b 4 = false) : ∀ B, b < B → ∀ x y z, gw u m' B x y z = if m' b 0 = true ∧ 0 < x then gw u' m B (x - 1) y z else 0
  | 0, h, x, y, z => by omega
  | B + 1, h, x, y, z => by
    by_cases e : B = b
    · subst e
      have c := gw_cong (u := u') (u' := u) (m := m) (m' := m') B (fun i hi => (hu i (by omega)).symm) (fun i hi _ k _ => hm i (by omega) k)
      simp only [gw, c, hub, hb, h1, h2, h4]; simp
    · have ih := gw_at0 hub hu hb hm h1 h2 h4 B (by omega)
      simp only [gw, ih, hu B e, hm B e]
      cases u B <;> cases m B 0 <;> cases m B 1 <;> cases m B 2 <;> cases m B 4 <;> cases m' b 0 <;> cases x <;> cases y <;> cases z <;> simp
theorem gw_at1 {u u' : Nat → Bool} {m m' : Nat → Nat → Bool} {b : Nat} (hub : u b = true) (hu : ∀ i, i ≠ b → u' i = u i) (hb : u' b = false) (hm : ∀ i, i ≠ b → ∀ k, m' i k = m i k) (h1 : m' b 0 = false) (h2 : m' b 2 = false) (h4 : m' b 4 = false) : ∀ B, b < B → ∀ x y z, gw u m' B x y z = if m' b 1 = true ∧ 0 < y then gw u' m B x (y - 1) z else 0
  | 0, h, x, y, z => by omega
  | B + 1, h, x, y, z => by
    by_cases e : B = b
    · subst e
      have c := gw_cong (u := u') (u' := u) (m := m) (m' := m') B (fun i hi => (hu i (by omega)).symm) (fun i hi _ k _ => hm i (by omega) k)
      simp only [gw, c, hub, hb, h1, h2, h4]; simp
    · have ih := gw_at1 hub hu hb hm h1 h2 h4 B (by omega)
      simp only [gw, ih, hu B e, hm B e]
      cases u B <;> cases m B 0 <;> cases m B 1 <;> cases m B 2 <;> cases m B 4 <;> cases m' b 1 <;> cases x <;> cases y <;> cases z <;> simp
theorem gw_at2 {u u' : Nat → Bool} {m m' : Nat → Nat → Bool} {b : Nat} (hub : u b = true) (hu : ∀ i, i ≠ b → u' i = u i) (hb : u' b = false) (hm : ∀ i, i ≠ b → ∀ k, m' i k = m i k) (h1 : m' b 0 = false) (h2 : m' b 1 = false) (h4 : m' b 4 = false) : ∀ B, b < B → ∀ x y z, gw u m' B x y z = if m' b 2 = true ∧ 0 < z then gw u' m B x y (z - 1) else 0
  | 0, h, x, y, z => by omega
  | B + 1, h, x, y, z => by
    by_cases e : B = b
    · subst e
      have c := gw_cong (u := u') (u' := u) (m := m) (m' := m') B (fun i hi => (hu i (by omega)).symm) (fun i hi _ k _ => hm i (by omega) k)
      simp only [gw, c, hub, hb, h1, h2, h4]; simp
    · have ih := gw_at2 hub hu hb hm h1 h2 h4 B (by omega)
      simp only [gw, ih, hu B e, hm B e]
      cases u B <;> cases m B 0 <;> cases m B 1 <;> cases m B 2 <;> cases m B 4 <;> cases m' b 2 <;> cases x <;> cases y <;> cases z <;> simp
