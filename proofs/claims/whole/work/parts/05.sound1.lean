/-! from the abstract machine to the real one: values, locals, cells -/
def dk_isN : Jvm.Cond → Bool
  | .fieldLinkNest .. => true
  | .methodLinkNest .. => true
  | _ => false
def dk_good : List Jvm.Cond := lw_tbl.filter goodWord
def dk_cv (ad : Nat → Nat) : Value → Value
  | .ref i => .ref (ad i)
  | v => v
def dk_ce (ad : Nat → Nat) (ca : Nat → ClassId) : dk_C → va_E
  | .inl q => .inl (ca q.1, q.2)
  | .inr o => .inr (o.1, o.2.map (dk_cv ad))
def dk_cw (ad : Nat → Nat) (ca : Nat → ClassId) (M : dk_M) : va_W := M.mapIdx (fun i c => (ad i, dk_ce ad ca c))
theorem dk_cw_get (ad : Nat → Nat) (ca : Nat → ClassId) (M : dk_M) (i : Nat) : (dk_cw ad ca M)[i]? = (M[i]?).map (fun c => (ad i, dk_ce ad ca c)) := by
  simp [dk_cw]
theorem dk_cw_at {ad : Nat → Nat} {ca : Nat → ClassId} {M : dk_M} {i : Nat} {c : dk_C} (h : M[i]? = some c) : (dk_cw ad ca M)[i]? = some (ad i, dk_ce ad ca c) := by
  rw [dk_cw_get, h]; rfl
theorem dk_cw_len (ad : Nat → Nat) (ca : Nat → ClassId) (M : dk_M) : (dk_cw ad ca M).length = M.length := by simp [dk_cw]
theorem dk_cw_set (ad : Nat → Nat) (ca : Nat → ClassId) (M : dk_M) (i : Nat) (c : dk_C) : dk_cw ad ca (M.set i c) = (dk_cw ad ca M).set i (ad i, dk_ce ad ca c) := by
  apply List.ext_getElem?
  intro j
  rw [dk_cw_get, List.getElem?_set, List.getElem?_set, dk_cw_get, dk_cw_len]
  by_cases h : i = j
  · subst h
    by_cases h2 : i < M.length
    · simp [h2]
    · simp [h2]
  · simp [h]
theorem dk_cw_app (ad : Nat → Nat) (ca : Nat → ClassId) (M : dk_M) (c : dk_C) : dk_cw ad ca (M ++ [c]) = dk_cw ad ca M ++ [(ad M.length, dk_ce ad ca c)] := by
  simp [dk_cw, List.mapIdx_append]
theorem dk_cv_cat (ad : Nat → Nat) (v : Value) : (dk_cv ad v).category = v.category := by cases v <;> rfl
def dk_agr (n : Nat) (ad ad' : Nat → Nat) : Prop := ∀ i, i < n ∨ 1000 ≤ i → ad' i = ad i
theorem dk_wv_cv {n : Nat} {ad ad' : Nat → Nat} (h : dk_agr n ad ad') {v : Value} (hv : dk_wv n v = true) : dk_cv ad' v = dk_cv ad v := by
  cases v with
  | ref i =>
    have : i < n ∨ 1000 ≤ i := by
      simp only [dk_wv, Bool.or_eq_true] at hv
      rcases hv with hv | hv
      · exact Or.inl (Nat.blt_eq.mp hv)
      · exact Or.inr (Nat.ble_eq.mp hv)
    simp [dk_cv, h i this]
  | _ => rfl
theorem dk_map_cv {n : Nat} {ad ad' : Nat → Nat} (h : dk_agr n ad ad') {l : List Value} (hl : l.all (dk_wv n) = true) : l.map (dk_cv ad') = l.map (dk_cv ad) :=
  List.map_congr_left fun v hv => dk_wv_cv h (List.all_eq_true.mp hl v hv)
theorem dk_cw_cong {n : Nat} {ad ad' : Nat → Nat} {ca : Nat → ClassId} (h : dk_agr n ad ad') {M : dk_M} (hn : M.length ≤ n) (hl : M.all (dk_wc n) = true) : dk_cw ad' ca M = dk_cw ad ca M := by
  apply List.ext_getElem?
  intro j
  rw [dk_cw_get, dk_cw_get]
  cases hj : M[j]? with
  | none => rfl
  | some c =>
    have hlt : j < M.length := (List.getElem?_eq_some_iff.mp hj).1
    have hc := List.all_eq_true.mp hl c (List.mem_of_getElem? hj)
    simp only [Option.map_some]
    rw [h j (Or.inl (by omega))]
    cases c with
    | inl q => rfl
    | inr o =>
      simp only [dk_wc] at hc
      simp only [dk_ce]
      rw [dk_map_cv h hc]
def dk_en (ad : Nat → Nat) (loc : dk_L) : List (Nat × Value) := loc.zipIdx.filterMap (fun q => q.1.map (fun v => (q.2, dk_cv ad v)))
theorem dk_en_mem {ad : Nat → Nat} {loc : dk_L} {j : Nat} {w : Value} : (j, w) ∈ dk_en ad loc ↔ ∃ v, loc[j]? = some (some v) ∧ w = dk_cv ad v := by
  constructor
  · intro h
    obtain ⟨⟨o, i⟩, h1, h2⟩ := List.mem_filterMap.mp h
    have h3 := List.mem_zipIdx_iff_getElem?.mp h1
    cases o with
    | none => simp at h2
    | some v =>
      simp at h2 h3
      obtain ⟨rfl, rfl⟩ := h2
      exact ⟨v, h3, rfl⟩
  · rintro ⟨v, h1, rfl⟩
    exact List.mem_filterMap.mpr ⟨(some v, j), List.mem_zipIdx_iff_getElem?.mpr (by simpa using h1), rfl⟩
theorem dk_look {ls : Array Slot} {nL : Nat} {ad : Nat → Nat} {loc : dk_L} (h : lv_has ls nL (dk_en ad loc)) {a : Nat} {v : Value} (hv : loc[a]? = some (some v)) : ls[a]? = some (.val (dk_cv ad v)) := h.2.2 (a, dk_cv ad v) (dk_en_mem.mpr ⟨v, hv, rfl⟩)
theorem dk_sub {ls : Array Slot} {nL : Nat} {l l' : List (Nat × Value)} (h : lv_has ls nL l) (hs : ∀ q ∈ l', q ∈ l) : lv_has ls nL l' := ⟨h.1, h.2.1, fun q hq => h.2.2 q (hs q hq)⟩
theorem dk_clr_get {loc : dk_L} {a j : Nat} {x : Value} (h : (dk_clr loc a)[j]? = some (some x)) : loc[j]? = some (some x) ∧ ¬ (j + 1 = a ∧ x.category = 2) := by
  cases a with
  | zero => exact ⟨h, fun q => by omega⟩
  | succ b =>
    have key : (loc.set b none)[j]? = some (some x) → loc[j]? = some (some x) ∧ ¬ (j + 1 = b + 1 ∧ x.category = 2) := by
      intro h
      by_cases hj : b = j
      · subst hj
        by_cases hl : b < loc.length
        · rw [List.getElem?_set_self hl] at h
          cases h
        · rw [List.getElem?_eq_none (by simpa using hl)] at h
          cases h
      · rw [List.getElem?_set_ne hj] at h
        exact ⟨h, fun q => hj (by omega)⟩
    unfold dk_clr at h
    split at h
    · rename_i heq; cases heq
    · rename_i b' heq
      cases heq
      split at h
      · exact key h
      · exact key h
      · rename_i h1 h2
        refine ⟨h, fun q => ?_⟩
        obtain ⟨q1, q2⟩ := q
        have : j = b := by omega
        subst this
        cases x with
        | long y => exact h1 y h
        | double y => exact h2 y h
        | _ => simp [Value.category] at q2
theorem dk_s1_en {ad : Nat → Nat} {loc : dk_L} {a : Nat} {v : Value} : ∀ q ∈ dk_en ad (dk_s1 loc a v), q ∈ (a, dk_cv ad v) :: (dk_en ad loc).filter (fun q => !(q.1 == a) && !(q.1 + 1 == a && q.2.category == 2)) := by
  rintro ⟨j, w⟩ h
  obtain ⟨x, h1, rfl⟩ := dk_en_mem.mp h
  unfold dk_s1 at h1
  by_cases hj : a = j
  · subst hj
    by_cases hl : a < (dk_clr loc a).length
    · rw [List.getElem?_set_self hl] at h1
      cases h1
      exact List.mem_cons_self
    · rw [List.getElem?_eq_none (by simpa using hl)] at h1
      cases h1
  · rw [List.getElem?_set_ne hj] at h1
    obtain ⟨h2, h3⟩ := dk_clr_get h1
    refine List.mem_cons_of_mem _ (List.mem_filter.mpr ⟨dk_en_mem.mpr ⟨x, h2, rfl⟩, ?_⟩)
    simp only [Bool.and_eq_true, Bool.not_eq_true', beq_eq_false_iff_ne, ne_eq, Bool.and_eq_false_iff, dk_cv_cat]
    refine ⟨fun z => hj z.symm, ?_⟩
    by_cases z : j + 1 = a
    · exact Or.inr (fun z2 => h3 ⟨z, z2⟩)
    · exact Or.inl z
theorem dk_s2_en {ad : Nat → Nat} {loc : dk_L} {a : Nat} {v : Value} : ∀ q ∈ dk_en ad (dk_s2 loc a v), q ∈ (a, dk_cv ad v) :: (dk_en ad loc).filter (fun q => !(q.1 == a) && (!(q.1 == a + 1) && !(q.1 + 1 == a && q.2.category == 2))) := by
  rintro ⟨j, w⟩ h
  obtain ⟨x, h1, rfl⟩ := dk_en_mem.mp h
  unfold dk_s2 at h1
  by_cases hj2 : a + 1 = j
  · subst hj2
    by_cases hl : a + 1 < ((dk_clr loc a).set a (some v)).length
    · rw [List.getElem?_set_self hl] at h1
      cases h1
    · rw [List.getElem?_eq_none (by simpa using hl)] at h1
      cases h1
  rw [List.getElem?_set_ne hj2] at h1
  by_cases hj : a = j
  · subst hj
    by_cases hl : a < (dk_clr loc a).length
    · rw [List.getElem?_set_self hl] at h1
      cases h1
      exact List.mem_cons_self
    · rw [List.getElem?_eq_none (by simpa using hl)] at h1
      cases h1
  · rw [List.getElem?_set_ne hj] at h1
    obtain ⟨h2, h3⟩ := dk_clr_get h1
    refine List.mem_cons_of_mem _ (List.mem_filter.mpr ⟨dk_en_mem.mpr ⟨x, h2, rfl⟩, ?_⟩)
    simp only [Bool.and_eq_true, Bool.not_eq_true', beq_eq_false_iff_ne, ne_eq, Bool.and_eq_false_iff, dk_cv_cat]
    refine ⟨fun z => hj z.symm, fun z => hj2 z.symm, ?_⟩
    by_cases z : j + 1 = a
    · exact Or.inr (fun z2 => h3 ⟨z, z2⟩)
    · exact Or.inl z
theorem dk_cut_get : ∀ (loc : dk_L) (bs : List Bool) (j : Nat) (v : Value), (dk_cut bs loc)[j]? = some (some v) → loc[j]? = some (some v)
  | [], bs, j, v, h => by simp [dk_cut] at h
  | o :: l, [], j, v, h => by
    cases j with
    | zero => simp [dk_cut] at h
    | succ j => simp only [dk_cut, List.getElem?_cons_succ] at h ⊢; exact dk_cut_get l [] j v h
  | o :: l, b :: bs, j, v, h => by
    cases j with
    | zero =>
      cases b
      · simp [dk_cut] at h
      · simpa [dk_cut] using h
    | succ j => simp only [dk_cut, List.getElem?_cons_succ] at h ⊢; exact dk_cut_get l bs j v h
theorem dk_cut_en {ad : Nat → Nat} {loc : dk_L} {bs : List Bool} : ∀ q ∈ dk_en ad (dk_cut bs loc), q ∈ dk_en ad loc := by
  rintro ⟨j, w⟩ h
  obtain ⟨x, h1, rfl⟩ := dk_en_mem.mp h
  exact dk_en_mem.mpr ⟨x, dk_cut_get _ _ _ _ h1, rfl⟩
theorem dk_en_cong {n : Nat} {ad ad' : Nat → Nat} (h : dk_agr n ad ad') {loc : dk_L} (hl : loc.all (dk_wo n) = true) : ∀ q ∈ dk_en ad' loc, q ∈ dk_en ad loc := by
  rintro ⟨j, w⟩ hq
  obtain ⟨x, h1, rfl⟩ := dk_en_mem.mp hq
  refine dk_en_mem.mpr ⟨x, h1, ?_⟩
  have := List.all_eq_true.mp hl (some x) (List.mem_of_getElem? h1)
  exact dk_wv_cv h this
theorem dk_pos_get (ad : Nat → Nat) : ∀ (av : List Value) (i j : Nat) (v : Value), (dk_pos av)[j]? = some (some v) → (i + j, dk_cv ad v) ∈ lv_args i (av.map (dk_cv ad))
  | [], i, j, v, h => by simp [dk_pos] at h
  | u :: us, i, j, v, h => by
    have key : ∀ (c : Nat), (if (dk_cv ad u).category = 2 then i + 2 else i + 1) = i + 1 + c → ∀ j', j = j' + 1 + c → (dk_pos us)[j']? = some (some v) → (i + j, dk_cv ad v) ∈ lv_args i ((u :: us).map (dk_cv ad)) := by
      intro c hc j' hj h2
      have := dk_pos_get ad us (i + 1 + c) j' v h2
      simp only [List.map_cons, lv_args]
      refine List.mem_cons_of_mem _ ?_
      rw [hc]
      have e : i + j = i + 1 + c + j' := by omega
      rw [e]
      exact this
    cases j with
    | zero =>
      have : u = v := by cases u <;> simp [dk_pos] at h <;> exact h
      subst this
      simp [lv_args]
    | succ j =>
      cases u with
      | long y =>
        cases j with
        | zero => simp [dk_pos] at h
        | succ j => exact key 1 (by simp [dk_cv, Value.category]) j (by omega) (by simpa [dk_pos] using h)
      | double y =>
        cases j with
        | zero => simp [dk_pos] at h
        | succ j => exact key 1 (by simp [dk_cv, Value.category]) j (by omega) (by simpa [dk_pos] using h)
      | _ => exact key 0 (by simp [dk_cv, Value.category]) j (by omega) (by simpa [dk_pos] using h)
theorem dk_ent0_en {ad : Nat → Nat} {n : Nat} {av : List Value} : ∀ q ∈ dk_en ad (dk_ent0 n av), q ∈ lv_args 0 (av.map (dk_cv ad)) := by
  rintro ⟨j, w⟩ h
  obtain ⟨x, h1, rfl⟩ := dk_en_mem.mp h
  unfold dk_ent0 at h1
  by_cases hj : j < (dk_pos av).length
  · rw [List.getElem?_append_left hj] at h1
    have := dk_pos_get ad av 0 j x h1
    rwa [Nat.zero_add] at this
  · rw [List.getElem?_append_right (by omega), List.getElem?_replicate] at h1
    split at h1 <;> cases h1
theorem dk_pos_len (ad : Nat → Nat) : ∀ av : List Value, (lg_sl (av.map (dk_cv ad))).length = (dk_pos av).length
  | [] => rfl
  | u :: us => by
    have ih := dk_pos_len ad us
    have e : lg_sl ((u :: us).map (dk_cv ad)) = (if (dk_cv ad u).category = 2 then [.val (dk_cv ad u), .second] else [.val (dk_cv ad u)]) ++ lg_sl (us.map (dk_cv ad)) := by
      simp [lg_sl]
    rw [e, List.length_append, ih]
    cases u with
    | long y => simp [dk_pos, dk_cv, Value.category]; omega
    | double y => simp [dk_pos, dk_cv, Value.category]; omega
    | _ => simp [dk_pos, dk_cv, Value.category]; omega
