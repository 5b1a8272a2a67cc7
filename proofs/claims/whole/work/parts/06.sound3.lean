/-! one step of the abstract machine is a step of the real one -/
def dk_ty (ca : Nat → ClassId) : List (ClassId × FieldType) := [(ca 0, .int), (ca 1, .long), (ca 2, .boolean)]
def dk_Tab (sc : Nat × (Nat → Int32)) (ad : Nat → Nat) (A : Nat → Prop) (U : State) : Prop := ∀ (r N : Nat) (f : Nat → Int32), dk_tb sc r = some (N, f) → va_T .int (ad r) N (fun j => .int (f j)) A U U.heap
def dk_Sta (ad : Nat → Nat) (A : Nat → Prop) (U : State) : Prop := va_Z "DominoParlour" "LOW" "[I" (.ref (ad 1000)) A U U.heap ∧ va_Z "DominoParlour" "HIGH" "[I" (.ref (ad 1001)) A U U.heap
def dk_Nst (U : State) : Prop := ∀ w ∈ lw_tbl, dk_isN w = true → va_Nw w U
def dk_ws (y : Nat) : List Jvm.Cond := Jvm.Cond.code (dk_nm y) (dk_by y) (dk_ml y) (dk_re y) :: dk_good
def dk_rm (d y : Nat) : Room := { frames := d, cells := (dk_lim y).1, slots := (dk_lim y).2, locals := 64 * d }
def dk_Pre (sc : Nat × (Nat → Int32)) (D : va_G) (ca : Nat → ClassId) (ad : Nat → Nat) (av : List Value) (M : dk_M) (sz : Nat) : Array Value → State → Prop := va_Pc (av.map (dk_cv ad)) (fun U => U.heap.size = sz ∧ va_P D dk_cl (dk_cw ad ca M) U.heap ∧ va_K D dk_cl (dk_ty ca) U ∧ va_D (fun _ => True) (dk_cw ad ca M) ∧ dk_Tab sc ad (va_A (dk_cw ad ca M) sz) U ∧ dk_Sta ad (va_A (dk_cw ad ca M) sz) U ∧ dk_Nst U)
def dk_Post (D : va_G) (ca : Nat → ClassId) (ad : Nat → Nat) (n0 mc : Nat) (r : Option Value) (M' : dk_M) (A : Nat → Prop) : Array Value → State → Outcome → State → Prop := fun _ st o t => (∃ ad' : Nat → Nat, o = .returned (r.map (dk_cv ad')) ∧ (mc = 0 → ad' = ad) ∧ dk_agr n0 ad ad' ∧ n0 ≤ M'.length ∧ va_P D dk_cl (dk_cw ad' ca M') t.heap ∧ va_K D dk_cl (dk_ty ca) t ∧ va_D A (dk_cw ad' ca M')) ∧ va_F A st t
def dk_Met (l : Launch) (sc : Nat × (Nat → Int32)) (D : va_G) (ca : Nat → ClassId) (d y : Nat) (av : List Value) (M : dk_M) (r : Option Value) (M' : dk_M) : Prop := ∀ (ad : Nat → Nat) (sz : Nat), Met l (dk_nm y) (dk_ws y) (dk_rm d y) (dk_Pre sc D ca ad av M sz) (dk_Post D ca ad M.length (dk_lim y).1 r M' (va_A (dk_cw ad ca M) sz)) (dk_lim y).1 (dk_lim y).2 (va_A (dk_cw ad ca M) sz)
def dk_CallOk (l : Launch) (sc : Nat × (Nat → Int32)) (D : va_G) (ca : Nat → ClassId) (d : Nat) (call : Nat → List Value → dk_M → dk_Res) : Prop := ∀ y av M r M', call y av M = some (r, M') → dk_mok y = true ∧ Jvm.Cond.code (dk_nm y) (dk_by y) (dk_ml y) (dk_re y) ∈ dk_good ∧ dk_Met l sc D ca d y av M r M'
theorem dk_gw_mem {w : Jvm.Cond} (h : dk_gw w = true) : w ∈ dk_good := by
  unfold dk_gw at h
  rw [Bool.and_eq_true, decide_eq_true_eq] at h
  exact List.mem_filter.mpr ⟨h.1, h.2⟩
theorem dk_goodIn (y : Nat) (h : Jvm.Cond.code (dk_nm y) (dk_by y) (dk_ml y) (dk_re y) ∈ dk_good) : GoodIn dk_good (dk_ws y) := by
  have key : ∀ w ∈ dk_good, w ∈ dk_good ∧ ((w.onTables && w.keeps) = true ∨ ∃ ty, w = .arrayClass ty) := fun w hw => ⟨hw, good_of_word (List.mem_filter.mp hw).2⟩
  intro w hw
  rcases List.mem_cons.mp hw with rfl | hw
  · exact key _ h
  · exact key _ hw
theorem dk_Nst_warm {s U : State} (h : dk_Nst s) (hW : s.WarmedH U.vm) : dk_Nst U := by
  intro w hw hn
  have h1 := h w hw hn
  cases w with
  | fieldLinkNest a i b n d o => exact va_Nw.warmF hW h1
  | methodLinkNest a i x o => exact va_Nw.warmM hW h1
  | _ => simp [dk_isN] at hn
theorem dk_Nst_same {s U : State} (h : dk_Nst s) (hv : s.vm = U.vm) : dk_Nst U := by
  intro w hw hn
  have h1 := h w hw hn
  cases w with
  | fieldLinkNest a i b n d o => exact va_Nw.same rfl hv h1
  | methodLinkNest a i x o => exact va_Nw.same rfl hv h1
  | _ => simp [dk_isN] at hn
theorem dk_Tab_ad {sc : Nat × (Nat → Int32)} {n : Nat} {ad ad' : Nat → Nat} {A : Nat → Prop} {U : State} (h : dk_Tab sc ad A U) (hg : dk_agr n ad ad') : dk_Tab sc ad' A U := by
  intro r N f hr
  have h1 : 1000 ≤ r := by
    unfold dk_tb at hr
    split at hr <;> first | omega | cases hr
  rw [hg r (Or.inr h1)]
  exact h r N f hr
theorem dk_Sta_ad {n : Nat} {ad ad' : Nat → Nat} {A : Nat → Prop} {U : State} (h : dk_Sta ad A U) (hg : dk_agr n ad ad') : dk_Sta ad' A U := by
  unfold dk_Sta
  rw [hg 1000 (Or.inr (by omega)), hg 1001 (Or.inr (by omega))]
  exact h
/-- the tables at another heap and under warmer class tables, for a callee's own cells -/
theorem dk_Tab_at {sc : Nat × (Nat → Int32)} {ad : Nat → Nat} {A B : Nat → Prop} {s U : State} {H : Heap} {locs : List Loc} (h : dk_Tab sc ad A s) (hvm : s.vm.Alike U.vm) (hH : U.heap = H) (hS : va_S A s.heap H locs) (hAB : ∀ q, B q → A q) : dk_Tab sc ad B U := by
  intro r N f hr
  rw [hH]
  exact va_T.narrow (va_T.kept (va_T.moved hvm (h r N f hr)) (fun a h1 h2 => hS.2.1 a h1 h2)) hAB
theorem dk_Sta_at {ad : Nat → Nat} {A B : Nat → Prop} {s U : State} {H : Heap} {locs : List Loc} (h : dk_Sta ad A s) (hvm : s.vm.Alike U.vm) (hH : U.heap = H) (hS : va_S A s.heap H locs) (hAB : ∀ q, B q → A q) : dk_Sta ad B U := by
  unfold dk_Sta
  rw [hH]
  exact ⟨va_Z.narrow (va_Z.kept (va_Z.moved hvm h.1) (fun a h1 h2 => hS.2.1 a h1 h2)) hAB, va_Z.narrow (va_Z.kept (va_Z.moved hvm h.2) (fun a h1 h2 => hS.2.1 a h1 h2)) hAB⟩
theorem dk_Pre_blind (sc : Nat × (Nat → Int32)) (D : va_G) (ca : Nat → ClassId) (ad : Nat → Nat) (av : List Value) (M : dk_M) (sz : Nat) : FrameBlind (dk_Pre sc D ca ad av M sz) := by
  intro a U g mk q
  obtain ⟨q0, q1, qP, qK, qD, qT, qZ, qN⟩ := q
  exact ⟨q0, q1, qP, va_K.moved (u := U) (U := U.calling g mk a) (Vm.Alike.refl U.vm) qK, qD, fun r N f hr => va_T.moved (u := U) (U := U.calling g mk a) (Vm.Alike.refl U.vm) (qT r N f hr), ⟨va_Z.moved (u := U) (U := U.calling g mk a) (Vm.Alike.refl U.vm) qZ.1, va_Z.moved (u := U) (U := U.calling g mk a) (Vm.Alike.refl U.vm) qZ.2⟩, dk_Nst_same (s := U) (U := U.calling g mk a) qN rfl⟩
theorem dk_clok : ∀ (ci : Nat) (C : String) (T : u_T) (N : Nat), dk_cl[ci]? = some (C, T, N) → ∃ ty : Nat → FieldType, (∀ k, k < N → parseFieldDescriptor (T k).2.2.1 = some (ty k)) ∧ (∀ a, a < N → ∀ b, b < N → a ≠ b → (T a).2.1 ≠ (T b).2.1) ∧ (∀ w ∈ u_ws C T N, w ∈ dk_good) ∧ Jvm.Cond.instantiable C N ∈ dk_good ∧ Jvm.Cond.initialized C ∈ dk_good ∧ (∀ j, j < N → defaultValue (ty j) = vp_V (dk_def ci) j) := by
  intro ci C T N h
  match ci, h with
  | 0, h => cases h; exact ⟨tyX0, tyX0_ok, nmX0, by decide +kernel, by decide +kernel, by decide +kernel, by decide +kernel⟩
  | 1, h => cases h; exact ⟨tyX1, tyX1_ok, nmX1, by decide +kernel, by decide +kernel, by decide +kernel, by decide +kernel⟩
  | 2, h => cases h; exact ⟨tyX2, tyX2_ok, nmX2, by decide +kernel, by decide +kernel, by decide +kernel, by decide +kernel⟩
  | 3, h => cases h; exact ⟨tyX3, tyX3_ok, nmX3, by decide +kernel, by decide +kernel, by decide +kernel, by decide +kernel⟩
  | 4, h => cases h; exact ⟨tyX4, tyX4_ok, nmX4, by decide +kernel, by decide +kernel, by decide +kernel, by decide +kernel⟩
  | 5, h => cases h; exact ⟨tyX5, tyX5_ok, nmX5, by decide +kernel, by decide +kernel, by decide +kernel, by decide +kernel⟩
  | 6, h => cases h; exact ⟨tyX6, tyX6_ok, nmX6, by decide +kernel, by decide +kernel, by decide +kernel, by decide +kernel⟩
  | n + 7, h => simp at h
section DKS
variable {p : Program} {l : Launch} {e : Env} {R : Room} {s : State} {m : MethodId} {args : Array Value} {below : List Frame} {meth : Method} {c : Code} {Q : State → Prop}
def dk_Fix (p : Program) (R : Room) (s : State) (m : MethodId) (args : Array Value) (meth : Method) (c : Code) (cc : ByteArray) (own : String) (ini : Bool) (nL mc ms d : Nat) (sc : Nat × (Nat → Int32)) (D : va_G) (ca : Nat → ClassId) (A : Nat → Prop) (ad0 : Nat → Nat) : Prop :=
  p.tables.exec = Jvm.exec ∧ c.code = cc ∧ c.maxLocals = nL ∧ s.vm.findClass own = some m.cls ∧ (∀ w ∈ dk_good, w.before args s = true) ∧ dk_Nst s ∧ va_K D dk_cl (dk_ty ca) s ∧ (∀ q, s.heap.size ≤ q → A q) ∧ (ini = true → meth.name = "<init>") ∧ dk_Tab sc ad0 A s ∧ dk_Sta ad0 A s ∧ d + 1 ≤ R.frames ∧ 64 * (d + 1) ≤ R.locals ∧ mc ≤ R.cells ∧ ms ≤ R.slots
def dk_Inv (s : State) (mc ms : Nat) (D : va_G) (ca : Nat → ClassId) (A : Nat → Prop) (ad0 : Nat → Nat) (n0 : Nat) (ad : Nat → Nat) (M : dk_M) (H : Heap) (locs : List Loc) (nc ns : Nat) : Prop :=
  va_P D dk_cl (dk_cw ad ca M) H ∧ va_D A (dk_cw ad ca M) ∧ va_S A s.heap H locs ∧ (mc = 0 → ad = ad0) ∧ dk_agr n0 ad0 ad ∧ n0 ≤ M.length ∧ nc ≤ mc ∧ ns ≤ ms
def dk_Go (p : Program) (l : Launch) (e : Env) (R : Room) (s : State) (m : MethodId) (args : Array Value) (below : List Frame) (meth : Method) (c : Code) (Q : State → Prop) (nL mc ms : Nat) (D : va_G) (ca : Nat → ClassId) (A : Nat → Prop) (ad0 : Nat → Nat) (n0 : Nat) (pc : Nat) (loc : dk_L) (st : List Value) (M : dk_M) (nc ns : Nat) : Prop :=
  ∀ (ad : Nat → Nat) (H : Heap) (locs : List Loc) (ls : Array Slot), lv_has ls nL (dk_en ad loc) → dk_Inv s mc ms D ca A ad0 n0 ad M H locs nc ns → W p l e R s m args below meth c H locs nc ns Q (F0 m pc ls (st.map (dk_cv ad)))
def dk_Rh (p : Program) (l : Launch) (e : Env) (R : Room) (s : State) (m : MethodId) (args : Array Value) (below : List Frame) (meth : Method) (c : Code) (Q : State → Prop) (cc : ByteArray) (rt mc ms : Nat) (D : va_G) (ca : Nat → ClassId) (A : Nat → Prop) (ad0 : Nat → Nat) (n0 : Nat) (res : Option Value × dk_M) : Prop :=
  ∀ (v : Option Value) (M : dk_M) (ad : Nat → Nat) (H : Heap) (locs : List Loc) (ls : Array Slot) (pc nc ns : Nat), res = (v, M) → dk_Inv s mc ms D ca A ad0 n0 ad M H locs nc ns →
    ((rt = 0 ∧ v = none ∧ decode cc pc = .ok (.return_, 1)) ∨ (rt = 1 ∧ ∃ x : Int32, v = some (.int x) ∧ decode cc pc = .ok (.ireturn, 1)) ∨ (rt = 2 ∧ ∃ x : Int32, v = some (.int x) ∧ x &&& 1 = x ∧ decode cc pc = .ok (.ireturn, 1)) ∨ (rt = 3 ∧ ∃ x : Int64, v = some (.long x) ∧ decode cc pc = .ok (.lreturn, 1))) →
    W p l e R s m args below meth c H locs nc ns Q (F0 m pc ls v.toList)
/-- behind a call -/
theorem dk_callW {D : va_G} {ca : Nat → ClassId} {ad : Nat → Nat} {n0 mcY : Nat} {r : Option Value} {M' : dk_M} {A0 A1 : Nat → Prop} {H H0 : Heap} {locs : List Loc} {cells slots mcc mss pc : Nat} {ls : Array Slot} {st0 rest : List Value} {a : Array Value} {free : Addr → Prop}
    (hr : va_Run p l e R s m args below meth c H locs cells slots mcc mss (F0 m pc ls st0) rest (dk_Post D ca ad n0 mcY r M' A1 a) free) (hS : va_S A0 H0 H locs) (hA : ∀ q, q < H.size → A1 q → A0 q) (hf : ∀ q, free q → A0 q)
    (kk : ∀ (ad' : Nat → Nat) (t : State) (H1 : Heap) (locs1 : List Loc), t.heap = H1 → s.vm.Alike t.vm → (mcY = 0 → ad' = ad) → dk_agr n0 ad ad' → n0 ≤ M'.length → va_P D dk_cl (dk_cw ad' ca M') H1 → va_D A1 (dk_cw ad' ca M') → va_S A0 H0 H1 locs1 → W p l e R s m args below meth c H1 locs1 (cells + mcc) (slots + mss) Q (F0 m (pc + 3) ls ((r.map (dk_cv ad')).toList ++ rest))) : W p l e R s m args below meth c H locs cells slots Q (F0 m pc ls st0) := by
  intro T hT X
  obtain ⟨v, st₀, t, T', L, h0, X', hL, e1, e2, ⟨⟨ad', hv, q1, q2, q3, q4, q5, q6⟩, hz, hk⟩, st⟩ := hr T hT X
  cases hv
  rw [h0] at hz hk
  obtain ⟨t2, a1, b1⟩ := kk ad' t T'.heap (locs ++ L) e1.symm (by rw [← e2]; exact X'.warmed.alike) q1 q2 q3 (by rw [e1]; exact q4) q6
    ⟨Nat.le_trans hS.1 (by rw [e1]; exact hz), fun q h1 h2 => by rw [e1, hk q (Nat.lt_of_lt_of_le h1 hS.1) (fun z => h2 (hA q (Nat.lt_of_lt_of_le h1 hS.1) z))]; exact hS.2.1 q h1 h2, fun q hq => by
      rcases List.mem_append.mp hq with h | h
      · exact hS.2.2 q h
      · exact hf _ (hL q h)⟩ T' rfl X'
  exact ⟨t2, st t2 a1, b1⟩
end DKS
