-- ===== end of PART A; then your names; then what follows =====
/-! THE CLAIM OUT OF ONE WALK OF THE LAW'S BODY. Your part is whole_start (and what it stands on); all else here is the same for every law, but numbers. -/
def R_law : String := "DominoParlourLaw"
def lw_P (b : Addr) (xs : List Int32) (args : Array Value) (s : State) : Prop := args = #[.ref b] ∧ s.IntsAt b xs ∧ xs.length ≤ 2051 ∧ (Jvm.Cond.and given_1 narrow_1).before args s = true
def lw_Q (_ : Array Value) (s : State) (o : Outcome) (t : State) : Prop := o = .returned (some (.int 1)) ∧ Framed s o t [] 600000 7302250
def lw_Z (below : List Frame) (a : Array Value) (s : State) : State → Prop := fun t => ∃ o, t.status = .running ∧ Ended t below o ∧ lw_Q a s o t
/-- the law's own end, with 1 on the stack, nothing written that was there before, its room as the claim has it -/
theorem lw_ret {p : Program} {l : Launch} {e : Env} {s : State} {m : MethodId} {below : List Frame} {meth : Method} {c : Code} {b : Nat} (hx : p.tables.exec = Jvm.exec) (hb : c.code = code) (hr : meth.sig.returnType = ret) (hlocks : meth.locks = false) {pc : Nat} {H : Heap} {ls : Array Slot} (hdg : decode code pc = .ok (.ireturn, 1)) : W p l e room_1 s m #[Value.ref b] below meth c H [] 600000 7302250 (lw_Z below #[Value.ref b] s) (F0 m pc ls [.int 1]) := by
  intro T hT X
  obtain ⟨fs, hret, hrun, hended, hW, hframe⟩ := X.leave (v := some (.int 1)) (hlocks := hlocks) (fun h => by rw [hr] at h; cases h)
  have hmeth' : T.vm.method? m = some meth := X.method'
  refine ⟨T.setFrames fs, ?_, .returned (some (.int 1)), hrun, hended, rfl, ⟨_, rfl⟩, hW, hframe⟩
  jvm_step X.here [X.here.top, hx, hb, hdg, hmeth', hr, ret, narrow_b1]
  (try refine ⟨rfl, ?_⟩); (try refine ⟨rfl, ?_⟩)
  first | (intro acts; rw [hret _ acts rfl rfl rfl]) | rw [hret _ _ rfl rfl rfl]
  exact Steps.refl _
/-- what holds at the law's entry: the machine, the code, the tables' words (any of lw_tbl by 'hts w (by decide +kernel)'), the script of L ints xs at the cell b, what the Statement gives of the start (any of its parts by flat_of_before) -/
def lw_At (p : Program) (s : State) (m : MethodId) (meth : Method) (c : Code) (b L : Nat) (xs : Nat → Int32) : Prop :=
  p.tables.exec = Jvm.exec ∧ c.code = code ∧ meth.sig.returnType = ret ∧ c.maxLocals = 4 ∧ s.vm.findClass R_law = some m.cls ∧ (∀ w ∈ lw_tbl, w.before #[Value.ref b] s = true) ∧ va_X b L xs s s.heap ∧ b < s.heap.size ∧ meth.locks = false ∧ (Jvm.Cond.and given_1 narrow_1).before #[Value.ref b] s = true
/-! the law out of its abstract run -/
theorem lw_flat (w : Jvm.Cond) (h : w ∈ flatC (Jvm.Cond.and given_1 narrow_1)) {b : Nat} {s : State} (hg : (Jvm.Cond.and given_1 narrow_1).before #[Value.ref b] s = true) : w.before #[Value.ref b] s = true := flat_of_before _ hg w h
theorem lw_lowIn : ∀ j, j < 28 → Jvm.Cond.eq (.elem (.static "DominoParlour" "LOW" "[I") (.int (Int32.ofNat j))) (.int (dk_low j)) ∈ flatC (Jvm.Cond.and given_1 narrow_1) := by decide +kernel
theorem lw_highIn : ∀ j, j < 28 → Jvm.Cond.eq (.elem (.static "DominoParlour" "HIGH" "[I") (.int (Int32.ofNat j))) (.int (dk_high j)) ∈ flatC (Jvm.Cond.and given_1 narrow_1) := by decide +kernel
theorem lw_stat {n : String} {f : Nat → Int32} {b : Nat} {s : State} (hg : (Jvm.Cond.and given_1 narrow_1).before #[Value.ref b] s = true) (hts : ∀ w ∈ lw_tbl, w.before #[Value.ref b] s = true)
    (h1 : Jvm.Cond.arrayOf (.static "DominoParlour" n "[I") .int ∈ flatC (Jvm.Cond.and given_1 narrow_1)) (h2 : Jvm.Cond.eq (.length (.static "DominoParlour" n "[I")) (.int 28) ∈ flatC (Jvm.Cond.and given_1 narrow_1))
    (h3 : ∀ j, j < 28 → Jvm.Cond.eq (.elem (.static "DominoParlour" n "[I") (.int (Int32.ofNat j))) (.int (f j)) ∈ flatC (Jvm.Cond.and given_1 narrow_1)) (h4 : Jvm.Cond.laysStatic "DominoParlour" n "[I" ∈ lw_tbl) (h5 : Jvm.Cond.initialized "DominoParlour" ∈ lw_tbl) :
    ∃ t : Nat, va_Z "DominoParlour" n "[I" (.ref t) (fun q => s.heap.size ≤ q) s s.heap ∧ va_T .int t 28 (fun j => .int (f j)) (fun q => s.heap.size ≤ q) s s.heap := by
  obtain ⟨t, ht, hT⟩ := va_Tof (tm := .static "DominoParlour" n "[I") (ty := .int) (N := 28) (f := fun j => .int (f j)) (A := fun q => s.heap.size ≤ q) (by decide) (lw_flat _ h1 hg) (va_eqt (lw_flat _ h2 hg)) (fun j hj => va_eqt (lw_flat _ (h3 j hj) hg)) (fun a h => Nat.not_le.mpr h)
  exact ⟨t, va_Zof (hts _ h4) (hts _ h5) ht (fun a h => Nat.not_le.mpr h), hT⟩
set_option maxHeartbeats 4000000 in
theorem whole_of {p : Program} {e : Env} {s : State} {m : MethodId} {below : List Frame} {meth : Method} {c : Code} (l : Launch) {b L : Nat} {xs : Nat → Int32} (C0 : lw_At p s m meth c b L xs) (hp : ∃ (d : Nat) (M' : dk_M), d ≤ 1000 ∧ EvL (L, xs) d me_151 0 [some (.ref 1002), none, none, none] [] [] 0 0 (some (.int 1), M')) : W p l e room_1 s m #[Value.ref b] below meth c s.heap [] 0 0 (lw_Z below #[Value.ref b] s) (entryFrame m ([Value.ref b] : List Value).toArray 4) := by
  obtain ⟨hx, hb, hr, hml, hown, hts, hX, hbl, hlocks, hgv⟩ := C0
  obtain ⟨d, M', hd, N0, hN⟩ := hp
  have hrun := hN N0 N0 (Nat.le_refl _) (Nat.le_refl _)
  have htg : ∀ w ∈ dk_good, w.before #[Value.ref b] s = true := fun w hw => hts w (List.mem_filter.mp hw).1
  obtain ⟨tL, zL, tTL⟩ := lw_stat (n := "LOW") (f := dk_low) hgv hts (by decide +kernel) (by decide +kernel) lw_lowIn (by decide +kernel) (by decide +kernel)
  obtain ⟨tH, zH, tTH⟩ := lw_stat (n := "HIGH") (f := dk_high) hgv hts (by decide +kernel) (by decide +kernel) lw_highIn (by decide +kernel) (by decide +kernel)
  have hcls : ∀ k : Nat, ∃ (q : ClassId × (Nat → Nat)), ∀ r : vw_C, dk_cl[k]? = some r → u_Kn s r.1 r.2.1 r.2.2 q.1 q.2 := by
    intro k
    cases hk : dk_cl[k]? with
    | none => exact ⟨(0, fun _ => 0), fun r h => by cases h⟩
    | some r =>
      obtain ⟨C, T, N⟩ := r
      obtain ⟨ty, k1, k2, k3, k4, k5, k6⟩ := dk_clok k C T N hk
      obtain ⟨c0, iS, hKn⟩ := u_known (C := C) (T := T) (N := N) (n := N) htg k3 (htg _ k4)
      exact ⟨(c0, iS), fun r h => by cases h; exact hKn⟩
  have harr : ∀ k : Nat, ∃ cA : ClassId, k < 3 → ArrOfT s cA (dk_at k) ∧ va_RA s cA (dk_at k) := by
    intro k
    by_cases hk : k < 3
    · have h1 : (Jvm.Cond.arrayClass (dk_at k)).before #[Value.ref b] s = true := by
        rcases (show k = 0 ∨ k = 1 ∨ k = 2 by omega) with rfl | rfl | rfl
        · exact hts _ (by decide +kernel)
        · exact hts _ (by decide +kernel)
        · exact hts _ (by decide +kernel)
      obtain ⟨cA, kA, comp, e1, e2, e3⟩ := Cond.arrayClass_spec (type := dk_at k) h1
      refine ⟨cA, fun _ => ⟨fun n z => ⟨fun k h => (by cases h), kA, e2, comp, e3⟩, ?_⟩⟩
      rcases (show k = 0 ∨ k = 1 ∨ k = 2 by omega) with rfl | rfl | rfl
      · exact e1
      · exact e1
      · exact e1
    · exact ⟨0, fun h => absurd h hk⟩
  have hK : va_K (fun k => (Classical.choose (hcls k)).1, fun k => (Classical.choose (hcls k)).2) dk_cl (dk_ty (fun k => Classical.choose (harr k))) s := by
    refine ⟨fun k q h => Classical.choose_spec (hcls k) q h, fun k q h => ?_⟩
    match k, h with
    | 0, h => cases h; exact Classical.choose_spec (harr 0) (by decide)
    | 1, h => cases h; exact Classical.choose_spec (harr 1) (by decide)
    | 2, h => cases h; exact Classical.choose_spec (harr 2) (by decide)
    | n + 3, h => simp [dk_ty] at h
  have hNst : dk_Nst s := by
    intro w hw hn
    cases w with
    | fieldLinkNest a i b n d o => exact va_Nw.of rfl (hts _ hw)
    | methodLinkNest a i x o => exact va_Nw.of rfl (hts _ hw)
    | _ => simp [dk_isN] at hn
  have hTab : dk_Tab (L, xs) (fun r => if r = 1000 then tL else if r = 1001 then tH else b) (fun q => s.heap.size ≤ q) s := by
    intro r N f hrf
    unfold dk_tb at hrf
    split at hrf
    · cases hrf; exact tTL
    · cases hrf; exact tTH
    · cases hrf
      obtain ⟨scr, h1, h2, h3, h4, h5⟩ := hX
      exact ⟨scr, h1, h2, h3, by omega, by rw [h4], h5, Nat.not_le.mpr hbl⟩
    · cases hrf
  have F : dk_Fix p room_1 s m #[Value.ref b] meth c code "DominoParlourLaw" false 4 me_151.2.2.2.2.1 me_151.2.2.2.2.2 d (L, xs) (fun k => (Classical.choose (hcls k)).1, fun k => (Classical.choose (hcls k)).2) (fun k => Classical.choose (harr k)) (fun q => s.heap.size ≤ q) (fun r => if r = 1000 then tL else if r = 1001 then tH else b) :=
    ⟨hx, hb, hml, hown, htg, hNst, hK, fun _ h => h, fun h => (by cases h), hTab, ⟨zL, zH⟩, by show d + 1 ≤ 2048; omega, by show 64 * (d + 1) ≤ 84000; omega, Nat.le_refl _, Nat.le_refl _⟩
  have hl := lv_entry ([.ref b]) (n := 4) (Nat.le_of_ble_eq_true rfl)
  rw [lg_entry_eq]
  generalize (lg_sl ([.ref b]) ++ List.replicate (4 - (lg_sl ([.ref b])).length) Slot.unset).toArray = ls at hl ⊢
  have hl2 : lv_has ls 4 (dk_en (fun r => if r = 1000 then tL else if r = 1001 then tH else b) [some (.ref 1002), none, none, none]) := dk_sub hl (by
    intro q hq
    have : dk_en (fun r => if r = 1000 then tL else if r = 1001 then tH else b) [some (.ref 1002), none, none, none] = [(0, .ref b)] := rfl
    rw [this] at hq
    exact hq)
  refine dk_loop_ok (me := me_151) F (dk_exec_ok l (L, xs) _ _ N0 d) lw_rows ?_ N0 0 _ [] [] 0 0 hrun _ s.heap [] ls hl2 ⟨fun k q h => (by simp [dk_cw] at h), ⟨fun i j p q h => (by simp [dk_cw] at h), fun k q h => (by simp [dk_cw] at h)⟩, va_S.rf, fun _ => rfl, fun _ _ => rfl, Nat.le_refl 0, Nat.zero_le _, Nat.zero_le _⟩
  intro v M1 ad' H locs ls pc nc ns hres I hcase
  obtain ⟨hP, hD, hS, h0, hg, hn, hnc, hns⟩ := I
  rcases hcase with ⟨hrt, -, -⟩ | ⟨hrt, -⟩ | ⟨hrt, x, rfl, hxx, hdd⟩ | ⟨hrt, -⟩
  · cases hrt
  · cases hrt
  · cases hres
    refine va_forget (fun q hq => hS.2.2 q hq) ?_
    refine W.widen (k := 600000) (n := 7302250) hnc hns ?_
    exact lw_ret hx hb hr hlocks hdd
  · cases hrt
