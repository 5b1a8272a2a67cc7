/-! the step theorem -/
theorem dk_free {A : Nat → Prop} {ws : va_W} {H0 H : Heap} {locs : List Loc} (hD : va_D A ws) (hS : va_S A H0 H locs) (hA : ∀ q, H0.size ≤ q → A q) : ∀ q, va_A ws H.size q → A q := by
  rintro q (⟨k, e, h⟩ | h)
  · exact hD.2 k (q, e) h
  · exact hA q (Nat.le_trans hS.1 h)
theorem dk_cw_put (ad : Nat → Nat) (ca : Nat → ClassId) (M : dk_M) (j ci b : Nat) (fs : List Value) (x : Value) : dk_cw ad ca (M.set j (.inr (ci, fs.set b x))) = (dk_cw ad ca M).set j (ad j, .inr (ci, (fs.map (dk_cv ad)).set b (dk_cv ad x))) := by
  rw [dk_cw_set]
  simp [dk_ce, List.map_set]
theorem dk_def_cv (ad : Nat → Nat) : ∀ a, (dk_def a).map (dk_cv ad) = dk_def a
  | 0 => rfl
  | 1 => rfl
  | 2 => rfl
  | 3 => rfl
  | 4 => rfl
  | 5 => rfl
  | 6 => rfl
  | _ + 7 => rfl
theorem dk_sw_spec {x : Int32} {df : Nat} {k : Nat → dk_Res} {res : Option Value × dk_M} : ∀ {sw : List (Int32 × Nat)}, dk_sw x df k sw = some res → (∃ (j : Nat) (q : Int32 × Nat), sw[j]? = some q ∧ x = q.1 ∧ k q.2 = some res) ∨ ((∀ q ∈ sw, ¬ x = q.1) ∧ k df = some res)
  | [], h => Or.inr ⟨fun q hq => (by cases hq), h⟩
  | q :: r, h => by
    unfold dk_sw at h
    split at h
    · rename_i hx
      exact Or.inl ⟨0, q, rfl, hx, h⟩
    · rename_i hx
      rcases dk_sw_spec h with ⟨j, q', h1, h2, h3⟩ | ⟨h1, h2⟩
      · exact Or.inl ⟨j + 1, q', h1, h2, h3⟩
      · refine Or.inr ⟨fun z hz => ?_, h2⟩
        rcases List.mem_cons.mp hz with rfl | hz
        · exact hx
        · exact h1 z hz
theorem dk_stk (ad : Nat → Nat) (st : List Value) (c : Nat) : st.map (dk_cv ad) = ((st.take c).reverse.map (dk_cv ad)).reverse ++ (st.drop c).map (dk_cv ad) := by
  rw [← List.map_reverse, List.reverse_reverse, ← List.map_append, List.take_append_drop]
theorem dk_cat (ad : Nat → Nat) (st : List Value) : ((st.map (dk_cv ad)).map fun v => v.category) = st.map fun v => v.category := by
  rw [List.map_map]
  exact List.map_congr_left fun v _ => dk_cv_cat ad v
section DKT
variable {p : Program} {l : Launch} {e : Env} {R : Room} {s : State} {m : MethodId} {args : Array Value} {below : List Frame} {meth : Method} {c : Code} {Q : State → Prop}
variable {cc : ByteArray} {own : String} {ini : Bool} {nL mc ms rt d : Nat} {sc : Nat × (Nat → Int32)} {D : va_G} {ca : Nat → ClassId} {A : Nat → Prop} {ad0 : Nat → Nat} {n0 : Nat} {res : Option Value × dk_M} {call : Nat → List Value → dk_M → dk_Res}
/-- what a call needs, whatever its kind, and how it goes on -/
theorem dk_goes (F : dk_Fix p R s m args meth c cc own ini nL mc ms d sc D ca A ad0) {pc cx nc ns b : Nat} {loc : dk_L} {st : List Value} {M : dk_M} {k : Nat → dk_K} {q : Option Value × dk_M}
    (hk : ∀ pc' loc' st' M' nc' ns', k pc' loc' st' M' nc' ns' = some res → dk_Go p l e R s m args below meth c Q nL mc ms D ca A ad0 n0 pc' loc' st' M' nc' ns')
    (h : k (pc + 3) loc (q.1.toList ++ st.drop cx) q.2 (nc + (dk_lim b).1) (ns + (dk_lim b).2) = some res)
    (hb1 : nc + (dk_lim b).1 ≤ mc) (hb2 : ns + (dk_lim b).2 ≤ ms) (hw : (dk_lim b).1 = 0 ∨ (loc.all (dk_wo M.length) = true ∧ (st.drop cx).all (dk_wv M.length) = true))
    {ad : Nat → Nat} {H : Heap} {locs : List Loc} {ls : Array Slot} (hl : lv_has ls nL (dk_en ad loc)) (I : dk_Inv s mc ms D ca A ad0 n0 ad M H locs nc ns)
    {st0 : List Value} {a : Array Value} (hr : va_Run p l e R s m args below meth c H locs nc ns (dk_lim b).1 (dk_lim b).2 (F0 m pc ls st0) ((st.drop cx).map (dk_cv ad)) (dk_Post D ca ad M.length (dk_lim b).1 q.1 q.2 (va_A (dk_cw ad ca M) H.size) a) (va_A (dk_cw ad ca M) H.size)) : W p l e R s m args below meth c H locs nc ns Q (F0 m pc ls st0) := by
  obtain ⟨hP, hD, hS, h0, hg, hn, h1, h2⟩ := I
  have hA := F.2.2.2.2.2.2.2.1
  have hf := dk_free hD hS hA
  refine dk_callW hr hS (fun q _ z => hf q z) hf (fun ad' t H1 locs1 ht hvm q1 q2 q3 hP1 hD1 hS1 => ?_)
  have el : lv_has ls nL (dk_en ad' loc) := by
    rcases hw with hw | hw
    · rw [q1 hw]; exact hl
    · exact dk_sub hl (dk_en_cong q2 hw.1)
  have es : (q.1.map (dk_cv ad')).toList ++ (st.drop cx).map (dk_cv ad) = (q.1.toList ++ st.drop cx).map (dk_cv ad') := by
    have e1 : (q.1.map (dk_cv ad')).toList = q.1.toList.map (dk_cv ad') := by cases q.1 <;> rfl
    have e2 : (st.drop cx).map (dk_cv ad') = (st.drop cx).map (dk_cv ad) := by
      rcases hw with hw | hw
      · rw [q1 hw]
      · exact dk_map_cv q2 hw.2
    rw [List.map_append, e1, e2]
  rw [es]
  refine hk _ _ _ _ _ _ h ad' H1 locs1 ls el ⟨hP1, hD1.weaken (fun _ _ _ z => hf _ z), hS1, fun z => ?_, fun i hi => ?_, by omega, hb1, hb2⟩
  · rw [q1 (by omega)]; exact h0 z
  · rw [q2 i (by omega), hg i hi]
set_option maxHeartbeats 4000000 in
set_option maxRecDepth 100000 in
theorem dk_step_ok (F : dk_Fix p R s m args meth c cc own ini nL mc ms d sc D ca A ad0) (hcall : dk_CallOk l sc D ca d call) {r : dk_R} {pc nc ns : Nat} {loc : dk_L} {st : List Value} {M : dk_M} {k : Nat → dk_K}
    (hr : dk_rok own ini nL cc pc r = true) (h : dk_step call (dk_tb sc) mc ms rt r pc loc st M nc ns k = some res)
    (hk : ∀ pc' loc' st' M' nc' ns', k pc' loc' st' M' nc' ns' = some res → dk_Go p l e R s m args below meth c Q nL mc ms D ca A ad0 n0 pc' loc' st' M' nc' ns')
    (hret : dk_Rh p l e R s m args below meth c Q cc rt mc ms D ca A ad0 n0 res) : dk_Go p l e R s m args below meth c Q nL mc ms D ca A ad0 n0 pc loc st M nc ns := by
  obtain ⟨i, len, ⟨a, b, cx⟩, v, w, sw⟩ := r
  unfold dk_rok at hr
  rw [Bool.and_eq_true, decide_eq_true_eq] at hr
  obtain ⟨hd, hr⟩ := hr
  obtain ⟨hx, hb, hml, hown, hts, hN, hK, hA, hini, hT, hZ, hRf, hRl, hRc, hRs⟩ := id F
  intro ad H locs ls hl I
  obtain ⟨hP, hD, hS, h0, hg, hn0, hnc, hns⟩ := id I
  dsimp only at hd
  cases i
  case iconst n =>
    replace hr : (decide (Int32.ofInt n = v) && Nat.beq len 1) = true := hr
    simp only [Bool.and_eq_true, decide_eq_true_eq] at hr
    obtain ⟨rfl, h1⟩ := hr
    obtain rfl := Nat.eq_of_beq_eq_true h1
    exact lv_iconst hx hb hd rfl (hk _ _ _ _ _ _ h ad H locs ls hl I)
  case bipush n =>
    replace hr : (decide ((Int8.ofInt n).toInt32 = v) && Nat.beq len 2) = true := hr
    simp only [Bool.and_eq_true, decide_eq_true_eq] at hr
    obtain ⟨rfl, h1⟩ := hr
    obtain rfl := Nat.eq_of_beq_eq_true h1
    exact lv_bipush hx hb hd rfl (hk _ _ _ _ _ _ h ad H locs ls hl I)
  case sipush n =>
    replace hr : (decide ((Int16.ofInt n).toInt32 = v) && Nat.beq len 3) = true := hr
    simp only [Bool.and_eq_true, decide_eq_true_eq] at hr
    obtain ⟨rfl, h1⟩ := hr
    obtain rfl := Nat.eq_of_beq_eq_true h1
    exact lv_sipush hx hb hd rfl (hk _ _ _ _ _ _ h ad H locs ls hl I)
  case lconst n =>
    replace hr : (decide (Int64.ofNat (n : Nat) = w) && Nat.beq len 1) = true := hr
    simp only [Bool.and_eq_true, decide_eq_true_eq] at hr
    obtain ⟨rfl, h1⟩ := hr
    obtain rfl := Nat.eq_of_beq_eq_true h1
    exact lv_lconst hx hb hd rfl (hk _ _ _ _ _ _ h ad H locs ls hl I)
  case ldc n =>
    replace hr : (dk_gw (.constant own n v) && Nat.beq len 2) = true := hr
    simp only [Bool.and_eq_true, decide_eq_true_eq] at hr
    obtain ⟨h2, h1⟩ := hr
    obtain rfl := Nat.eq_of_beq_eq_true h1
    exact lv_ldc hx hb hown (hts _ (dk_gw_mem h2)) hd (hk _ _ _ _ _ _ h ad H locs ls hl I)
  case ldc_w n =>
    replace hr : (dk_gw (.constant own n v) && Nat.beq len 3) = true := hr
    simp only [Bool.and_eq_true, decide_eq_true_eq] at hr
    obtain ⟨h2, h1⟩ := hr
    obtain rfl := Nat.eq_of_beq_eq_true h1
    exact lv_ldcw hx hb hown (hts _ (dk_gw_mem h2)) hd (hk _ _ _ _ _ _ h ad H locs ls hl I)
  case ldc2_w n =>
    replace hr : (dk_gw (.constantLong own n w) && Nat.beq len 3) = true := hr
    simp only [Bool.and_eq_true, decide_eq_true_eq] at hr
    obtain ⟨h2, h1⟩ := hr
    obtain rfl := Nat.eq_of_beq_eq_true h1
    exact lv_ldc2 hx hb hown (hts _ (dk_gw_mem h2)) hd (hk _ _ _ _ _ _ h ad H locs ls hl I)
  case iload_n n =>
    replace hr : (Nat.beq n.val a && Nat.beq len 1) = true := hr
    simp only [Bool.and_eq_true, decide_eq_true_eq] at hr
    obtain ⟨h1, h2⟩ := hr
    have ha := Nat.eq_of_beq_eq_true h1
    obtain rfl := Nat.eq_of_beq_eq_true h2
    simp only [dk_step] at h
    split at h
    · rename_i x hx0
      exact lv_iload_n hx hb hd ha (dk_look hl hx0) (hk _ _ _ _ _ _ h ad H locs ls hl I)
    · cases h
  case iload n =>
    replace hr : (Nat.beq n a && Nat.beq len 2) = true := hr
    simp only [Bool.and_eq_true, decide_eq_true_eq] at hr
    obtain ⟨h1, h2⟩ := hr
    obtain rfl := Nat.eq_of_beq_eq_true h1
    obtain rfl := Nat.eq_of_beq_eq_true h2
    simp only [dk_step] at h
    split at h
    · rename_i x hx0
      exact lv_iload hx hb hd (dk_look hl hx0) (hk _ _ _ _ _ _ h ad H locs ls hl I)
    · cases h
  case lload_n n =>
    replace hr : (Nat.beq n.val a && Nat.beq len 1) = true := hr
    simp only [Bool.and_eq_true, decide_eq_true_eq] at hr
    obtain ⟨h1, h2⟩ := hr
    have ha := Nat.eq_of_beq_eq_true h1
    obtain rfl := Nat.eq_of_beq_eq_true h2
    simp only [dk_step] at h
    split at h
    · rename_i x hx0
      exact lv_lload_n hx hb hd ha (dk_look hl hx0) (hk _ _ _ _ _ _ h ad H locs ls hl I)
    · cases h
  case lload n =>
    replace hr : (Nat.beq n a && Nat.beq len 2) = true := hr
    simp only [Bool.and_eq_true, decide_eq_true_eq] at hr
    obtain ⟨h1, h2⟩ := hr
    obtain rfl := Nat.eq_of_beq_eq_true h1
    obtain rfl := Nat.eq_of_beq_eq_true h2
    simp only [dk_step] at h
    split at h
    · rename_i x hx0
      exact lv_lload hx hb hd (dk_look hl hx0) (hk _ _ _ _ _ _ h ad H locs ls hl I)
    · cases h
  case aload_n n =>
    replace hr : (Nat.beq n.val a && Nat.beq len 1) = true := hr
    simp only [Bool.and_eq_true, decide_eq_true_eq] at hr
    obtain ⟨h1, h2⟩ := hr
    have ha := Nat.eq_of_beq_eq_true h1
    obtain rfl := Nat.eq_of_beq_eq_true h2
    simp only [dk_step] at h
    split at h
    · rename_i x hx0
      exact lv_aload_n hx hb hd ha (dk_look hl hx0) (hk _ _ _ _ _ _ h ad H locs ls hl I)
    · cases h
  case aload n =>
    replace hr : (Nat.beq n a && Nat.beq len 2) = true := hr
    simp only [Bool.and_eq_true, decide_eq_true_eq] at hr
    obtain ⟨h1, h2⟩ := hr
    obtain rfl := Nat.eq_of_beq_eq_true h1
    obtain rfl := Nat.eq_of_beq_eq_true h2
    simp only [dk_step] at h
    split at h
    · rename_i x hx0
      exact lv_aload hx hb hd (dk_look hl hx0) (hk _ _ _ _ _ _ h ad H locs ls hl I)
    · cases h
  case istore_n n =>
    replace hr : (Nat.beq n.val a && Nat.beq len 1 && Nat.blt a nL) = true := hr
    simp only [Bool.and_eq_true, decide_eq_true_eq] at hr
    obtain ⟨⟨h1, h2⟩, h3⟩ := hr
    have ha := Nat.eq_of_beq_eq_true h1
    obtain rfl := Nat.eq_of_beq_eq_true h2
    simp only [dk_step] at h
    split at h
    · refine lv_istore_n hx hb hd ha hl (Nat.blt_eq.mp h3) rfl (fun ls' hl' => ?_)
      exact hk _ _ _ _ _ _ h ad H locs ls' (dk_sub hl' dk_s1_en) I
    · cases h
  case astore_n n =>
    replace hr : (Nat.beq n.val a && Nat.beq len 1 && Nat.blt a nL) = true := hr
    simp only [Bool.and_eq_true, decide_eq_true_eq] at hr
    obtain ⟨⟨h1, h2⟩, h3⟩ := hr
    have ha := Nat.eq_of_beq_eq_true h1
    obtain rfl := Nat.eq_of_beq_eq_true h2
    simp only [dk_step] at h
    split at h
    · refine lv_astore_n hx hb hd ha hl (Nat.blt_eq.mp h3) rfl (fun ls' hl' => ?_)
      exact hk _ _ _ _ _ _ h ad H locs ls' (dk_sub hl' dk_s1_en) I
    · cases h
  case istore n =>
    replace hr : (Nat.beq n a && Nat.beq len 2 && Nat.blt a nL) = true := hr
    simp only [Bool.and_eq_true, decide_eq_true_eq] at hr
    obtain ⟨⟨h1, h2⟩, h3⟩ := hr
    obtain rfl := Nat.eq_of_beq_eq_true h1
    obtain rfl := Nat.eq_of_beq_eq_true h2
    simp only [dk_step] at h
    split at h
    · refine lv_istore hx hb hd hl (Nat.blt_eq.mp h3) rfl (fun ls' hl' => ?_)
      exact hk _ _ _ _ _ _ h ad H locs ls' (dk_sub hl' dk_s1_en) I
    · cases h
  case lstore_n n =>
    replace hr : (Nat.beq n.val a && Nat.beq len 1 && Nat.blt (a + 1) nL) = true := hr
    simp only [Bool.and_eq_true, decide_eq_true_eq] at hr
    obtain ⟨⟨h1, h2⟩, h3⟩ := hr
    have ha := Nat.eq_of_beq_eq_true h1
    obtain rfl := Nat.eq_of_beq_eq_true h2
    simp only [dk_step] at h
    split at h
    · refine lv_lstore_n hx hb hd ha hl (Nat.blt_eq.mp h3) rfl (fun ls' hl' => ?_)
      exact hk _ _ _ _ _ _ h ad H locs ls' (dk_sub hl' dk_s2_en) I
    · cases h
  case lstore n =>
    replace hr : (Nat.beq n a && Nat.beq len 2 && Nat.blt (a + 1) nL) = true := hr
    simp only [Bool.and_eq_true, decide_eq_true_eq] at hr
    obtain ⟨⟨h1, h2⟩, h3⟩ := hr
    obtain rfl := Nat.eq_of_beq_eq_true h1
    obtain rfl := Nat.eq_of_beq_eq_true h2
    simp only [dk_step] at h
    split at h
    · refine lv_lstore hx hb hd hl (Nat.blt_eq.mp h3) rfl (fun ls' hl' => ?_)
      exact hk _ _ _ _ _ _ h ad H locs ls' (dk_sub hl' dk_s2_en) I
    · cases h
  case iinc n t =>
    replace hr : (Nat.beq n a && decide (Int32.ofInt t = v) && Nat.beq len 3 && Nat.blt a nL) = true := hr
    simp only [Bool.and_eq_true, decide_eq_true_eq] at hr
    obtain ⟨⟨⟨h1, rfl⟩, h2⟩, h3⟩ := hr
    obtain rfl := Nat.eq_of_beq_eq_true h1
    obtain rfl := Nat.eq_of_beq_eq_true h2
    simp only [dk_step] at h
    split at h
    · rename_i x hx0
      obtain ⟨kk, hkk⟩ := List.getElem?_of_mem (dk_en_mem.mpr ⟨_, hx0, rfl⟩ : (n, dk_cv ad (.int x)) ∈ dk_en ad loc)
      refine lv_iinc (x := x) hx hb hd hl hkk rfl (Nat.blt_eq.mp h3) rfl (fun ls' hl' => ?_)
      exact hk _ _ _ _ _ _ h ad H locs ls' (dk_sub hl' dk_s1_en) I
    · cases h
  case iadd =>
    replace hr : Nat.beq len 1 = true := hr
    obtain rfl := Nat.eq_of_beq_eq_true hr
    simp only [dk_step] at h
    split at h
    · exact lv_iadd hx hb hd (hk _ _ _ _ _ _ h ad H locs ls hl I)
    · cases h
  case isub =>
    replace hr : Nat.beq len 1 = true := hr
    obtain rfl := Nat.eq_of_beq_eq_true hr
    simp only [dk_step] at h
    split at h
    · exact lv_isub hx hb hd (hk _ _ _ _ _ _ h ad H locs ls hl I)
    · cases h
  case imul =>
    replace hr : Nat.beq len 1 = true := hr
    obtain rfl := Nat.eq_of_beq_eq_true hr
    simp only [dk_step] at h
    split at h
    · exact lv_imul hx hb hd (hk _ _ _ _ _ _ h ad H locs ls hl I)
    · cases h
  case iand =>
    replace hr : Nat.beq len 1 = true := hr
    obtain rfl := Nat.eq_of_beq_eq_true hr
    simp only [dk_step] at h
    split at h
    · exact lv_iand hx hb hd (hk _ _ _ _ _ _ h ad H locs ls hl I)
    · cases h
  case ior =>
    replace hr : Nat.beq len 1 = true := hr
    obtain rfl := Nat.eq_of_beq_eq_true hr
    simp only [dk_step] at h
    split at h
    · exact lv_ior hx hb hd (hk _ _ _ _ _ _ h ad H locs ls hl I)
    · cases h
  case ixor =>
    replace hr : Nat.beq len 1 = true := hr
    obtain rfl := Nat.eq_of_beq_eq_true hr
    simp only [dk_step] at h
    split at h
    · exact lv_ixor hx hb hd (hk _ _ _ _ _ _ h ad H locs ls hl I)
    · cases h
  case ishl =>
    replace hr : Nat.beq len 1 = true := hr
    obtain rfl := Nat.eq_of_beq_eq_true hr
    simp only [dk_step] at h
    split at h
    · exact lv_ishl hx hb hd (hk _ _ _ _ _ _ h ad H locs ls hl I)
    · cases h
  case ishr =>
    replace hr : Nat.beq len 1 = true := hr
    obtain rfl := Nat.eq_of_beq_eq_true hr
    simp only [dk_step] at h
    split at h
    · exact lv_ishr hx hb hd (hk _ _ _ _ _ _ h ad H locs ls hl I)
    · cases h
  case ladd =>
    replace hr : Nat.beq len 1 = true := hr
    obtain rfl := Nat.eq_of_beq_eq_true hr
    simp only [dk_step] at h
    split at h
    · exact lv_ladd hx hb hd (hk _ _ _ _ _ _ h ad H locs ls hl I)
    · cases h
  case lmul =>
    replace hr : Nat.beq len 1 = true := hr
    obtain rfl := Nat.eq_of_beq_eq_true hr
    simp only [dk_step] at h
    split at h
    · exact lv_lmul hx hb hd (hk _ _ _ _ _ _ h ad H locs ls hl I)
    · cases h
  case land =>
    replace hr : Nat.beq len 1 = true := hr
    obtain rfl := Nat.eq_of_beq_eq_true hr
    simp only [dk_step] at h
    split at h
    · exact lv_land hx hb hd (hk _ _ _ _ _ _ h ad H locs ls hl I)
    · cases h
  case lor =>
    replace hr : Nat.beq len 1 = true := hr
    obtain rfl := Nat.eq_of_beq_eq_true hr
    simp only [dk_step] at h
    split at h
    · exact lv_lor hx hb hd (hk _ _ _ _ _ _ h ad H locs ls hl I)
    · cases h
  case ineg =>
    replace hr : Nat.beq len 1 = true := hr
    obtain rfl := Nat.eq_of_beq_eq_true hr
    simp only [dk_step] at h
    split at h
    · exact lv_ineg hx hb hd (hk _ _ _ _ _ _ h ad H locs ls hl I)
    · cases h
  case iushr =>
    replace hr : Nat.beq len 1 = true := hr
    obtain rfl := Nat.eq_of_beq_eq_true hr
    simp only [dk_step] at h
    split at h
    · exact lv_iushr hx hb hd rfl (hk _ _ _ _ _ _ h ad H locs ls hl I)
    · cases h
  case lushr =>
    replace hr : Nat.beq len 1 = true := hr
    obtain rfl := Nat.eq_of_beq_eq_true hr
    simp only [dk_step] at h
    split at h
    · exact lv_lushr hx hb hd rfl (hk _ _ _ _ _ _ h ad H locs ls hl I)
    · cases h
  case lshl =>
    replace hr : Nat.beq len 1 = true := hr
    obtain rfl := Nat.eq_of_beq_eq_true hr
    simp only [dk_step] at h
    split at h
    · exact lv_lshl hx hb hd rfl (hk _ _ _ _ _ _ h ad H locs ls hl I)
    · cases h
  case i2l =>
    replace hr : Nat.beq len 1 = true := hr
    obtain rfl := Nat.eq_of_beq_eq_true hr
    simp only [dk_step] at h
    split at h
    · exact lv_i2l hx hb hd rfl (hk _ _ _ _ _ _ h ad H locs ls hl I)
    · cases h
  case l2i =>
    replace hr : Nat.beq len 1 = true := hr
    obtain rfl := Nat.eq_of_beq_eq_true hr
    simp only [dk_step] at h
    split at h
    · exact lv_l2i hx hb hd rfl (hk _ _ _ _ _ _ h ad H locs ls hl I)
    · cases h
  case lcmp =>
    replace hr : Nat.beq len 1 = true := hr
    obtain rfl := Nat.eq_of_beq_eq_true hr
    simp only [dk_step] at h
    split at h
    · exact W.lcmp hx hb hd (hk _ _ _ _ _ _ h ad H locs ls hl I)
    · cases h
  case idiv =>
    replace hr : Nat.beq len 1 = true := hr
    obtain rfl := Nat.eq_of_beq_eq_true hr
    simp only [dk_step] at h
    split at h
    · split at h
      · cases h
      · rename_i hne
        exact lv_idiv hx hb hd hne (hk _ _ _ _ _ _ h ad H locs ls hl I)
    · cases h
  case irem =>
    replace hr : Nat.beq len 1 = true := hr
    obtain rfl := Nat.eq_of_beq_eq_true hr
    simp only [dk_step] at h
    split at h
    · split at h
      · cases h
      · rename_i hne
        exact lv_irem hx hb hd hne (hk _ _ _ _ _ _ h ad H locs ls hl I)
    · cases h
  case lrem =>
    replace hr : Nat.beq len 1 = true := hr
    obtain rfl := Nat.eq_of_beq_eq_true hr
    simp only [dk_step] at h
    split at h
    · split at h
      · cases h
      · rename_i hne
        exact lv_lrem hx hb hd hne (hk _ _ _ _ _ _ h ad H locs ls hl I)
    · cases h
  case dup =>
    replace hr : Nat.beq len 1 = true := hr
    obtain rfl := Nat.eq_of_beq_eq_true hr
    simp only [dk_step] at h
    split at h
    · exact lv_dup hx hb hd rfl (hk _ _ _ _ _ _ h ad H locs ls hl I)
    · exact lv_dup hx hb hd rfl (hk _ _ _ _ _ _ h ad H locs ls hl I)
    · cases h
  case dup2 =>
    replace hr : Nat.beq len 1 = true := hr
    obtain rfl := Nat.eq_of_beq_eq_true hr
    simp only [dk_step] at h
    split at h
    · exact lv_dup2_11 hx hb hd rfl rfl (hk _ _ _ _ _ _ h ad H locs ls hl I)
    · cases h
  case pop =>
    replace hr : Nat.beq len 1 = true := hr
    obtain rfl := Nat.eq_of_beq_eq_true hr
    simp only [dk_step] at h
    split at h
    · exact lv_pop hx hb hd rfl (hk _ _ _ _ _ _ h ad H locs ls hl I)
    · cases h
  case goto off =>
    replace hr : (decide ((pc : Int) + off = (a : Int)) && Nat.beq len 3) = true := hr
    simp only [Bool.and_eq_true, decide_eq_true_eq] at hr
    obtain ⟨h1, h2⟩ := hr
    obtain rfl := Nat.eq_of_beq_eq_true h2
    exact lv_goto hx hb hd h1 (hk _ _ _ _ _ _ h ad H locs ls hl I)
  case ifCond cd off =>
    replace hr : (decide ((pc : Int) + off = (a : Int)) && Nat.beq len 3) = true := hr
    simp only [Bool.and_eq_true, decide_eq_true_eq] at hr
    obtain ⟨h1, h2⟩ := hr
    obtain rfl := Nat.eq_of_beq_eq_true h2
    simp only [dk_step] at h
    split at h
    · split at h
      · exact lv_if_eq hx hb hd h1 (fun z => (hk _ _ _ _ _ _ (by rw [if_pos z] at h; exact h) ad H locs ls hl I)) (fun z => (hk _ _ _ _ _ _ (by rw [if_neg z] at h; exact h) ad H locs ls hl I))
      · exact lv_if_ne hx hb hd h1 (fun z => (hk _ _ _ _ _ _ (by rw [if_neg z] at h; exact h) ad H locs ls hl I)) (fun z => (hk _ _ _ _ _ _ (by rw [if_pos z] at h; exact h) ad H locs ls hl I))
      · exact lv_if_lt hx hb hd h1 (fun z => (hk _ _ _ _ _ _ (by rw [if_pos z] at h; exact h) ad H locs ls hl I)) (fun z => (hk _ _ _ _ _ _ (by rw [if_neg z] at h; exact h) ad H locs ls hl I))
      · exact lv_if_ge hx hb hd h1 (fun z => (hk _ _ _ _ _ _ (by rw [if_neg (Int32.not_lt.mpr z)] at h; exact h) ad H locs ls hl I)) (fun z => (hk _ _ _ _ _ _ (by rw [if_pos (Int32.not_le.mp z)] at h; exact h) ad H locs ls hl I))
      · exact lv_if_gt hx hb hd h1 (fun z => (hk _ _ _ _ _ _ (by rw [if_pos z] at h; exact h) ad H locs ls hl I)) (fun z => (hk _ _ _ _ _ _ (by rw [if_neg z] at h; exact h) ad H locs ls hl I))
      · exact lv_if_le hx hb hd h1 (fun z => (hk _ _ _ _ _ _ (by rw [if_neg (Int32.not_lt.mpr z)] at h; exact h) ad H locs ls hl I)) (fun z => (hk _ _ _ _ _ _ (by rw [if_pos (Int32.not_le.mp z)] at h; exact h) ad H locs ls hl I))
    · cases h
  case if_icmp cd off =>
    replace hr : (decide ((pc : Int) + off = (a : Int)) && Nat.beq len 3) = true := hr
    simp only [Bool.and_eq_true, decide_eq_true_eq] at hr
    obtain ⟨h1, h2⟩ := hr
    obtain rfl := Nat.eq_of_beq_eq_true h2
    simp only [dk_step] at h
    split at h
    · split at h
      · exact lv_icmp_eq hx hb hd h1 (fun z => (hk _ _ _ _ _ _ (by rw [if_pos z] at h; exact h) ad H locs ls hl I)) (fun z => (hk _ _ _ _ _ _ (by rw [if_neg z] at h; exact h) ad H locs ls hl I))
      · exact lv_icmp_ne hx hb hd h1 (fun z => (hk _ _ _ _ _ _ (by rw [if_neg z] at h; exact h) ad H locs ls hl I)) (fun z => (hk _ _ _ _ _ _ (by rw [if_pos z] at h; exact h) ad H locs ls hl I))
      · exact lv_icmp_lt hx hb hd h1 (fun z => (hk _ _ _ _ _ _ (by rw [if_pos z] at h; exact h) ad H locs ls hl I)) (fun z => (hk _ _ _ _ _ _ (by rw [if_neg z] at h; exact h) ad H locs ls hl I))
      · exact lv_icmp_ge hx hb hd h1 (fun z => (hk _ _ _ _ _ _ (by rw [if_neg (Int32.not_lt.mpr z)] at h; exact h) ad H locs ls hl I)) (fun z => (hk _ _ _ _ _ _ (by rw [if_pos (Int32.not_le.mp z)] at h; exact h) ad H locs ls hl I))
      · exact lv_icmp_gt hx hb hd h1 (fun z => (hk _ _ _ _ _ _ (by rw [if_pos z] at h; exact h) ad H locs ls hl I)) (fun z => (hk _ _ _ _ _ _ (by rw [if_neg z] at h; exact h) ad H locs ls hl I))
      · exact lv_icmp_le hx hb hd h1 (fun z => (hk _ _ _ _ _ _ (by rw [if_neg (Int32.not_lt.mpr z)] at h; exact h) ad H locs ls hl I)) (fun z => (hk _ _ _ _ _ _ (by rw [if_pos (Int32.not_le.mp z)] at h; exact h) ad H locs ls hl I))
    · cases h
  case tableswitch df lo hi offs =>
    replace hr : (decide ((pc : Int) + df = (a : Int)) && decide (hi = lo + (offs.size : Int) - 1) && Nat.beq sw.length offs.size && (List.range offs.size).all (fun j => match sw[j]?, offs[j]? with
            | some q, some o => decide (q.1.toInt = lo + (j : Int)) && decide ((pc : Int) + o = (q.2 : Int))
            | _, _ => false)) = true := hr
    simp only [Bool.and_eq_true, decide_eq_true_eq] at hr
    obtain ⟨⟨⟨h1, h2⟩, h3⟩, h4⟩ := hr
    have h3 := Nat.eq_of_beq_eq_true h3
    have key : ∀ j, j < offs.size → ∃ q o, sw[j]? = some q ∧ offs[j]? = some o ∧ q.1.toInt = lo + (j : Int) ∧ (pc : Int) + o = (q.2 : Int) := by
      intro j hj
      have h5 := List.all_eq_true.mp h4 j (List.mem_range.mpr hj)
      split at h5
      · rename_i q o e1 e2
        rw [Bool.and_eq_true, decide_eq_true_eq, decide_eq_true_eq] at h5
        exact ⟨q, o, e1, e2, h5.1, h5.2⟩
      · cases h5
    simp only [dk_step] at h
    split at h
    · rename_i x st
      rcases dk_sw_spec h with ⟨j, q, e1, e2, e3⟩ | ⟨e1, e2⟩
      · have hj : j < offs.size := by rw [← h3]; exact (List.getElem?_eq_some_iff.mp e1).1
        obtain ⟨q2, o, f1, f2, f3, f4⟩ := key j hj
        cases e1.symm.trans f1
        subst e2
        refine lv_tableIn hx hb hd (by omega) (by omega) (off := o) ?_ f4 (hk _ _ _ _ _ _ e3 ad H locs ls hl I)
        rw [show (q.1.toInt - lo).toNat = j by omega]
        exact f2
      · refine lv_tableOut hx hb hd ?_ h1 (hk _ _ _ _ _ _ e2 ad H locs ls hl I)
        by_cases z : x.toInt < lo ∨ hi < x.toInt
        · exact z
        · exfalso
          obtain ⟨q, o, f1, f2, f3, f4⟩ := key (x.toInt - lo).toNat (by omega)
          exact e1 q (List.mem_of_getElem? f1) (Int32.toInt_inj.mp (by omega))
    · cases h
  case getfield idx =>
    simp only [dk_lk] at hr
    split at hr
    · rename_i C T N hcl
      simp only [Bool.and_eq_true, decide_eq_true_eq] at hr
      obtain ⟨⟨⟨h1, h2⟩, h3⟩, h4⟩ := hr
      obtain rfl := Nat.eq_of_beq_eq_true h3
      have hbN : b < N := Nat.blt_eq.mp h1
      obtain ⟨ty, k1, k2, k3, -, -, -⟩ := dk_clok a C T N hcl
      simp only [dk_step] at h
      split at h
      · rename_i j st
        split at h
        · rename_i ci fs hcell
          split at h
          · rename_i hci
            have hci := Nat.eq_of_beq_eq_true hci
            subst hci
            split at h
            · rename_i x hfx
              have he := dk_cw_at (ad := ad) (ca := ca) hcell
              have hfv : (fs.map (dk_cv ad))[b]? = some (dk_cv ad x) := by rw [List.getElem?_map, hfx]; rfl
              split at h4
              · exact va_get (ref := C) hx hb hts k3 hown hK hP j he hcl b hbN (hts _ (dk_gw_mem h4)) (fun _ h9 => by rw [h2] at h9; exact h9) hfv hd (hk _ _ _ _ _ _ h ad H locs ls hl I)
              · have h5 := va_Nw.use (A := args) rfl (hN _ (of_decide_eq_true h4) rfl)
                exact va_getN (ref := C) hx hb hts k3 hown hK hP j he hcl b hbN h5 (fun _ h9 => by rw [h2] at h9; exact h9) hfv hd (hk _ _ _ _ _ _ h ad H locs ls hl I)
            · cases h
          · cases h
        · cases h
      · cases h
    · cases hr
  case putfield idx =>
    simp only [dk_lk] at hr
    split at hr
    · rename_i C T N hcl
      simp only [Bool.and_eq_true, decide_eq_true_eq] at hr
      obtain ⟨⟨⟨⟨h1, h2⟩, h3⟩, h4⟩, h5⟩ := hr
      obtain rfl := Nat.eq_of_beq_eq_true h3
      have hbN : b < N := Nat.blt_eq.mp h1
      obtain ⟨ty, k1, k2, k3, -, -, -⟩ := dk_clok a C T N hcl
      have hlink := hts _ (dk_gw_mem h4)
      have hsame : ∀ x, s.fieldFound? (T b).1 (T b).2.1 (T b).2.2.1 = some x → s.fieldFound? C (T b).2.1 (T b).2.2.1 = some x := (fun _ h9 => by rw [h2] at h9; exact h9)
      simp only [dk_step] at h
      split at h
      · rename_i x j st
        split at h
        · rename_i ci fs hcell
          split at h
          · rename_i hco
            simp only [Bool.and_eq_true] at hco
            obtain ⟨⟨hci, hbl⟩, hxx⟩ := hco
            have hci := Nat.eq_of_beq_eq_true hci
            subst hci
            have he := dk_cw_at (ad := ad) (ca := ca) hcell
            have hbl : b < (fs.map (dk_cv ad)).length := by rw [List.length_map]; exact Nat.blt_eq.mp hbl
            have fin : ∀ (H1 : Heap) (locs1 : List Loc), va_P D dk_cl ((dk_cw ad ca M).set j (ad j, .inr (ci, (fs.map (dk_cv ad)).set b (dk_cv ad x)))) H1 → va_D A ((dk_cw ad ca M).set j (ad j, .inr (ci, (fs.map (dk_cv ad)).set b (dk_cv ad x)))) → va_S A s.heap H1 locs1 → W p l e R s m args below meth c H1 locs1 nc ns Q (F0 m (pc + 3) ls (st.map (dk_cv ad))) := by
              intro H1 locs1 g1 g2 g3
              rw [← dk_cw_put] at g1 g2
              exact hk _ _ _ _ _ _ h ad H1 locs1 ls hl ⟨g1, g2, g3, h0, hg, by rw [List.length_set]; exact hn0, hnc, hns⟩
            split at h5
            · rw [Bool.and_eq_true, Bool.not_eq_true', decide_eq_true_eq] at h5
              cases x with
              | int x => exact va_put (ref := C) hx hb hts k3 ty k1 k2 hown hK hP hD hS j he hcl b hbN hlink hsame h5.1 h5.2 rfl rfl hbl hd fin
              | ref x => exact absurd (show Nat.beq 0 2 = true from hxx) (by decide)
              | _ => cases hxx
            · simp only [Bool.and_eq_true, decide_eq_true_eq] at h5
              obtain ⟨⟨⟨f1, f2⟩, f3⟩, f4⟩ := h5
              cases x with
              | int x => exact va_putF (ref := C) hx hb hts k3 ty k1 k2 hown hK hP hD hS j he hcl b hbN hlink hsame f1 (hini f3) (h2.trans f4) f2 rfl rfl hbl hd fin
              | ref x => exact absurd (show Nat.beq 1 2 = true from hxx) (by decide)
              | _ => cases hxx
            · simp only [Bool.and_eq_true, decide_eq_true_eq] at h5
              obtain ⟨⟨⟨f1, f2⟩, f3⟩, f4⟩ := h5
              cases x with
              | int x => exact absurd (show Nat.blt 2 2 = true from hxx) (by decide)
              | ref x =>
                cases hpd : parseFieldDescriptor (T b).2.2.1 with
                | none => rw [hpd] at f2; cases f2
                | some tyx =>
                  rw [hpd] at f2
                  cases tyx with
                  | object nn => exact va_putF (ref := C) hx hb hts k3 ty k1 k2 hown hK hP hD hS j he hcl b hbN hlink hsame f1 (hini f3) (h2.trans f4) hpd rfl rfl hbl hd fin
                  | array nn => exact va_putF (ref := C) hx hb hts k3 ty k1 k2 hown hK hP hD hS j he hcl b hbN hlink hsame f1 (hini f3) (h2.trans f4) hpd rfl rfl hbl hd fin
                  | _ => cases f2
              | _ => cases hxx
            · cases h5
          · cases h
        · cases h
      · cases h
    · cases hr
  case getstatic idx =>
    simp only [dk_lk] at hr
    rw [Bool.and_eq_true] at hr
    obtain ⟨h3, h4⟩ := hr
    obtain rfl := Nat.eq_of_beq_eq_true h3
    have hZ2 := dk_Sta_ad hZ hg
    split at h4
    · exact va_gets hx hb hZ2.1 hS hown (hts _ (dk_gw_mem h4)) (fun _ h9 => h9) hd (hk _ _ _ _ _ _ h ad H locs ls hl I)
    · exact va_gets hx hb hZ2.2 hS hown (hts _ (dk_gw_mem h4)) (fun _ h9 => h9) hd (hk _ _ _ _ _ _ h ad H locs ls hl I)
    · cases h4
  case iaload =>
    replace hr : Nat.beq len 1 = true := hr
    obtain rfl := Nat.eq_of_beq_eq_true hr
    simp only [dk_step] at h
    split at h
    · rename_i j r st
      split at h
      · split at h
        · rename_i n f htb
          split at h
          · cases h
          · rename_i hin
            exact va_ti hx hb (dk_Tab_ad hT hg r n f htb) hS hin rfl hd (hk _ _ _ _ _ _ h ad H locs ls hl I)
        · cases h
      · split at h
        · rename_i n f hcell
          split at h
          · cases h
          · rename_i hin
            exact va_iald hx hb hK hP r 0 (dk_cw_at hcell) rfl hin hd (hk _ _ _ _ _ _ h ad H locs ls hl I)
        · cases h
    · cases h
  case baload =>
    replace hr : Nat.beq len 1 = true := hr
    obtain rfl := Nat.eq_of_beq_eq_true hr
    simp only [dk_step] at h
    split at h
    · rename_i j r st
      split at h
      · rename_i n f hcell
        split at h
        · cases h
        · rename_i hin
          exact va_zald hx hb hK hP r 2 (dk_cw_at hcell) rfl hin hd (hk _ _ _ _ _ _ h ad H locs ls hl I)
      · cases h
    · cases h
  case laload =>
    replace hr : Nat.beq len 1 = true := hr
    obtain rfl := Nat.eq_of_beq_eq_true hr
    simp only [dk_step] at h
    split at h
    · rename_i j r st
      split at h
      · rename_i n f hcell
        split at h
        · cases h
        · rename_i hin
          exact va_lald hx hb hK hP r 1 (dk_cw_at hcell) rfl hin hd (hk _ _ _ _ _ _ h ad H locs ls hl I)
      · cases h
    · cases h
  case iastore =>
    replace hr : Nat.beq len 1 = true := hr
    obtain rfl := Nat.eq_of_beq_eq_true hr
    simp only [dk_step] at h
    split at h
    · rename_i x j r st
      split at h
      · rename_i n f hcell
        split at h
        · cases h
        · rename_i hin
          refine va_iast hx hb hK hP hD hS r 0 (dk_cw_at hcell) rfl hin hd (fun H1 locs1 g1 g2 g3 => ?_)
          have ew := dk_cw_set ad ca M r (.inl (0, n, .inl (upd f j.toNatClampNeg x)))
          exact hk _ _ _ _ _ _ h ad H1 locs1 ls hl ⟨by rw [ew]; exact g1, by rw [ew]; exact g2, g3, h0, hg, by rw [List.length_set]; exact hn0, hnc, hns⟩
      · cases h
    · cases h
  case bastore =>
    replace hr : Nat.beq len 1 = true := hr
    obtain rfl := Nat.eq_of_beq_eq_true hr
    simp only [dk_step] at h
    split at h
    · rename_i x j r st
      split at h
      · rename_i n f hcell
        split at h
        · cases h
        · rename_i hin
          refine va_zast hx hb hK hP hD hS r 2 (dk_cw_at hcell) rfl hin hd (fun H1 locs1 g1 g2 g3 => ?_)
          have ew := dk_cw_set ad ca M r (.inl (2, n, .inl (upd f j.toNatClampNeg (vp_nar .boolean x))))
          exact hk _ _ _ _ _ _ h ad H1 locs1 ls hl ⟨by rw [ew]; exact g1, by rw [ew]; exact g2, g3, h0, hg, by rw [List.length_set]; exact hn0, hnc, hns⟩
      · cases h
    · cases h
  case lastore =>
    replace hr : Nat.beq len 1 = true := hr
    obtain rfl := Nat.eq_of_beq_eq_true hr
    simp only [dk_step] at h
    split at h
    · rename_i x j r st
      split at h
      · rename_i n f hcell
        split at h
        · cases h
        · rename_i hin
          refine va_last hx hb hK hP hD hS r 1 (dk_cw_at hcell) rfl hin hd (fun H1 locs1 g1 g2 g3 => ?_)
          have ew := dk_cw_set ad ca M r (.inl (1, n, .inr (.inl (vp_updL f j.toNatClampNeg x))))
          exact hk _ _ _ _ _ _ h ad H1 locs1 ls hl ⟨by rw [ew]; exact g1, by rw [ew]; exact g2, g3, h0, hg, by rw [List.length_set]; exact hn0, hnc, hns⟩
      · cases h
    · cases h
  case arraylength =>
    replace hr : Nat.beq len 1 = true := hr
    obtain rfl := Nat.eq_of_beq_eq_true hr
    simp only [dk_step] at h
    split at h
    · rename_i r st
      split at h
      · split at h
        · rename_i n f htb
          exact va_tlen hx hb (dk_Tab_ad hT hg r n f htb) hS rfl hd (hk _ _ _ _ _ _ h ad H locs ls hl I)
        · cases h
      · split at h
        · rename_i kd n f hcell
          split at h
          · rename_i hkd
            have hkd : kd < 3 := Nat.blt_eq.mp hkd
            have hty : ∃ ty, (dk_ty ca)[kd]? = some (ca kd, ty) := by
              rcases (show kd = 0 ∨ kd = 1 ∨ kd = 2 by omega) with rfl | rfl | rfl
              · exact ⟨_, rfl⟩
              · exact ⟨_, rfl⟩
              · exact ⟨_, rfl⟩
            obtain ⟨ty, hty⟩ := hty
            exact va_alen hx hb hK hP r kd (dk_cw_at hcell) hty rfl hd (hk _ _ _ _ _ _ h ad H locs ls hl I)
          · cases h
        · cases h
    · cases h
  case newarray t =>
    simp only [dk_lk] at hr
    simp only [Bool.and_eq_true, decide_eq_true_eq] at hr
    obtain ⟨⟨h3, h4⟩, h5⟩ := hr
    obtain rfl := Nat.eq_of_beq_eq_true h3
    have ha3 : a < 3 := Nat.blt_eq.mp h4
    simp only [dk_step] at h
    split at h
    · rename_i x st
      split at h
      · cases h
      · rename_i hno
        split at h
        · rename_i hw
          simp only [Bool.and_eq_true] at hw
          obtain ⟨⟨⟨⟨⟨⟨v1, v2⟩, v3⟩, w1⟩, w2⟩, w3⟩, w4⟩ := hw
          have hx0 : ¬ x < 0 := fun z => hno (Or.inl z)
          have e0 : x.toNatClampNeg ≤ b := Nat.not_lt.mp fun z => hno (Or.inr z)
          have e1 : nc + 1 ≤ mc := Nat.ble_eq.mp v1
          have e2 : ns + b ≤ ms := Nat.ble_eq.mp v2
          have e3 : b ≤ 10000 := Nat.ble_eq.mp v3
          have harr : (Jvm.Cond.arrayClass (newarray.typeOf t)).before args s = true := by
            rw [h5]
            rcases (show a = 0 ∨ a = 1 ∨ a = 2 by omega) with rfl | rfl | rfl
            · exact hts _ (dk_gw_mem (by decide +kernel))
            · exact hts _ (dk_gw_mem (by decide +kernel))
            · exact hts _ (dk_gw_mem (by decide +kernel))
          have hz : ∀ cA : ClassId, vp_cell cA (dk_zero a x.toNatClampNeg) = arrV cA x.toNatClampNeg (fun _ => defaultValue (dk_at a)) := by
            intro cA
            rcases (show a = 0 ∨ a = 1 ∨ a = 2 by omega) with rfl | rfl | rfl
            · rfl
            · rfl
            · rfl
          have hby : x.toNatClampNeg * componentBytes (dk_at a) ≤ 536870912 := by
            rcases (show a = 0 ∨ a = 1 ∨ a = 2 by omega) with rfl | rfl | rfl <;> simp only [dk_at, componentBytes] <;> omega
          refine va_newa hx hb harr h5 hK hP hD hS hA hz hx0 rfl hby (by omega) (by omega) hd (fun q cA H1 g0 g1 g2 g3 => ?_)
          have hcA : cA = ca a := by
            have z1 := (g0.2 3 (cA, dk_at a) (by simp [dk_ty])).2
            rcases (show a = 0 ∨ a = 1 ∨ a = 2 by omega) with rfl | rfl | rfl
            · exact Option.some.inj (z1.symm.trans (hK.2 0 (ca 0, .int) rfl).2)
            · exact Option.some.inj (z1.symm.trans (hK.2 1 (ca 1, .long) rfl).2)
            · exact Option.some.inj (z1.symm.trans (hK.2 2 (ca 2, .boolean) rfl).2)
          subst hcA
          have hlen : M.length < 1000 := Nat.blt_eq.mp w1
          have hag : dk_agr M.length ad (fun i => if i = M.length then q else ad i) := fun i hi => by
            have : ¬ i = M.length := by omega
            simp [this]
          have ew : dk_cw (fun i => if i = M.length then q else ad i) ca M = dk_cw ad ca M := dk_cw_cong hag (Nat.le_refl _) w4
          have ew2 : dk_cw (fun i => if i = M.length then q else ad i) ca (M ++ [.inl (a, dk_zero a x.toNatClampNeg)]) = dk_cw ad ca M ++ [(q, .inl (ca a, dk_zero a x.toNatClampNeg))] := by rw [dk_cw_app, ew]; simp [dk_ce]
          have es : Value.ref q :: st.map (dk_cv ad) = (Value.ref M.length :: st).map (dk_cv (fun i => if i = M.length then q else ad i)) := by rw [List.map_cons, dk_map_cv hag w3]; simp [dk_cv]
          rw [es]
          refine W.widen (k := nc + 1) (n := ns + b) (Nat.le_refl _) (by omega) ?_
          exact hk _ _ _ _ _ _ h _ H1 locs ls (dk_sub hl (dk_en_cong hag w2)) ⟨by rw [ew2]; exact g1, by rw [ew2]; exact g2, g3, fun z => by omega, fun i hi => by rw [hag i (by omega)]; exact hg i hi, by rw [List.length_append]; omega, e1, e2⟩
        · cases h
    · cases h
  case new idx =>
    simp only [dk_lk] at hr
    split at hr
    · rename_i C T N hcl
      simp only [Bool.and_eq_true] at hr
      obtain ⟨⟨h3, h4⟩, h5⟩ := hr
      obtain rfl := Nat.eq_of_beq_eq_true h3
      have hNl := Nat.eq_of_beq_eq_true h5
      obtain ⟨ty, k1, k2, k3, k4, k5, k6⟩ := dk_clok a C T N hcl
      simp only [dk_step] at h
      split at h
      · rename_i hw
        simp only [Bool.and_eq_true] at hw
        obtain ⟨⟨⟨⟨⟨v1, v2⟩, w1⟩, w2⟩, w3⟩, w4⟩ := hw
        have e1 : nc + 1 ≤ mc := Nat.ble_eq.mp v1
        have e2 : ns + (dk_def a).length ≤ ms := Nat.ble_eq.mp v2
        refine va_new hx hb hts k3 ty k1 hown (hts _ (dk_gw_mem h4)) (hts _ k4) (hts _ k5) hK hP hD hS hA hcl k6 (by omega) (by omega) hd (fun q H1 g1 g2 g3 => ?_)
        have hlen : M.length < 1000 := Nat.blt_eq.mp w1
        have hag : dk_agr M.length ad (fun i => if i = M.length then q else ad i) := fun i hi => by
          have : ¬ i = M.length := by omega
          simp [this]
        have ew : dk_cw (fun i => if i = M.length then q else ad i) ca M = dk_cw ad ca M := dk_cw_cong hag (Nat.le_refl _) w4
        have ew2 : dk_cw (fun i => if i = M.length then q else ad i) ca (M ++ [.inr (a, dk_def a)]) = dk_cw ad ca M ++ [(q, .inr (a, dk_def a))] := by rw [dk_cw_app, ew]; simp [dk_ce, dk_def_cv]
        have es : Value.ref q :: st.map (dk_cv ad) = (Value.ref M.length :: st).map (dk_cv (fun i => if i = M.length then q else ad i)) := by rw [List.map_cons, dk_map_cv hag w3]; simp [dk_cv]
        rw [es, hNl]
        exact hk _ _ _ _ _ _ h _ H1 locs ls (dk_sub hl (dk_en_cong hag w2)) ⟨by rw [ew2]; exact g1, by rw [ew2]; exact g2, g3, fun z => by omega, fun i hi => by rw [hag i (by omega)]; exact hg i hi, by rw [List.length_append]; omega, e1, e2⟩
      · cases h
    · cases hr
  case invokestatic idx =>
    simp only [dk_lk] at hr
    rw [Bool.and_eq_true] at hr
    obtain ⟨h3, h4⟩ := hr
    obtain rfl := Nat.eq_of_beq_eq_true h3
    simp only [dk_step] at h
    split at h
    · split at h
      · rename_i y x st
        split at h
        · rename_i hck
          have hck := Nat.ble_eq.mp hck
          exact va_mmax hx hb (hml.trans hl.1.symm) hown (hts _ (dk_gw_mem h4)) (hts _ (dk_gw_mem (by decide +kernel))) (hts _ (dk_gw_mem (by decide +kernel))) (hts _ (dk_gw_mem (by decide +kernel))) (by omega) (by rw [dk_cat]; omega) (by omega) (by omega) hd (hk _ _ _ _ _ _ h ad H locs ls hl I)
        · cases h
      · cases h
    · split at h
      · rename_i y x st
        split at h
        · rename_i hck
          have hck := Nat.ble_eq.mp hck
          exact va_mmin hx hb (hml.trans hl.1.symm) hown (hts _ (dk_gw_mem h4)) (hts _ (dk_gw_mem (by decide +kernel))) (hts _ (dk_gw_mem (by decide +kernel))) (hts _ (dk_gw_mem (by decide +kernel))) (by omega) (by rw [dk_cat]; omega) (by omega) (by omega) hd (hk _ _ _ _ _ _ h ad H locs ls hl I)
        · cases h
      · cases h
    · rename_i hn7 hn8
      split at h
      · rename_i hck
        simp only [Bool.and_eq_true] at hck
        obtain ⟨⟨⟨⟨c1, c2⟩, c3⟩, c4⟩, c5⟩ := hck
        have c1 : cx ≤ st.length := Nat.ble_eq.mp c1
        have c2 := Nat.ble_eq.mp c2
        have c3 := Nat.ble_eq.mp c3
        have c4 := Nat.ble_eq.mp c4
        have c5 : (dk_lim b).1 = 0 ∨ (loc.all (dk_wo M.length) = true ∧ (st.drop cx).all (dk_wv M.length) = true) := by
          rw [Bool.or_eq_true, Bool.and_eq_true] at c5
          rcases c5 with z | z
          · exact Or.inl (Nat.eq_of_beq_eq_true z)
          · exact Or.inr z
        obtain ⟨q, hq, h⟩ := Option.bind_eq_some_iff.mp h
        obtain ⟨hmo, hco, hM⟩ := hcall b _ M q.1 q.2 hq
        have hM := hM ad H.size
        unfold dk_mok at hmo
        simp only [Bool.and_eq_true, decide_eq_true_eq] at hmo
        obtain ⟨⟨⟨⟨⟨⟨⟨m1, m2⟩, m3⟩, m4⟩, m5⟩, m6⟩, m7⟩, m8⟩ := hmo
        have m6 : dk_ml b ≤ 45 := Nat.ble_eq.mp m6
        have hRR : (dk_rm d b).frames + 1 ≤ R.frames ∧ 8 + (dk_ml b + 11) + (dk_rm d b).locals ≤ R.locals := ⟨hRf, by show 8 + (dk_ml b + 11) + 64 * d ≤ R.locals; omega⟩
        have hff := dk_free hD hS hA
        have hpre : ∀ U : State, U.heap = H → s.WarmedH U.vm → dk_Pre sc D ca ad (st.take cx).reverse M H.size ((st.take cx).reverse.map (dk_cv ad)).toArray U := fun U hU hW => ⟨rfl, by rw [hU], by rw [hU]; exact hP, va_K.moved hW.alike hK, hD.weaken (fun _ _ _ _ => trivial), dk_Tab_at (dk_Tab_ad hT hg) hW.alike hU hS hff, dk_Sta_at (dk_Sta_ad hZ hg) hW.alike hU hS hff, dk_Nst_warm hN hW⟩
        split at h4
        · simp only [Bool.and_eq_true, decide_eq_true_eq] at h4
          obtain ⟨⟨f1, f2⟩, f3⟩ := h4
          rw [f2] at m7
          have f3 := Nat.eq_of_beq_eq_true f3
          have hlen : ((st.take cx).reverse.map (dk_cv ad)).length = dk_np b := by rw [List.length_map, List.length_reverse, List.length_take]; omega
          have cw := callB_of (rm := dk_rm d b) (mc := (dk_lim b).1) (ms := (dk_lim b).2) (dk_np b) hts (dk_goodIn b hco) (rfl : dk_ws b = _) rfl rfl (hts _ (dk_gw_mem m2)) (hts _ (dk_gw_mem f1)) ⟨m3, m4, m5⟩ hRR
          exact dk_goes F hk h c3 c4 c5 hl I (va_runS (Ts := dk_good) ⟨hx, hb, hml, hown, hts⟩ hM ⟨cw, hts _ (dk_gw_mem m7)⟩ ⟨dk_Pre_blind _ _ _ _ _ _ _, hpre⟩ rfl hlen hl.1 (dk_stk ad st cx) (by show 2 * 0 + _ ≤ 8; rw [dk_cat]; omega) hd ⟨by omega, by omega⟩)
        · simp only [Bool.and_eq_true, decide_eq_true_eq] at h4
          obtain ⟨⟨f1, f2⟩, f3⟩ := h4
          rw [f2] at m7
          have f3 := Nat.eq_of_beq_eq_true f3
          have hlen : ((st.take cx).reverse.map (dk_cv ad)).length = dk_np b := by rw [List.length_map, List.length_reverse, List.length_take]; omega
          have cw := va_cnB (host := "DominoParlour") (rm := dk_rm d b) (mc := (dk_lim b).1) (ms := (dk_lim b).2) (dk_np b) hts (dk_goodIn b hco) (rfl : dk_ws b = _) rfl rfl (hN _ f1 rfl) (hts _ (dk_gw_mem m2)) ⟨m3, m4, m5⟩ hRR
          exact dk_goes F hk h c3 c4 c5 hl I (va_runSN (Ts := dk_good) ⟨hx, hb, hml, hown, hts⟩ hM ⟨cw, hts _ (dk_gw_mem m7), trivial⟩ ⟨dk_Pre_blind _ _ _ _ _ _ _, hpre⟩ rfl hlen hl.1 (dk_stk ad st cx) (by show 2 * 0 + _ ≤ 8; rw [dk_cat]; omega) hd ⟨by omega, by omega⟩)
        · exact absurd rfl hn7
        · exact absurd rfl hn8
        · cases h4
      · cases h
  case invokevirtual idx =>
    simp only [dk_lk] at hr
    rw [Bool.and_eq_true] at hr
    obtain ⟨h3, h4⟩ := hr
    obtain rfl := Nat.eq_of_beq_eq_true h3
    simp only [dk_step] at h
    split at h
    · rename_i hck
      simp only [Bool.and_eq_true] at hck
      obtain ⟨⟨⟨⟨c1, c2⟩, c3⟩, c4⟩, c5⟩ := hck
      have c1 : cx ≤ st.length := Nat.ble_eq.mp c1
      have c2 := Nat.ble_eq.mp c2
      have c3 := Nat.ble_eq.mp c3
      have c4 := Nat.ble_eq.mp c4
      have c5 : (dk_lim b).1 = 0 ∨ (loc.all (dk_wo M.length) = true ∧ (st.drop cx).all (dk_wv M.length) = true) := by
        rw [Bool.or_eq_true, Bool.and_eq_true] at c5
        rcases c5 with z | z
        · exact Or.inl (Nat.eq_of_beq_eq_true z)
        · exact Or.inr z
      split at h
      · rename_i j as hav
        split at h
        · rename_i ci fs hcell
          split at h
          · rename_i hci
            have hci : ci = dk_ci b := Nat.eq_of_beq_eq_true hci
            subst hci
            obtain ⟨q, hq, h⟩ := Option.bind_eq_some_iff.mp h
            obtain ⟨hmo, hco, hM⟩ := hcall b _ M q.1 q.2 hq
            have hM := hM ad H.size
            unfold dk_mok at hmo
            simp only [Bool.and_eq_true, decide_eq_true_eq] at hmo
            obtain ⟨⟨⟨⟨⟨⟨⟨m1, m2⟩, m3⟩, m4⟩, m5⟩, m6⟩, m7⟩, m8⟩ := hmo
            have m6 : dk_ml b ≤ 45 := Nat.ble_eq.mp m6
            have hRR : (dk_rm d b).frames + 1 ≤ R.frames ∧ 8 + (dk_ml b + 11) + (dk_rm d b).locals ≤ R.locals := ⟨hRf, by show 8 + (dk_ml b + 11) + 64 * d ≤ R.locals; omega⟩
            have hff := dk_free hD hS hA
            have hpre : ∀ U : State, U.heap = H → s.WarmedH U.vm → dk_Pre sc D ca ad (.ref j :: as) M H.size ((.ref j :: as).map (dk_cv ad)).toArray U := fun U hU hW => ⟨rfl, by rw [hU], by rw [hU]; exact hP, va_K.moved hW.alike hK, hD.weaken (fun _ _ _ _ => trivial), dk_Tab_at (dk_Tab_ad hT hg) hW.alike hU hS hff, dk_Sta_at (dk_Sta_ad hZ hg) hW.alike hU hS hff, dk_Nst_warm hN hW⟩
            split at h4
            · simp only [Bool.and_eq_true, Bool.not_eq_true', decide_eq_true_eq] at h4
              obtain ⟨⟨f1, f2, f2b⟩, f3⟩ := h4
              have f3 := Nat.eq_of_beq_eq_true f3
              have hstk : st.map (dk_cv ad) = (as.map (dk_cv ad)).reverse ++ .ref (ad j) :: (st.drop cx).map (dk_cv ad) := by
                have z := dk_stk ad st cx
                rw [hav] at z
                rw [z]
                simp [dk_cv]
              have hlen : (as.map (dk_cv ad)).length = dk_np b := by
                have z : (st.take cx).reverse.length = cx := by rw [List.length_reverse, List.length_take]; omega
                rw [hav, List.length_cons] at z
                rw [List.length_map]; omega
              rw [f2] at m7
              simp only [Bool.and_eq_true, decide_eq_true_eq, Bool.or_eq_true] at m7
              obtain ⟨⟨m7, m9⟩, m10⟩ := m7
              obtain ⟨qc, hqc, hqn⟩ := Option.map_eq_some_iff.mp m9
              have hrec := va_recv hK hP hqc (dk_cw_at (ad := ad) (ca := ca) hcell)
              rw [hqn] at hrec
              have m10 : (Jvm.Cond.selects (dk_nm b).cls (dk_nm b) (dk_nm b)).before args s = true := by
                rcases m10 with z | z
                · exact absurd z f2b
                · exact hts _ (dk_gw_mem z)
              have cw := callB_of (rm := dk_rm d b) (mc := (dk_lim b).1) (ms := (dk_lim b).2) (dk_np b) hts (dk_goodIn b hco) (rfl : dk_ws b = _) rfl rfl (hts _ (dk_gw_mem m2)) (hts _ (dk_gw_mem f1)) ⟨m3, m4, m5⟩ hRR
              exact dk_goes F hk h c3 c4 c5 hl I (va_runV (Ts := dk_good) (C := (dk_nm b).cls) ⟨hx, hb, hml, hown, hts⟩ hM ⟨cw, hts _ (dk_gw_mem m7), m10⟩ ⟨dk_Pre_blind _ _ _ _ _ _ _, hrec, hpre⟩ rfl hlen hl.1 hstk (by show 2 * 0 + _ ≤ 8; rw [dk_cat]; omega) hd ⟨by omega, by omega⟩)
            · simp only [Bool.and_eq_true, Bool.not_eq_true', decide_eq_true_eq] at h4
              obtain ⟨⟨f1, f2, f2b⟩, f3⟩ := h4
              have f3 := Nat.eq_of_beq_eq_true f3
              have hstk : st.map (dk_cv ad) = (as.map (dk_cv ad)).reverse ++ .ref (ad j) :: (st.drop cx).map (dk_cv ad) := by
                have z := dk_stk ad st cx
                rw [hav] at z
                rw [z]
                simp [dk_cv]
              have hlen : (as.map (dk_cv ad)).length = dk_np b := by
                have z : (st.take cx).reverse.length = cx := by rw [List.length_reverse, List.length_take]; omega
                rw [hav, List.length_cons] at z
                rw [List.length_map]; omega
              rw [f2] at m7
              simp only [Bool.and_eq_true, decide_eq_true_eq, Bool.or_eq_true] at m7
              obtain ⟨⟨m7, m9⟩, m10⟩ := m7
              obtain ⟨qc, hqc, hqn⟩ := Option.map_eq_some_iff.mp m9
              have hrec := va_recv hK hP hqc (dk_cw_at (ad := ad) (ca := ca) hcell)
              rw [hqn] at hrec
              have m10 : (Jvm.Cond.selects (dk_nm b).cls (dk_nm b) (dk_nm b)).before args s = true := by
                rcases m10 with z | z
                · exact absurd z f2b
                · exact hts _ (dk_gw_mem z)
              have cw := va_cnB (host := "DominoParlour") (rm := dk_rm d b) (mc := (dk_lim b).1) (ms := (dk_lim b).2) (dk_np b) hts (dk_goodIn b hco) (rfl : dk_ws b = _) rfl rfl (hN _ f1 rfl) (hts _ (dk_gw_mem m2)) ⟨m3, m4, m5⟩ hRR
              exact dk_goes F hk h c3 c4 c5 hl I (va_runVN (Ts := dk_good) (C := (dk_nm b).cls) ⟨hx, hb, hml, hown, hts⟩ hM ⟨cw, hts _ (dk_gw_mem m7), m10⟩ ⟨dk_Pre_blind _ _ _ _ _ _ _, hrec, hpre⟩ rfl hlen hl.1 hstk (by show 2 * 0 + _ ≤ 8; rw [dk_cat]; omega) hd ⟨by omega, by omega⟩)
            · cases h4
          · cases h
        · cases h
      · cases h
    · cases h
  case invokespecial idx =>
    simp only [dk_lk] at hr
    rw [Bool.and_eq_true] at hr
    obtain ⟨h3, h4⟩ := hr
    obtain rfl := Nat.eq_of_beq_eq_true h3
    simp only [dk_step] at h
    split at h
    · split at h
      · rename_i j st
        split at h
        · rename_i hck
          have hck := Nat.ble_eq.mp hck
          exact W.objInit hx hb hown (hts _ (dk_gw_mem h4)) (hts _ (dk_gw_mem (by decide +kernel))) (hts _ (dk_gw_mem (by decide +kernel))) rfl (hl.1.trans hml.symm) rfl hd (by omega) (by show 2 * 0 + _ + 12 ≤ _; rw [dk_cat]; omega) (hk _ _ _ _ _ _ h ad H locs ls hl I)
        · cases h
      · cases h
    · rename_i hn6
      split at h
      · rename_i hck
        simp only [Bool.and_eq_true] at hck
        obtain ⟨⟨⟨⟨c1, c2⟩, c3⟩, c4⟩, c5⟩ := hck
        have c1 : cx ≤ st.length := Nat.ble_eq.mp c1
        have c2 := Nat.ble_eq.mp c2
        have c3 := Nat.ble_eq.mp c3
        have c4 := Nat.ble_eq.mp c4
        have c5 : (dk_lim b).1 = 0 ∨ (loc.all (dk_wo M.length) = true ∧ (st.drop cx).all (dk_wv M.length) = true) := by
          rw [Bool.or_eq_true, Bool.and_eq_true] at c5
          rcases c5 with z | z
          · exact Or.inl (Nat.eq_of_beq_eq_true z)
          · exact Or.inr z
        split at h
        · rename_i j as hav
          obtain ⟨q, hq, h⟩ := Option.bind_eq_some_iff.mp h
          obtain ⟨hmo, hco, hM⟩ := hcall b _ M q.1 q.2 hq
          have hM := hM ad H.size
          unfold dk_mok at hmo
          simp only [Bool.and_eq_true, decide_eq_true_eq] at hmo
          obtain ⟨⟨⟨⟨⟨⟨⟨m1, m2⟩, m3⟩, m4⟩, m5⟩, m6⟩, m7⟩, m8⟩ := hmo
          have m6 : dk_ml b ≤ 45 := Nat.ble_eq.mp m6
          have hRR : (dk_rm d b).frames + 1 ≤ R.frames ∧ 8 + (dk_ml b + 11) + (dk_rm d b).locals ≤ R.locals := ⟨hRf, by show 8 + (dk_ml b + 11) + 64 * d ≤ R.locals; omega⟩
          have hff := dk_free hD hS hA
          have hpre : ∀ U : State, U.heap = H → s.WarmedH U.vm → dk_Pre sc D ca ad (.ref j :: as) M H.size ((.ref j :: as).map (dk_cv ad)).toArray U := fun U hU hW => ⟨rfl, by rw [hU], by rw [hU]; exact hP, va_K.moved hW.alike hK, hD.weaken (fun _ _ _ _ => trivial), dk_Tab_at (dk_Tab_ad hT hg) hW.alike hU hS hff, dk_Sta_at (dk_Sta_ad hZ hg) hW.alike hU hS hff, dk_Nst_warm hN hW⟩
          split at h4
          · simp only [Bool.and_eq_true, decide_eq_true_eq, Bool.not_eq_true'] at h4
            obtain ⟨⟨f1, ⟨f2, f2b⟩, f2c⟩, f3⟩ := h4
            have f3 := Nat.eq_of_beq_eq_true f3
            have hstk : st.map (dk_cv ad) = (as.map (dk_cv ad)).reverse ++ .ref (ad j) :: (st.drop cx).map (dk_cv ad) := by
              have z := dk_stk ad st cx
              rw [hav] at z
              rw [z]
              simp [dk_cv]
            have hlen : (as.map (dk_cv ad)).length = dk_np b := by
              have z : (st.take cx).reverse.length = cx := by rw [List.length_reverse, List.length_take]; omega
              rw [hav, List.length_cons] at z
              rw [List.length_map]; omega
            rw [f2b] at m7
            simp only [Bool.and_eq_true] at m7
            have m7 := hts _ (dk_gw_mem m7.1.1)
            have cw := callB_of (rm := dk_rm d b) (mc := (dk_lim b).1) (ms := (dk_lim b).2) (dk_np b) hts (dk_goodIn b hco) (rfl : dk_ws b = _) rfl rfl (hts _ (dk_gw_mem m2)) (hts _ (dk_gw_mem f1)) ⟨m3, m4, m5⟩ hRR
            rw [f2c] at cw
            exact dk_goes F hk h c3 c4 c5 hl I (va_runI (Ts := dk_good) ⟨hx, hb, hml, hown, hts⟩ hM ⟨cw, f2, m7⟩ ⟨dk_Pre_blind _ _ _ _ _ _ _, hpre⟩ rfl hlen hl.1 hstk (by show 2 * 0 + _ ≤ 8; rw [dk_cat]; omega) hd ⟨by omega, by omega⟩)
          · simp only [Bool.and_eq_true, decide_eq_true_eq, Bool.not_eq_true'] at h4
            obtain ⟨⟨f1, ⟨f2, f2b⟩, f2c⟩, f3⟩ := h4
            have f3 := Nat.eq_of_beq_eq_true f3
            have hstk : st.map (dk_cv ad) = (as.map (dk_cv ad)).reverse ++ .ref (ad j) :: (st.drop cx).map (dk_cv ad) := by
              have z := dk_stk ad st cx
              rw [hav] at z
              rw [z]
              simp [dk_cv]
            have hlen : (as.map (dk_cv ad)).length = dk_np b := by
              have z : (st.take cx).reverse.length = cx := by rw [List.length_reverse, List.length_take]; omega
              rw [hav, List.length_cons] at z
              rw [List.length_map]; omega
            rw [f2b] at m7
            simp only [Bool.and_eq_true] at m7
            have m7 := hts _ (dk_gw_mem m7.1.1)
            have cw := va_cnB (host := "DominoParlour") (rm := dk_rm d b) (mc := (dk_lim b).1) (ms := (dk_lim b).2) (dk_np b) hts (dk_goodIn b hco) (rfl : dk_ws b = _) rfl rfl (hN _ f1 rfl) (hts _ (dk_gw_mem m2)) ⟨m3, m4, m5⟩ hRR
            rw [f2c] at cw
            exact dk_goes F hk h c3 c4 c5 hl I (va_runIN (Ts := dk_good) ⟨hx, hb, hml, hown, hts⟩ hM ⟨cw, f2, m7⟩ ⟨dk_Pre_blind _ _ _ _ _ _ _, hpre⟩ rfl hlen hl.1 hstk (by show 2 * 0 + _ ≤ 8; rw [dk_cat]; omega) hd ⟨by omega, by omega⟩)
          · exact absurd rfl hn6
          · cases h4
        · cases h
      · cases h
  case ireturn =>
    replace hr : Nat.beq len 1 = true := hr
    obtain rfl := Nat.eq_of_beq_eq_true hr
    simp only [dk_step] at h
    split at h
    · rename_i x
      split at h
      · cases h
        exact hret _ _ ad H locs ls pc nc ns rfl I (Or.inr (Or.inl ⟨rfl, x, rfl, hd⟩))
      · split at h
        · rename_i hxx
          cases h
          exact hret _ _ ad H locs ls pc nc ns rfl I (Or.inr (Or.inr (Or.inl ⟨rfl, x, rfl, hxx, hd⟩)))
        · cases h
      · cases h
    · cases h
  case lreturn =>
    replace hr : Nat.beq len 1 = true := hr
    obtain rfl := Nat.eq_of_beq_eq_true hr
    simp only [dk_step] at h
    split at h
    · rename_i x
      split at h
      · cases h
        exact hret _ _ ad H locs ls pc nc ns rfl I (Or.inr (Or.inr (Or.inr ⟨rfl, x, rfl, hd⟩)))
      · cases h
    · cases h
  case return_ =>
    replace hr : Nat.beq len 1 = true := hr
    obtain rfl := Nat.eq_of_beq_eq_true hr
    simp only [dk_step] at h
    split at h
    · split at h
      · cases h
        exact hret _ _ ad H locs ls pc nc ns rfl I (Or.inl ⟨rfl, rfl, hd⟩)
      · cases h
    · cases h
  all_goals exact absurd (show (none : dk_Res) = some res from h) (by simp)
end DKT
