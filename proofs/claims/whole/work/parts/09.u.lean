/-! all methods: what the abstract machine answers, the real one does -/
theorem dk_all (y : Nat) (h : y < 151) : (∃ i : Nat, lw_tbl[i]? = some (Jvm.Cond.code (dk_nm y) (dk_by y) (dk_ml y) (dk_re y))) ∧ dk_mok y = true ∧ dk_rows y = true := by
  match y, h with
  | 0, _ => exact ⟨⟨_, dk_cd_0⟩, dk_mk_0, dk_rk_0⟩
  | 1, _ => exact ⟨⟨_, dk_cd_1⟩, dk_mk_1, dk_rk_1⟩
  | 2, _ => exact ⟨⟨_, dk_cd_2⟩, dk_mk_2, dk_rk_2⟩
  | 3, _ => exact ⟨⟨_, dk_cd_3⟩, dk_mk_3, dk_rk_3⟩
  | 4, _ => exact ⟨⟨_, dk_cd_4⟩, dk_mk_4, dk_rk_4⟩
  | 5, _ => exact ⟨⟨_, dk_cd_5⟩, dk_mk_5, dk_rk_5⟩
  | 6, _ => exact ⟨⟨_, dk_cd_6⟩, dk_mk_6, dk_rk_6⟩
  | 7, _ => exact ⟨⟨_, dk_cd_7⟩, dk_mk_7, dk_rk_7⟩
  | 8, _ => exact ⟨⟨_, dk_cd_8⟩, dk_mk_8, dk_rk_8⟩
  | 9, _ => exact ⟨⟨_, dk_cd_9⟩, dk_mk_9, dk_rk_9⟩
  | 10, _ => exact ⟨⟨_, dk_cd_10⟩, dk_mk_10, dk_rk_10⟩
  | 11, _ => exact ⟨⟨_, dk_cd_11⟩, dk_mk_11, dk_rk_11⟩
  | 12, _ => exact ⟨⟨_, dk_cd_12⟩, dk_mk_12, dk_rk_12⟩
  | 13, _ => exact ⟨⟨_, dk_cd_13⟩, dk_mk_13, dk_rk_13⟩
  | 14, _ => exact ⟨⟨_, dk_cd_14⟩, dk_mk_14, dk_rk_14⟩
  | 15, _ => exact ⟨⟨_, dk_cd_15⟩, dk_mk_15, dk_rk_15⟩
  | 16, _ => exact ⟨⟨_, dk_cd_16⟩, dk_mk_16, dk_rk_16⟩
  | 17, _ => exact ⟨⟨_, dk_cd_17⟩, dk_mk_17, dk_rk_17⟩
  | 18, _ => exact ⟨⟨_, dk_cd_18⟩, dk_mk_18, dk_rk_18⟩
  | 19, _ => exact ⟨⟨_, dk_cd_19⟩, dk_mk_19, dk_rk_19⟩
  | 20, _ => exact ⟨⟨_, dk_cd_20⟩, dk_mk_20, dk_rk_20⟩
  | 21, _ => exact ⟨⟨_, dk_cd_21⟩, dk_mk_21, dk_rk_21⟩
  | 22, _ => exact ⟨⟨_, dk_cd_22⟩, dk_mk_22, dk_rk_22⟩
  | 23, _ => exact ⟨⟨_, dk_cd_23⟩, dk_mk_23, dk_rk_23⟩
  | 24, _ => exact ⟨⟨_, dk_cd_24⟩, dk_mk_24, dk_rk_24⟩
  | 25, _ => exact ⟨⟨_, dk_cd_25⟩, dk_mk_25, dk_rk_25⟩
  | 26, _ => exact ⟨⟨_, dk_cd_26⟩, dk_mk_26, dk_rk_26⟩
  | 27, _ => exact ⟨⟨_, dk_cd_27⟩, dk_mk_27, dk_rk_27⟩
  | 28, _ => exact ⟨⟨_, dk_cd_28⟩, dk_mk_28, dk_rk_28⟩
  | 29, _ => exact ⟨⟨_, dk_cd_29⟩, dk_mk_29, dk_rk_29⟩
  | 30, _ => exact ⟨⟨_, dk_cd_30⟩, dk_mk_30, dk_rk_30⟩
  | 31, _ => exact ⟨⟨_, dk_cd_31⟩, dk_mk_31, dk_rk_31⟩
  | 32, _ => exact ⟨⟨_, dk_cd_32⟩, dk_mk_32, dk_rk_32⟩
  | 33, _ => exact ⟨⟨_, dk_cd_33⟩, dk_mk_33, dk_rk_33⟩
  | 34, _ => exact ⟨⟨_, dk_cd_34⟩, dk_mk_34, dk_rk_34⟩
  | 35, _ => exact ⟨⟨_, dk_cd_35⟩, dk_mk_35, dk_rk_35⟩
  | 36, _ => exact ⟨⟨_, dk_cd_36⟩, dk_mk_36, dk_rk_36⟩
  | 37, _ => exact ⟨⟨_, dk_cd_37⟩, dk_mk_37, dk_rk_37⟩
  | 38, _ => exact ⟨⟨_, dk_cd_38⟩, dk_mk_38, dk_rk_38⟩
  | 39, _ => exact ⟨⟨_, dk_cd_39⟩, dk_mk_39, dk_rk_39⟩
  | 40, _ => exact ⟨⟨_, dk_cd_40⟩, dk_mk_40, dk_rk_40⟩
  | 41, _ => exact ⟨⟨_, dk_cd_41⟩, dk_mk_41, dk_rk_41⟩
  | 42, _ => exact ⟨⟨_, dk_cd_42⟩, dk_mk_42, dk_rk_42⟩
  | 43, _ => exact ⟨⟨_, dk_cd_43⟩, dk_mk_43, dk_rk_43⟩
  | 44, _ => exact ⟨⟨_, dk_cd_44⟩, dk_mk_44, dk_rk_44⟩
  | 45, _ => exact ⟨⟨_, dk_cd_45⟩, dk_mk_45, dk_rk_45⟩
  | 46, _ => exact ⟨⟨_, dk_cd_46⟩, dk_mk_46, dk_rk_46⟩
  | 47, _ => exact ⟨⟨_, dk_cd_47⟩, dk_mk_47, dk_rk_47⟩
  | 48, _ => exact ⟨⟨_, dk_cd_48⟩, dk_mk_48, dk_rk_48⟩
  | 49, _ => exact ⟨⟨_, dk_cd_49⟩, dk_mk_49, dk_rk_49⟩
  | 50, _ => exact ⟨⟨_, dk_cd_50⟩, dk_mk_50, dk_rk_50⟩
  | 51, _ => exact ⟨⟨_, dk_cd_51⟩, dk_mk_51, dk_rk_51⟩
  | 52, _ => exact ⟨⟨_, dk_cd_52⟩, dk_mk_52, dk_rk_52⟩
  | 53, _ => exact ⟨⟨_, dk_cd_53⟩, dk_mk_53, dk_rk_53⟩
  | 54, _ => exact ⟨⟨_, dk_cd_54⟩, dk_mk_54, dk_rk_54⟩
  | 55, _ => exact ⟨⟨_, dk_cd_55⟩, dk_mk_55, dk_rk_55⟩
  | 56, _ => exact ⟨⟨_, dk_cd_56⟩, dk_mk_56, dk_rk_56⟩
  | 57, _ => exact ⟨⟨_, dk_cd_57⟩, dk_mk_57, dk_rk_57⟩
  | 58, _ => exact ⟨⟨_, dk_cd_58⟩, dk_mk_58, dk_rk_58⟩
  | 59, _ => exact ⟨⟨_, dk_cd_59⟩, dk_mk_59, dk_rk_59⟩
  | 60, _ => exact ⟨⟨_, dk_cd_60⟩, dk_mk_60, dk_rk_60⟩
  | 61, _ => exact ⟨⟨_, dk_cd_61⟩, dk_mk_61, dk_rk_61⟩
  | 62, _ => exact ⟨⟨_, dk_cd_62⟩, dk_mk_62, dk_rk_62⟩
  | 63, _ => exact ⟨⟨_, dk_cd_63⟩, dk_mk_63, dk_rk_63⟩
  | 64, _ => exact ⟨⟨_, dk_cd_64⟩, dk_mk_64, dk_rk_64⟩
  | 65, _ => exact ⟨⟨_, dk_cd_65⟩, dk_mk_65, dk_rk_65⟩
  | 66, _ => exact ⟨⟨_, dk_cd_66⟩, dk_mk_66, dk_rk_66⟩
  | 67, _ => exact ⟨⟨_, dk_cd_67⟩, dk_mk_67, dk_rk_67⟩
  | 68, _ => exact ⟨⟨_, dk_cd_68⟩, dk_mk_68, dk_rk_68⟩
  | 69, _ => exact ⟨⟨_, dk_cd_69⟩, dk_mk_69, dk_rk_69⟩
  | 70, _ => exact ⟨⟨_, dk_cd_70⟩, dk_mk_70, dk_rk_70⟩
  | 71, _ => exact ⟨⟨_, dk_cd_71⟩, dk_mk_71, dk_rk_71⟩
  | 72, _ => exact ⟨⟨_, dk_cd_72⟩, dk_mk_72, dk_rk_72⟩
  | 73, _ => exact ⟨⟨_, dk_cd_73⟩, dk_mk_73, dk_rk_73⟩
  | 74, _ => exact ⟨⟨_, dk_cd_74⟩, dk_mk_74, dk_rk_74⟩
  | 75, _ => exact ⟨⟨_, dk_cd_75⟩, dk_mk_75, dk_rk_75⟩
  | 76, _ => exact ⟨⟨_, dk_cd_76⟩, dk_mk_76, dk_rk_76⟩
  | 77, _ => exact ⟨⟨_, dk_cd_77⟩, dk_mk_77, dk_rk_77⟩
  | 78, _ => exact ⟨⟨_, dk_cd_78⟩, dk_mk_78, dk_rk_78⟩
  | 79, _ => exact ⟨⟨_, dk_cd_79⟩, dk_mk_79, dk_rk_79⟩
  | 80, _ => exact ⟨⟨_, dk_cd_80⟩, dk_mk_80, dk_rk_80⟩
  | 81, _ => exact ⟨⟨_, dk_cd_81⟩, dk_mk_81, dk_rk_81⟩
  | 82, _ => exact ⟨⟨_, dk_cd_82⟩, dk_mk_82, dk_rk_82⟩
  | 83, _ => exact ⟨⟨_, dk_cd_83⟩, dk_mk_83, dk_rk_83⟩
  | 84, _ => exact ⟨⟨_, dk_cd_84⟩, dk_mk_84, dk_rk_84⟩
  | 85, _ => exact ⟨⟨_, dk_cd_85⟩, dk_mk_85, dk_rk_85⟩
  | 86, _ => exact ⟨⟨_, dk_cd_86⟩, dk_mk_86, dk_rk_86⟩
  | 87, _ => exact ⟨⟨_, dk_cd_87⟩, dk_mk_87, dk_rk_87⟩
  | 88, _ => exact ⟨⟨_, dk_cd_88⟩, dk_mk_88, dk_rk_88⟩
  | 89, _ => exact ⟨⟨_, dk_cd_89⟩, dk_mk_89, dk_rk_89⟩
  | 90, _ => exact ⟨⟨_, dk_cd_90⟩, dk_mk_90, dk_rk_90⟩
  | 91, _ => exact ⟨⟨_, dk_cd_91⟩, dk_mk_91, dk_rk_91⟩
  | 92, _ => exact ⟨⟨_, dk_cd_92⟩, dk_mk_92, dk_rk_92⟩
  | 93, _ => exact ⟨⟨_, dk_cd_93⟩, dk_mk_93, dk_rk_93⟩
  | 94, _ => exact ⟨⟨_, dk_cd_94⟩, dk_mk_94, dk_rk_94⟩
  | 95, _ => exact ⟨⟨_, dk_cd_95⟩, dk_mk_95, dk_rk_95⟩
  | 96, _ => exact ⟨⟨_, dk_cd_96⟩, dk_mk_96, dk_rk_96⟩
  | 97, _ => exact ⟨⟨_, dk_cd_97⟩, dk_mk_97, dk_rk_97⟩
  | 98, _ => exact ⟨⟨_, dk_cd_98⟩, dk_mk_98, dk_rk_98⟩
  | 99, _ => exact ⟨⟨_, dk_cd_99⟩, dk_mk_99, dk_rk_99⟩
  | 100, _ => exact ⟨⟨_, dk_cd_100⟩, dk_mk_100, dk_rk_100⟩
  | 101, _ => exact ⟨⟨_, dk_cd_101⟩, dk_mk_101, dk_rk_101⟩
  | 102, _ => exact ⟨⟨_, dk_cd_102⟩, dk_mk_102, dk_rk_102⟩
  | 103, _ => exact ⟨⟨_, dk_cd_103⟩, dk_mk_103, dk_rk_103⟩
  | 104, _ => exact ⟨⟨_, dk_cd_104⟩, dk_mk_104, dk_rk_104⟩
  | 105, _ => exact ⟨⟨_, dk_cd_105⟩, dk_mk_105, dk_rk_105⟩
  | 106, _ => exact ⟨⟨_, dk_cd_106⟩, dk_mk_106, dk_rk_106⟩
  | 107, _ => exact ⟨⟨_, dk_cd_107⟩, dk_mk_107, dk_rk_107⟩
  | 108, _ => exact ⟨⟨_, dk_cd_108⟩, dk_mk_108, dk_rk_108⟩
  | 109, _ => exact ⟨⟨_, dk_cd_109⟩, dk_mk_109, dk_rk_109⟩
  | 110, _ => exact ⟨⟨_, dk_cd_110⟩, dk_mk_110, dk_rk_110⟩
  | 111, _ => exact ⟨⟨_, dk_cd_111⟩, dk_mk_111, dk_rk_111⟩
  | 112, _ => exact ⟨⟨_, dk_cd_112⟩, dk_mk_112, dk_rk_112⟩
  | 113, _ => exact ⟨⟨_, dk_cd_113⟩, dk_mk_113, dk_rk_113⟩
  | 114, _ => exact ⟨⟨_, dk_cd_114⟩, dk_mk_114, dk_rk_114⟩
  | 115, _ => exact ⟨⟨_, dk_cd_115⟩, dk_mk_115, dk_rk_115⟩
  | 116, _ => exact ⟨⟨_, dk_cd_116⟩, dk_mk_116, dk_rk_116⟩
  | 117, _ => exact ⟨⟨_, dk_cd_117⟩, dk_mk_117, dk_rk_117⟩
  | 118, _ => exact ⟨⟨_, dk_cd_118⟩, dk_mk_118, dk_rk_118⟩
  | 119, _ => exact ⟨⟨_, dk_cd_119⟩, dk_mk_119, dk_rk_119⟩
  | 120, _ => exact ⟨⟨_, dk_cd_120⟩, dk_mk_120, dk_rk_120⟩
  | 121, _ => exact ⟨⟨_, dk_cd_121⟩, dk_mk_121, dk_rk_121⟩
  | 122, _ => exact ⟨⟨_, dk_cd_122⟩, dk_mk_122, dk_rk_122⟩
  | 123, _ => exact ⟨⟨_, dk_cd_123⟩, dk_mk_123, dk_rk_123⟩
  | 124, _ => exact ⟨⟨_, dk_cd_124⟩, dk_mk_124, dk_rk_124⟩
  | 125, _ => exact ⟨⟨_, dk_cd_125⟩, dk_mk_125, dk_rk_125⟩
  | 126, _ => exact ⟨⟨_, dk_cd_126⟩, dk_mk_126, dk_rk_126⟩
  | 127, _ => exact ⟨⟨_, dk_cd_127⟩, dk_mk_127, dk_rk_127⟩
  | 128, _ => exact ⟨⟨_, dk_cd_128⟩, dk_mk_128, dk_rk_128⟩
  | 129, _ => exact ⟨⟨_, dk_cd_129⟩, dk_mk_129, dk_rk_129⟩
  | 130, _ => exact ⟨⟨_, dk_cd_130⟩, dk_mk_130, dk_rk_130⟩
  | 131, _ => exact ⟨⟨_, dk_cd_131⟩, dk_mk_131, dk_rk_131⟩
  | 132, _ => exact ⟨⟨_, dk_cd_132⟩, dk_mk_132, dk_rk_132⟩
  | 133, _ => exact ⟨⟨_, dk_cd_133⟩, dk_mk_133, dk_rk_133⟩
  | 134, _ => exact ⟨⟨_, dk_cd_134⟩, dk_mk_134, dk_rk_134⟩
  | 135, _ => exact ⟨⟨_, dk_cd_135⟩, dk_mk_135, dk_rk_135⟩
  | 136, _ => exact ⟨⟨_, dk_cd_136⟩, dk_mk_136, dk_rk_136⟩
  | 137, _ => exact ⟨⟨_, dk_cd_137⟩, dk_mk_137, dk_rk_137⟩
  | 138, _ => exact ⟨⟨_, dk_cd_138⟩, dk_mk_138, dk_rk_138⟩
  | 139, _ => exact ⟨⟨_, dk_cd_139⟩, dk_mk_139, dk_rk_139⟩
  | 140, _ => exact ⟨⟨_, dk_cd_140⟩, dk_mk_140, dk_rk_140⟩
  | 141, _ => exact ⟨⟨_, dk_cd_141⟩, dk_mk_141, dk_rk_141⟩
  | 142, _ => exact ⟨⟨_, dk_cd_142⟩, dk_mk_142, dk_rk_142⟩
  | 143, _ => exact ⟨⟨_, dk_cd_143⟩, dk_mk_143, dk_rk_143⟩
  | 144, _ => exact ⟨⟨_, dk_cd_144⟩, dk_mk_144, dk_rk_144⟩
  | 145, _ => exact ⟨⟨_, dk_cd_145⟩, dk_mk_145, dk_rk_145⟩
  | 146, _ => exact ⟨⟨_, dk_cd_146⟩, dk_mk_146, dk_rk_146⟩
  | 147, _ => exact ⟨⟨_, dk_cd_147⟩, dk_mk_147, dk_rk_147⟩
  | 148, _ => exact ⟨⟨_, dk_cd_148⟩, dk_mk_148, dk_rk_148⟩
  | 149, _ => exact ⟨⟨_, dk_cd_149⟩, dk_mk_149, dk_rk_149⟩
  | 150, _ => exact ⟨⟨_, dk_cd_150⟩, dk_mk_150, dk_rk_150⟩
  | n + 151, h => omega
theorem dk_code_good {y i : Nat} (h : lw_tbl[i]? = some (Jvm.Cond.code (dk_nm y) (dk_by y) (dk_ml y) (dk_re y))) : Jvm.Cond.code (dk_nm y) (dk_by y) (dk_ml y) (dk_re y) ∈ dk_good := List.mem_filter.mpr ⟨List.mem_of_getElem? h, rfl⟩
set_option maxHeartbeats 4000000 in
theorem dk_exec_ok (l : Launch) (sc : Nat × (Nat → Int32)) (D : va_G) (ca : Nat → ClassId) (N : Nat) : ∀ d, dk_CallOk l sc D ca d (dk_exec sc N d)
  | 0, y, av, M, r, M', h => by cases h
  | d + 1, y, av, M, r, M', h => by
    rw [dk_exec] at h
    split at h
    · rename_i hy
      rw [Bool.and_eq_true] at hy
      obtain ⟨hy, hpl⟩ := hy
      have hpl : (dk_pos av).length ≤ dk_ml y := Nat.ble_eq.mp hpl
      obtain ⟨⟨i, hcd⟩, hmo, hro⟩ := dk_all y (Nat.blt_eq.mp hy)
      have hcg := dk_code_good hcd
      refine ⟨hmo, hcg, fun ad sz => ?_⟩
      have ih := dk_exec_ok l sc D ca N d
      unfold dk_mok at hmo
      simp only [Bool.and_eq_true, decide_eq_true_eq] at hmo
      obtain ⟨⟨⟨⟨⟨⟨⟨m1, m2⟩, m3⟩, m4⟩, m5⟩, m6⟩, m7⟩, m8⟩ := hmo
      refine Met.ofW (cc := dk_by y) (maxL := dk_ml y) (ret := dk_re y) m1 rfl ?_
      intro p e s m args below meth c s₁ B hml hv
      obtain ⟨rfl, hsz, hP, hK, hD0, hT, hZ, hN⟩ := hv
      have hx := B.exec
      have hb := B.bytes
      have hr := B.returns
      have hts := atoms_spec (ws := dk_ws y) B.pre
      have hown : s.vm.findClass (dk_nm y).cls = some m.cls := findClass_of_methodNamed B.named
      have hlocks := B.notSynchronized
      have hin : meth.name = (dk_nm y).name := (name_of_methodNamed B.named B.method).1
      subst hsz
      have hl := lv_entry (av.map (dk_cv ad)) (n := dk_ml y) (by rw [dk_pos_len]; exact hpl)
      rw [lg_entry_eq]
      generalize (lg_sl (av.map (dk_cv ad)) ++ List.replicate (dk_ml y - (lg_sl (av.map (dk_cv ad))).length) Slot.unset).toArray = ls at hl ⊢
      have hA : ∀ q : Nat, s.heap.size ≤ q → va_A (dk_cw ad ca M) s.heap.size q := fun q h => Or.inr h
      have F : dk_Fix p (dk_rm (d + 1) y) s m (av.map (dk_cv ad)).toArray meth c (dk_by y) (dk_nm y).cls (decide ((dk_nm y).name = "<init>")) (dk_ml y) (dk_mr y).2.2.2.2.1 (dk_mr y).2.2.2.2.2 d sc D ca (va_A (dk_cw ad ca M) s.heap.size) ad :=
        ⟨hx, hb, hml, hown, fun w hw => hts w (List.mem_cons_of_mem _ hw), hN, hK, hA, fun h => hin.trans (of_decide_eq_true h), hT, hZ, Nat.le_refl _, Nat.le_refl _, Nat.le_refl _, Nat.le_refl _⟩
      refine dk_loop_ok (me := dk_mr y) F ih (dk_rows_cd hro) ?_ N 0 _ [] M 0 0 h ad s.heap [] ls (dk_sub hl dk_ent0_en) ⟨hP, hD0.self, va_S.rf, fun _ => rfl, fun _ _ => rfl, Nat.le_refl _, Nat.zero_le _, Nat.zero_le _⟩
      intro v M1 ad' H locs ls pc nc ns hres I hcase
      cases hres
      obtain ⟨hP, hD, hS, h0, hg, hn, hnc, hns⟩ := I
      refine W.widen (k := (dk_lim y).1) (n := (dk_lim y).2) hnc hns ?_
      rcases hcase with ⟨hrt, rfl, hd⟩ | ⟨hrt, x, rfl, hd⟩ | ⟨hrt, x, rfl, hxx, hd⟩ | ⟨hrt, x, rfl, hd⟩
      · rw [hrt] at m8
        have m8 := of_decide_eq_true m8
        rw [m8] at hr
        exact W.vret hx hb hr (fun t ht hW => ⟨⟨ad', rfl, h0, hg, hn, by rw [ht]; exact hP, va_K.moved hW.alike hK, hD⟩, hS.F ht⟩) hS.2.2 hd
      · rw [hrt] at m8
        have m8 := of_decide_eq_true m8
        rw [m8] at hr
        exact W.iret hx hb hr (fun t ht hW => ⟨⟨ad', rfl, h0, hg, hn, by rw [ht]; exact hP, va_K.moved hW.alike hK, hD⟩, hS.F ht⟩) hS.2.2 hd
      · rw [hrt] at m8
        have m8 := of_decide_eq_true m8
        rw [m8] at hr
        exact W.zret hx hb hr (by show Value.int (x &&& 1) = Value.int x; rw [hxx]) (fun t ht hW => ⟨⟨ad', rfl, h0, hg, hn, by rw [ht]; exact hP, va_K.moved hW.alike hK, hD⟩, hS.F ht⟩) hS.2.2 hd
      · rw [hrt] at m8
        have m8 := of_decide_eq_true m8
        rw [m8] at hr
        exact W.lret hx hb hr (fun t ht hW => ⟨⟨ad', rfl, h0, hg, hn, by rw [ht]; exact hP, va_K.moved hW.alike hK, hD⟩, hS.F ht⟩) hS.2.2 hd
    · cases h

