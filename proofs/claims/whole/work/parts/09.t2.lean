/-! the tables, checked: methods 95 to 118 -/
set_option maxRecDepth 100000 in
theorem dk_cd_95 : lw_tbl[713]? = some (Jvm.Cond.code (dk_nm 95) (dk_by 95) (dk_ml 95) (dk_re 95)) := rfl
theorem dk_mk_95 : dk_mok 95 = true := by decide +kernel
theorem dk_rk_95 : dk_rows 95 = true := by decide +kernel
set_option maxRecDepth 100000 in
theorem dk_cd_96 : lw_tbl[717]? = some (Jvm.Cond.code (dk_nm 96) (dk_by 96) (dk_ml 96) (dk_re 96)) := rfl
theorem dk_mk_96 : dk_mok 96 = true := by decide +kernel
theorem dk_rk_96 : dk_rows 96 = true := by decide +kernel
set_option maxRecDepth 100000 in
theorem dk_cd_97 : lw_tbl[894]? = some (Jvm.Cond.code (dk_nm 97) (dk_by 97) (dk_ml 97) (dk_re 97)) := rfl
theorem dk_mk_97 : dk_mok 97 = true := by decide +kernel
theorem dk_rk_97 : dk_rows 97 = true := by decide +kernel
set_option maxRecDepth 100000 in
theorem dk_cd_98 : lw_tbl[897]? = some (Jvm.Cond.code (dk_nm 98) (dk_by 98) (dk_ml 98) (dk_re 98)) := rfl
theorem dk_mk_98 : dk_mok 98 = true := by decide +kernel
theorem dk_rk_98 : dk_rows 98 = true := by decide +kernel
set_option maxRecDepth 100000 in
theorem dk_cd_99 : lw_tbl[932]? = some (Jvm.Cond.code (dk_nm 99) (dk_by 99) (dk_ml 99) (dk_re 99)) := rfl
theorem dk_mk_99 : dk_mok 99 = true := by decide +kernel
theorem dk_rk_99 : dk_rows 99 = true := by decide +kernel
set_option maxRecDepth 100000 in
theorem dk_cd_100 : lw_tbl[891]? = some (Jvm.Cond.code (dk_nm 100) (dk_by 100) (dk_ml 100) (dk_re 100)) := rfl
theorem dk_mk_100 : dk_mok 100 = true := by decide +kernel
theorem dk_rk_100 : dk_rows 100 = true := by decide +kernel
set_option maxRecDepth 100000 in
theorem dk_cd_101 : lw_tbl[854]? = some (Jvm.Cond.code (dk_nm 101) (dk_by 101) (dk_ml 101) (dk_re 101)) := rfl
theorem dk_mk_101 : dk_mok 101 = true := by decide +kernel
theorem dk_rk_101 : dk_rows 101 = true := by decide +kernel
set_option maxRecDepth 100000 in
theorem dk_cd_102 : lw_tbl[850]? = some (Jvm.Cond.code (dk_nm 102) (dk_by 102) (dk_ml 102) (dk_re 102)) := rfl
theorem dk_mk_102 : dk_mok 102 = true := by decide +kernel
theorem dk_rk_102 : dk_rows 102 = true := by decide +kernel
set_option maxRecDepth 100000 in
theorem dk_cd_103 : lw_tbl[925]? = some (Jvm.Cond.code (dk_nm 103) (dk_by 103) (dk_ml 103) (dk_re 103)) := rfl
theorem dk_mk_103 : dk_mok 103 = true := by decide +kernel
theorem dk_rk_103 : dk_rows 103 = true := by decide +kernel
set_option maxRecDepth 100000 in
theorem dk_cd_104 : lw_tbl[858]? = some (Jvm.Cond.code (dk_nm 104) (dk_by 104) (dk_ml 104) (dk_re 104)) := rfl
theorem dk_mk_104 : dk_mok 104 = true := by decide +kernel
theorem dk_rk_104 : dk_rows 104 = true := by decide +kernel
set_option maxRecDepth 100000 in
theorem dk_cd_105 : lw_tbl[842]? = some (Jvm.Cond.code (dk_nm 105) (dk_by 105) (dk_ml 105) (dk_re 105)) := rfl
theorem dk_mk_105 : dk_mok 105 = true := by decide +kernel
theorem dk_rk_105 : dk_rows 105 = true := by decide +kernel
set_option maxRecDepth 100000 in
theorem dk_cd_106 : lw_tbl[846]? = some (Jvm.Cond.code (dk_nm 106) (dk_by 106) (dk_ml 106) (dk_re 106)) := rfl
theorem dk_mk_106 : dk_mok 106 = true := by decide +kernel
theorem dk_rk_106 : dk_rows 106 = true := by decide +kernel
set_option maxRecDepth 100000 in
theorem dk_cd_107 : lw_tbl[862]? = some (Jvm.Cond.code (dk_nm 107) (dk_by 107) (dk_ml 107) (dk_re 107)) := rfl
theorem dk_mk_107 : dk_mok 107 = true := by decide +kernel
theorem dk_rk_107 : dk_rows 107 = true := by decide +kernel
set_option maxRecDepth 100000 in
theorem dk_cd_108 : lw_tbl[868]? = some (Jvm.Cond.code (dk_nm 108) (dk_by 108) (dk_ml 108) (dk_re 108)) := rfl
theorem dk_mk_108 : dk_mok 108 = true := by decide +kernel
theorem dk_rk_108 : dk_rows 108 = true := by decide +kernel
set_option maxRecDepth 100000 in
theorem dk_cd_109 : lw_tbl[884]? = some (Jvm.Cond.code (dk_nm 109) (dk_by 109) (dk_ml 109) (dk_re 109)) := rfl
theorem dk_mk_109 : dk_mok 109 = true := by decide +kernel
theorem dk_rk_109 : dk_rows 109 = true := by decide +kernel
set_option maxRecDepth 100000 in
theorem dk_cd_110 : lw_tbl[888]? = some (Jvm.Cond.code (dk_nm 110) (dk_by 110) (dk_ml 110) (dk_re 110)) := rfl
theorem dk_mk_110 : dk_mok 110 = true := by decide +kernel
theorem dk_rk_110 : dk_rows 110 = true := by decide +kernel
set_option maxRecDepth 100000 in
theorem dk_cd_111 : lw_tbl[901]? = some (Jvm.Cond.code (dk_nm 111) (dk_by 111) (dk_ml 111) (dk_re 111)) := rfl
theorem dk_mk_111 : dk_mok 111 = true := by decide +kernel
theorem dk_rk_111 : dk_rows 111 = true := by decide +kernel
set_option maxRecDepth 100000 in
theorem dk_cd_112 : lw_tbl[880]? = some (Jvm.Cond.code (dk_nm 112) (dk_by 112) (dk_ml 112) (dk_re 112)) := rfl
theorem dk_mk_112 : dk_mok 112 = true := by decide +kernel
theorem dk_rk_112 : dk_rows 112 = true := by decide +kernel
set_option maxRecDepth 100000 in
theorem dk_cd_113 : lw_tbl[876]? = some (Jvm.Cond.code (dk_nm 113) (dk_by 113) (dk_ml 113) (dk_re 113)) := rfl
theorem dk_mk_113 : dk_mok 113 = true := by decide +kernel
theorem dk_rk_113 : dk_rows 113 = true := by decide +kernel
set_option maxRecDepth 100000 in
theorem dk_cd_114 : lw_tbl[941]? = some (Jvm.Cond.code (dk_nm 114) (dk_by 114) (dk_ml 114) (dk_re 114)) := rfl
theorem dk_mk_114 : dk_mok 114 = true := by decide +kernel
theorem dk_rk_114 : dk_rows 114 = true := by decide +kernel
set_option maxRecDepth 100000 in
theorem dk_cd_115 : lw_tbl[909]? = some (Jvm.Cond.code (dk_nm 115) (dk_by 115) (dk_ml 115) (dk_re 115)) := rfl
theorem dk_mk_115 : dk_mok 115 = true := by decide +kernel
theorem dk_rk_115 : dk_rows 115 = true := by decide +kernel
set_option maxRecDepth 100000 in
theorem dk_cd_116 : lw_tbl[905]? = some (Jvm.Cond.code (dk_nm 116) (dk_by 116) (dk_ml 116) (dk_re 116)) := rfl
theorem dk_mk_116 : dk_mok 116 = true := by decide +kernel
theorem dk_rk_116 : dk_rows 116 = true := by decide +kernel
set_option maxRecDepth 100000 in
theorem dk_cd_117 : lw_tbl[949]? = some (Jvm.Cond.code (dk_nm 117) (dk_by 117) (dk_ml 117) (dk_re 117)) := rfl
theorem dk_mk_117 : dk_mok 117 = true := by decide +kernel
theorem dk_rk_117 : dk_rows 117 = true := by decide +kernel
set_option maxRecDepth 100000 in
theorem dk_cd_118 : lw_tbl[921]? = some (Jvm.Cond.code (dk_nm 118) (dk_by 118) (dk_ml 118) (dk_re 118)) := rfl
theorem dk_mk_118 : dk_mok 118 = true := by decide +kernel
theorem dk_rk_118 : dk_rows 118 = true := by decide +kernel
