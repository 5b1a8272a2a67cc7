/-! the tables, checked: methods 119 to 135 -/
set_option maxRecDepth 100000 in
theorem dk_cd_119 : lw_tbl[917]? = some (Jvm.Cond.code (dk_nm 119) (dk_by 119) (dk_ml 119) (dk_re 119)) := rfl
theorem dk_mk_119 : dk_mok 119 = true := by decide +kernel
theorem dk_rk_119 : dk_rows 119 = true := by decide +kernel
set_option maxRecDepth 100000 in
theorem dk_cd_120 : lw_tbl[929]? = some (Jvm.Cond.code (dk_nm 120) (dk_by 120) (dk_ml 120) (dk_re 120)) := rfl
theorem dk_mk_120 : dk_mok 120 = true := by decide +kernel
theorem dk_rk_120 : dk_rows 120 = true := by decide +kernel
set_option maxRecDepth 100000 in
theorem dk_cd_121 : lw_tbl[913]? = some (Jvm.Cond.code (dk_nm 121) (dk_by 121) (dk_ml 121) (dk_re 121)) := rfl
theorem dk_mk_121 : dk_mok 121 = true := by decide +kernel
theorem dk_rk_121 : dk_rows 121 = true := by decide +kernel
set_option maxRecDepth 100000 in
theorem dk_cd_122 : lw_tbl[872]? = some (Jvm.Cond.code (dk_nm 122) (dk_by 122) (dk_ml 122) (dk_re 122)) := rfl
theorem dk_mk_122 : dk_mok 122 = true := by decide +kernel
theorem dk_rk_122 : dk_rows 122 = true := by decide +kernel
set_option maxRecDepth 100000 in
theorem dk_cd_123 : lw_tbl[937]? = some (Jvm.Cond.code (dk_nm 123) (dk_by 123) (dk_ml 123) (dk_re 123)) := rfl
theorem dk_mk_123 : dk_mok 123 = true := by decide +kernel
theorem dk_rk_123 : dk_rows 123 = true := by decide +kernel
set_option maxRecDepth 100000 in
theorem dk_cd_124 : lw_tbl[945]? = some (Jvm.Cond.code (dk_nm 124) (dk_by 124) (dk_ml 124) (dk_re 124)) := rfl
theorem dk_mk_124 : dk_mok 124 = true := by decide +kernel
theorem dk_rk_124 : dk_rows 124 = true := by decide +kernel
set_option maxRecDepth 100000 in
theorem dk_cd_125 : lw_tbl[953]? = some (Jvm.Cond.code (dk_nm 125) (dk_by 125) (dk_ml 125) (dk_re 125)) := rfl
theorem dk_mk_125 : dk_mok 125 = true := by decide +kernel
theorem dk_rk_125 : dk_rows 125 = true := by decide +kernel
set_option maxRecDepth 100000 in
theorem dk_cd_126 : lw_tbl[957]? = some (Jvm.Cond.code (dk_nm 126) (dk_by 126) (dk_ml 126) (dk_re 126)) := rfl
theorem dk_mk_126 : dk_mok 126 = true := by decide +kernel
theorem dk_rk_126 : dk_rows 126 = true := by decide +kernel
set_option maxRecDepth 100000 in
theorem dk_cd_127 : lw_tbl[961]? = some (Jvm.Cond.code (dk_nm 127) (dk_by 127) (dk_ml 127) (dk_re 127)) := rfl
theorem dk_mk_127 : dk_mok 127 = true := by decide +kernel
theorem dk_rk_127 : dk_rows 127 = true := by decide +kernel
set_option maxRecDepth 100000 in
theorem dk_cd_128 : lw_tbl[965]? = some (Jvm.Cond.code (dk_nm 128) (dk_by 128) (dk_ml 128) (dk_re 128)) := rfl
theorem dk_mk_128 : dk_mok 128 = true := by decide +kernel
theorem dk_rk_128 : dk_rows 128 = true := by decide +kernel
set_option maxRecDepth 100000 in
theorem dk_cd_129 : lw_tbl[969]? = some (Jvm.Cond.code (dk_nm 129) (dk_by 129) (dk_ml 129) (dk_re 129)) := rfl
theorem dk_mk_129 : dk_mok 129 = true := by decide +kernel
theorem dk_rk_129 : dk_rows 129 = true := by decide +kernel
set_option maxRecDepth 100000 in
theorem dk_cd_130 : lw_tbl[973]? = some (Jvm.Cond.code (dk_nm 130) (dk_by 130) (dk_ml 130) (dk_re 130)) := rfl
theorem dk_mk_130 : dk_mok 130 = true := by decide +kernel
theorem dk_rk_130 : dk_rows 130 = true := by decide +kernel
set_option maxRecDepth 100000 in
theorem dk_cd_131 : lw_tbl[986]? = some (Jvm.Cond.code (dk_nm 131) (dk_by 131) (dk_ml 131) (dk_re 131)) := rfl
theorem dk_mk_131 : dk_mok 131 = true := by decide +kernel
theorem dk_rk_131 : dk_rows 131 = true := by decide +kernel
set_option maxRecDepth 100000 in
theorem dk_cd_132 : lw_tbl[990]? = some (Jvm.Cond.code (dk_nm 132) (dk_by 132) (dk_ml 132) (dk_re 132)) := rfl
theorem dk_mk_132 : dk_mok 132 = true := by decide +kernel
theorem dk_rk_132 : dk_rows 132 = true := by decide +kernel
set_option maxRecDepth 100000 in
theorem dk_cd_133 : lw_tbl[998]? = some (Jvm.Cond.code (dk_nm 133) (dk_by 133) (dk_ml 133) (dk_re 133)) := rfl
theorem dk_mk_133 : dk_mok 133 = true := by decide +kernel
theorem dk_rk_133 : dk_rows 133 = true := by decide +kernel
set_option maxRecDepth 100000 in
theorem dk_cd_134 : lw_tbl[994]? = some (Jvm.Cond.code (dk_nm 134) (dk_by 134) (dk_ml 134) (dk_re 134)) := rfl
theorem dk_mk_134 : dk_mok 134 = true := by decide +kernel
theorem dk_rk_134 : dk_rows 134 = true := by decide +kernel
set_option maxRecDepth 100000 in
theorem dk_cd_135 : lw_tbl[1002]? = some (Jvm.Cond.code (dk_nm 135) (dk_by 135) (dk_ml 135) (dk_re 135)) := rfl
theorem dk_mk_135 : dk_mok 135 = true := by decide +kernel
theorem dk_rk_135 : dk_rows 135 = true := by decide +kernel
