/-! the tables, checked: methods 136 to 150 -/
set_option maxRecDepth 100000 in
theorem dk_cd_136 : lw_tbl[1006]? = some (Jvm.Cond.code (dk_nm 136) (dk_by 136) (dk_ml 136) (dk_re 136)) := rfl
theorem dk_mk_136 : dk_mok 136 = true := by decide +kernel
theorem dk_rk_136 : dk_rows 136 = true := by decide +kernel
set_option maxRecDepth 100000 in
theorem dk_cd_137 : lw_tbl[981]? = some (Jvm.Cond.code (dk_nm 137) (dk_by 137) (dk_ml 137) (dk_re 137)) := rfl
theorem dk_mk_137 : dk_mok 137 = true := by decide +kernel
theorem dk_rk_137 : dk_rows 137 = true := by decide +kernel
set_option maxRecDepth 100000 in
theorem dk_cd_138 : lw_tbl[977]? = some (Jvm.Cond.code (dk_nm 138) (dk_by 138) (dk_ml 138) (dk_re 138)) := rfl
theorem dk_mk_138 : dk_mok 138 = true := by decide +kernel
theorem dk_rk_138 : dk_rows 138 = true := by decide +kernel
set_option maxRecDepth 100000 in
theorem dk_cd_139 : lw_tbl[1010]? = some (Jvm.Cond.code (dk_nm 139) (dk_by 139) (dk_ml 139) (dk_re 139)) := rfl
theorem dk_mk_139 : dk_mok 139 = true := by decide +kernel
theorem dk_rk_139 : dk_rows 139 = true := by decide +kernel
set_option maxRecDepth 100000 in
theorem dk_cd_140 : lw_tbl[1015]? = some (Jvm.Cond.code (dk_nm 140) (dk_by 140) (dk_ml 140) (dk_re 140)) := rfl
theorem dk_mk_140 : dk_mok 140 = true := by decide +kernel
theorem dk_rk_140 : dk_rows 140 = true := by decide +kernel
set_option maxRecDepth 100000 in
theorem dk_cd_141 : lw_tbl[1019]? = some (Jvm.Cond.code (dk_nm 141) (dk_by 141) (dk_ml 141) (dk_re 141)) := rfl
theorem dk_mk_141 : dk_mok 141 = true := by decide +kernel
theorem dk_rk_141 : dk_rows 141 = true := by decide +kernel
set_option maxRecDepth 100000 in
theorem dk_cd_142 : lw_tbl[1029]? = some (Jvm.Cond.code (dk_nm 142) (dk_by 142) (dk_ml 142) (dk_re 142)) := rfl
theorem dk_mk_142 : dk_mok 142 = true := by decide +kernel
theorem dk_rk_142 : dk_rows 142 = true := by decide +kernel
set_option maxRecDepth 100000 in
theorem dk_cd_143 : lw_tbl[1024]? = some (Jvm.Cond.code (dk_nm 143) (dk_by 143) (dk_ml 143) (dk_re 143)) := rfl
theorem dk_mk_143 : dk_mok 143 = true := by decide +kernel
theorem dk_rk_143 : dk_rows 143 = true := by decide +kernel
set_option maxRecDepth 100000 in
theorem dk_cd_144 : lw_tbl[1033]? = some (Jvm.Cond.code (dk_nm 144) (dk_by 144) (dk_ml 144) (dk_re 144)) := rfl
theorem dk_mk_144 : dk_mok 144 = true := by decide +kernel
theorem dk_rk_144 : dk_rows 144 = true := by decide +kernel
set_option maxRecDepth 100000 in
theorem dk_cd_145 : lw_tbl[364]? = some (Jvm.Cond.code (dk_nm 145) (dk_by 145) (dk_ml 145) (dk_re 145)) := rfl
theorem dk_mk_145 : dk_mok 145 = true := by decide +kernel
theorem dk_rk_145 : dk_rows 145 = true := by decide +kernel
set_option maxRecDepth 100000 in
theorem dk_cd_146 : lw_tbl[329]? = some (Jvm.Cond.code (dk_nm 146) (dk_by 146) (dk_ml 146) (dk_re 146)) := rfl
theorem dk_mk_146 : dk_mok 146 = true := by decide +kernel
theorem dk_rk_146 : dk_rows 146 = true := by decide +kernel
set_option maxRecDepth 100000 in
theorem dk_cd_147 : lw_tbl[708]? = some (Jvm.Cond.code (dk_nm 147) (dk_by 147) (dk_ml 147) (dk_re 147)) := rfl
theorem dk_mk_147 : dk_mok 147 = true := by decide +kernel
theorem dk_rk_147 : dk_rows 147 = true := by decide +kernel
set_option maxRecDepth 100000 in
theorem dk_cd_148 : lw_tbl[375]? = some (Jvm.Cond.code (dk_nm 148) (dk_by 148) (dk_ml 148) (dk_re 148)) := rfl
theorem dk_mk_148 : dk_mok 148 = true := by decide +kernel
theorem dk_rk_148 : dk_rows 148 = true := by decide +kernel
set_option maxRecDepth 100000 in
theorem dk_cd_149 : lw_tbl[461]? = some (Jvm.Cond.code (dk_nm 149) (dk_by 149) (dk_ml 149) (dk_re 149)) := rfl
theorem dk_mk_149 : dk_mok 149 = true := by decide +kernel
theorem dk_rk_149 : dk_rows 149 = true := by decide +kernel
set_option maxRecDepth 100000 in
theorem dk_cd_150 : lw_tbl[383]? = some (Jvm.Cond.code (dk_nm 150) (dk_by 150) (dk_ml 150) (dk_re 150)) := rfl
theorem dk_mk_150 : dk_mok 150 = true := by decide +kernel
theorem dk_rk_150 : dk_rows 150 = true := by decide +kernel
