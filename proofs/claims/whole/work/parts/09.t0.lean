/-! the tables, checked: methods 0 to 49 -/
set_option maxRecDepth 100000 in
theorem dk_cd_0 : lw_tbl[128]? = some (Jvm.Cond.code (dk_nm 0) (dk_by 0) (dk_ml 0) (dk_re 0)) := rfl
theorem dk_mk_0 : dk_mok 0 = true := by decide +kernel
theorem dk_rk_0 : dk_rows 0 = true := by decide +kernel
set_option maxRecDepth 100000 in
theorem dk_cd_1 : lw_tbl[333]? = some (Jvm.Cond.code (dk_nm 1) (dk_by 1) (dk_ml 1) (dk_re 1)) := rfl
theorem dk_mk_1 : dk_mok 1 = true := by decide +kernel
theorem dk_rk_1 : dk_rows 1 = true := by decide +kernel
set_option maxRecDepth 100000 in
theorem dk_cd_2 : lw_tbl[424]? = some (Jvm.Cond.code (dk_nm 2) (dk_by 2) (dk_ml 2) (dk_re 2)) := rfl
theorem dk_mk_2 : dk_mok 2 = true := by decide +kernel
theorem dk_rk_2 : dk_rows 2 = true := by decide +kernel
set_option maxRecDepth 100000 in
theorem dk_cd_3 : lw_tbl[433]? = some (Jvm.Cond.code (dk_nm 3) (dk_by 3) (dk_ml 3) (dk_re 3)) := rfl
theorem dk_mk_3 : dk_mok 3 = true := by decide +kernel
theorem dk_rk_3 : dk_rows 3 = true := by decide +kernel
set_option maxRecDepth 100000 in
theorem dk_cd_4 : lw_tbl[428]? = some (Jvm.Cond.code (dk_nm 4) (dk_by 4) (dk_ml 4) (dk_re 4)) := rfl
theorem dk_mk_4 : dk_mok 4 = true := by decide +kernel
theorem dk_rk_4 : dk_rows 4 = true := by decide +kernel
set_option maxRecDepth 100000 in
theorem dk_cd_5 : lw_tbl[446]? = some (Jvm.Cond.code (dk_nm 5) (dk_by 5) (dk_ml 5) (dk_re 5)) := rfl
theorem dk_mk_5 : dk_mok 5 = true := by decide +kernel
theorem dk_rk_5 : dk_rows 5 = true := by decide +kernel
set_option maxRecDepth 100000 in
theorem dk_cd_6 : lw_tbl[452]? = some (Jvm.Cond.code (dk_nm 6) (dk_by 6) (dk_ml 6) (dk_re 6)) := rfl
theorem dk_mk_6 : dk_mok 6 = true := by decide +kernel
theorem dk_rk_6 : dk_rows 6 = true := by decide +kernel
set_option maxRecDepth 100000 in
theorem dk_cd_7 : lw_tbl[457]? = some (Jvm.Cond.code (dk_nm 7) (dk_by 7) (dk_ml 7) (dk_re 7)) := rfl
theorem dk_mk_7 : dk_mok 7 = true := by decide +kernel
theorem dk_rk_7 : dk_rows 7 = true := by decide +kernel
set_option maxRecDepth 100000 in
theorem dk_cd_8 : lw_tbl[543]? = some (Jvm.Cond.code (dk_nm 8) (dk_by 8) (dk_ml 8) (dk_re 8)) := rfl
theorem dk_mk_8 : dk_mok 8 = true := by decide +kernel
theorem dk_rk_8 : dk_rows 8 = true := by decide +kernel
set_option maxRecDepth 100000 in
theorem dk_cd_9 : lw_tbl[275]? = some (Jvm.Cond.code (dk_nm 9) (dk_by 9) (dk_ml 9) (dk_re 9)) := rfl
theorem dk_mk_9 : dk_mok 9 = true := by decide +kernel
theorem dk_rk_9 : dk_rows 9 = true := by decide +kernel
set_option maxRecDepth 100000 in
theorem dk_cd_10 : lw_tbl[679]? = some (Jvm.Cond.code (dk_nm 10) (dk_by 10) (dk_ml 10) (dk_re 10)) := rfl
theorem dk_mk_10 : dk_mok 10 = true := by decide +kernel
theorem dk_rk_10 : dk_rows 10 = true := by decide +kernel
set_option maxRecDepth 100000 in
theorem dk_cd_11 : lw_tbl[684]? = some (Jvm.Cond.code (dk_nm 11) (dk_by 11) (dk_ml 11) (dk_re 11)) := rfl
theorem dk_mk_11 : dk_mok 11 = true := by decide +kernel
theorem dk_rk_11 : dk_rows 11 = true := by decide +kernel
set_option maxRecDepth 100000 in
theorem dk_cd_12 : lw_tbl[695]? = some (Jvm.Cond.code (dk_nm 12) (dk_by 12) (dk_ml 12) (dk_re 12)) := rfl
theorem dk_mk_12 : dk_mok 12 = true := by decide +kernel
theorem dk_rk_12 : dk_rows 12 = true := by decide +kernel
set_option maxRecDepth 100000 in
theorem dk_cd_13 : lw_tbl[122]? = some (Jvm.Cond.code (dk_nm 13) (dk_by 13) (dk_ml 13) (dk_re 13)) := rfl
theorem dk_mk_13 : dk_mok 13 = true := by decide +kernel
theorem dk_rk_13 : dk_rows 13 = true := by decide +kernel
set_option maxRecDepth 100000 in
theorem dk_cd_14 : lw_tbl[345]? = some (Jvm.Cond.code (dk_nm 14) (dk_by 14) (dk_ml 14) (dk_re 14)) := rfl
theorem dk_mk_14 : dk_mok 14 = true := by decide +kernel
theorem dk_rk_14 : dk_rows 14 = true := by decide +kernel
set_option maxRecDepth 100000 in
theorem dk_cd_15 : lw_tbl[477]? = some (Jvm.Cond.code (dk_nm 15) (dk_by 15) (dk_ml 15) (dk_re 15)) := rfl
theorem dk_mk_15 : dk_mok 15 = true := by decide +kernel
theorem dk_rk_15 : dk_rows 15 = true := by decide +kernel
set_option maxRecDepth 100000 in
theorem dk_cd_16 : lw_tbl[379]? = some (Jvm.Cond.code (dk_nm 16) (dk_by 16) (dk_ml 16) (dk_re 16)) := rfl
theorem dk_mk_16 : dk_mok 16 = true := by decide +kernel
theorem dk_rk_16 : dk_rows 16 = true := by decide +kernel
set_option maxRecDepth 100000 in
theorem dk_cd_17 : lw_tbl[174]? = some (Jvm.Cond.code (dk_nm 17) (dk_by 17) (dk_ml 17) (dk_re 17)) := rfl
theorem dk_mk_17 : dk_mok 17 = true := by decide +kernel
theorem dk_rk_17 : dk_rows 17 = true := by decide +kernel
set_option maxRecDepth 100000 in
theorem dk_cd_18 : lw_tbl[360]? = some (Jvm.Cond.code (dk_nm 18) (dk_by 18) (dk_ml 18) (dk_re 18)) := rfl
theorem dk_mk_18 : dk_mok 18 = true := by decide +kernel
theorem dk_rk_18 : dk_rows 18 = true := by decide +kernel
set_option maxRecDepth 100000 in
theorem dk_cd_19 : lw_tbl[356]? = some (Jvm.Cond.code (dk_nm 19) (dk_by 19) (dk_ml 19) (dk_re 19)) := rfl
theorem dk_mk_19 : dk_mok 19 = true := by decide +kernel
theorem dk_rk_19 : dk_rows 19 = true := by decide +kernel
set_option maxRecDepth 100000 in
theorem dk_cd_20 : lw_tbl[349]? = some (Jvm.Cond.code (dk_nm 20) (dk_by 20) (dk_ml 20) (dk_re 20)) := rfl
theorem dk_mk_20 : dk_mok 20 = true := by decide +kernel
theorem dk_rk_20 : dk_rows 20 = true := by decide +kernel
set_option maxRecDepth 100000 in
theorem dk_cd_21 : lw_tbl[322]? = some (Jvm.Cond.code (dk_nm 21) (dk_by 21) (dk_ml 21) (dk_re 21)) := rfl
theorem dk_mk_21 : dk_mok 21 = true := by decide +kernel
theorem dk_rk_21 : dk_rows 21 = true := by decide +kernel
set_option maxRecDepth 100000 in
theorem dk_cd_22 : lw_tbl[326]? = some (Jvm.Cond.code (dk_nm 22) (dk_by 22) (dk_ml 22) (dk_re 22)) := rfl
theorem dk_mk_22 : dk_mok 22 = true := by decide +kernel
theorem dk_rk_22 : dk_rows 22 = true := by decide +kernel
set_option maxRecDepth 100000 in
theorem dk_cd_23 : lw_tbl[371]? = some (Jvm.Cond.code (dk_nm 23) (dk_by 23) (dk_ml 23) (dk_re 23)) := rfl
theorem dk_mk_23 : dk_mok 23 = true := by decide +kernel
theorem dk_rk_23 : dk_rows 23 = true := by decide +kernel
set_option maxRecDepth 100000 in
theorem dk_cd_24 : lw_tbl[391]? = some (Jvm.Cond.code (dk_nm 24) (dk_by 24) (dk_ml 24) (dk_re 24)) := rfl
theorem dk_mk_24 : dk_mok 24 = true := by decide +kernel
theorem dk_rk_24 : dk_rows 24 = true := by decide +kernel
set_option maxRecDepth 100000 in
theorem dk_cd_25 : lw_tbl[395]? = some (Jvm.Cond.code (dk_nm 25) (dk_by 25) (dk_ml 25) (dk_re 25)) := rfl
theorem dk_mk_25 : dk_mok 25 = true := by decide +kernel
theorem dk_rk_25 : dk_rows 25 = true := by decide +kernel
set_option maxRecDepth 100000 in
theorem dk_cd_26 : lw_tbl[407]? = some (Jvm.Cond.code (dk_nm 26) (dk_by 26) (dk_ml 26) (dk_re 26)) := rfl
theorem dk_mk_26 : dk_mok 26 = true := by decide +kernel
theorem dk_rk_26 : dk_rows 26 = true := by decide +kernel
set_option maxRecDepth 100000 in
theorem dk_cd_27 : lw_tbl[412]? = some (Jvm.Cond.code (dk_nm 27) (dk_by 27) (dk_ml 27) (dk_re 27)) := rfl
theorem dk_mk_27 : dk_mok 27 = true := by decide +kernel
theorem dk_rk_27 : dk_rows 27 = true := by decide +kernel
set_option maxRecDepth 100000 in
theorem dk_cd_28 : lw_tbl[437]? = some (Jvm.Cond.code (dk_nm 28) (dk_by 28) (dk_ml 28) (dk_re 28)) := rfl
theorem dk_mk_28 : dk_mok 28 = true := by decide +kernel
theorem dk_rk_28 : dk_rows 28 = true := by decide +kernel
set_option maxRecDepth 100000 in
theorem dk_cd_29 : lw_tbl[498]? = some (Jvm.Cond.code (dk_nm 29) (dk_by 29) (dk_ml 29) (dk_re 29)) := rfl
theorem dk_mk_29 : dk_mok 29 = true := by decide +kernel
theorem dk_rk_29 : dk_rows 29 = true := by decide +kernel
set_option maxRecDepth 100000 in
theorem dk_cd_30 : lw_tbl[420]? = some (Jvm.Cond.code (dk_nm 30) (dk_by 30) (dk_ml 30) (dk_re 30)) := rfl
theorem dk_mk_30 : dk_mok 30 = true := by decide +kernel
theorem dk_rk_30 : dk_rows 30 = true := by decide +kernel
set_option maxRecDepth 100000 in
theorem dk_cd_31 : lw_tbl[667]? = some (Jvm.Cond.code (dk_nm 31) (dk_by 31) (dk_ml 31) (dk_re 31)) := rfl
theorem dk_mk_31 : dk_mok 31 = true := by decide +kernel
theorem dk_rk_31 : dk_rows 31 = true := by decide +kernel
set_option maxRecDepth 100000 in
theorem dk_cd_32 : lw_tbl[441]? = some (Jvm.Cond.code (dk_nm 32) (dk_by 32) (dk_ml 32) (dk_re 32)) := rfl
theorem dk_mk_32 : dk_mok 32 = true := by decide +kernel
theorem dk_rk_32 : dk_rows 32 = true := by decide +kernel
set_option maxRecDepth 100000 in
theorem dk_cd_33 : lw_tbl[494]? = some (Jvm.Cond.code (dk_nm 33) (dk_by 33) (dk_ml 33) (dk_re 33)) := rfl
theorem dk_mk_33 : dk_mok 33 = true := by decide +kernel
theorem dk_rk_33 : dk_rows 33 = true := by decide +kernel
set_option maxRecDepth 100000 in
theorem dk_cd_34 : lw_tbl[530]? = some (Jvm.Cond.code (dk_nm 34) (dk_by 34) (dk_ml 34) (dk_re 34)) := rfl
theorem dk_mk_34 : dk_mok 34 = true := by decide +kernel
theorem dk_rk_34 : dk_rows 34 = true := by decide +kernel
set_option maxRecDepth 100000 in
theorem dk_cd_35 : lw_tbl[522]? = some (Jvm.Cond.code (dk_nm 35) (dk_by 35) (dk_ml 35) (dk_re 35)) := rfl
theorem dk_mk_35 : dk_mok 35 = true := by decide +kernel
theorem dk_rk_35 : dk_rows 35 = true := by decide +kernel
set_option maxRecDepth 100000 in
theorem dk_cd_36 : lw_tbl[469]? = some (Jvm.Cond.code (dk_nm 36) (dk_by 36) (dk_ml 36) (dk_re 36)) := rfl
theorem dk_mk_36 : dk_mok 36 = true := by decide +kernel
theorem dk_rk_36 : dk_rows 36 = true := by decide +kernel
set_option maxRecDepth 100000 in
theorem dk_cd_37 : lw_tbl[473]? = some (Jvm.Cond.code (dk_nm 37) (dk_by 37) (dk_ml 37) (dk_re 37)) := rfl
theorem dk_mk_37 : dk_mok 37 = true := by decide +kernel
theorem dk_rk_37 : dk_rows 37 = true := by decide +kernel
set_option maxRecDepth 100000 in
theorem dk_cd_38 : lw_tbl[518]? = some (Jvm.Cond.code (dk_nm 38) (dk_by 38) (dk_ml 38) (dk_re 38)) := rfl
theorem dk_mk_38 : dk_mok 38 = true := by decide +kernel
theorem dk_rk_38 : dk_rows 38 = true := by decide +kernel
set_option maxRecDepth 100000 in
theorem dk_cd_39 : lw_tbl[688]? = some (Jvm.Cond.code (dk_nm 39) (dk_by 39) (dk_ml 39) (dk_re 39)) := rfl
theorem dk_mk_39 : dk_mok 39 = true := by decide +kernel
theorem dk_rk_39 : dk_rows 39 = true := by decide +kernel
set_option maxRecDepth 100000 in
theorem dk_cd_40 : lw_tbl[249]? = some (Jvm.Cond.code (dk_nm 40) (dk_by 40) (dk_ml 40) (dk_re 40)) := rfl
theorem dk_mk_40 : dk_mok 40 = true := by decide +kernel
theorem dk_rk_40 : dk_rows 40 = true := by decide +kernel
set_option maxRecDepth 100000 in
theorem dk_cd_41 : lw_tbl[594]? = some (Jvm.Cond.code (dk_nm 41) (dk_by 41) (dk_ml 41) (dk_re 41)) := rfl
theorem dk_mk_41 : dk_mok 41 = true := by decide +kernel
theorem dk_rk_41 : dk_rows 41 = true := by decide +kernel
set_option maxRecDepth 100000 in
theorem dk_cd_42 : lw_tbl[598]? = some (Jvm.Cond.code (dk_nm 42) (dk_by 42) (dk_ml 42) (dk_re 42)) := rfl
theorem dk_mk_42 : dk_mok 42 = true := by decide +kernel
theorem dk_rk_42 : dk_rows 42 = true := by decide +kernel
set_option maxRecDepth 100000 in
theorem dk_cd_43 : lw_tbl[644]? = some (Jvm.Cond.code (dk_nm 43) (dk_by 43) (dk_ml 43) (dk_re 43)) := rfl
theorem dk_mk_43 : dk_mok 43 = true := by decide +kernel
theorem dk_rk_43 : dk_rows 43 = true := by decide +kernel
set_option maxRecDepth 100000 in
theorem dk_cd_44 : lw_tbl[602]? = some (Jvm.Cond.code (dk_nm 44) (dk_by 44) (dk_ml 44) (dk_re 44)) := rfl
theorem dk_mk_44 : dk_mok 44 = true := by decide +kernel
theorem dk_rk_44 : dk_rows 44 = true := by decide +kernel
set_option maxRecDepth 100000 in
theorem dk_cd_45 : lw_tbl[612]? = some (Jvm.Cond.code (dk_nm 45) (dk_by 45) (dk_ml 45) (dk_re 45)) := rfl
theorem dk_mk_45 : dk_mok 45 = true := by decide +kernel
theorem dk_rk_45 : dk_rows 45 = true := by decide +kernel
set_option maxRecDepth 100000 in
theorem dk_cd_46 : lw_tbl[607]? = some (Jvm.Cond.code (dk_nm 46) (dk_by 46) (dk_ml 46) (dk_re 46)) := rfl
theorem dk_mk_46 : dk_mok 46 = true := by decide +kernel
theorem dk_rk_46 : dk_rows 46 = true := by decide +kernel
set_option maxRecDepth 100000 in
theorem dk_cd_47 : lw_tbl[648]? = some (Jvm.Cond.code (dk_nm 47) (dk_by 47) (dk_ml 47) (dk_re 47)) := rfl
theorem dk_mk_47 : dk_mok 47 = true := by decide +kernel
theorem dk_rk_47 : dk_rows 47 = true := by decide +kernel
set_option maxRecDepth 100000 in
theorem dk_cd_48 : lw_tbl[621]? = some (Jvm.Cond.code (dk_nm 48) (dk_by 48) (dk_ml 48) (dk_re 48)) := rfl
theorem dk_mk_48 : dk_mok 48 = true := by decide +kernel
theorem dk_rk_48 : dk_rows 48 = true := by decide +kernel
set_option maxRecDepth 100000 in
theorem dk_cd_49 : lw_tbl[627]? = some (Jvm.Cond.code (dk_nm 49) (dk_by 49) (dk_ml 49) (dk_re 49)) := rfl
theorem dk_mk_49 : dk_mok 49 = true := by decide +kernel
theorem dk_rk_49 : dk_rows 49 = true := by decide +kernel
