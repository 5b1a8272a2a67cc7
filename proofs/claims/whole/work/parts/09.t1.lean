/-! the tables, checked: methods 50 to 94 -/
set_option maxRecDepth 100000 in
theorem dk_cd_50 : lw_tbl[631]? = some (Jvm.Cond.code (dk_nm 50) (dk_by 50) (dk_ml 50) (dk_re 50)) := rfl
theorem dk_mk_50 : dk_mok 50 = true := by decide +kernel
theorem dk_rk_50 : dk_rows 50 = true := by decide +kernel
set_option maxRecDepth 100000 in
theorem dk_cd_51 : lw_tbl[635]? = some (Jvm.Cond.code (dk_nm 51) (dk_by 51) (dk_ml 51) (dk_re 51)) := rfl
theorem dk_mk_51 : dk_mok 51 = true := by decide +kernel
theorem dk_rk_51 : dk_rows 51 = true := by decide +kernel
set_option maxRecDepth 100000 in
theorem dk_cd_52 : lw_tbl[254]? = some (Jvm.Cond.code (dk_nm 52) (dk_by 52) (dk_ml 52) (dk_re 52)) := rfl
theorem dk_mk_52 : dk_mok 52 = true := by decide +kernel
theorem dk_rk_52 : dk_rows 52 = true := by decide +kernel
set_option maxRecDepth 100000 in
theorem dk_cd_53 : lw_tbl[146]? = some (Jvm.Cond.code (dk_nm 53) (dk_by 53) (dk_ml 53) (dk_re 53)) := rfl
theorem dk_mk_53 : dk_mok 53 = true := by decide +kernel
theorem dk_rk_53 : dk_rows 53 = true := by decide +kernel
set_option maxRecDepth 100000 in
theorem dk_cd_54 : lw_tbl[337]? = some (Jvm.Cond.code (dk_nm 54) (dk_by 54) (dk_ml 54) (dk_re 54)) := rfl
theorem dk_mk_54 : dk_mok 54 = true := by decide +kernel
theorem dk_rk_54 : dk_rows 54 = true := by decide +kernel
set_option maxRecDepth 100000 in
theorem dk_cd_55 : lw_tbl[465]? = some (Jvm.Cond.code (dk_nm 55) (dk_by 55) (dk_ml 55) (dk_re 55)) := rfl
theorem dk_mk_55 : dk_mok 55 = true := by decide +kernel
theorem dk_rk_55 : dk_rows 55 = true := by decide +kernel
set_option maxRecDepth 100000 in
theorem dk_cd_56 : lw_tbl[502]? = some (Jvm.Cond.code (dk_nm 56) (dk_by 56) (dk_ml 56) (dk_re 56)) := rfl
theorem dk_mk_56 : dk_mok 56 = true := by decide +kernel
theorem dk_rk_56 : dk_rows 56 = true := by decide +kernel
set_option maxRecDepth 100000 in
theorem dk_cd_57 : lw_tbl[547]? = some (Jvm.Cond.code (dk_nm 57) (dk_by 57) (dk_ml 57) (dk_re 57)) := rfl
theorem dk_mk_57 : dk_mok 57 = true := by decide +kernel
theorem dk_rk_57 : dk_rows 57 = true := by decide +kernel
set_option maxRecDepth 100000 in
theorem dk_cd_58 : lw_tbl[514]? = some (Jvm.Cond.code (dk_nm 58) (dk_by 58) (dk_ml 58) (dk_re 58)) := rfl
theorem dk_mk_58 : dk_mok 58 = true := by decide +kernel
theorem dk_rk_58 : dk_rows 58 = true := by decide +kernel
set_option maxRecDepth 100000 in
theorem dk_cd_59 : lw_tbl[534]? = some (Jvm.Cond.code (dk_nm 59) (dk_by 59) (dk_ml 59) (dk_re 59)) := rfl
theorem dk_mk_59 : dk_mok 59 = true := by decide +kernel
theorem dk_rk_59 : dk_rows 59 = true := by decide +kernel
set_option maxRecDepth 100000 in
theorem dk_cd_60 : lw_tbl[510]? = some (Jvm.Cond.code (dk_nm 60) (dk_by 60) (dk_ml 60) (dk_re 60)) := rfl
theorem dk_mk_60 : dk_mok 60 = true := by decide +kernel
theorem dk_rk_60 : dk_rows 60 = true := by decide +kernel
set_option maxRecDepth 100000 in
theorem dk_cd_61 : lw_tbl[539]? = some (Jvm.Cond.code (dk_nm 61) (dk_by 61) (dk_ml 61) (dk_re 61)) := rfl
theorem dk_mk_61 : dk_mok 61 = true := by decide +kernel
theorem dk_rk_61 : dk_rows 61 = true := by decide +kernel
set_option maxRecDepth 100000 in
theorem dk_cd_62 : lw_tbl[506]? = some (Jvm.Cond.code (dk_nm 62) (dk_by 62) (dk_ml 62) (dk_re 62)) := rfl
theorem dk_mk_62 : dk_mok 62 = true := by decide +kernel
theorem dk_rk_62 : dk_rows 62 = true := by decide +kernel
set_option maxRecDepth 100000 in
theorem dk_cd_63 : lw_tbl[616]? = some (Jvm.Cond.code (dk_nm 63) (dk_by 63) (dk_ml 63) (dk_re 63)) := rfl
theorem dk_mk_63 : dk_mok 63 = true := by decide +kernel
theorem dk_rk_63 : dk_rows 63 = true := by decide +kernel
set_option maxRecDepth 100000 in
theorem dk_cd_64 : lw_tbl[705]? = some (Jvm.Cond.code (dk_nm 64) (dk_by 64) (dk_ml 64) (dk_re 64)) := rfl
theorem dk_mk_64 : dk_mok 64 = true := by decide +kernel
theorem dk_rk_64 : dk_rows 64 = true := by decide +kernel
set_option maxRecDepth 100000 in
theorem dk_cd_65 : lw_tbl[108]? = some (Jvm.Cond.code (dk_nm 65) (dk_by 65) (dk_ml 65) (dk_re 65)) := rfl
theorem dk_mk_65 : dk_mok 65 = true := by decide +kernel
theorem dk_rk_65 : dk_rows 65 = true := by decide +kernel
set_option maxRecDepth 100000 in
theorem dk_cd_66 : lw_tbl[314]? = some (Jvm.Cond.code (dk_nm 66) (dk_by 66) (dk_ml 66) (dk_re 66)) := rfl
theorem dk_mk_66 : dk_mok 66 = true := by decide +kernel
theorem dk_rk_66 : dk_rows 66 = true := by decide +kernel
set_option maxRecDepth 100000 in
theorem dk_cd_67 : lw_tbl[341]? = some (Jvm.Cond.code (dk_nm 67) (dk_by 67) (dk_ml 67) (dk_re 67)) := rfl
theorem dk_mk_67 : dk_mok 67 = true := by decide +kernel
theorem dk_rk_67 : dk_rows 67 = true := by decide +kernel
set_option maxRecDepth 100000 in
theorem dk_cd_68 : lw_tbl[387]? = some (Jvm.Cond.code (dk_nm 68) (dk_by 68) (dk_ml 68) (dk_re 68)) := rfl
theorem dk_mk_68 : dk_mok 68 = true := by decide +kernel
theorem dk_rk_68 : dk_rows 68 = true := by decide +kernel
set_option maxRecDepth 100000 in
theorem dk_cd_69 : lw_tbl[403]? = some (Jvm.Cond.code (dk_nm 69) (dk_by 69) (dk_ml 69) (dk_re 69)) := rfl
theorem dk_mk_69 : dk_mok 69 = true := by decide +kernel
theorem dk_rk_69 : dk_rows 69 = true := by decide +kernel
set_option maxRecDepth 100000 in
theorem dk_cd_70 : lw_tbl[416]? = some (Jvm.Cond.code (dk_nm 70) (dk_by 70) (dk_ml 70) (dk_re 70)) := rfl
theorem dk_mk_70 : dk_mok 70 = true := by decide +kernel
theorem dk_rk_70 : dk_rows 70 = true := by decide +kernel
set_option maxRecDepth 100000 in
theorem dk_cd_71 : lw_tbl[489]? = some (Jvm.Cond.code (dk_nm 71) (dk_by 71) (dk_ml 71) (dk_re 71)) := rfl
theorem dk_mk_71 : dk_mok 71 = true := by decide +kernel
theorem dk_rk_71 : dk_rows 71 = true := by decide +kernel
set_option maxRecDepth 100000 in
theorem dk_cd_72 : lw_tbl[526]? = some (Jvm.Cond.code (dk_nm 72) (dk_by 72) (dk_ml 72) (dk_re 72)) := rfl
theorem dk_mk_72 : dk_mok 72 = true := by decide +kernel
theorem dk_rk_72 : dk_rows 72 = true := by decide +kernel
set_option maxRecDepth 100000 in
theorem dk_cd_73 : lw_tbl[551]? = some (Jvm.Cond.code (dk_nm 73) (dk_by 73) (dk_ml 73) (dk_re 73)) := rfl
theorem dk_mk_73 : dk_mok 73 = true := by decide +kernel
theorem dk_rk_73 : dk_rows 73 = true := by decide +kernel
set_option maxRecDepth 100000 in
theorem dk_cd_74 : lw_tbl[557]? = some (Jvm.Cond.code (dk_nm 74) (dk_by 74) (dk_ml 74) (dk_re 74)) := rfl
theorem dk_mk_74 : dk_mok 74 = true := by decide +kernel
theorem dk_rk_74 : dk_rows 74 = true := by decide +kernel
set_option maxRecDepth 100000 in
theorem dk_cd_75 : lw_tbl[561]? = some (Jvm.Cond.code (dk_nm 75) (dk_by 75) (dk_ml 75) (dk_re 75)) := rfl
theorem dk_mk_75 : dk_mok 75 = true := by decide +kernel
theorem dk_rk_75 : dk_rows 75 = true := by decide +kernel
set_option maxRecDepth 100000 in
theorem dk_cd_76 : lw_tbl[570]? = some (Jvm.Cond.code (dk_nm 76) (dk_by 76) (dk_ml 76) (dk_re 76)) := rfl
theorem dk_mk_76 : dk_mok 76 = true := by decide +kernel
theorem dk_rk_76 : dk_rows 76 = true := by decide +kernel
set_option maxRecDepth 100000 in
theorem dk_cd_77 : lw_tbl[574]? = some (Jvm.Cond.code (dk_nm 77) (dk_by 77) (dk_ml 77) (dk_re 77)) := rfl
theorem dk_mk_77 : dk_mok 77 = true := by decide +kernel
theorem dk_rk_77 : dk_rows 77 = true := by decide +kernel
set_option maxRecDepth 100000 in
theorem dk_cd_78 : lw_tbl[579]? = some (Jvm.Cond.code (dk_nm 78) (dk_by 78) (dk_ml 78) (dk_re 78)) := rfl
theorem dk_mk_78 : dk_mok 78 = true := by decide +kernel
theorem dk_rk_78 : dk_rows 78 = true := by decide +kernel
set_option maxRecDepth 100000 in
theorem dk_cd_79 : lw_tbl[586]? = some (Jvm.Cond.code (dk_nm 79) (dk_by 79) (dk_ml 79) (dk_re 79)) := rfl
theorem dk_mk_79 : dk_mok 79 = true := by decide +kernel
theorem dk_rk_79 : dk_rows 79 = true := by decide +kernel
set_option maxRecDepth 100000 in
theorem dk_cd_80 : lw_tbl[640]? = some (Jvm.Cond.code (dk_nm 80) (dk_by 80) (dk_ml 80) (dk_re 80)) := rfl
theorem dk_mk_80 : dk_mok 80 = true := by decide +kernel
theorem dk_rk_80 : dk_rows 80 = true := by decide +kernel
set_option maxRecDepth 100000 in
theorem dk_cd_81 : lw_tbl[652]? = some (Jvm.Cond.code (dk_nm 81) (dk_by 81) (dk_ml 81) (dk_re 81)) := rfl
theorem dk_mk_81 : dk_mok 81 = true := by decide +kernel
theorem dk_rk_81 : dk_rows 81 = true := by decide +kernel
set_option maxRecDepth 100000 in
theorem dk_cd_82 : lw_tbl[663]? = some (Jvm.Cond.code (dk_nm 82) (dk_by 82) (dk_ml 82) (dk_re 82)) := rfl
theorem dk_mk_82 : dk_mok 82 = true := by decide +kernel
theorem dk_rk_82 : dk_rows 82 = true := by decide +kernel
set_option maxRecDepth 100000 in
theorem dk_cd_83 : lw_tbl[674]? = some (Jvm.Cond.code (dk_nm 83) (dk_by 83) (dk_ml 83) (dk_re 83)) := rfl
theorem dk_mk_83 : dk_mok 83 = true := by decide +kernel
theorem dk_rk_83 : dk_rows 83 = true := by decide +kernel
set_option maxRecDepth 100000 in
theorem dk_cd_84 : lw_tbl[701]? = some (Jvm.Cond.code (dk_nm 84) (dk_by 84) (dk_ml 84) (dk_re 84)) := rfl
theorem dk_mk_84 : dk_mok 84 = true := by decide +kernel
theorem dk_rk_84 : dk_rows 84 = true := by decide +kernel
set_option maxRecDepth 100000 in
theorem dk_cd_85 : lw_tbl[590]? = some (Jvm.Cond.code (dk_nm 85) (dk_by 85) (dk_ml 85) (dk_re 85)) := rfl
theorem dk_mk_85 : dk_mok 85 = true := by decide +kernel
theorem dk_rk_85 : dk_rows 85 = true := by decide +kernel
set_option maxRecDepth 100000 in
theorem dk_cd_86 : lw_tbl[318]? = some (Jvm.Cond.code (dk_nm 86) (dk_by 86) (dk_ml 86) (dk_re 86)) := rfl
theorem dk_mk_86 : dk_mok 86 = true := by decide +kernel
theorem dk_rk_86 : dk_rows 86 = true := by decide +kernel
set_option maxRecDepth 100000 in
theorem dk_cd_87 : lw_tbl[481]? = some (Jvm.Cond.code (dk_nm 87) (dk_by 87) (dk_ml 87) (dk_re 87)) := rfl
theorem dk_mk_87 : dk_mok 87 = true := by decide +kernel
theorem dk_rk_87 : dk_rows 87 = true := by decide +kernel
set_option maxRecDepth 100000 in
theorem dk_cd_88 : lw_tbl[485]? = some (Jvm.Cond.code (dk_nm 88) (dk_by 88) (dk_ml 88) (dk_re 88)) := rfl
theorem dk_mk_88 : dk_mok 88 = true := by decide +kernel
theorem dk_rk_88 : dk_rows 88 = true := by decide +kernel
set_option maxRecDepth 100000 in
theorem dk_cd_89 : lw_tbl[656]? = some (Jvm.Cond.code (dk_nm 89) (dk_by 89) (dk_ml 89) (dk_re 89)) := rfl
theorem dk_mk_89 : dk_mok 89 = true := by decide +kernel
theorem dk_rk_89 : dk_rows 89 = true := by decide +kernel
set_option maxRecDepth 100000 in
theorem dk_cd_90 : lw_tbl[177]? = some (Jvm.Cond.code (dk_nm 90) (dk_by 90) (dk_ml 90) (dk_re 90)) := rfl
theorem dk_mk_90 : dk_mok 90 = true := by decide +kernel
theorem dk_rk_90 : dk_rows 90 = true := by decide +kernel
set_option maxRecDepth 100000 in
theorem dk_cd_91 : lw_tbl[182]? = some (Jvm.Cond.code (dk_nm 91) (dk_by 91) (dk_ml 91) (dk_re 91)) := rfl
theorem dk_mk_91 : dk_mok 91 = true := by decide +kernel
theorem dk_rk_91 : dk_rows 91 = true := by decide +kernel
set_option maxRecDepth 100000 in
theorem dk_cd_92 : lw_tbl[352]? = some (Jvm.Cond.code (dk_nm 92) (dk_by 92) (dk_ml 92) (dk_re 92)) := rfl
theorem dk_mk_92 : dk_mok 92 = true := by decide +kernel
theorem dk_rk_92 : dk_rows 92 = true := by decide +kernel
set_option maxRecDepth 100000 in
theorem dk_cd_93 : lw_tbl[565]? = some (Jvm.Cond.code (dk_nm 93) (dk_by 93) (dk_ml 93) (dk_re 93)) := rfl
theorem dk_mk_93 : dk_mok 93 = true := by decide +kernel
theorem dk_rk_93 : dk_rows 93 = true := by decide +kernel
set_option maxRecDepth 100000 in
theorem dk_cd_94 : lw_tbl[670]? = some (Jvm.Cond.code (dk_nm 94) (dk_by 94) (dk_ml 94) (dk_re 94)) := rfl
theorem dk_mk_94 : dk_mok 94 = true := by decide +kernel
theorem dk_rk_94 : dk_rows 94 = true := by decide +kernel
