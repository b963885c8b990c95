def M_i_m : MI := (⟨"LastNameModel", "<init>", "()V"⟩, prog_14_method_1_code, 2, none)
theorem di_m_1 : decode M_i_m.2.1 1 = .ok (.invokespecial 1, 3) := by decide +kernel
theorem di_m_8 : decode M_i_m.2.1 8 = .ok (.newarray .int, 2) := by decide +kernel
theorem di_m_10 : decode M_i_m.2.1 10 = .ok (.putfield 7, 3) := by decide +kernel
theorem di_m_17 : decode M_i_m.2.1 17 = .ok (.newarray .int, 2) := by decide +kernel
theorem di_m_19 : decode M_i_m.2.1 19 = .ok (.putfield 13, 3) := by decide +kernel
theorem di_m_26 : decode M_i_m.2.1 26 = .ok (.newarray .int, 2) := by decide +kernel
theorem di_m_28 : decode M_i_m.2.1 28 = .ok (.putfield 16, 3) := by decide +kernel
theorem di_m_35 : decode M_i_m.2.1 35 = .ok (.newarray .int, 2) := by decide +kernel
theorem di_m_37 : decode M_i_m.2.1 37 = .ok (.putfield 19, 3) := by decide +kernel
theorem di_m_44 : decode M_i_m.2.1 44 = .ok (.newarray .int, 2) := by decide +kernel
theorem di_m_46 : decode M_i_m.2.1 46 = .ok (.putfield 22, 3) := by decide +kernel
theorem di_m_63 : decode M_i_m.2.1 63 = .ok (.newarray .int, 2) := by decide +kernel
theorem di_m_65 : decode M_i_m.2.1 65 = .ok (.putfield 32, 3) := by decide +kernel
theorem di_m_71 : decode M_i_m.2.1 71 = .ok (.newarray .int, 2) := by decide +kernel
theorem di_m_73 : decode M_i_m.2.1 73 = .ok (.putfield 35, 3) := by decide +kernel
theorem di_m_80 : decode M_i_m.2.1 80 = .ok (.newarray .long, 2) := by decide +kernel
theorem di_m_82 : decode M_i_m.2.1 82 = .ok (.putfield 38, 3) := by decide +kernel
theorem di_m_89 : decode M_i_m.2.1 89 = .ok (.newarray .boolean, 2) := by decide +kernel
theorem di_m_91 : decode M_i_m.2.1 91 = .ok (.putfield 42, 3) := by decide +kernel
theorem di_m_97 : decode M_i_m.2.1 97 = .ok (.newarray .int, 2) := by decide +kernel
theorem di_m_99 : decode M_i_m.2.1 99 = .ok (.putfield 46, 3) := by decide +kernel
theorem di_m_105 : decode M_i_m.2.1 105 = .ok (.newarray .long, 2) := by decide +kernel
theorem di_m_107 : decode M_i_m.2.1 107 = .ok (.putfield 49, 3) := by decide +kernel
theorem di_m_113 : decode M_i_m.2.1 113 = .ok (.newarray .int, 2) := by decide +kernel
theorem di_m_115 : decode M_i_m.2.1 115 = .ok (.putfield 52, 3) := by decide +kernel
theorem di_m_121 : decode M_i_m.2.1 121 = .ok (.newarray .int, 2) := by decide +kernel
theorem di_m_123 : decode M_i_m.2.1 123 = .ok (.putfield 55, 3) := by decide +kernel
theorem di_m_129 : decode M_i_m.2.1 129 = .ok (.newarray .int, 2) := by decide +kernel
theorem di_m_131 : decode M_i_m.2.1 131 = .ok (.putfield 58, 3) := by decide +kernel
theorem di_m_137 : decode M_i_m.2.1 137 = .ok (.newarray .int, 2) := by decide +kernel
theorem di_m_139 : decode M_i_m.2.1 139 = .ok (.putfield 62, 3) := by decide +kernel
theorem di_m_146 : decode M_i_m.2.1 146 = .ok (.newarray .int, 2) := by decide +kernel
theorem di_m_148 : decode M_i_m.2.1 148 = .ok (.putfield 65, 3) := by decide +kernel
theorem di_m_155 : decode M_i_m.2.1 155 = .ok (.newarray .int, 2) := by decide +kernel
theorem di_m_157 : decode M_i_m.2.1 157 = .ok (.putfield 68, 3) := by decide +kernel
theorem di_m_164 : decode M_i_m.2.1 164 = .ok (.newarray .int, 2) := by decide +kernel
theorem di_m_166 : decode M_i_m.2.1 166 = .ok (.putfield 71, 3) := by decide +kernel
theorem di_m_173 : decode M_i_m.2.1 173 = .ok (.newarray .int, 2) := by decide +kernel
theorem di_m_175 : decode M_i_m.2.1 175 = .ok (.putfield 74, 3) := by decide +kernel
theorem di_m_182 : decode M_i_m.2.1 182 = .ok (.newarray .int, 2) := by decide +kernel
theorem di_m_184 : decode M_i_m.2.1 184 = .ok (.putfield 77, 3) := by decide +kernel
theorem di_m_190 : decode M_i_m.2.1 190 = .ok (.newarray .int, 2) := by decide +kernel
theorem di_m_192 : decode M_i_m.2.1 192 = .ok (.putfield 80, 3) := by decide +kernel
theorem di_m_235 : decode M_i_m.2.1 235 = .ok (.return_, 1) := by decide +kernel
def q_i_m : List (Nat × ENT) := [(0, .aload_n 0, (0, 0, 0), 0), (4, .aload_n 0, (0, 0, 0), 0), (5, .sipush 145, (0, 0, 0), 0), (13, .aload_n 0, (0, 0, 0), 0), (14, .sipush 145, (0, 0, 0), 0), (22, .aload_n 0, (0, 0, 0), 0), (23, .sipush 560, (0, 0, 0), 0), (31, .aload_n 0, (0, 0, 0), 0), (32, .sipush 2720, (0, 0, 0), 0), (40, .aload_n 0, (0, 0, 0), 0), (41, .sipush 300, (0, 0, 0), 0), (49, .aload_n 0, (0, 0, 0), 0), (50, .iconst (-1), (0, 0, 0), 0), (51, .putfield 25, (12, 7, 5235), 0), (54, .aload_n 0, (0, 0, 0), 0), (55, .iconst (-1), (0, 0, 0), 0), (56, .putfield 29, (12, 8, 5236), 0), (59, .aload_n 0, (0, 0, 0), 0), (60, .sipush 160, (0, 0, 0), 0), (68, .aload_n 0, (0, 0, 0), 0), (69, .bipush 8, (0, 0, 0), 0), (76, .aload_n 0, (0, 0, 0), 0), (77, .sipush 330, (0, 0, 0), 0), (85, .aload_n 0, (0, 0, 0), 0), (86, .sipush 330, (0, 0, 0), 0), (94, .aload_n 0, (0, 0, 0), 0), (95, .bipush 13, (0, 0, 0), 0), (102, .aload_n 0, (0, 0, 0), 0), (103, .bipush 13, (0, 0, 0), 0), (110, .aload_n 0, (0, 0, 0), 0), (111, .bipush 7, (0, 0, 0), 0), (118, .aload_n 0, (0, 0, 0), 0), (119, .bipush 8, (0, 0, 0), 0), (126, .aload_n 0, (0, 0, 0), 0), (127, .bipush 72, (0, 0, 0), 0), (134, .aload_n 0, (0, 0, 0), 0), (135, .ldc 61, (0, 0, 5219), 105035), (142, .aload_n 0, (0, 0, 0), 0), (143, .sipush 3001, (0, 0, 0), 0), (151, .aload_n 0, (0, 0, 0), 0), (152, .sipush 3001, (0, 0, 0), 0), (160, .aload_n 0, (0, 0, 0), 0), (161, .sipush 3001, (0, 0, 0), 0), (169, .aload_n 0, (0, 0, 0), 0), (170, .sipush 4096, (0, 0, 0), 0), (178, .aload_n 0, (0, 0, 0), 0), (179, .sipush 3001, (0, 0, 0), 0), (187, .aload_n 0, (0, 0, 0), 0), (188, .bipush 6, (0, 0, 0), 0), (195, .aload_n 0, (0, 0, 0), 0), (196, .getfield 7, (12, 0, 5228), 0), (199, .iconst 4, (0, 0, 0), 0), (200, .iconst (-1), (0, 0, 0), 0), (201, .iastore, (0, 0, 0), 0), (202, .aload_n 0, (0, 0, 0), 0), (203, .getfield 7, (12, 0, 5228), 0), (206, .bipush 8, (0, 0, 0), 0), (208, .iconst 5, (0, 0, 0), 0), (209, .iastore, (0, 0, 0), 0), (210, .iconst 0, (0, 0, 0), 0), (211, .istore_n 1, (0, 0, 0), 0), (212, .iload_n 1, (0, 0, 0), 0), (213, .bipush 8, (0, 0, 0), 0), (215, .if_icmp .ge 16, (0, 0, 0), 0), (218, .aload_n 0, (0, 0, 0), 0), (219, .getfield 16, (12, 2, 5230), 0), (222, .iload_n 1, (0, 0, 0), 0), (223, .iconst (-1), (0, 0, 0), 0), (224, .iastore, (0, 0, 0), 0), (225, .iinc 1 1, (0, 0, 0), 0), (228, .goto (-16), (212, 0, 0), 0), (231, .aload_n 0, (0, 0, 0), 0), (232, .invokevirtual 83, (0, 0, 0), 0)]
theorem sK_i_m : SK M_i_m q_i_m := by
  show segOK M_i_m.1.cls M_i_m.2.1 q_i_m = true
  decide +kernel
theorem pf_i_m : plainFor M_i_m.1 = true := by decide +kernel
theorem mk_i_m : MOKI M_i_m 0 := mOKI_eq (pc := 5217) (pi := 1015) (p1 := 5216) (by decide +kernel)
theorem wi_5218 : Jvm.Cond.methodLink "LastNameModel" 1 Lib.objectInit ∈ ALLW := wdOK_mem (i := 5218) (by decide +kernel)
theorem wi_5228 : Jvm.Cond.fieldLink "LastNameModel" 7 "LastNameModel" "a" "[I" ∈ ALLW := wdOK_mem (i := 5228) (by decide +kernel)
theorem wi_5229 : Jvm.Cond.fieldLink "LastNameModel" 13 "LastNameModel" "image" "[I" ∈ ALLW := wdOK_mem (i := 5229) (by decide +kernel)
theorem wi_5230 : Jvm.Cond.fieldLink "LastNameModel" 16 "LastNameModel" "d" "[I" ∈ ALLW := wdOK_mem (i := 5230) (by decide +kernel)
theorem wi_5232 : Jvm.Cond.fieldLink "LastNameModel" 19 "LastNameModel" "texts" "[I" ∈ ALLW := wdOK_mem (i := 5232) (by decide +kernel)
theorem wi_5233 : Jvm.Cond.fieldLink "LastNameModel" 22 "LastNameModel" "tape" "[I" ∈ ALLW := wdOK_mem (i := 5233) (by decide +kernel)
theorem wi_6004 : Jvm.Cond.fieldLink "LastNameModel" 32 "LastNameModel" "pile" "[I" ∈ ALLW := wdOK_mem (i := 6004) (by decide +kernel)
theorem wi_6010 : Jvm.Cond.fieldLink "LastNameModel" 35 "LastNameModel" "named" "[I" ∈ ALLW := wdOK_mem (i := 6010) (by decide +kernel)
theorem wi_6011 : Jvm.Cond.fieldLink "LastNameModel" 38 "LastNameModel" "values" "[J" ∈ ALLW := wdOK_mem (i := 6011) (by decide +kernel)
theorem wi_6012 : Jvm.Cond.fieldLink "LastNameModel" 42 "LastNameModel" "truth" "[Z" ∈ ALLW := wdOK_mem (i := 6012) (by decide +kernel)
theorem wi_6015 : Jvm.Cond.fieldLink "LastNameModel" 46 "LastNameModel" "lots" "[I" ∈ ALLW := wdOK_mem (i := 6015) (by decide +kernel)
theorem wi_6016 : Jvm.Cond.fieldLink "LastNameModel" 49 "LastNameModel" "shares" "[J" ∈ ALLW := wdOK_mem (i := 6016) (by decide +kernel)
theorem wi_6017 : Jvm.Cond.fieldLink "LastNameModel" 52 "LastNameModel" "tried" "[I" ∈ ALLW := wdOK_mem (i := 6017) (by decide +kernel)
theorem wi_6019 : Jvm.Cond.fieldLink "LastNameModel" 55 "LastNameModel" "mays" "[I" ∈ ALLW := wdOK_mem (i := 6019) (by decide +kernel)
theorem wi_6020 : Jvm.Cond.fieldLink "LastNameModel" 58 "LastNameModel" "parts" "[I" ∈ ALLW := wdOK_mem (i := 6020) (by decide +kernel)
theorem wi_6021 : Jvm.Cond.fieldLink "LastNameModel" 62 "LastNameModel" "states" "[I" ∈ ALLW := wdOK_mem (i := 6021) (by decide +kernel)
theorem wi_6022 : Jvm.Cond.fieldLink "LastNameModel" 65 "LastNameModel" "camesFrom" "[I" ∈ ALLW := wdOK_mem (i := 6022) (by decide +kernel)
theorem wi_6023 : Jvm.Cond.fieldLink "LastNameModel" 68 "LastNameModel" "cameBy" "[I" ∈ ALLW := wdOK_mem (i := 6023) (by decide +kernel)
theorem wi_6024 : Jvm.Cond.fieldLink "LastNameModel" 71 "LastNameModel" "chain" "[I" ∈ ALLW := wdOK_mem (i := 6024) (by decide +kernel)
theorem wi_6025 : Jvm.Cond.fieldLink "LastNameModel" 74 "LastNameModel" "chains" "[I" ∈ ALLW := wdOK_mem (i := 6025) (by decide +kernel)
theorem wi_6027 : Jvm.Cond.fieldLink "LastNameModel" 77 "LastNameModel" "path" "[I" ∈ ALLW := wdOK_mem (i := 6027) (by decide +kernel)
theorem wi_6028 : Jvm.Cond.fieldLink "LastNameModel" 80 "LastNameModel" "order" "[I" ∈ ALLW := wdOK_mem (i := 6028) (by decide +kernel)
theorem kp_ex : ∃ g, f_m_keep (upd (upd (fun _ => 0) (ix (4)) ((-1))) (ix (((Int8.ofInt 8).toInt32))) (5)) (fun _ => 0) (upd (upd (upd (upd (upd (upd (upd (upd (fun _ => 0) (ix (0)) ((-1))) (ix (1)) ((-1))) (ix (2)) ((-1))) (ix (3)) ((-1))) (ix (4)) ((-1))) (ix (5)) ((-1))) (ix (6)) ((-1))) (ix (7)) ((-1))) = some g := Option.isSome_iff_exists.mp (by decide +kernel)
noncomputable def kpI : Nat → Int32 := (Classical.choose kp_ex).1
noncomputable def kpD : Nat → Int32 := (Classical.choose kp_ex).2
theorem kp_eq : f_m_keep (upd (upd (fun _ => 0) (ix (4)) ((-1))) (ix (((Int8.ofInt 8).toInt32))) (5)) (fun _ => 0) (upd (upd (upd (upd (upd (upd (upd (upd (fun _ => 0) (ix (0)) ((-1))) (ix (1)) ((-1))) (ix (2)) ((-1))) (ix (3)) ((-1))) (ix (4)) ((-1))) (ix (5)) ((-1))) (ix (6)) ((-1))) (ix (7)) ((-1))) = some (kpI, kpD) := Classical.choose_spec kp_ex
theorem lki_m_83 : LK "LastNameModel" 83 M_m_keep.1 false := LK_p 5220 (by decide +kernel)
