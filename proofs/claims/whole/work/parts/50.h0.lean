/-! ===== constructors: tables, words (written by mkctor.py) ===== -/
def M_i_law : MI := (⟨"LastName$Law", "<init>", "()V"⟩, prog_4_method_1_code, 1, none)
theorem di_law_1 : decode M_i_law.2.1 1 = .ok (.invokespecial 3, 3) := by decide +kernel
theorem di_law_8 : decode M_i_law.2.1 8 = .ok (.newarray .int, 2) := by decide +kernel
theorem di_law_10 : decode M_i_law.2.1 10 = .ok (.putfield 9, 3) := by decide +kernel
theorem di_law_21 : decode M_i_law.2.1 21 = .ok (.newarray .int, 2) := by decide +kernel
theorem di_law_23 : decode M_i_law.2.1 23 = .ok (.putfield 19, 3) := by decide +kernel
theorem di_law_29 : decode M_i_law.2.1 29 = .ok (.newarray .int, 2) := by decide +kernel
theorem di_law_31 : decode M_i_law.2.1 31 = .ok (.putfield 22, 3) := by decide +kernel
theorem di_law_37 : decode M_i_law.2.1 37 = .ok (.newarray .int, 2) := by decide +kernel
theorem di_law_39 : decode M_i_law.2.1 39 = .ok (.putfield 25, 3) := by decide +kernel
theorem di_law_57 : decode M_i_law.2.1 57 = .ok (.return_, 1) := by decide +kernel
def q_i_law : List (Nat × ENT) := [(0, .aload_n 0, (0, 0, 0), 0), (4, .aload_n 0, (0, 0, 0), 0), (5, .sipush 300, (0, 0, 0), 0), (13, .aload_n 0, (0, 0, 0), 0), (14, .iconst 0, (0, 0, 0), 0), (15, .putfield 15, (2, 1, 1176), 0), (18, .aload_n 0, (0, 0, 0), 0), (19, .bipush 20, (0, 0, 0), 0), (26, .aload_n 0, (0, 0, 0), 0), (27, .bipush 20, (0, 0, 0), 0), (34, .aload_n 0, (0, 0, 0), 0), (35, .bipush 20, (0, 0, 0), 0), (42, .aload_n 0, (0, 0, 0), 0), (43, .iconst 0, (0, 0, 0), 0), (44, .putfield 28, (2, 5, 1181), 0), (47, .aload_n 0, (0, 0, 0), 0), (48, .iconst (-1), (0, 0, 0), 0), (49, .putfield 31, (2, 6, 1185), 0), (52, .aload_n 0, (0, 0, 0), 0), (53, .iconst (-1), (0, 0, 0), 0), (54, .putfield 34, (2, 7, 1187), 0)]
theorem sK_i_law : SK M_i_law q_i_law := by
  show segOK M_i_law.1.cls M_i_law.2.1 q_i_law = true
  decide +kernel
theorem pf_i_law : plainFor M_i_law.1 = true := by decide +kernel
theorem mk_i_law : MOKI M_i_law 0 := mOKI_eq (pc := 1173) (pi := 1008) (p1 := 1172) (by decide +kernel)
def M_i_sums : MI := (⟨"LastName$Sums", "<init>", "()V"⟩, prog_8_method_1_code, 1, none)
theorem di_sums_1 : decode M_i_sums.2.1 1 = .ok (.invokespecial 3, 3) := by decide +kernel
theorem di_sums_7 : decode M_i_sums.2.1 7 = .ok (.newarray .int, 2) := by decide +kernel
theorem di_sums_9 : decode M_i_sums.2.1 9 = .ok (.putfield 9, 3) := by decide +kernel
theorem di_sums_15 : decode M_i_sums.2.1 15 = .ok (.newarray .int, 2) := by decide +kernel
theorem di_sums_17 : decode M_i_sums.2.1 17 = .ok (.putfield 15, 3) := by decide +kernel
theorem di_sums_20 : decode M_i_sums.2.1 20 = .ok (.return_, 1) := by decide +kernel
def q_i_sums : List (Nat × ENT) := [(0, .aload_n 0, (0, 0, 0), 0), (4, .aload_n 0, (0, 0, 0), 0), (5, .bipush 8, (0, 0, 0), 0), (12, .aload_n 0, (0, 0, 0), 0), (13, .bipush 64, (0, 0, 0), 0)]
theorem sK_i_sums : SK M_i_sums q_i_sums := by
  show segOK M_i_sums.1.cls M_i_sums.2.1 q_i_sums = true
  decide +kernel
theorem pf_i_sums : plainFor M_i_sums.1 = true := by decide +kernel
theorem mk_i_sums : MOKI M_i_sums 0 := mOKI_eq (pc := 2022) (pi := 1010) (p1 := 2021) (by decide +kernel)
def M_i_rd : MI := (⟨"LastName$Reader", "<init>", "()V"⟩, prog_6_method_1_code, 1, none)
theorem di_rd_1 : decode M_i_rd.2.1 1 = .ok (.invokespecial 3, 3) := by decide +kernel
theorem di_rd_8 : decode M_i_rd.2.1 8 = .ok (.newarray .int, 2) := by decide +kernel
theorem di_rd_10 : decode M_i_rd.2.1 10 = .ok (.putfield 9, 3) := by decide +kernel
theorem di_rd_22 : decode M_i_rd.2.1 22 = .ok (.newarray .int, 2) := by decide +kernel
theorem di_rd_24 : decode M_i_rd.2.1 24 = .ok (.putfield 19, 3) := by decide +kernel
theorem di_rd_31 : decode M_i_rd.2.1 31 = .ok (.newarray .int, 2) := by decide +kernel
theorem di_rd_33 : decode M_i_rd.2.1 33 = .ok (.putfield 22, 3) := by decide +kernel
theorem di_rd_40 : decode M_i_rd.2.1 40 = .ok (.newarray .int, 2) := by decide +kernel
theorem di_rd_42 : decode M_i_rd.2.1 42 = .ok (.putfield 25, 3) := by decide +kernel
theorem di_rd_81 : decode M_i_rd.2.1 81 = .ok (.new 50, 3) := by decide +kernel
theorem di_rd_85 : decode M_i_rd.2.1 85 = .ok (.invokespecial 52, 3) := by decide +kernel
theorem di_rd_88 : decode M_i_rd.2.1 88 = .ok (.putfield 53, 3) := by decide +kernel
theorem di_rd_91 : decode M_i_rd.2.1 91 = .ok (.return_, 1) := by decide +kernel
def q_i_rd : List (Nat × ENT) := [(0, .aload_n 0, (0, 0, 0), 0), (4, .aload_n 0, (0, 0, 0), 0), (5, .sipush 300, (0, 0, 0), 0), (13, .aload_n 0, (0, 0, 0), 0), (14, .iconst 0, (0, 0, 0), 0), (15, .putfield 15, (4, 1, 1207), 0), (18, .aload_n 0, (0, 0, 0), 0), (19, .sipush 301, (0, 0, 0), 0), (27, .aload_n 0, (0, 0, 0), 0), (28, .sipush 301, (0, 0, 0), 0), (36, .aload_n 0, (0, 0, 0), 0), (37, .sipush 301, (0, 0, 0), 0), (45, .aload_n 0, (0, 0, 0), 0), (46, .iconst 0, (0, 0, 0), 0), (47, .putfield 28, (4, 5, 1212), 0), (50, .aload_n 0, (0, 0, 0), 0), (51, .iconst 0, (0, 0, 0), 0), (52, .putfield 31, (4, 6, 1213), 0), (55, .aload_n 0, (0, 0, 0), 0), (56, .iconst 0, (0, 0, 0), 0), (57, .putfield 35, (4, 7, 1215), 0), (60, .aload_n 0, (0, 0, 0), 0), (61, .iconst (-1), (0, 0, 0), 0), (62, .putfield 38, (4, 8, 1217), 0), (65, .aload_n 0, (0, 0, 0), 0), (66, .iconst 0, (0, 0, 0), 0), (67, .putfield 41, (4, 9, 1219), 0), (70, .aload_n 0, (0, 0, 0), 0), (71, .iconst 0, (0, 0, 0), 0), (72, .putfield 44, (4, 10, 1220), 0), (75, .aload_n 0, (0, 0, 0), 0), (76, .iconst 0, (0, 0, 0), 0), (77, .putfield 47, (4, 11, 1221), 0), (80, .aload_n 0, (0, 0, 0), 0), (84, .dup, (0, 0, 0), 0)]
theorem sK_i_rd : SK M_i_rd q_i_rd := by
  show segOK M_i_rd.1.cls M_i_rd.2.1 q_i_rd = true
  decide +kernel
theorem pf_i_rd : plainFor M_i_rd.1 = true := by decide +kernel
theorem mk_i_rd : MOKI M_i_rd 0 := mOKI_eq (pc := 1167) (pi := 1007) (p1 := 1166) (by decide +kernel)
def M_i_tri : MI := (⟨"LastName$Triples", "<init>", "(I)V"⟩, prog_10_method_1_code, 2, none)
theorem di_tri_1 : decode M_i_tri.2.1 1 = .ok (.invokespecial 3, 3) := by decide +kernel
theorem di_tri_17 : decode M_i_tri.2.1 17 = .ok (.newarray .int, 2) := by decide +kernel
theorem di_tri_19 : decode M_i_tri.2.1 19 = .ok (.putfield 21, 3) := by decide +kernel
theorem di_tri_22 : decode M_i_tri.2.1 22 = .ok (.return_, 1) := by decide +kernel
def q_i_tri : List (Nat × ENT) := [(0, .aload_n 0, (0, 0, 0), 0), (4, .aload_n 0, (0, 0, 0), 0), (5, .iconst 0, (0, 0, 0), 0), (6, .putfield 9, (8, 1, 1069), 0), (9, .aload_n 0, (0, 0, 0), 0), (10, .iconst 0, (0, 0, 0), 0), (11, .iload_n 1, (0, 0, 0), 0), (12, .invokestatic 15, (0, 0, 0), 0), (15, .iconst 3, (0, 0, 0), 0), (16, .imul, (0, 0, 0), 0)]
theorem sK_i_tri : SK M_i_tri q_i_tri := by
  show segOK M_i_tri.1.cls M_i_tri.2.1 q_i_tri = true
  decide +kernel
theorem pf_i_tri : plainFor M_i_tri.1 = true := by decide +kernel
theorem mk_i_tri : MOKI M_i_tri 1 := mOKI_eq (pc := 1063) (pi := 1005) (p1 := 1062) (by decide +kernel)
def M_i_town : MI := (⟨"LastName$Town", "<init>", "()V"⟩, prog_9_method_1_code, 1, none)
theorem di_town_1 : decode M_i_town.2.1 1 = .ok (.invokespecial 3, 3) := by decide +kernel
theorem di_town_7 : decode M_i_town.2.1 7 = .ok (.newarray .int, 2) := by decide +kernel
theorem di_town_9 : decode M_i_town.2.1 9 = .ok (.putfield 9, 3) := by decide +kernel
theorem di_town_14 : decode M_i_town.2.1 14 = .ok (.newarray .int, 2) := by decide +kernel
theorem di_town_16 : decode M_i_town.2.1 16 = .ok (.putfield 15, 3) := by decide +kernel
theorem di_town_23 : decode M_i_town.2.1 23 = .ok (.multianewarray 18 2, 4) := by decide +kernel
theorem di_town_27 : decode M_i_town.2.1 27 = .ok (.putfield 20, 3) := by decide +kernel
theorem di_town_38 : decode M_i_town.2.1 38 = .ok (.return_, 1) := by decide +kernel
def q_i_town : List (Nat × ENT) := [(0, .aload_n 0, (0, 0, 0), 0), (4, .aload_n 0, (0, 0, 0), 0), (5, .bipush 8, (0, 0, 0), 0), (12, .aload_n 0, (0, 0, 0), 0), (13, .iconst 3, (0, 0, 0), 0), (19, .aload_n 0, (0, 0, 0), 0), (20, .iconst 3, (0, 0, 0), 0), (21, .bipush 8, (0, 0, 0), 0), (30, .aload_n 0, (0, 0, 0), 0), (31, .getfield 9, (7, 0, 1047), 0), (34, .iconst (-1), (0, 0, 0), 0), (35, .invokestatic 23, (0, 0, 0), 0)]
theorem sK_i_town : SK M_i_town q_i_town := by
  show segOK M_i_town.1.cls M_i_town.2.1 q_i_town = true
  decide +kernel
theorem pf_i_town : plainFor M_i_town.1 = true := by decide +kernel
theorem mk_i_town : MOKI M_i_town 0 := mOKI_eq (pc := 1040) (pi := 1003) (p1 := 1039) (by decide +kernel)
def M_i_world : MI := (⟨"LastName$World", "<init>", "()V"⟩, prog_12_method_1_code, 1, none)
theorem di_world_1 : decode M_i_world.2.1 1 = .ok (.invokespecial 3, 3) := by decide +kernel
theorem di_world_37 : decode M_i_world.2.1 37 = .ok (.newarray .boolean, 2) := by decide +kernel
theorem di_world_39 : decode M_i_world.2.1 39 = .ok (.putfield 30, 3) := by decide +kernel
theorem di_world_44 : decode M_i_world.2.1 44 = .ok (.newarray .boolean, 2) := by decide +kernel
theorem di_world_46 : decode M_i_world.2.1 46 = .ok (.putfield 34, 3) := by decide +kernel
theorem di_world_52 : decode M_i_world.2.1 52 = .ok (.newarray .int, 2) := by decide +kernel
theorem di_world_54 : decode M_i_world.2.1 54 = .ok (.putfield 37, 3) := by decide +kernel
theorem di_world_60 : decode M_i_world.2.1 60 = .ok (.newarray .int, 2) := by decide +kernel
theorem di_world_62 : decode M_i_world.2.1 62 = .ok (.putfield 41, 3) := by decide +kernel
theorem di_world_66 : decode M_i_world.2.1 66 = .ok (.new 44, 3) := by decide +kernel
theorem di_world_70 : decode M_i_world.2.1 70 = .ok (.invokespecial 46, 3) := by decide +kernel
theorem di_world_73 : decode M_i_world.2.1 73 = .ok (.putfield 47, 3) := by decide +kernel
theorem di_world_77 : decode M_i_world.2.1 77 = .ok (.new 51, 3) := by decide +kernel
theorem di_world_83 : decode M_i_world.2.1 83 = .ok (.invokespecial 53, 3) := by decide +kernel
theorem di_world_86 : decode M_i_world.2.1 86 = .ok (.putfield 56, 3) := by decide +kernel
theorem di_world_90 : decode M_i_world.2.1 90 = .ok (.new 51, 3) := by decide +kernel
theorem di_world_96 : decode M_i_world.2.1 96 = .ok (.invokespecial 53, 3) := by decide +kernel
theorem di_world_99 : decode M_i_world.2.1 99 = .ok (.putfield 60, 3) := by decide +kernel
theorem di_world_103 : decode M_i_world.2.1 103 = .ok (.new 51, 3) := by decide +kernel
theorem di_world_109 : decode M_i_world.2.1 109 = .ok (.invokespecial 53, 3) := by decide +kernel
theorem di_world_112 : decode M_i_world.2.1 112 = .ok (.putfield 63, 3) := by decide +kernel
theorem di_world_115 : decode M_i_world.2.1 115 = .ok (.return_, 1) := by decide +kernel
def q_i_world : List (Nat × ENT) := [(0, .aload_n 0, (0, 0, 0), 0), (4, .aload_n 0, (0, 0, 0), 0), (5, .iconst 0, (0, 0, 0), 0), (6, .putfield 9, (10, 0, 1080), 0), (9, .aload_n 0, (0, 0, 0), 0), (10, .iconst 0, (0, 0, 0), 0), (11, .putfield 15, (10, 1, 1085), 0), (14, .aload_n 0, (0, 0, 0), 0), (15, .iconst 0, (0, 0, 0), 0), (16, .putfield 18, (10, 2, 1090), 0), (19, .aload_n 0, (0, 0, 0), 0), (20, .iconst 0, (0, 0, 0), 0), (21, .putfield 21, (10, 3, 1093), 0), (24, .aload_n 0, (0, 0, 0), 0), (25, .iconst (-1), (0, 0, 0), 0), (26, .putfield 24, (10, 4, 1095), 0), (29, .aload_n 0, (0, 0, 0), 0), (30, .iconst 5, (0, 0, 0), 0), (31, .putfield 27, (10, 5, 1098), 0), (34, .aload_n 0, (0, 0, 0), 0), (35, .bipush 8, (0, 0, 0), 0), (42, .aload_n 0, (0, 0, 0), 0), (43, .iconst 3, (0, 0, 0), 0), (49, .aload_n 0, (0, 0, 0), 0), (50, .bipush 8, (0, 0, 0), 0), (57, .aload_n 0, (0, 0, 0), 0), (58, .bipush 8, (0, 0, 0), 0), (65, .aload_n 0, (0, 0, 0), 0), (69, .dup, (0, 0, 0), 0), (76, .aload_n 0, (0, 0, 0), 0), (80, .dup, (0, 0, 0), 0), (81, .bipush 20, (0, 0, 0), 0), (89, .aload_n 0, (0, 0, 0), 0), (93, .dup, (0, 0, 0), 0), (94, .bipush 12, (0, 0, 0), 0), (102, .aload_n 0, (0, 0, 0), 0), (106, .dup, (0, 0, 0), 0), (107, .bipush 6, (0, 0, 0), 0)]
theorem sK_i_world : SK M_i_world q_i_world := by
  show segOK M_i_world.1.cls M_i_world.2.1 q_i_world = true
  decide +kernel
theorem pf_i_world : plainFor M_i_world.1 = true := by decide +kernel
theorem mk_i_world : MOKI M_i_world 0 := mOKI_eq (pc := 1034) (pi := 1002) (p1 := 1033) (by decide +kernel)
theorem wi_1174 : Jvm.Cond.methodLink "LastName$Law" 3 Lib.objectInit ∈ ALLW := wdOK_mem (i := 1174) (by decide +kernel)
theorem wi_1058 : Jvm.Cond.arrayClass .int ∈ ALLW := wdOK_mem (i := 1058) (by decide +kernel)
theorem wi_1175 : Jvm.Cond.fieldLink "LastName$Law" 9 "LastName$Law" "code" "[I" ∈ ALLW := wdOK_mem (i := 1175) (by decide +kernel)
theorem wi_1178 : Jvm.Cond.fieldLink "LastName$Law" 19 "LastName$Law" "kinds" "[I" ∈ ALLW := wdOK_mem (i := 1178) (by decide +kernel)
theorem wi_1179 : Jvm.Cond.fieldLink "LastName$Law" 22 "LastName$Law" "from" "[I" ∈ ALLW := wdOK_mem (i := 1179) (by decide +kernel)
theorem wi_1180 : Jvm.Cond.fieldLink "LastName$Law" 25 "LastName$Law" "to" "[I" ∈ ALLW := wdOK_mem (i := 1180) (by decide +kernel)
theorem wi_2023 : Jvm.Cond.methodLink "LastName$Sums" 3 Lib.objectInit ∈ ALLW := wdOK_mem (i := 2023) (by decide +kernel)
theorem wi_2024 : Jvm.Cond.fieldLink "LastName$Sums" 9 "LastName$Sums" "values" "[I" ∈ ALLW := wdOK_mem (i := 2024) (by decide +kernel)
theorem wi_2026 : Jvm.Cond.fieldLink "LastName$Sums" 15 "LastName$Sums" "stack" "[I" ∈ ALLW := wdOK_mem (i := 2026) (by decide +kernel)
theorem wi_1168 : Jvm.Cond.methodLink "LastName$Reader" 3 Lib.objectInit ∈ ALLW := wdOK_mem (i := 1168) (by decide +kernel)
theorem wi_1206 : Jvm.Cond.fieldLink "LastName$Reader" 9 "LastName$Reader" "bytes" "[I" ∈ ALLW := wdOK_mem (i := 1206) (by decide +kernel)
theorem wi_1209 : Jvm.Cond.fieldLink "LastName$Reader" 19 "LastName$Reader" "kinds" "[I" ∈ ALLW := wdOK_mem (i := 1209) (by decide +kernel)
theorem wi_1210 : Jvm.Cond.fieldLink "LastName$Reader" 22 "LastName$Reader" "starts" "[I" ∈ ALLW := wdOK_mem (i := 1210) (by decide +kernel)
theorem wi_1211 : Jvm.Cond.fieldLink "LastName$Reader" 25 "LastName$Reader" "numbers" "[I" ∈ ALLW := wdOK_mem (i := 1211) (by decide +kernel)
theorem wi_1169 : Jvm.Cond.classLink "LastName$Reader" 50 "LastName$Law" ∈ ALLW := wdOK_mem (i := 1169) (by decide +kernel)
theorem wi_1170 : Jvm.Cond.instantiable "LastName$Law" 8 ∈ ALLW := wdOK_mem (i := 1170) (by decide +kernel)
theorem wi_1008 : Jvm.Cond.initialized "LastName$Law" ∈ ALLW := wdOK_mem (i := 1008) (by decide +kernel)
theorem wi_1222 : Jvm.Cond.fieldLink "LastName$Reader" 53 "LastName$Reader" "draft" "LLastName$Law;" ∈ ALLW := wdOK_mem (i := 1222) (by decide +kernel)
theorem wi_1041 : Jvm.Cond.methodLink "LastName$Town" 3 Lib.objectInit ∈ ALLW := wdOK_mem (i := 1041) (by decide +kernel)
theorem wi_1047 : Jvm.Cond.fieldLink "LastName$Town" 9 "LastName$Town" "names" "[I" ∈ ALLW := wdOK_mem (i := 1047) (by decide +kernel)
theorem wi_1048 : Jvm.Cond.fieldLink "LastName$Town" 15 "LastName$Town" "sizes" "[I" ∈ ALLW := wdOK_mem (i := 1048) (by decide +kernel)
theorem wi_1042 : Jvm.Cond.classLink "LastName$Town" 18 "[[I" ∈ ALLW := wdOK_mem (i := 1042) (by decide +kernel)
theorem wi_1049 : Jvm.Cond.fieldLink "LastName$Town" 20 "LastName$Town" "heaps" "[[I" ∈ ALLW := wdOK_mem (i := 1049) (by decide +kernel)
theorem wi_1035 : Jvm.Cond.methodLink "LastName$World" 3 Lib.objectInit ∈ ALLW := wdOK_mem (i := 1035) (by decide +kernel)
theorem wi_1057 : Jvm.Cond.arrayClass .boolean ∈ ALLW := wdOK_mem (i := 1057) (by decide +kernel)
theorem wi_1100 : Jvm.Cond.fieldLink "LastName$World" 30 "LastName$World" "born" "[Z" ∈ ALLW := wdOK_mem (i := 1100) (by decide +kernel)
theorem wi_1103 : Jvm.Cond.fieldLink "LastName$World" 34 "LastName$World" "lot" "[Z" ∈ ALLW := wdOK_mem (i := 1103) (by decide +kernel)
theorem wi_1110 : Jvm.Cond.fieldLink "LastName$World" 37 "LastName$World" "paid" "[I" ∈ ALLW := wdOK_mem (i := 1110) (by decide +kernel)
theorem wi_1113 : Jvm.Cond.fieldLink "LastName$World" 41 "LastName$World" "done" "[I" ∈ ALLW := wdOK_mem (i := 1113) (by decide +kernel)
theorem wi_1036 : Jvm.Cond.classLink "LastName$World" 44 "LastName$Town" ∈ ALLW := wdOK_mem (i := 1036) (by decide +kernel)
theorem wi_1037 : Jvm.Cond.instantiable "LastName$Town" 3 ∈ ALLW := wdOK_mem (i := 1037) (by decide +kernel)
theorem wi_1003 : Jvm.Cond.initialized "LastName$Town" ∈ ALLW := wdOK_mem (i := 1003) (by decide +kernel)
theorem wi_1116 : Jvm.Cond.fieldLink "LastName$World" 47 "LastName$World" "town" "LLastName$Town;" ∈ ALLW := wdOK_mem (i := 1116) (by decide +kernel)
theorem wi_1059 : Jvm.Cond.classLink "LastName$World" 51 "LastName$Triples" ∈ ALLW := wdOK_mem (i := 1059) (by decide +kernel)
theorem wi_1060 : Jvm.Cond.instantiable "LastName$Triples" 2 ∈ ALLW := wdOK_mem (i := 1060) (by decide +kernel)
theorem wi_1005 : Jvm.Cond.initialized "LastName$Triples" ∈ ALLW := wdOK_mem (i := 1005) (by decide +kernel)
theorem wi_1064 : Jvm.Cond.methodLink "LastName$Triples" 3 Lib.objectInit ∈ ALLW := wdOK_mem (i := 1064) (by decide +kernel)
theorem wi_1068 : Jvm.Cond.fieldLink "LastName$Triples" 21 "LastName$Triples" "cells" "[I" ∈ ALLW := wdOK_mem (i := 1068) (by decide +kernel)
theorem wi_1123 : Jvm.Cond.fieldLink "LastName$World" 56 "LastName$World" "deeds" "LLastName$Triples;" ∈ ALLW := wdOK_mem (i := 1123) (by decide +kernel)
theorem wi_1125 : Jvm.Cond.fieldLink "LastName$World" 60 "LastName$World" "row" "LLastName$Triples;" ∈ ALLW := wdOK_mem (i := 1125) (by decide +kernel)
theorem wi_1129 : Jvm.Cond.fieldLink "LastName$World" 63 "LastName$World" "book" "LLastName$Triples;" ∈ ALLW := wdOK_mem (i := 1129) (by decide +kernel)
theorem nm8_some : (f_arr_fill_II 8 (fun _ => 0) (-1)).isSome = true := by decide +kernel
theorem nm8_ex : ∃ g, f_arr_fill_II 8 (fun _ => 0) (-1) = some g := Option.isSome_iff_exists.mp nm8_some
noncomputable def nm8 : Nat → Int32 := Classical.choose nm8_ex
theorem nm8_eq : f_arr_fill_II 8 (fun _ => 0) (-1) = some nm8 := Classical.choose_spec nm8_ex
theorem nm8_val : (f_arr_fill_II 8 (fun _ => 0) (-1)).map (fun g => (List.range 8).map g) = some (List.replicate 8 (-1)) := by decide +kernel
theorem oiw : oiW := ⟨wdOK_mem (i := 1028) (by decide +kernel), wdOK_mem (i := 1029) (by decide +kernel)⟩
theorem lki_rd_52 : LK "LastName$Reader" 52 M_i_law.1 true := LK_n 1171 (by decide +kernel)
theorem lki_town_23 : LK "LastName$Town" 23 M_arr_fill_II.1 false := LK_p 1044 (by decide +kernel)
theorem lki_world_46 : LK "LastName$World" 46 M_i_town.1 false := LK_p 1038 (by decide +kernel)
theorem lki_tri_15 : LK "LastName$Triples" 15 M_math_max_II.1 false := LK_p 1065 (by decide +kernel)
theorem lki_world_53 : LK "LastName$World" 53 M_i_tri.1 false := LK_p 1061 (by decide +kernel)
