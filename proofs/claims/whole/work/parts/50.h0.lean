/-! ===== constructors: tables, words (written by mkctor.py) ===== -/
def M_i_law : MI := (⟨"LastName$Law", "<init>", "()V"⟩, prog_4_method_1_code, 1, none)
theorem di_law_1 : decode M_i_law.2.1 1 = .ok (.invokespecial 3, 3) := by decide +kernel
theorem di_law_8 : decode M_i_law.2.1 8 = .ok (.newarray .int, 2) := by decide +kernel
theorem di_law_10 : decode M_i_law.2.1 10 = .ok (.putfield 9, 3) := by decide +kernel
theorem di_law_21 : decode M_i_law.2.1 21 = .ok (.newarray .int, 2) := by decide +kernel
theorem di_law_23 : decode M_i_law.2.1 23 = .ok (.putfield 19, 3) := by decide +kernel
theorem di_law_29 : decode M_i_law.2.1 29 = .ok (.newarray .int, 2) := by decide +kernel
theorem di_law_31 : decode M_i_law.2.1 31 = .ok (.putfield 22, 3) := by decide +kernel
theorem di_law_37 : decode M_i_law.2.1 37 = .ok (.newarray .int, 2) := by decide +kernel
theorem di_law_39 : decode M_i_law.2.1 39 = .ok (.putfield 25, 3) := by decide +kernel
theorem di_law_57 : decode M_i_law.2.1 57 = .ok (.return_, 1) := by decide +kernel
def q_i_law : List (Nat × ENT) := [(0, .aload_n 0, (0, 0, 0), 0), (4, .aload_n 0, (0, 0, 0), 0), (5, .sipush 300, (0, 0, 0), 0), (13, .aload_n 0, (0, 0, 0), 0), (14, .iconst 0, (0, 0, 0), 0), (15, .putfield 15, (2, 1, 1176), 0), (18, .aload_n 0, (0, 0, 0), 0), (19, .bipush 20, (0, 0, 0), 0), (26, .aload_n 0, (0, 0, 0), 0), (27, .bipush 20, (0, 0, 0), 0), (34, .aload_n 0, (0, 0, 0), 0), (35, .bipush 20, (0, 0, 0), 0), (42, .aload_n 0, (0, 0, 0), 0), (43, .iconst 0, (0, 0, 0), 0), (44, .putfield 28, (2, 5, 1181), 0), (47, .aload_n 0, (0, 0, 0), 0), (48, .iconst (-1), (0, 0, 0), 0), (49, .putfield 31, (2, 6, 1185), 0), (52, .aload_n 0, (0, 0, 0), 0), (53, .iconst (-1), (0, 0, 0), 0), (54, .putfield 34, (2, 7, 1187), 0)]
theorem sK_i_law : SK M_i_law q_i_law := by
  show segOK M_i_law.1.cls M_i_law.2.1 q_i_law = true
  decide +kernel
theorem pf_i_law : plainFor M_i_law.1 = true := by decide +kernel
theorem mk_i_law : MOKI M_i_law 0 := mOKI_eq (pc := 1173) (pi := 1008) (p1 := 1172) (by decide +kernel)
def M_i_sums : MI := (⟨"LastName$Sums", "<init>", "()V"⟩, prog_8_method_1_code, 1, none)
theorem di_sums_1 : decode M_i_sums.2.1 1 = .ok (.invokespecial 3, 3) := by decide +kernel
theorem di_sums_7 : decode M_i_sums.2.1 7 = .ok (.newarray .int, 2) := by decide +kernel
theorem di_sums_9 : decode M_i_sums.2.1 9 = .ok (.putfield 9, 3) := by decide +kernel
theorem di_sums_15 : decode M_i_sums.2.1 15 = .ok (.newarray .int, 2) := by decide +kernel
theorem di_sums_17 : decode M_i_sums.2.1 17 = .ok (.putfield 15, 3) := by decide +kernel
theorem di_sums_20 : decode M_i_sums.2.1 20 = .ok (.return_, 1) := by decide +kernel
def q_i_sums : List (Nat × ENT) := [(0, .aload_n 0, (0, 0, 0), 0), (4, .aload_n 0, (0, 0, 0), 0), (5, .bipush 8, (0, 0, 0), 0), (12, .aload_n 0, (0, 0, 0), 0), (13, .bipush 64, (0, 0, 0), 0)]
theorem sK_i_sums : SK M_i_sums q_i_sums := by
  show segOK M_i_sums.1.cls M_i_sums.2.1 q_i_sums = true
  decide +kernel
theorem pf_i_sums : plainFor M_i_sums.1 = true := by decide +kernel
theorem mk_i_sums : MOKI M_i_sums 0 := mOKI_eq (pc := 2022) (pi := 1010) (p1 := 2021) (by decide +kernel)
def M_i_rd : MI := (⟨"LastName$Reader", "<init>", "()V"⟩, prog_6_method_1_code, 1, none)
theorem di_rd_1 : decode M_i_rd.2.1 1 = .ok (.invokespecial 3, 3) := by decide +kernel
theorem di_rd_8 : decode M_i_rd.2.1 8 = .ok (.newarray .int, 2) := by decide +kernel
theorem di_rd_10 : decode M_i_rd.2.1 10 = .ok (.putfield 9, 3) := by decide +kernel
theorem di_rd_22 : decode M_i_rd.2.1 22 = .ok (.newarray .int, 2) := by decide +kernel
theorem di_rd_24 : decode M_i_rd.2.1 24 = .ok (.putfield 19, 3) := by decide +kernel
theorem di_rd_31 : decode M_i_rd.2.1 31 = .ok (.newarray .int, 2) := by decide +kernel
theorem di_rd_33 : decode M_i_rd.2.1 33 = .ok (.putfield 22, 3) := by decide +kernel
theorem di_rd_40 : decode M_i_rd.2.1 40 = .ok (.newarray .int, 2) := by decide +kernel
theorem di_rd_42 : decode M_i_rd.2.1 42 = .ok (.putfield 25, 3) := by decide +kernel
theorem di_rd_81 : decode M_i_rd.2.1 81 = .ok (.new 50, 3) := by decide +kernel
theorem di_rd_85 : decode M_i_rd.2.1 85 = .ok (.invokespecial 52, 3) := by decide +kernel
theorem di_rd_88 : decode M_i_rd.2.1 88 = .ok (.putfield 53, 3) := by decide +kernel
theorem di_rd_91 : decode M_i_rd.2.1 91 = .ok (.return_, 1) := by decide +kernel
def q_i_rd : List (Nat × ENT) := [(0, .aload_n 0, (0, 0, 0), 0), (4, .aload_n 0, (0, 0, 0), 0), (5, .sipush 300, (0, 0, 0), 0), (13, .aload_n 0, (0, 0, 0), 0), (14, .iconst 0, (0, 0, 0), 0), (15, .putfield 15, (4, 1, 1207), 0), (18, .aload_n 0, (0, 0, 0), 0), (19, .sipush 301, (0, 0, 0), 0), (27, .aload_n 0, (0, 0, 0), 0), (28, .sipush 301, (0, 0, 0), 0), (36, .aload_n 0, (0, 0, 0), 0), (37, .sipush 301, (0, 0, 0), 0), (45, .aload_n 0, (0, 0, 0), 0), (46, .iconst 0, (0, 0, 0), 0), (47, .putfield 28, (4, 5, 1212), 0), (50, .aload_n 0, (0, 0, 0), 0), (51, .iconst 0, (0, 0, 0), 0), (52, .putfield 31, (4, 6, 1213), 0), (55, .aload_n 0, (0, 0, 0), 0), (56, .iconst 0, (0, 0, 0), 0), (57, .putfield 35, (4, 7, 1215), 0), (60, .aload_n 0, (0, 0, 0), 0), (61, .iconst (-1), (0, 0, 0), 0), (62, .putfield 38, (4, 8, 1217), 0), (65, .aload_n 0, (0, 0, 0), 0), (66, .iconst 0, (0, 0, 0), 0), (67, .putfield 41, (4, 9, 1219), 0), (70, .aload_n 0, (0, 0, 0), 0), (71, .iconst 0, (0, 0, 0), 0), (72, .putfield 44, (4, 10, 1220), 0), (75, .aload_n 0, (0, 0, 0), 0), (76, .iconst 0, (0, 0, 0), 0), (77, .putfield 47, (4, 11, 1221), 0), (80, .aload_n 0, (0, 0, 0), 0), (84, .dup, (0, 0, 0), 0)]
theorem sK_i_rd : SK M_i_rd q_i_rd := by
  show segOK M_i_rd.1.cls M_i_rd.2.1 q_i_rd = true
  decide +kernel
theorem pf_i_rd : plainFor M_i_rd.1 = true := by decide +kernel
theorem mk_i_rd : MOKI M_i_rd 0 := mOKI_eq (pc := 1167) (pi := 1007) (p1 := 1166) (by decide +kernel)
theorem wi_1174 : Jvm.Cond.methodLink "LastName$Law" 3 Lib.objectInit ∈ ALLW := wdOK_mem (i := 1174) (by decide +kernel)
theorem wi_1058 : Jvm.Cond.arrayClass .int ∈ ALLW := wdOK_mem (i := 1058) (by decide +kernel)
theorem wi_1175 : Jvm.Cond.fieldLink "LastName$Law" 9 "LastName$Law" "code" "[I" ∈ ALLW := wdOK_mem (i := 1175) (by decide +kernel)
theorem wi_1178 : Jvm.Cond.fieldLink "LastName$Law" 19 "LastName$Law" "kinds" "[I" ∈ ALLW := wdOK_mem (i := 1178) (by decide +kernel)
theorem wi_1179 : Jvm.Cond.fieldLink "LastName$Law" 22 "LastName$Law" "from" "[I" ∈ ALLW := wdOK_mem (i := 1179) (by decide +kernel)
theorem wi_1180 : Jvm.Cond.fieldLink "LastName$Law" 25 "LastName$Law" "to" "[I" ∈ ALLW := wdOK_mem (i := 1180) (by decide +kernel)
theorem wi_2023 : Jvm.Cond.methodLink "LastName$Sums" 3 Lib.objectInit ∈ ALLW := wdOK_mem (i := 2023) (by decide +kernel)
theorem wi_2024 : Jvm.Cond.fieldLink "LastName$Sums" 9 "LastName$Sums" "values" "[I" ∈ ALLW := wdOK_mem (i := 2024) (by decide +kernel)
theorem wi_2026 : Jvm.Cond.fieldLink "LastName$Sums" 15 "LastName$Sums" "stack" "[I" ∈ ALLW := wdOK_mem (i := 2026) (by decide +kernel)
theorem wi_1168 : Jvm.Cond.methodLink "LastName$Reader" 3 Lib.objectInit ∈ ALLW := wdOK_mem (i := 1168) (by decide +kernel)
theorem wi_1206 : Jvm.Cond.fieldLink "LastName$Reader" 9 "LastName$Reader" "bytes" "[I" ∈ ALLW := wdOK_mem (i := 1206) (by decide +kernel)
theorem wi_1209 : Jvm.Cond.fieldLink "LastName$Reader" 19 "LastName$Reader" "kinds" "[I" ∈ ALLW := wdOK_mem (i := 1209) (by decide +kernel)
theorem wi_1210 : Jvm.Cond.fieldLink "LastName$Reader" 22 "LastName$Reader" "starts" "[I" ∈ ALLW := wdOK_mem (i := 1210) (by decide +kernel)
theorem wi_1211 : Jvm.Cond.fieldLink "LastName$Reader" 25 "LastName$Reader" "numbers" "[I" ∈ ALLW := wdOK_mem (i := 1211) (by decide +kernel)
theorem wi_1169 : Jvm.Cond.classLink "LastName$Reader" 50 "LastName$Law" ∈ ALLW := wdOK_mem (i := 1169) (by decide +kernel)
theorem wi_1170 : Jvm.Cond.instantiable "LastName$Law" 8 ∈ ALLW := wdOK_mem (i := 1170) (by decide +kernel)
theorem wi_1008 : Jvm.Cond.initialized "LastName$Law" ∈ ALLW := wdOK_mem (i := 1008) (by decide +kernel)
theorem wi_1222 : Jvm.Cond.fieldLink "LastName$Reader" 53 "LastName$Reader" "draft" "LLastName$Law;" ∈ ALLW := wdOK_mem (i := 1222) (by decide +kernel)
theorem oiw : oiW := ⟨wdOK_mem (i := 1028) (by decide +kernel), wdOK_mem (i := 1029) (by decide +kernel)⟩
theorem lki_rd_52 : LK "LastName$Reader" 52 M_i_law.1 true := LK_n 1171 (by decide +kernel)
