/-! ===== constructors: tables, words (written by mkctor.py) ===== -/
def M_i_law : MI := (⟨"LastName$Law", "<init>", "()V"⟩, prog_4_method_1_code, 1, none)
theorem di_law_1 : decode M_i_law.2.1 1 = .ok (.invokespecial 3, 3) := by decide +kernel
theorem di_law_8 : decode M_i_law.2.1 8 = .ok (.newarray .int, 2) := by decide +kernel
theorem di_law_10 : decode M_i_law.2.1 10 = .ok (.putfield 9, 3) := by decide +kernel
theorem di_law_21 : decode M_i_law.2.1 21 = .ok (.newarray .int, 2) := by decide +kernel
theorem di_law_23 : decode M_i_law.2.1 23 = .ok (.putfield 19, 3) := by decide +kernel
theorem di_law_29 : decode M_i_law.2.1 29 = .ok (.newarray .int, 2) := by decide +kernel
theorem di_law_31 : decode M_i_law.2.1 31 = .ok (.putfield 22, 3) := by decide +kernel
theorem di_law_37 : decode M_i_law.2.1 37 = .ok (.newarray .int, 2) := by decide +kernel
theorem di_law_39 : decode M_i_law.2.1 39 = .ok (.putfield 25, 3) := by decide +kernel
theorem di_law_57 : decode M_i_law.2.1 57 = .ok (.return_, 1) := by decide +kernel
def q_i_law : List (Nat × ENT) := [(0, .aload_n 0, (0, 0, 0), 0), (4, .aload_n 0, (0, 0, 0), 0), (5, .sipush 300, (0, 0, 0), 0), (13, .aload_n 0, (0, 0, 0), 0), (14, .iconst 0, (0, 0, 0), 0), (15, .putfield 15, (2, 1, 1176), 0), (18, .aload_n 0, (0, 0, 0), 0), (19, .bipush 20, (0, 0, 0), 0), (26, .aload_n 0, (0, 0, 0), 0), (27, .bipush 20, (0, 0, 0), 0), (34, .aload_n 0, (0, 0, 0), 0), (35, .bipush 20, (0, 0, 0), 0), (42, .aload_n 0, (0, 0, 0), 0), (43, .iconst 0, (0, 0, 0), 0), (44, .putfield 28, (2, 5, 1181), 0), (47, .aload_n 0, (0, 0, 0), 0), (48, .iconst (-1), (0, 0, 0), 0), (49, .putfield 31, (2, 6, 1185), 0), (52, .aload_n 0, (0, 0, 0), 0), (53, .iconst (-1), (0, 0, 0), 0), (54, .putfield 34, (2, 7, 1187), 0)]
theorem sK_i_law : SK M_i_law q_i_law := by
  show segOK M_i_law.1.cls M_i_law.2.1 q_i_law = true
  decide +kernel
theorem pf_i_law : plainFor M_i_law.1 = true := by decide +kernel
theorem mk_i_law : MOKI M_i_law 0 := mOKI_eq (pc := 1173) (pi := 1008) (p1 := 1172) (by decide +kernel)
def M_i_sums : MI := (⟨"LastName$Sums", "<init>", "()V"⟩, prog_8_method_1_code, 1, none)
theorem di_sums_1 : decode M_i_sums.2.1 1 = .ok (.invokespecial 3, 3) := by decide +kernel
theorem di_sums_7 : decode M_i_sums.2.1 7 = .ok (.newarray .int, 2) := by decide +kernel
theorem di_sums_9 : decode M_i_sums.2.1 9 = .ok (.putfield 9, 3) := by decide +kernel
theorem di_sums_15 : decode M_i_sums.2.1 15 = .ok (.newarray .int, 2) := by decide +kernel
theorem di_sums_17 : decode M_i_sums.2.1 17 = .ok (.putfield 15, 3) := by decide +kernel
theorem di_sums_20 : decode M_i_sums.2.1 20 = .ok (.return_, 1) := by decide +kernel
def q_i_sums : List (Nat × ENT) := [(0, .aload_n 0, (0, 0, 0), 0), (4, .aload_n 0, (0, 0, 0), 0), (5, .bipush 8, (0, 0, 0), 0), (12, .aload_n 0, (0, 0, 0), 0), (13, .bipush 64, (0, 0, 0), 0)]
theorem sK_i_sums : SK M_i_sums q_i_sums := by
  show segOK M_i_sums.1.cls M_i_sums.2.1 q_i_sums = true
  decide +kernel
theorem pf_i_sums : plainFor M_i_sums.1 = true := by decide +kernel
theorem mk_i_sums : MOKI M_i_sums 0 := mOKI_eq (pc := 2022) (pi := 1010) (p1 := 2021) (by decide +kernel)
def M_i_rd : MI := (⟨"LastName$Reader", "<init>", "()V"⟩, prog_6_method_1_code, 1, none)
theorem di_rd_1 : decode M_i_rd.2.1 1 = .ok (.invokespecial 3, 3) := by decide +kernel
theorem di_rd_8 : decode M_i_rd.2.1 8 = .ok (.newarray .int, 2) := by decide +kernel
theorem di_rd_10 : decode M_i_rd.2.1 10 = .ok (.putfield 9, 3) := by decide +kernel
theorem di_rd_22 : decode M_i_rd.2.1 22 = .ok (.newarray .int, 2) := by decide +kernel
theorem di_rd_24 : decode M_i_rd.2.1 24 = .ok (.putfield 19, 3) := by decide +kernel
theorem di_rd_31 : decode M_i_rd.2.1 31 = .ok (.newarray .int, 2) := by decide +kernel
theorem di_rd_33 : decode M_i_rd.2.1 33 = .ok (.putfield 22, 3) := by decide +kernel
theorem di_rd_40 : decode M_i_rd.2.1 40 = .ok (.newarray .int, 2) := by decide +kernel
theorem di_rd_42 : decode M_i_rd.2.1 42 = .ok (.putfield 25, 3) := by decide +kernel
theorem di_rd_81 : decode M_i_rd.2.1 81 = .ok (.new 50, 3) := by decide +kernel
theorem di_rd_85 : decode M_i_rd.2.1 85 = .ok (.invokespecial 52, 3) := by decide +kernel
theorem di_rd_88 : decode M_i_rd.2.1 88 = .ok (.putfield 53, 3) := by decide +kernel
theorem di_rd_91 : decode M_i_rd.2.1 91 = .ok (.return_, 1) := by decide +kernel
def q_i_rd : List (Nat × ENT) := [(0, .aload_n 0, (0, 0, 0), 0), (4, .aload_n 0, (0, 0, 0), 0), (5, .sipush 300, (0, 0, 0), 0), (13, .aload_n 0, (0, 0, 0), 0), (14, .iconst 0, (0, 0, 0), 0), (15, .putfield 15, (4, 1, 1207), 0), (18, .aload_n 0, (0, 0, 0), 0), (19, .sipush 301, (0, 0, 0), 0), (27, .aload_n 0, (0, 0, 0), 0), (28, .sipush 301, (0, 0, 0), 0), (36, .aload_n 0, (0, 0, 0), 0), (37, .sipush 301, (0, 0, 0), 0), (45, .aload_n 0, (0, 0, 0), 0), (46, .iconst 0, (0, 0, 0), 0), (47, .putfield 28, (4, 5, 1212), 0), (50, .aload_n 0, (0, 0, 0), 0), (51, .iconst 0, (0, 0, 0), 0), (52, .putfield 31, (4, 6, 1213), 0), (55, .aload_n 0, (0, 0, 0), 0), (56, .iconst 0, (0, 0, 0), 0), (57, .putfield 35, (4, 7, 1215), 0), (60, .aload_n 0, (0, 0, 0), 0), (61, .iconst (-1), (0, 0, 0), 0), (62, .putfield 38, (4, 8, 1217), 0), (65, .aload_n 0, (0, 0, 0), 0), (66, .iconst 0, (0, 0, 0), 0), (67, .putfield 41, (4, 9, 1219), 0), (70, .aload_n 0, (0, 0, 0), 0), (71, .iconst 0, (0, 0, 0), 0), (72, .putfield 44, (4, 10, 1220), 0), (75, .aload_n 0, (0, 0, 0), 0), (76, .iconst 0, (0, 0, 0), 0), (77, .putfield 47, (4, 11, 1221), 0), (80, .aload_n 0, (0, 0, 0), 0), (84, .dup, (0, 0, 0), 0)]
theorem sK_i_rd : SK M_i_rd q_i_rd := by
  show segOK M_i_rd.1.cls M_i_rd.2.1 q_i_rd = true
  decide +kernel
theorem pf_i_rd : plainFor M_i_rd.1 = true := by decide +kernel
theorem mk_i_rd : MOKI M_i_rd 0 := mOKI_eq (pc := 1167) (pi := 1007) (p1 := 1166) (by decide +kernel)
def M_i_tri : MI := (⟨"LastName$Triples", "<init>", "(I)V"⟩, prog_10_method_1_code, 2, none)
theorem di_tri_1 : decode M_i_tri.2.1 1 = .ok (.invokespecial 3, 3) := by decide +kernel
theorem di_tri_17 : decode M_i_tri.2.1 17 = .ok (.newarray .int, 2) := by decide +kernel
theorem di_tri_19 : decode M_i_tri.2.1 19 = .ok (.putfield 21, 3) := by decide +kernel
theorem di_tri_22 : decode M_i_tri.2.1 22 = .ok (.return_, 1) := by decide +kernel
def q_i_tri : List (Nat × ENT) := [(0, .aload_n 0, (0, 0, 0), 0), (4, .aload_n 0, (0, 0, 0), 0), (5, .iconst 0, (0, 0, 0), 0), (6, .putfield 9, (8, 1, 1069), 0), (9, .aload_n 0, (0, 0, 0), 0), (10, .iconst 0, (0, 0, 0), 0), (11, .iload_n 1, (0, 0, 0), 0), (12, .invokestatic 15, (0, 0, 0), 0), (15, .iconst 3, (0, 0, 0), 0), (16, .imul, (0, 0, 0), 0)]
theorem sK_i_tri : SK M_i_tri q_i_tri := by
  show segOK M_i_tri.1.cls M_i_tri.2.1 q_i_tri = true
  decide +kernel
theorem pf_i_tri : plainFor M_i_tri.1 = true := by decide +kernel
theorem mk_i_tri : MOKI M_i_tri 1 := mOKI_eq (pc := 1063) (pi := 1005) (p1 := 1062) (by decide +kernel)
def M_i_town : MI := (⟨"LastName$Town", "<init>", "()V"⟩, prog_9_method_1_code, 1, none)
theorem di_town_1 : decode M_i_town.2.1 1 = .ok (.invokespecial 3, 3) := by decide +kernel
theorem di_town_7 : decode M_i_town.2.1 7 = .ok (.newarray .int, 2) := by decide +kernel
theorem di_town_9 : decode M_i_town.2.1 9 = .ok (.putfield 9, 3) := by decide +kernel
theorem di_town_14 : decode M_i_town.2.1 14 = .ok (.newarray .int, 2) := by decide +kernel
theorem di_town_16 : decode M_i_town.2.1 16 = .ok (.putfield 15, 3) := by decide +kernel
theorem di_town_23 : decode M_i_town.2.1 23 = .ok (.multianewarray 18 2, 4) := by decide +kernel
theorem di_town_27 : decode M_i_town.2.1 27 = .ok (.putfield 20, 3) := by decide +kernel
theorem di_town_38 : decode M_i_town.2.1 38 = .ok (.return_, 1) := by decide +kernel
def q_i_town : List (Nat × ENT) := [(0, .aload_n 0, (0, 0, 0), 0), (4, .aload_n 0, (0, 0, 0), 0), (5, .bipush 8, (0, 0, 0), 0), (12, .aload_n 0, (0, 0, 0), 0), (13, .iconst 3, (0, 0, 0), 0), (19, .aload_n 0, (0, 0, 0), 0), (20, .iconst 3, (0, 0, 0), 0), (21, .bipush 8, (0, 0, 0), 0), (30, .aload_n 0, (0, 0, 0), 0), (31, .getfield 9, (7, 0, 1047), 0), (34, .iconst (-1), (0, 0, 0), 0), (35, .invokestatic 23, (0, 0, 0), 0)]
theorem sK_i_town : SK M_i_town q_i_town := by
  show segOK M_i_town.1.cls M_i_town.2.1 q_i_town = true
  decide +kernel
theorem pf_i_town : plainFor M_i_town.1 = true := by decide +kernel
theorem mk_i_town : MOKI M_i_town 0 := mOKI_eq (pc := 1040) (pi := 1003) (p1 := 1039) (by decide +kernel)
def M_i_world : MI := (⟨"LastName$World", "<init>", "()V"⟩, prog_12_method_1_code, 1, none)
theorem di_world_1 : decode M_i_world.2.1 1 = .ok (.invokespecial 3, 3) := by decide +kernel
theorem di_world_37 : decode M_i_world.2.1 37 = .ok (.newarray .boolean, 2) := by decide +kernel
theorem di_world_39 : decode M_i_world.2.1 39 = .ok (.putfield 30, 3) := by decide +kernel
theorem di_world_44 : decode M_i_world.2.1 44 = .ok (.newarray .boolean, 2) := by decide +kernel
theorem di_world_46 : decode M_i_world.2.1 46 = .ok (.putfield 34, 3) := by decide +kernel
theorem di_world_52 : decode M_i_world.2.1 52 = .ok (.newarray .int, 2) := by decide +kernel
theorem di_world_54 : decode M_i_world.2.1 54 = .ok (.putfield 37, 3) := by decide +kernel
theorem di_world_60 : decode M_i_world.2.1 60 = .ok (.newarray .int, 2) := by decide +kernel
theorem di_world_62 : decode M_i_world.2.1 62 = .ok (.putfield 41, 3) := by decide +kernel
theorem di_world_66 : decode M_i_world.2.1 66 = .ok (.new 44, 3) := by decide +kernel
theorem di_world_70 : decode M_i_world.2.1 70 = .ok (.invokespecial 46, 3) := by decide +kernel
theorem di_world_73 : decode M_i_world.2.1 73 = .ok (.putfield 47, 3) := by decide +kernel
theorem di_world_77 : decode M_i_world.2.1 77 = .ok (.new 51, 3) := by decide +kernel
theorem di_world_83 : decode M_i_world.2.1 83 = .ok (.invokespecial 53, 3) := by decide +kernel
theorem di_world_86 : decode M_i_world.2.1 86 = .ok (.putfield 56, 3) := by decide +kernel
theorem di_world_90 : decode M_i_world.2.1 90 = .ok (.new 51, 3) := by decide +kernel
theorem di_world_96 : decode M_i_world.2.1 96 = .ok (.invokespecial 53, 3) := by decide +kernel
theorem di_world_99 : decode M_i_world.2.1 99 = .ok (.putfield 60, 3) := by decide +kernel
theorem di_world_103 : decode M_i_world.2.1 103 = .ok (.new 51, 3) := by decide +kernel
theorem di_world_109 : decode M_i_world.2.1 109 = .ok (.invokespecial 53, 3) := by decide +kernel
theorem di_world_112 : decode M_i_world.2.1 112 = .ok (.putfield 63, 3) := by decide +kernel
theorem di_world_115 : decode M_i_world.2.1 115 = .ok (.return_, 1) := by decide +kernel
def q_i_world : List (Nat × ENT) := [(0, .aload_n 0, (0, 0, 0), 0), (4, .aload_n 0, (0, 0, 0), 0), (5, .iconst 0, (0, 0, 0), 0), (6, .putfield 9, (10, 0, 1080), 0), (9, .aload_n 0, (0, 0, 0), 0), (10, .iconst 0, (0, 0, 0), 0), (11, .putfield 15, (10, 1, 1085), 0), (14, .aload_n 0, (0, 0, 0), 0), (15, .iconst 0, (0, 0, 0), 0), (16, .putfield 18, (10, 2, 1090), 0), (19, .aload_n 0, (0, 0, 0), 0), (20, .iconst 0, (0, 0, 0), 0), (21, .putfield 21, (10, 3, 1093), 0), (24, .aload_n 0, (0, 0, 0), 0), (25, .iconst (-1), (0, 0, 0), 0), (26, .putfield 24, (10, 4, 1095), 0), (29, .aload_n 0, (0, 0, 0), 0), (30, .iconst 5, (0, 0, 0), 0), (31, .putfield 27, (10, 5, 1098), 0), (34, .aload_n 0, (0, 0, 0), 0), (35, .bipush 8, (0, 0, 0), 0), (42, .aload_n 0, (0, 0, 0), 0), (43, .iconst 3, (0, 0, 0), 0), (49, .aload_n 0, (0, 0, 0), 0), (50, .bipush 8, (0, 0, 0), 0), (57, .aload_n 0, (0, 0, 0), 0), (58, .bipush 8, (0, 0, 0), 0), (65, .aload_n 0, (0, 0, 0), 0), (69, .dup, (0, 0, 0), 0), (76, .aload_n 0, (0, 0, 0), 0), (80, .dup, (0, 0, 0), 0), (81, .bipush 20, (0, 0, 0), 0), (89, .aload_n 0, (0, 0, 0), 0), (93, .dup, (0, 0, 0), 0), (94, .bipush 12, (0, 0, 0), 0), (102, .aload_n 0, (0, 0, 0), 0), (106, .dup, (0, 0, 0), 0), (107, .bipush 6, (0, 0, 0), 0)]
theorem sK_i_world : SK M_i_world q_i_world := by
  show segOK M_i_world.1.cls M_i_world.2.1 q_i_world = true
  decide +kernel
theorem pf_i_world : plainFor M_i_world.1 = true := by decide +kernel
theorem mk_i_world : MOKI M_i_world 0 := mOKI_eq (pc := 1034) (pi := 1002) (p1 := 1033) (by decide +kernel)
def M_i_go : MI := (⟨"LastName$Goings", "<init>", "(LLastName$World;[LLastName$Law;)V"⟩, prog_3_method_1_code, 3, none)
theorem di_go_1 : decode M_i_go.2.1 1 = .ok (.invokespecial 3, 3) := by decide +kernel
theorem di_go_5 : decode M_i_go.2.1 5 = .ok (.new 9, 3) := by decide +kernel
theorem di_go_9 : decode M_i_go.2.1 9 = .ok (.invokespecial 11, 3) := by decide +kernel
theorem di_go_12 : decode M_i_go.2.1 12 = .ok (.putfield 12, 3) := by decide +kernel
theorem di_go_16 : decode M_i_go.2.1 16 = .ok (.new 18, 3) := by decide +kernel
theorem di_go_20 : decode M_i_go.2.1 20 = .ok (.invokespecial 20, 3) := by decide +kernel
theorem di_go_23 : decode M_i_go.2.1 23 = .ok (.putfield 21, 3) := by decide +kernel
theorem di_go_28 : decode M_i_go.2.1 28 = .ok (.putfield 25, 3) := by decide +kernel
theorem di_go_33 : decode M_i_go.2.1 33 = .ok (.putfield 29, 3) := by decide +kernel
theorem di_go_36 : decode M_i_go.2.1 36 = .ok (.return_, 1) := by decide +kernel
def q_i_go : List (Nat × ENT) := [(0, .aload_n 0, (0, 0, 0), 0), (4, .aload_n 0, (0, 0, 0), 0), (8, .dup, (0, 0, 0), 0), (15, .aload_n 0, (0, 0, 0), 0), (19, .dup, (0, 0, 0), 0), (26, .aload_n 0, (0, 0, 0), 0), (27, .aload_n 1, (0, 0, 0), 0), (31, .aload_n 0, (0, 0, 0), 0), (32, .aload_n 2, (0, 0, 0), 0)]
theorem sK_i_go : SK M_i_go q_i_go := by
  show segOK M_i_go.1.cls M_i_go.2.1 q_i_go = true
  decide +kernel
theorem pf_i_go : plainFor M_i_go.1 = true := by decide +kernel
theorem mk_i_go : MOKI M_i_go 2 := mOKI_eq (pc := 2016) (pi := 1009) (p1 := 2015) (by decide +kernel)
def M_i_odds : MI := (⟨"LastName$Odds", "<init>", "(LLastName$World;LLastName$Goings;)V"⟩, prog_5_method_1_code, 3, none)
theorem di_odds_1 : decode M_i_odds.2.1 1 = .ok (.invokespecial 3, 3) := by decide +kernel
theorem di_odds_5 : decode M_i_odds.2.1 5 = .ok (.new 9, 3) := by decide +kernel
theorem di_odds_9 : decode M_i_odds.2.1 9 = .ok (.invokespecial 11, 3) := by decide +kernel
theorem di_odds_12 : decode M_i_odds.2.1 12 = .ok (.putfield 12, 3) := by decide +kernel
theorem di_odds_37 : decode M_i_odds.2.1 37 = .ok (.putfield 32, 3) := by decide +kernel
theorem di_odds_42 : decode M_i_odds.2.1 42 = .ok (.putfield 36, 3) := by decide +kernel
theorem di_odds_45 : decode M_i_odds.2.1 45 = .ok (.return_, 1) := by decide +kernel
def q_i_odds : List (Nat × ENT) := [(0, .aload_n 0, (0, 0, 0), 0), (4, .aload_n 0, (0, 0, 0), 0), (8, .dup, (0, 0, 0), 0), (15, .aload_n 0, (0, 0, 0), 0), (16, .iconst 0, (0, 0, 0), 0), (17, .putfield 18, (3, 3, 2059), 0), (20, .aload_n 0, (0, 0, 0), 0), (21, .iconst 0, (0, 0, 0), 0), (22, .putfield 22, (3, 4, 2060), 0), (25, .aload_n 0, (0, 0, 0), 0), (26, .lconst 0, (0, 0, 0), 0), (27, .putfield 25, (3, 5, 2061), 0), (30, .aload_n 0, (0, 0, 0), 0), (31, .lconst 1, (0, 0, 0), 0), (32, .putfield 29, (3, 6, 2063), 0), (35, .aload_n 0, (0, 0, 0), 0), (36, .aload_n 1, (0, 0, 0), 0), (40, .aload_n 0, (0, 0, 0), 0), (41, .aload_n 2, (0, 0, 0), 0)]
theorem sK_i_odds : SK M_i_odds q_i_odds := by
  show segOK M_i_odds.1.cls M_i_odds.2.1 q_i_odds = true
  decide +kernel
theorem pf_i_odds : plainFor M_i_odds.1 = true := by decide +kernel
theorem mk_i_odds : MOKI M_i_odds 2 := mOKI_eq (pc := 2052) (pi := 1011) (p1 := 2051) (by decide +kernel)
def M_i_ways : MI := (⟨"LastName$Ways", "<init>", "(LLastName$World;LLastName$Goings;)V"⟩, prog_11_method_1_code, 3, none)
theorem di_ways_1 : decode M_i_ways.2.1 1 = .ok (.invokespecial 3, 3) := by decide +kernel
theorem di_ways_5 : decode M_i_ways.2.1 5 = .ok (.new 9, 3) := by decide +kernel
theorem di_ways_9 : decode M_i_ways.2.1 9 = .ok (.invokespecial 11, 3) := by decide +kernel
theorem di_ways_12 : decode M_i_ways.2.1 12 = .ok (.putfield 12, 3) := by decide +kernel
theorem di_ways_23 : decode M_i_ways.2.1 23 = .ok (.newarray .int, 2) := by decide +kernel
theorem di_ways_25 : decode M_i_ways.2.1 25 = .ok (.putfield 22, 3) := by decide +kernel
theorem di_ways_33 : decode M_i_ways.2.1 33 = .ok (.multianewarray 26 2, 4) := by decide +kernel
theorem di_ways_37 : decode M_i_ways.2.1 37 = .ok (.putfield 28, 3) := by decide +kernel
theorem di_ways_42 : decode M_i_ways.2.1 42 = .ok (.putfield 31, 3) := by decide +kernel
theorem di_ways_47 : decode M_i_ways.2.1 47 = .ok (.putfield 35, 3) := by decide +kernel
theorem di_ways_50 : decode M_i_ways.2.1 50 = .ok (.return_, 1) := by decide +kernel
def q_i_ways : List (Nat × ENT) := [(0, .aload_n 0, (0, 0, 0), 0), (4, .aload_n 0, (0, 0, 0), 0), (8, .dup, (0, 0, 0), 0), (15, .aload_n 0, (0, 0, 0), 0), (16, .iconst 0, (0, 0, 0), 0), (17, .putfield 18, (9, 3, 2092), 0), (20, .aload_n 0, (0, 0, 0), 0), (21, .bipush 8, (0, 0, 0), 0), (28, .aload_n 0, (0, 0, 0), 0), (29, .bipush 8, (0, 0, 0), 0), (31, .bipush 9, (0, 0, 0), 0), (40, .aload_n 0, (0, 0, 0), 0), (41, .aload_n 1, (0, 0, 0), 0), (45, .aload_n 0, (0, 0, 0), 0), (46, .aload_n 2, (0, 0, 0), 0)]
theorem sK_i_ways : SK M_i_ways q_i_ways := by
  show segOK M_i_ways.1.cls M_i_ways.2.1 q_i_ways = true
  decide +kernel
theorem pf_i_ways : plainFor M_i_ways.1 = true := by decide +kernel
theorem mk_i_ways : MOKI M_i_ways 2 := mOKI_eq (pc := 2084) (pi := 1012) (p1 := 2083) (by decide +kernel)
def M_i_srch : MI := (⟨"LastName$Search", "<init>", "(LLastName$World;LLastName$Goings;)V"⟩, prog_7_method_1_code, 3, none)
theorem di_srch_1 : decode M_i_srch.2.1 1 = .ok (.invokespecial 3, 3) := by decide +kernel
theorem di_srch_5 : decode M_i_srch.2.1 5 = .ok (.new 9, 3) := by decide +kernel
theorem di_srch_9 : decode M_i_srch.2.1 9 = .ok (.invokespecial 11, 3) := by decide +kernel
theorem di_srch_12 : decode M_i_srch.2.1 12 = .ok (.putfield 12, 3) := by decide +kernel
theorem di_srch_18 : decode M_i_srch.2.1 18 = .ok (.newarray .int, 2) := by decide +kernel
theorem di_srch_20 : decode M_i_srch.2.1 20 = .ok (.putfield 18, 3) := by decide +kernel
theorem di_srch_27 : decode M_i_srch.2.1 27 = .ok (.newarray .long, 2) := by decide +kernel
theorem di_srch_29 : decode M_i_srch.2.1 29 = .ok (.putfield 22, 3) := by decide +kernel
theorem di_srch_36 : decode M_i_srch.2.1 36 = .ok (.newarray .int, 2) := by decide +kernel
theorem di_srch_38 : decode M_i_srch.2.1 38 = .ok (.putfield 26, 3) := by decide +kernel
theorem di_srch_45 : decode M_i_srch.2.1 45 = .ok (.newarray .int, 2) := by decide +kernel
theorem di_srch_47 : decode M_i_srch.2.1 47 = .ok (.putfield 29, 3) := by decide +kernel
theorem di_srch_57 : decode M_i_srch.2.1 57 = .ok (.putfield 36, 3) := by decide +kernel
theorem di_srch_62 : decode M_i_srch.2.1 62 = .ok (.putfield 40, 3) := by decide +kernel
theorem di_srch_65 : decode M_i_srch.2.1 65 = .ok (.return_, 1) := by decide +kernel
def q_i_srch : List (Nat × ENT) := [(0, .aload_n 0, (0, 0, 0), 0), (4, .aload_n 0, (0, 0, 0), 0), (8, .dup, (0, 0, 0), 0), (15, .aload_n 0, (0, 0, 0), 0), (16, .bipush 8, (0, 0, 0), 0), (23, .aload_n 0, (0, 0, 0), 0), (24, .sipush 3000, (0, 0, 0), 0), (32, .aload_n 0, (0, 0, 0), 0), (33, .sipush 3000, (0, 0, 0), 0), (41, .aload_n 0, (0, 0, 0), 0), (42, .sipush 4096, (0, 0, 0), 0), (50, .aload_n 0, (0, 0, 0), 0), (51, .iconst 0, (0, 0, 0), 0), (52, .putfield 32, (5, 7, 2125), 0), (55, .aload_n 0, (0, 0, 0), 0), (56, .aload_n 1, (0, 0, 0), 0), (60, .aload_n 0, (0, 0, 0), 0), (61, .aload_n 2, (0, 0, 0), 0)]
theorem sK_i_srch : SK M_i_srch q_i_srch := by
  show segOK M_i_srch.1.cls M_i_srch.2.1 q_i_srch = true
  decide +kernel
theorem pf_i_srch : plainFor M_i_srch.1 = true := by decide +kernel
theorem mk_i_srch : MOKI M_i_srch 2 := mOKI_eq (pc := 2114) (pi := 1013) (p1 := 2113) (by decide +kernel)
def M_i_crowd : MI := (⟨"LastName$Crowd", "<init>", "(LLastName$World;LLastName$Goings;)V"⟩, prog_2_method_1_code, 3, none)
theorem di_crowd_1 : decode M_i_crowd.2.1 1 = .ok (.invokespecial 3, 3) := by decide +kernel
theorem di_crowd_5 : decode M_i_crowd.2.1 5 = .ok (.new 9, 3) := by decide +kernel
theorem di_crowd_9 : decode M_i_crowd.2.1 9 = .ok (.invokespecial 11, 3) := by decide +kernel
theorem di_crowd_12 : decode M_i_crowd.2.1 12 = .ok (.putfield 12, 3) := by decide +kernel
theorem di_crowd_32 : decode M_i_crowd.2.1 32 = .ok (.putfield 28, 3) := by decide +kernel
theorem di_crowd_37 : decode M_i_crowd.2.1 37 = .ok (.putfield 32, 3) := by decide +kernel
theorem di_crowd_40 : decode M_i_crowd.2.1 40 = .ok (.return_, 1) := by decide +kernel
def q_i_crowd : List (Nat × ENT) := [(0, .aload_n 0, (0, 0, 0), 0), (4, .aload_n 0, (0, 0, 0), 0), (8, .dup, (0, 0, 0), 0), (15, .aload_n 0, (0, 0, 0), 0), (16, .iconst 0, (0, 0, 0), 0), (17, .putfield 18, (0, 3, 2155), 0), (20, .aload_n 0, (0, 0, 0), 0), (21, .iconst 0, (0, 0, 0), 0), (22, .putfield 22, (0, 4, 2156), 0), (25, .aload_n 0, (0, 0, 0), 0), (26, .iconst 0, (0, 0, 0), 0), (27, .putfield 25, (0, 5, 2157), 0), (30, .aload_n 0, (0, 0, 0), 0), (31, .aload_n 1, (0, 0, 0), 0), (35, .aload_n 0, (0, 0, 0), 0), (36, .aload_n 2, (0, 0, 0), 0)]
theorem sK_i_crowd : SK M_i_crowd q_i_crowd := by
  show segOK M_i_crowd.1.cls M_i_crowd.2.1 q_i_crowd = true
  decide +kernel
theorem pf_i_crowd : plainFor M_i_crowd.1 = true := by decide +kernel
theorem mk_i_crowd : MOKI M_i_crowd 2 := mOKI_eq (pc := 2148) (pi := 1014) (p1 := 2147) (by decide +kernel)
def M_i_x : MI := (⟨"LastName", "<init>", "()V"⟩, prog_1_method_1_code, 2, none)
theorem di_x_1 : decode M_i_x.2.1 1 = .ok (.invokespecial 1, 3) := by decide +kernel
theorem di_x_5 : decode M_i_x.2.1 5 = .ok (.new 7, 3) := by decide +kernel
theorem di_x_9 : decode M_i_x.2.1 9 = .ok (.invokespecial 9, 3) := by decide +kernel
theorem di_x_12 : decode M_i_x.2.1 12 = .ok (.putfield 10, 3) := by decide +kernel
theorem di_x_16 : decode M_i_x.2.1 16 = .ok (.new 7, 3) := by decide +kernel
theorem di_x_20 : decode M_i_x.2.1 20 = .ok (.invokespecial 9, 3) := by decide +kernel
theorem di_x_23 : decode M_i_x.2.1 23 = .ok (.putfield 16, 3) := by decide +kernel
theorem di_x_28 : decode M_i_x.2.1 28 = .ok (.anewarray 19, 3) := by decide +kernel
theorem di_x_31 : decode M_i_x.2.1 31 = .ok (.putfield 21, 3) := by decide +kernel
theorem di_x_35 : decode M_i_x.2.1 35 = .ok (.new 25, 3) := by decide +kernel
theorem di_x_39 : decode M_i_x.2.1 39 = .ok (.invokespecial 27, 3) := by decide +kernel
theorem di_x_42 : decode M_i_x.2.1 42 = .ok (.putfield 28, 3) := by decide +kernel
theorem di_x_61 : decode M_i_x.2.1 61 = .ok (.new 19, 3) := by decide +kernel
theorem di_x_65 : decode M_i_x.2.1 65 = .ok (.invokespecial 32, 3) := by decide +kernel
theorem di_x_76 : decode M_i_x.2.1 76 = .ok (.new 33, 3) := by decide +kernel
theorem di_x_88 : decode M_i_x.2.1 88 = .ok (.invokespecial 35, 3) := by decide +kernel
theorem di_x_91 : decode M_i_x.2.1 91 = .ok (.putfield 38, 3) := by decide +kernel
theorem di_x_95 : decode M_i_x.2.1 95 = .ok (.new 42, 3) := by decide +kernel
theorem di_x_107 : decode M_i_x.2.1 107 = .ok (.invokespecial 44, 3) := by decide +kernel
theorem di_x_110 : decode M_i_x.2.1 110 = .ok (.putfield 47, 3) := by decide +kernel
theorem di_x_114 : decode M_i_x.2.1 114 = .ok (.new 51, 3) := by decide +kernel
theorem di_x_126 : decode M_i_x.2.1 126 = .ok (.invokespecial 53, 3) := by decide +kernel
theorem di_x_129 : decode M_i_x.2.1 129 = .ok (.putfield 54, 3) := by decide +kernel
theorem di_x_133 : decode M_i_x.2.1 133 = .ok (.new 58, 3) := by decide +kernel
theorem di_x_145 : decode M_i_x.2.1 145 = .ok (.invokespecial 60, 3) := by decide +kernel
theorem di_x_148 : decode M_i_x.2.1 148 = .ok (.putfield 61, 3) := by decide +kernel
theorem di_x_152 : decode M_i_x.2.1 152 = .ok (.new 65, 3) := by decide +kernel
theorem di_x_164 : decode M_i_x.2.1 164 = .ok (.invokespecial 67, 3) := by decide +kernel
theorem di_x_167 : decode M_i_x.2.1 167 = .ok (.putfield 68, 3) := by decide +kernel
theorem di_x_170 : decode M_i_x.2.1 170 = .ok (.return_, 1) := by decide +kernel
def q_i_x : List (Nat × ENT) := [(0, .aload_n 0, (0, 0, 0), 0), (4, .aload_n 0, (0, 0, 0), 0), (8, .dup, (0, 0, 0), 0), (15, .aload_n 0, (0, 0, 0), 0), (19, .dup, (0, 0, 0), 0), (26, .aload_n 0, (0, 0, 0), 0), (27, .iconst 4, (0, 0, 0), 0), (34, .aload_n 0, (0, 0, 0), 0), (38, .dup, (0, 0, 0), 0), (45, .iconst 0, (0, 0, 0), 0), (46, .istore_n 1, (0, 0, 0), 0), (47, .iload_n 1, (0, 0, 0), 0), (48, .aload_n 0, (0, 0, 0), 0), (49, .getfield 21, (11, 2, 2173), 0), (52, .arraylength, (0, 0, 0), 0), (53, .if_icmp .ge 22, (0, 0, 0), 0), (56, .aload_n 0, (0, 0, 0), 0), (57, .getfield 21, (11, 2, 2173), 0), (60, .iload_n 1, (0, 0, 0), 0), (64, .dup, (0, 0, 0), 0), (68, .aastore, (0, 0, 0), 0), (69, .iinc 1 1, (0, 0, 0), 0), (72, .goto (-25), (47, 0, 0), 0), (75, .aload_n 0, (0, 0, 0), 0), (79, .dup, (0, 0, 0), 0), (80, .aload_n 0, (0, 0, 0), 0), (81, .getfield 10, (11, 0, 2171), 0), (84, .aload_n 0, (0, 0, 0), 0), (85, .getfield 21, (11, 2, 2173), 0), (94, .aload_n 0, (0, 0, 0), 0), (98, .dup, (0, 0, 0), 0), (99, .aload_n 0, (0, 0, 0), 0), (100, .getfield 10, (11, 0, 2171), 0), (103, .aload_n 0, (0, 0, 0), 0), (104, .getfield 38, (11, 4, 2175), 0), (113, .aload_n 0, (0, 0, 0), 0), (117, .dup, (0, 0, 0), 0), (118, .aload_n 0, (0, 0, 0), 0), (119, .getfield 10, (11, 0, 2171), 0), (122, .aload_n 0, (0, 0, 0), 0), (123, .getfield 38, (11, 4, 2175), 0), (132, .aload_n 0, (0, 0, 0), 0), (136, .dup, (0, 0, 0), 0), (137, .aload_n 0, (0, 0, 0), 0), (138, .getfield 10, (11, 0, 2171), 0), (141, .aload_n 0, (0, 0, 0), 0), (142, .getfield 38, (11, 4, 2175), 0), (151, .aload_n 0, (0, 0, 0), 0), (155, .dup, (0, 0, 0), 0), (156, .aload_n 0, (0, 0, 0), 0), (157, .getfield 10, (11, 0, 2171), 0), (160, .aload_n 0, (0, 0, 0), 0), (161, .getfield 38, (11, 4, 2175), 0)]
theorem sK_i_x : SK M_i_x q_i_x := by
  show segOK M_i_x.1.cls M_i_x.2.1 q_i_x = true
  decide +kernel
theorem pf_i_x : plainFor M_i_x.1 = true := by decide +kernel
theorem mk_i_x : MOKI M_i_x 0 := mOKI_eq (pc := 1026) (pi := 1001) (p1 := 1025) (by decide +kernel)
theorem wi_1174 : Jvm.Cond.methodLink "LastName$Law" 3 Lib.objectInit ∈ ALLW := wdOK_mem (i := 1174) (by decide +kernel)
theorem wi_1058 : Jvm.Cond.arrayClass .int ∈ ALLW := wdOK_mem (i := 1058) (by decide +kernel)
theorem wi_1175 : Jvm.Cond.fieldLink "LastName$Law" 9 "LastName$Law" "code" "[I" ∈ ALLW := wdOK_mem (i := 1175) (by decide +kernel)
theorem wi_1178 : Jvm.Cond.fieldLink "LastName$Law" 19 "LastName$Law" "kinds" "[I" ∈ ALLW := wdOK_mem (i := 1178) (by decide +kernel)
theorem wi_1179 : Jvm.Cond.fieldLink "LastName$Law" 22 "LastName$Law" "from" "[I" ∈ ALLW := wdOK_mem (i := 1179) (by decide +kernel)
theorem wi_1180 : Jvm.Cond.fieldLink "LastName$Law" 25 "LastName$Law" "to" "[I" ∈ ALLW := wdOK_mem (i := 1180) (by decide +kernel)
theorem wi_2023 : Jvm.Cond.methodLink "LastName$Sums" 3 Lib.objectInit ∈ ALLW := wdOK_mem (i := 2023) (by decide +kernel)
theorem wi_2024 : Jvm.Cond.fieldLink "LastName$Sums" 9 "LastName$Sums" "values" "[I" ∈ ALLW := wdOK_mem (i := 2024) (by decide +kernel)
theorem wi_2026 : Jvm.Cond.fieldLink "LastName$Sums" 15 "LastName$Sums" "stack" "[I" ∈ ALLW := wdOK_mem (i := 2026) (by decide +kernel)
theorem wi_1168 : Jvm.Cond.methodLink "LastName$Reader" 3 Lib.objectInit ∈ ALLW := wdOK_mem (i := 1168) (by decide +kernel)
theorem wi_1206 : Jvm.Cond.fieldLink "LastName$Reader" 9 "LastName$Reader" "bytes" "[I" ∈ ALLW := wdOK_mem (i := 1206) (by decide +kernel)
theorem wi_1209 : Jvm.Cond.fieldLink "LastName$Reader" 19 "LastName$Reader" "kinds" "[I" ∈ ALLW := wdOK_mem (i := 1209) (by decide +kernel)
theorem wi_1210 : Jvm.Cond.fieldLink "LastName$Reader" 22 "LastName$Reader" "starts" "[I" ∈ ALLW := wdOK_mem (i := 1210) (by decide +kernel)
theorem wi_1211 : Jvm.Cond.fieldLink "LastName$Reader" 25 "LastName$Reader" "numbers" "[I" ∈ ALLW := wdOK_mem (i := 1211) (by decide +kernel)
theorem wi_1169 : Jvm.Cond.classLink "LastName$Reader" 50 "LastName$Law" ∈ ALLW := wdOK_mem (i := 1169) (by decide +kernel)
theorem wi_1170 : Jvm.Cond.instantiable "LastName$Law" 8 ∈ ALLW := wdOK_mem (i := 1170) (by decide +kernel)
theorem wi_1008 : Jvm.Cond.initialized "LastName$Law" ∈ ALLW := wdOK_mem (i := 1008) (by decide +kernel)
theorem wi_1222 : Jvm.Cond.fieldLink "LastName$Reader" 53 "LastName$Reader" "draft" "LLastName$Law;" ∈ ALLW := wdOK_mem (i := 1222) (by decide +kernel)
theorem wi_1041 : Jvm.Cond.methodLink "LastName$Town" 3 Lib.objectInit ∈ ALLW := wdOK_mem (i := 1041) (by decide +kernel)
theorem wi_1047 : Jvm.Cond.fieldLink "LastName$Town" 9 "LastName$Town" "names" "[I" ∈ ALLW := wdOK_mem (i := 1047) (by decide +kernel)
theorem wi_1048 : Jvm.Cond.fieldLink "LastName$Town" 15 "LastName$Town" "sizes" "[I" ∈ ALLW := wdOK_mem (i := 1048) (by decide +kernel)
theorem wi_1042 : Jvm.Cond.classLink "LastName$Town" 18 "[[I" ∈ ALLW := wdOK_mem (i := 1042) (by decide +kernel)
theorem wi_1049 : Jvm.Cond.fieldLink "LastName$Town" 20 "LastName$Town" "heaps" "[[I" ∈ ALLW := wdOK_mem (i := 1049) (by decide +kernel)
theorem wi_1035 : Jvm.Cond.methodLink "LastName$World" 3 Lib.objectInit ∈ ALLW := wdOK_mem (i := 1035) (by decide +kernel)
theorem wi_1057 : Jvm.Cond.arrayClass .boolean ∈ ALLW := wdOK_mem (i := 1057) (by decide +kernel)
theorem wi_1100 : Jvm.Cond.fieldLink "LastName$World" 30 "LastName$World" "born" "[Z" ∈ ALLW := wdOK_mem (i := 1100) (by decide +kernel)
theorem wi_1103 : Jvm.Cond.fieldLink "LastName$World" 34 "LastName$World" "lot" "[Z" ∈ ALLW := wdOK_mem (i := 1103) (by decide +kernel)
theorem wi_1110 : Jvm.Cond.fieldLink "LastName$World" 37 "LastName$World" "paid" "[I" ∈ ALLW := wdOK_mem (i := 1110) (by decide +kernel)
theorem wi_1113 : Jvm.Cond.fieldLink "LastName$World" 41 "LastName$World" "done" "[I" ∈ ALLW := wdOK_mem (i := 1113) (by decide +kernel)
theorem wi_1036 : Jvm.Cond.classLink "LastName$World" 44 "LastName$Town" ∈ ALLW := wdOK_mem (i := 1036) (by decide +kernel)
theorem wi_1037 : Jvm.Cond.instantiable "LastName$Town" 3 ∈ ALLW := wdOK_mem (i := 1037) (by decide +kernel)
theorem wi_1003 : Jvm.Cond.initialized "LastName$Town" ∈ ALLW := wdOK_mem (i := 1003) (by decide +kernel)
theorem wi_1116 : Jvm.Cond.fieldLink "LastName$World" 47 "LastName$World" "town" "LLastName$Town;" ∈ ALLW := wdOK_mem (i := 1116) (by decide +kernel)
theorem wi_1059 : Jvm.Cond.classLink "LastName$World" 51 "LastName$Triples" ∈ ALLW := wdOK_mem (i := 1059) (by decide +kernel)
theorem wi_1060 : Jvm.Cond.instantiable "LastName$Triples" 2 ∈ ALLW := wdOK_mem (i := 1060) (by decide +kernel)
theorem wi_1005 : Jvm.Cond.initialized "LastName$Triples" ∈ ALLW := wdOK_mem (i := 1005) (by decide +kernel)
theorem wi_1064 : Jvm.Cond.methodLink "LastName$Triples" 3 Lib.objectInit ∈ ALLW := wdOK_mem (i := 1064) (by decide +kernel)
theorem wi_1068 : Jvm.Cond.fieldLink "LastName$Triples" 21 "LastName$Triples" "cells" "[I" ∈ ALLW := wdOK_mem (i := 1068) (by decide +kernel)
theorem wi_1123 : Jvm.Cond.fieldLink "LastName$World" 56 "LastName$World" "deeds" "LLastName$Triples;" ∈ ALLW := wdOK_mem (i := 1123) (by decide +kernel)
theorem wi_1125 : Jvm.Cond.fieldLink "LastName$World" 60 "LastName$World" "row" "LLastName$Triples;" ∈ ALLW := wdOK_mem (i := 1125) (by decide +kernel)
theorem wi_1129 : Jvm.Cond.fieldLink "LastName$World" 63 "LastName$World" "book" "LLastName$Triples;" ∈ ALLW := wdOK_mem (i := 1129) (by decide +kernel)
theorem wi_2017 : Jvm.Cond.methodLink "LastName$Goings" 3 Lib.objectInit ∈ ALLW := wdOK_mem (i := 2017) (by decide +kernel)
theorem wi_2018 : Jvm.Cond.classLink "LastName$Goings" 9 "LastName$Sums" ∈ ALLW := wdOK_mem (i := 2018) (by decide +kernel)
theorem wi_2019 : Jvm.Cond.instantiable "LastName$Sums" 2 ∈ ALLW := wdOK_mem (i := 2019) (by decide +kernel)
theorem wi_1010 : Jvm.Cond.initialized "LastName$Sums" ∈ ALLW := wdOK_mem (i := 1010) (by decide +kernel)
theorem wi_2036 : Jvm.Cond.fieldLink "LastName$Goings" 12 "LastName$Goings" "sums" "LLastName$Sums;" ∈ ALLW := wdOK_mem (i := 2036) (by decide +kernel)
theorem wi_2032 : Jvm.Cond.classLink "LastName$Goings" 18 "LastName$Town" ∈ ALLW := wdOK_mem (i := 2032) (by decide +kernel)
theorem wi_2037 : Jvm.Cond.fieldLink "LastName$Goings" 21 "LastName$Goings" "tried" "LLastName$Town;" ∈ ALLW := wdOK_mem (i := 2037) (by decide +kernel)
theorem wi_2034 : Jvm.Cond.fieldLink "LastName$Goings" 25 "LastName$Goings" "world" "LLastName$World;" ∈ ALLW := wdOK_mem (i := 2034) (by decide +kernel)
theorem wi_2035 : Jvm.Cond.fieldLink "LastName$Goings" 29 "LastName$Goings" "laws" "[LLastName$Law;" ∈ ALLW := wdOK_mem (i := 2035) (by decide +kernel)
theorem wi_2053 : Jvm.Cond.methodLink "LastName$Odds" 3 Lib.objectInit ∈ ALLW := wdOK_mem (i := 2053) (by decide +kernel)
theorem wi_2054 : Jvm.Cond.classLink "LastName$Odds" 9 "LastName$Town" ∈ ALLW := wdOK_mem (i := 2054) (by decide +kernel)
theorem wi_2058 : Jvm.Cond.fieldLink "LastName$Odds" 12 "LastName$Odds" "town" "LLastName$Town;" ∈ ALLW := wdOK_mem (i := 2058) (by decide +kernel)
theorem wi_2056 : Jvm.Cond.fieldLink "LastName$Odds" 32 "LastName$Odds" "world" "LLastName$World;" ∈ ALLW := wdOK_mem (i := 2056) (by decide +kernel)
theorem wi_2057 : Jvm.Cond.fieldLink "LastName$Odds" 36 "LastName$Odds" "goings" "LLastName$Goings;" ∈ ALLW := wdOK_mem (i := 2057) (by decide +kernel)
theorem wi_2085 : Jvm.Cond.methodLink "LastName$Ways" 3 Lib.objectInit ∈ ALLW := wdOK_mem (i := 2085) (by decide +kernel)
theorem wi_2086 : Jvm.Cond.classLink "LastName$Ways" 9 "LastName$Town" ∈ ALLW := wdOK_mem (i := 2086) (by decide +kernel)
theorem wi_2091 : Jvm.Cond.fieldLink "LastName$Ways" 12 "LastName$Ways" "town" "LLastName$Town;" ∈ ALLW := wdOK_mem (i := 2091) (by decide +kernel)
theorem wi_2094 : Jvm.Cond.fieldLink "LastName$Ways" 22 "LastName$Ways" "places" "[I" ∈ ALLW := wdOK_mem (i := 2094) (by decide +kernel)
theorem wi_2088 : Jvm.Cond.classLink "LastName$Ways" 26 "[[I" ∈ ALLW := wdOK_mem (i := 2088) (by decide +kernel)
theorem wi_2096 : Jvm.Cond.fieldLink "LastName$Ways" 28 "LastName$Ways" "parts" "[[I" ∈ ALLW := wdOK_mem (i := 2096) (by decide +kernel)
theorem wi_2089 : Jvm.Cond.fieldLink "LastName$Ways" 31 "LastName$Ways" "world" "LLastName$World;" ∈ ALLW := wdOK_mem (i := 2089) (by decide +kernel)
theorem wi_2090 : Jvm.Cond.fieldLink "LastName$Ways" 35 "LastName$Ways" "goings" "LLastName$Goings;" ∈ ALLW := wdOK_mem (i := 2090) (by decide +kernel)
theorem wi_2115 : Jvm.Cond.methodLink "LastName$Search" 3 Lib.objectInit ∈ ALLW := wdOK_mem (i := 2115) (by decide +kernel)
theorem wi_2116 : Jvm.Cond.classLink "LastName$Search" 9 "LastName$Town" ∈ ALLW := wdOK_mem (i := 2116) (by decide +kernel)
theorem wi_2120 : Jvm.Cond.fieldLink "LastName$Search" 12 "LastName$Search" "town" "LLastName$Town;" ∈ ALLW := wdOK_mem (i := 2120) (by decide +kernel)
theorem wi_2121 : Jvm.Cond.fieldLink "LastName$Search" 18 "LastName$Search" "wanted" "[I" ∈ ALLW := wdOK_mem (i := 2121) (by decide +kernel)
theorem wi_2143 : Jvm.Cond.arrayClass .long ∈ ALLW := wdOK_mem (i := 2143) (by decide +kernel)
theorem wi_2122 : Jvm.Cond.fieldLink "LastName$Search" 22 "LastName$Search" "states" "[J" ∈ ALLW := wdOK_mem (i := 2122) (by decide +kernel)
theorem wi_2123 : Jvm.Cond.fieldLink "LastName$Search" 26 "LastName$Search" "origins" "[I" ∈ ALLW := wdOK_mem (i := 2123) (by decide +kernel)
theorem wi_2124 : Jvm.Cond.fieldLink "LastName$Search" 29 "LastName$Search" "table" "[I" ∈ ALLW := wdOK_mem (i := 2124) (by decide +kernel)
theorem wi_2118 : Jvm.Cond.fieldLink "LastName$Search" 36 "LastName$Search" "world" "LLastName$World;" ∈ ALLW := wdOK_mem (i := 2118) (by decide +kernel)
theorem wi_2119 : Jvm.Cond.fieldLink "LastName$Search" 40 "LastName$Search" "goings" "LLastName$Goings;" ∈ ALLW := wdOK_mem (i := 2119) (by decide +kernel)
theorem wi_2149 : Jvm.Cond.methodLink "LastName$Crowd" 3 Lib.objectInit ∈ ALLW := wdOK_mem (i := 2149) (by decide +kernel)
theorem wi_2150 : Jvm.Cond.classLink "LastName$Crowd" 9 "LastName$Town" ∈ ALLW := wdOK_mem (i := 2150) (by decide +kernel)
theorem wi_2154 : Jvm.Cond.fieldLink "LastName$Crowd" 12 "LastName$Crowd" "town" "LLastName$Town;" ∈ ALLW := wdOK_mem (i := 2154) (by decide +kernel)
theorem wi_2152 : Jvm.Cond.fieldLink "LastName$Crowd" 28 "LastName$Crowd" "world" "LLastName$World;" ∈ ALLW := wdOK_mem (i := 2152) (by decide +kernel)
theorem wi_2153 : Jvm.Cond.fieldLink "LastName$Crowd" 32 "LastName$Crowd" "goings" "LLastName$Goings;" ∈ ALLW := wdOK_mem (i := 2153) (by decide +kernel)
theorem wi_1027 : Jvm.Cond.methodLink "LastName" 1 Lib.objectInit ∈ ALLW := wdOK_mem (i := 1027) (by decide +kernel)
theorem wi_1030 : Jvm.Cond.classLink "LastName" 7 "LastName$World" ∈ ALLW := wdOK_mem (i := 1030) (by decide +kernel)
theorem wi_1031 : Jvm.Cond.instantiable "LastName$World" 14 ∈ ALLW := wdOK_mem (i := 1031) (by decide +kernel)
theorem wi_1002 : Jvm.Cond.initialized "LastName$World" ∈ ALLW := wdOK_mem (i := 1002) (by decide +kernel)
theorem wi_2171 : Jvm.Cond.fieldLink "LastName" 10 "LastName" "now" "LLastName$World;" ∈ ALLW := wdOK_mem (i := 2171) (by decide +kernel)
theorem wi_2172 : Jvm.Cond.fieldLink "LastName" 16 "LastName" "saved" "LLastName$World;" ∈ ALLW := wdOK_mem (i := 2172) (by decide +kernel)
theorem wi_1161 : Jvm.Cond.classLink "LastName" 19 "LastName$Law" ∈ ALLW := wdOK_mem (i := 1161) (by decide +kernel)
theorem wi_2173 : Jvm.Cond.fieldLink "LastName" 21 "LastName" "laws" "[LLastName$Law;" ∈ ALLW := wdOK_mem (i := 2173) (by decide +kernel)
theorem wi_1163 : Jvm.Cond.classLink "LastName" 25 "LastName$Reader" ∈ ALLW := wdOK_mem (i := 1163) (by decide +kernel)
theorem wi_1164 : Jvm.Cond.instantiable "LastName$Reader" 13 ∈ ALLW := wdOK_mem (i := 1164) (by decide +kernel)
theorem wi_1007 : Jvm.Cond.initialized "LastName$Reader" ∈ ALLW := wdOK_mem (i := 1007) (by decide +kernel)
theorem wi_2174 : Jvm.Cond.fieldLink "LastName" 28 "LastName" "reader" "LLastName$Reader;" ∈ ALLW := wdOK_mem (i := 2174) (by decide +kernel)
theorem wi_2012 : Jvm.Cond.classLink "LastName" 33 "LastName$Goings" ∈ ALLW := wdOK_mem (i := 2012) (by decide +kernel)
theorem wi_2013 : Jvm.Cond.instantiable "LastName$Goings" 4 ∈ ALLW := wdOK_mem (i := 2013) (by decide +kernel)
theorem wi_1009 : Jvm.Cond.initialized "LastName$Goings" ∈ ALLW := wdOK_mem (i := 1009) (by decide +kernel)
theorem wi_2175 : Jvm.Cond.fieldLink "LastName" 38 "LastName" "goings" "LLastName$Goings;" ∈ ALLW := wdOK_mem (i := 2175) (by decide +kernel)
theorem wi_2048 : Jvm.Cond.classLink "LastName" 42 "LastName$Odds" ∈ ALLW := wdOK_mem (i := 2048) (by decide +kernel)
theorem wi_2049 : Jvm.Cond.instantiable "LastName$Odds" 7 ∈ ALLW := wdOK_mem (i := 2049) (by decide +kernel)
theorem wi_1011 : Jvm.Cond.initialized "LastName$Odds" ∈ ALLW := wdOK_mem (i := 1011) (by decide +kernel)
theorem wi_2176 : Jvm.Cond.fieldLink "LastName" 47 "LastName" "odds" "LLastName$Odds;" ∈ ALLW := wdOK_mem (i := 2176) (by decide +kernel)
theorem wi_2080 : Jvm.Cond.classLink "LastName" 51 "LastName$Ways" ∈ ALLW := wdOK_mem (i := 2080) (by decide +kernel)
theorem wi_2081 : Jvm.Cond.instantiable "LastName$Ways" 6 ∈ ALLW := wdOK_mem (i := 2081) (by decide +kernel)
theorem wi_1012 : Jvm.Cond.initialized "LastName$Ways" ∈ ALLW := wdOK_mem (i := 1012) (by decide +kernel)
theorem wi_2177 : Jvm.Cond.fieldLink "LastName" 54 "LastName" "book" "LLastName$Ways;" ∈ ALLW := wdOK_mem (i := 2177) (by decide +kernel)
theorem wi_2110 : Jvm.Cond.classLink "LastName" 58 "LastName$Search" ∈ ALLW := wdOK_mem (i := 2110) (by decide +kernel)
theorem wi_2111 : Jvm.Cond.instantiable "LastName$Search" 8 ∈ ALLW := wdOK_mem (i := 2111) (by decide +kernel)
theorem wi_1013 : Jvm.Cond.initialized "LastName$Search" ∈ ALLW := wdOK_mem (i := 1013) (by decide +kernel)
theorem wi_2178 : Jvm.Cond.fieldLink "LastName" 61 "LastName" "search" "LLastName$Search;" ∈ ALLW := wdOK_mem (i := 2178) (by decide +kernel)
theorem wi_2144 : Jvm.Cond.classLink "LastName" 65 "LastName$Crowd" ∈ ALLW := wdOK_mem (i := 2144) (by decide +kernel)
theorem wi_2145 : Jvm.Cond.instantiable "LastName$Crowd" 6 ∈ ALLW := wdOK_mem (i := 2145) (by decide +kernel)
theorem wi_1014 : Jvm.Cond.initialized "LastName$Crowd" ∈ ALLW := wdOK_mem (i := 1014) (by decide +kernel)
theorem wi_2179 : Jvm.Cond.fieldLink "LastName" 68 "LastName" "crowd" "LLastName$Crowd;" ∈ ALLW := wdOK_mem (i := 2179) (by decide +kernel)
theorem nm8_some : (f_arr_fill_II 8 (fun _ => 0) (-1)).isSome = true := by decide +kernel
theorem nm8_ex : ∃ g, f_arr_fill_II 8 (fun _ => 0) (-1) = some g := Option.isSome_iff_exists.mp nm8_some
noncomputable def nm8 : Nat → Int32 := Classical.choose nm8_ex
theorem nm8_eq : f_arr_fill_II 8 (fun _ => 0) (-1) = some nm8 := Classical.choose_spec nm8_ex
theorem nm8_val : (f_arr_fill_II 8 (fun _ => 0) (-1)).map (fun g => (List.range 8).map g) = some (List.replicate 8 (-1)) := by decide +kernel
theorem oiw : oiW := ⟨wdOK_mem (i := 1028) (by decide +kernel), wdOK_mem (i := 1029) (by decide +kernel)⟩
theorem lki_rd_52 : LK "LastName$Reader" 52 M_i_law.1 true := LK_n 1171 (by decide +kernel)
theorem lki_town_23 : LK "LastName$Town" 23 M_arr_fill_II.1 false := LK_p 1044 (by decide +kernel)
theorem lki_world_46 : LK "LastName$World" 46 M_i_town.1 false := LK_p 1038 (by decide +kernel)
theorem lki_tri_15 : LK "LastName$Triples" 15 M_math_max_II.1 false := LK_p 1065 (by decide +kernel)
theorem lki_world_53 : LK "LastName$World" 53 M_i_tri.1 false := LK_p 1061 (by decide +kernel)
theorem lki_go_11 : LK "LastName$Goings" 11 M_i_sums.1 true := LK_n 2020 (by decide +kernel)
theorem lki_go_20 : LK "LastName$Goings" 20 M_i_town.1 false := LK_p 2033 (by decide +kernel)
theorem lki_odds_11 : LK "LastName$Odds" 11 M_i_town.1 false := LK_p 2055 (by decide +kernel)
theorem lki_ways_11 : LK "LastName$Ways" 11 M_i_town.1 false := LK_p 2087 (by decide +kernel)
theorem lki_srch_11 : LK "LastName$Search" 11 M_i_town.1 false := LK_p 2117 (by decide +kernel)
theorem lki_crowd_11 : LK "LastName$Crowd" 11 M_i_town.1 false := LK_p 2151 (by decide +kernel)
theorem lki_x_9 : LK "LastName" 9 M_i_world.1 true := LK_n 1032 (by decide +kernel)
theorem lki_x_27 : LK "LastName" 27 M_i_rd.1 true := LK_n 1165 (by decide +kernel)
theorem lki_x_32 : LK "LastName" 32 M_i_law.1 true := LK_n 2011 (by decide +kernel)
theorem lki_x_35 : LK "LastName" 35 M_i_go.1 false := LK_p 2014 (by decide +kernel)
theorem lki_x_44 : LK "LastName" 44 M_i_odds.1 false := LK_p 2050 (by decide +kernel)
theorem lki_x_53 : LK "LastName" 53 M_i_ways.1 false := LK_p 2082 (by decide +kernel)
theorem lki_x_60 : LK "LastName" 60 M_i_srch.1 false := LK_p 2112 (by decide +kernel)
theorem lki_x_67 : LK "LastName" 67 M_i_crowd.1 false := LK_p 2146 (by decide +kernel)
