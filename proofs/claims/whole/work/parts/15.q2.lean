/-! ===== String's own methods: tables, words, links (written by mkq2.py) ===== -/
def M_s_len : MI := (yJ0_length_8abf5, cJ0_length_8abf5, 1, some .int)
theorem ds_s_len_1 : decode M_s_len.2.1 1 = .ok (.getfield 9, 3) := by decide +kernel
def q_s_len : List (Nat × ENT) := [(0, .aload_n 0, (0, 0, 0), 0), (4, .arraylength, (0, 0, 0), 0), (5, .aload_n 0, (0, 0, 0), 0), (6, .invokevirtual 335, (0, 0, 0), 0), (9, .ishr, (0, 0, 0), 0), (10, .ireturn, (0, 0, 0), 0)]
theorem sK_s_len : SK M_s_len q_s_len := by
  show segOK M_s_len.1.cls M_s_len.2.1 q_s_len = true
  decide +kernel
theorem pf_s_len : plainFor M_s_len.1 = true := by decide +kernel
theorem mk_s_len : MOK M_s_len 0 true := mOK_eq (pc := 3036) (pi := 1016) (p1 := 3034) (p2 := 3035) (by decide +kernel)
def M_s_cod : MI := (yJ0_coder_7d493, cJ0_coder_7d493, 1, some .byte)
theorem ds_s_cod_0 : decode M_s_cod.2.1 0 = .ok (.getstatic 38, 3) := by decide +kernel
theorem ds_s_cod_7 : decode M_s_cod.2.1 7 = .ok (.getfield 15, 3) := by decide +kernel
def q_s_cod : List (Nat × ENT) := [(3, .ifCond .eq 10, (0, 0, 0), 0), (6, .aload_n 0, (0, 0, 0), 0), (10, .goto 4, (14, 0, 0), 0), (13, .iconst 1, (0, 0, 0), 0), (14, .ireturn, (0, 0, 0), 0)]
theorem sK_s_cod : SK M_s_cod q_s_cod := by
  show segOK M_s_cod.1.cls M_s_cod.2.1 q_s_cod = true
  decide +kernel
theorem pf_s_cod : plainFor M_s_cod.1 = true := by decide +kernel
theorem mk_s_cod : MOK M_s_cod 0 true := mOK_eq (pc := 3040) (pi := 1016) (p1 := 3038) (p2 := 3039) (by decide +kernel)
def M_s_lat : MI := (yJ0_isLatin1_aae02, cJ0_isLatin1_aae02, 1, some .boolean)
theorem ds_s_lat_0 : decode M_s_lat.2.1 0 = .ok (.getstatic 38, 3) := by decide +kernel
theorem ds_s_lat_7 : decode M_s_lat.2.1 7 = .ok (.getfield 15, 3) := by decide +kernel
def q_s_lat : List (Nat × ENT) := [(3, .ifCond .eq 14, (0, 0, 0), 0), (6, .aload_n 0, (0, 0, 0), 0), (10, .ifCond .ne 7, (0, 0, 0), 0), (13, .iconst 1, (0, 0, 0), 0), (14, .goto 4, (18, 0, 0), 0), (17, .iconst 0, (0, 0, 0), 0), (18, .ireturn, (0, 0, 0), 0)]
theorem sK_s_lat : SK M_s_lat q_s_lat := by
  show segOK M_s_lat.1.cls M_s_lat.2.1 q_s_lat = true
  decide +kernel
theorem pf_s_lat : plainFor M_s_lat.1 = true := by decide +kernel
theorem mk_s_lat : MOK M_s_lat 0 true := mOK_eq (pc := 3050) (pi := 1016) (p1 := 3048) (p2 := 3049) (by decide +kernel)
def M_s_cha : MI := (yJ0_charAt_5068e, cJ0_charAt_5068e, 2, some .char)
theorem ds_s_cha_8 : decode M_s_cha.2.1 8 = .ok (.getfield 9, 3) := by decide +kernel
theorem ds_s_cha_17 : decode M_s_cha.2.1 17 = .ok (.getfield 9, 3) := by decide +kernel
def q_s_cha : List (Nat × ENT) := [(0, .aload_n 0, (0, 0, 0), 0), (1, .invokevirtual 492, (0, 0, 0), 0), (4, .ifCond .eq 12, (0, 0, 0), 0), (7, .aload_n 0, (0, 0, 0), 0), (11, .iload_n 1, (0, 0, 0), 0), (12, .invokestatic 495, (0, 0, 0), 0), (15, .ireturn, (0, 0, 0), 0), (16, .aload_n 0, (0, 0, 0), 0), (20, .iload_n 1, (0, 0, 0), 0), (21, .invokestatic 498, (0, 0, 0), 0), (24, .ireturn, (0, 0, 0), 0)]
theorem sK_s_cha : SK M_s_cha q_s_cha := by
  show segOK M_s_cha.1.cls M_s_cha.2.1 q_s_cha = true
  decide +kernel
theorem pf_s_cha : plainFor M_s_cha.1 = true := by decide +kernel
theorem mk_s_cha : MOK M_s_cha 1 true := mOK_eq (pc := 3046) (pi := 1016) (p1 := 3044) (p2 := 3045) (by decide +kernel)
def M_s_chk : MI := (yJ0_checkIndex_df160, cJ0_checkIndex_df160, 2, none)
theorem ds_s_chk_2 : decode M_s_chk.2.1 2 = .ok (.getstatic 1053, 3) := by decide +kernel
def q_s_chk : List (Nat × ENT) := [(0, .iload_n 0, (0, 0, 0), 0), (1, .iload_n 1, (0, 0, 0), 0), (5, .invokestatic 1059, (0, 0, 0), 0), (8, .pop, (0, 0, 0), 0), (9, .return_, (0, 0, 0), 0)]
theorem sK_s_chk : SK M_s_chk q_s_chk := by
  show segOK M_s_chk.1.cls M_s_chk.2.1 q_s_chk = true
  decide +kernel
theorem pf_s_chk : plainFor M_s_chk.1 = true := by decide +kernel
theorem mk_s_chk : MOK M_s_chk 2 false := mOK_eq (pc := 3056) (pi := 1016) (p1 := 3055) (p2 := 0) (by decide +kernel)
def M_s_lch : MI := (yJ1_charAt_3b067, cJ1_charAt_3b067, 2, some .char)
def q_s_lch : List (Nat × ENT) := [(0, .iload_n 1, (0, 0, 0), 0), (1, .aload_n 0, (0, 0, 0), 0), (2, .arraylength, (0, 0, 0), 0), (3, .invokestatic 9, (0, 0, 0), 0), (6, .aload_n 0, (0, 0, 0), 0), (7, .iload_n 1, (0, 0, 0), 0), (8, .baload, (0, 0, 0), 0), (9, .sipush 255, (0, 0, 0), 0), (12, .iand, (0, 0, 0), 0), (13, .i2c, (0, 0, 0), 0), (14, .ireturn, (0, 0, 0), 0)]
theorem sK_s_lch : SK M_s_lch q_s_lch := by
  show segOK M_s_lch.1.cls M_s_lch.2.1 q_s_lch = true
  decide +kernel
theorem pf_s_lch : plainFor M_s_lch.1 = true := by decide +kernel
theorem mk_s_lch : MOK M_s_lch 2 false := mOK_eq (pc := 3053) (pi := 1017) (p1 := 3052) (p2 := 0) (by decide +kernel)
def M_s_pck : MI := (yJ3_checkIndex_8e157, cJ3_checkIndex_8e157, 3, some .int)
def q_s_pck : List (Nat × ENT) := [(0, .iload_n 0, (0, 0, 0), 0), (1, .ifCond .lt 8, (0, 0, 0), 0), (4, .iload_n 0, (0, 0, 0), 0), (5, .iload_n 1, (0, 0, 0), 0), (6, .if_icmp .lt 10, (0, 0, 0), 0), (9, .aload_n 2, (0, 0, 0), 0), (10, .iload_n 0, (0, 0, 0), 0), (11, .iload_n 1, (0, 0, 0), 0), (12, .invokestatic 95, (0, 0, 0), 0), (16, .iload_n 0, (0, 0, 0), 0), (17, .ireturn, (0, 0, 0), 0)]
theorem sK_s_pck : SK M_s_pck q_s_pck := by
  show segOK M_s_pck.1.cls M_s_pck.2.1 q_s_pck = true
  decide +kernel
theorem pf_s_pck : plainFor M_s_pck.1 = true := by decide +kernel
theorem mk_s_pck : MOK M_s_pck 3 false := mOK_eq (pc := 3061) (pi := 1018) (p1 := 3060) (p2 := 0) (by decide +kernel)
def M_s_ix1 : MI := (yJ0_indexOf_0f7a4, cJ0_indexOf_0f7a4, 2, some .int)
def q_s_ix1 : List (Nat × ENT) := [(0, .aload_n 0, (0, 0, 0), 0), (1, .iload_n 1, (0, 0, 0), 0), (2, .iconst 0, (0, 0, 0), 0), (3, .invokevirtual 633, (0, 0, 0), 0), (6, .ireturn, (0, 0, 0), 0)]
theorem sK_s_ix1 : SK M_s_ix1 q_s_ix1 := by
  show segOK M_s_ix1.1.cls M_s_ix1.2.1 q_s_ix1 = true
  decide +kernel
theorem pf_s_ix1 : plainFor M_s_ix1.1 = true := by decide +kernel
theorem mk_s_ix1 : MOK M_s_ix1 1 true := mOK_eq (pc := 3089) (pi := 1016) (p1 := 3087) (p2 := 3088) (by decide +kernel)
def M_s_ix2 : MI := (yJ0_indexOf_7cf53, cJ0_indexOf_7cf53, 3, some .int)
theorem ds_s_ix2_8 : decode M_s_ix2.2.1 8 = .ok (.getfield 9, 3) := by decide +kernel
theorem ds_s_ix2_24 : decode M_s_ix2.2.1 24 = .ok (.getfield 9, 3) := by decide +kernel
def q_s_ix2 : List (Nat × ENT) := [(0, .aload_n 0, (0, 0, 0), 0), (1, .invokevirtual 492, (0, 0, 0), 0), (4, .ifCond .eq 19, (0, 0, 0), 0), (7, .aload_n 0, (0, 0, 0), 0), (11, .iload_n 1, (0, 0, 0), 0), (12, .iload_n 2, (0, 0, 0), 0), (13, .aload_n 0, (0, 0, 0), 0), (14, .invokevirtual 505, (0, 0, 0), 0), (17, .invokestatic 637, (0, 0, 0), 0), (20, .goto 16, (36, 0, 0), 0), (23, .aload_n 0, (0, 0, 0), 0), (27, .iload_n 1, (0, 0, 0), 0), (28, .iload_n 2, (0, 0, 0), 0), (29, .aload_n 0, (0, 0, 0), 0), (30, .invokevirtual 505, (0, 0, 0), 0), (33, .invokestatic 640, (0, 0, 0), 0), (36, .ireturn, (0, 0, 0), 0)]
theorem sK_s_ix2 : SK M_s_ix2 q_s_ix2 := by
  show segOK M_s_ix2.1.cls M_s_ix2.2.1 q_s_ix2 = true
  decide +kernel
theorem pf_s_ix2 : plainFor M_s_ix2.1 = true := by decide +kernel
theorem mk_s_ix2 : MOK M_s_ix2 2 true := mOK_eq (pc := 3093) (pi := 1016) (p1 := 3091) (p2 := 3092) (by decide +kernel)
def M_s_lix : MI := (yJ1_indexOf_4cfef, cJ1_indexOf_4cfef, 4, some .int)
def q_s_lix : List (Nat × ENT) := [(0, .iload_n 1, (0, 0, 0), 0), (1, .invokestatic 88, (0, 0, 0), 0), (4, .ifCond .ne 5, (0, 0, 0), 0), (7, .iconst (-1), (0, 0, 0), 0), (8, .ireturn, (0, 0, 0), 0), (9, .iload_n 2, (0, 0, 0), 0), (10, .iconst 0, (0, 0, 0), 0), (11, .invokestatic 92, (0, 0, 0), 0), (14, .istore_n 2, (0, 0, 0), 0), (15, .iload_n 3, (0, 0, 0), 0), (16, .aload_n 0, (0, 0, 0), 0), (17, .arraylength, (0, 0, 0), 0), (18, .invokestatic 38, (0, 0, 0), 0), (21, .istore_n 3, (0, 0, 0), 0), (22, .iload_n 2, (0, 0, 0), 0), (23, .iload_n 3, (0, 0, 0), 0), (24, .if_icmp .lt 5, (0, 0, 0), 0), (27, .iconst (-1), (0, 0, 0), 0), (28, .ireturn, (0, 0, 0), 0), (29, .aload_n 0, (0, 0, 0), 0), (30, .iload_n 1, (0, 0, 0), 0), (31, .iload_n 2, (0, 0, 0), 0), (32, .iload_n 3, (0, 0, 0), 0), (33, .invokestatic 95, (0, 0, 0), 0), (36, .ireturn, (0, 0, 0), 0)]
theorem sK_s_lix : SK M_s_lix q_s_lix := by
  show segOK M_s_lix.1.cls M_s_lix.2.1 q_s_lix = true
  decide +kernel
theorem pf_s_lix : plainFor M_s_lix.1 = true := by decide +kernel
theorem mk_s_lix : MOK M_s_lix 4 false := mOK_eq (pc := 3097) (pi := 1017) (p1 := 3096) (p2 := 0) (by decide +kernel)
def M_s_enc : MI := (yJ1_canEncode_9a6ad, cJ1_canEncode_9a6ad, 1, some .boolean)
def q_s_enc : List (Nat × ENT) := [(0, .iload_n 0, (0, 0, 0), 0), (1, .ifCond .lt 14, (0, 0, 0), 0), (4, .iload_n 0, (0, 0, 0), 0), (5, .sipush 255, (0, 0, 0), 0), (8, .if_icmp .gt 7, (0, 0, 0), 0), (11, .iconst 1, (0, 0, 0), 0), (12, .goto 4, (16, 0, 0), 0), (15, .iconst 0, (0, 0, 0), 0), (16, .ireturn, (0, 0, 0), 0)]
theorem sK_s_enc : SK M_s_enc q_s_enc := by
  show segOK M_s_enc.1.cls M_s_enc.2.1 q_s_enc = true
  decide +kernel
theorem pf_s_enc : plainFor M_s_enc.1 = true := by decide +kernel
theorem mk_s_enc : MOK M_s_enc 1 false := mOK_eq (pc := 3100) (pi := 1017) (p1 := 3099) (p2 := 0) (by decide +kernel)
def M_s_lic : MI := (yJ1_indexOfChar_4cfef, cJ1_indexOfChar_4cfef, 6, some .int)
def q_s_lic : List (Nat × ENT) := [(0, .iload_n 1, (0, 0, 0), 0), (1, .i2b, (0, 0, 0), 0), (2, .istore 4, (0, 0, 0), 0), (4, .iload_n 2, (0, 0, 0), 0), (5, .istore 5, (0, 0, 0), 0), (7, .iload 5, (0, 0, 0), 0), (9, .iload_n 3, (0, 0, 0), 0), (10, .if_icmp .ge 21, (0, 0, 0), 0), (13, .aload_n 0, (0, 0, 0), 0), (14, .iload 5, (0, 0, 0), 0), (16, .baload, (0, 0, 0), 0), (17, .iload 4, (0, 0, 0), 0), (19, .if_icmp .ne 6, (0, 0, 0), 0), (22, .iload 5, (0, 0, 0), 0), (24, .ireturn, (0, 0, 0), 0), (25, .iinc 5 1, (0, 0, 0), 0), (28, .goto (-21), (7, 0, 0), 0), (31, .iconst (-1), (0, 0, 0), 0), (32, .ireturn, (0, 0, 0), 0)]
theorem sK_s_lic : SK M_s_lic q_s_lic := by
  show segOK M_s_lic.1.cls M_s_lic.2.1 q_s_lic = true
  decide +kernel
theorem pf_s_lic : plainFor M_s_lic.1 = true := by decide +kernel
theorem mk_s_lic : MOK M_s_lic 4 false := mOK_eq (pc := 3107) (pi := 1017) (p1 := 3106) (p2 := 0) (by decide +kernel)
theorem lk_s_R_117 : LK "LastName$Reader" 117 M_s_len.1 false := LK_p 3033 (by decide +kernel)
theorem lk_s_R_119 : LK "LastName$Reader" 119 M_s_cha.1 false := LK_p 3043 (by decide +kernel)
theorem lk_s_R_110 : LK "LastName$Reader" 110 M_s_ix1.1 false := LK_p 3086 (by decide +kernel)
theorem lk_s_S_335 : LK "java/lang/String" 335 M_s_cod.1 false := LK_p 3037 (by decide +kernel)
theorem lk_s_S_492 : LK "java/lang/String" 492 M_s_lat.1 false := LK_p 3047 (by decide +kernel)
theorem lk_s_S_495 : LK "java/lang/String" 495 M_s_lch.1 false := LK_p 3051 (by decide +kernel)
theorem lk_s_L_9 : LK "java/lang/StringLatin1" 9 M_s_chk.1 false := LK_p 3054 (by decide +kernel)
theorem lk_s_S_1059 : LK "java/lang/String" 1059 M_s_pck.1 false := LK_p 3059 (by decide +kernel)
theorem lk_s_S_633 : LK "java/lang/String" 633 M_s_ix2.1 false := LK_p 3090 (by decide +kernel)
theorem lk_s_S_505 : LK "java/lang/String" 505 M_s_len.1 false := LK_p 3094 (by decide +kernel)
theorem lk_s_S_637 : LK "java/lang/String" 637 M_s_lix.1 false := LK_p 3095 (by decide +kernel)
theorem lk_s_L_88 : LK "java/lang/StringLatin1" 88 M_s_enc.1 false := LK_p 3098 (by decide +kernel)
theorem lk_s_L_95 : LK "java/lang/StringLatin1" 95 M_s_lic.1 false := LK_p 3105 (by decide +kernel)
theorem fl_s_38 : Jvm.Cond.fieldLink "java/lang/String" 38 "java/lang/String" "COMPACT_STRINGS" "Z" ∈ ALLW := wdOK_mem (i := 3041) (by decide +kernel)
theorem fl_s_1053 : Jvm.Cond.fieldLink "java/lang/String" 1053 "jdk/internal/util/Preconditions" "SIOOBE_FORMATTER" "Ljava/util/function/BiFunction;" ∈ ALLW := wdOK_mem (i := 3057) (by decide +kernel)
theorem fl_s_9 : Jvm.Cond.fieldLink "java/lang/String" 9 "java/lang/String" "value" "[B" ∈ ALLW := wdOK_mem (i := 8061) (by decide +kernel)
theorem fl_s_15 : Jvm.Cond.fieldLink "java/lang/String" 15 "java/lang/String" "coder" "B" ∈ ALLW := wdOK_mem (i := 8062) (by decide +kernel)
def M_s_max : MI := (⟨"java/lang/Math", "max", "(II)I"⟩, prog_16_method_65_code, 2, some .int)
def q_s_max : List (Nat × ENT) := [(0, .iload_n 0, (0, 0, 0), 0), (1, .iload_n 1, (0, 0, 0), 0), (2, .if_icmp .lt 7, (0, 0, 0), 0), (5, .iload_n 0, (0, 0, 0), 0), (6, .goto 4, (10, 0, 0), 0), (9, .iload_n 1, (0, 0, 0), 0), (10, .ireturn, (0, 0, 0), 0)]
theorem sK_s_max : SK M_s_max q_s_max := by
  show segOK M_s_max.1.cls M_s_max.2.1 q_s_max = true
  decide +kernel
theorem pf_s_max : plainFor M_s_max.1 = true := by decide +kernel
theorem mk_s_max : MOK M_s_max 2 false := mOK_eq (pc := 1067) (pi := 1006) (p1 := 1066) (p2 := 0) (by decide +kernel)
def M_s_min : MI := (⟨"java/lang/Math", "min", "(II)I"⟩, prog_16_method_69_code, 2, some .int)
def q_s_min : List (Nat × ENT) := [(0, .iload_n 0, (0, 0, 0), 0), (1, .iload_n 1, (0, 0, 0), 0), (2, .if_icmp .gt 7, (0, 0, 0), 0), (5, .iload_n 0, (0, 0, 0), 0), (6, .goto 4, (10, 0, 0), 0), (9, .iload_n 1, (0, 0, 0), 0), (10, .ireturn, (0, 0, 0), 0)]
theorem sK_s_min : SK M_s_min q_s_min := by
  show segOK M_s_min.1.cls M_s_min.2.1 q_s_min = true
  decide +kernel
theorem pf_s_min : plainFor M_s_min.1 = true := by decide +kernel
theorem mk_s_min : MOK M_s_min 2 false := mOK_eq (pc := 3104) (pi := 1006) (p1 := 3103) (p2 := 0) (by decide +kernel)
theorem lk_s_L_92 : LK "java/lang/StringLatin1" 92 M_s_max.1 false := LK_p 3101 (by decide +kernel)
theorem lk_s_L_38 : LK "java/lang/StringLatin1" 38 M_s_min.1 false := LK_p 3102 (by decide +kernel)
