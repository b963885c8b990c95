/-! ===== the law: tables and links (written by mklaw.py) ===== -/
def q_l_a : List (Nat × ENT) := [(3, .dup, (0, 0, 0), 0), (7, .astore_n 1, (0, 0, 0), 0), (11, .dup, (0, 0, 0), 0), (15, .astore_n 2, (0, 0, 0), 0), (16, .iconst 0, (0, 0, 0), 0), (17, .istore_n 3, (0, 0, 0), 0), (18, .iload_n 3, (0, 0, 0), 0), (19, .aload_n 0, (0, 0, 0), 0), (20, .arraylength, (0, 0, 0), 0), (21, .bipush 6, (0, 0, 0), 0), (23, .isub, (0, 0, 0), 0), (24, .if_icmp .gt 1103, (0, 0, 0), 0), (27, .aload_n 0, (0, 0, 0), 0), (28, .iload_n 3, (0, 0, 0), 0), (29, .iaload, (0, 0, 0), 0), (30, .bipush 31, (0, 0, 0), 0), (32, .iand, (0, 0, 0), 0)]
theorem sK_l_a : SK M_l q_l_a := by
  show segOK M_l.1.cls M_l.2.1 q_l_a = true
  decide +kernel
def q_l_0 : List (Nat × ENT) := [(176, .aload_n 1, (0, 0, 0), 0), (177, .aload_n 0, (0, 0, 0), 0), (178, .iload_n 3, (0, 0, 0), 0), (179, .iconst 1, (0, 0, 0), 0), (180, .iadd, (0, 0, 0), 0), (181, .iaload, (0, 0, 0), 0), (182, .ifCond .eq 7, (0, 0, 0), 0), (185, .iconst 1, (0, 0, 0), 0), (186, .goto 4, (190, 0, 0), 0), (189, .iconst 0, (0, 0, 0), 0), (190, .invokevirtual 13, (0, 0, 0), 0), (193, .aload_n 2, (0, 0, 0), 0), (194, .aload_n 0, (0, 0, 0), 0), (195, .iload_n 3, (0, 0, 0), 0), (196, .iconst 1, (0, 0, 0), 0), (197, .iadd, (0, 0, 0), 0), (198, .iaload, (0, 0, 0), 0), (199, .ifCond .eq 7, (0, 0, 0), 0), (202, .iconst 1, (0, 0, 0), 0), (203, .goto 4, (207, 0, 0), 0), (206, .iconst 0, (0, 0, 0), 0), (207, .invokevirtual 17, (0, 0, 0), 0), (210, .if_icmp .eq 911, (0, 0, 0), 0), (213, .iconst 0, (0, 0, 0), 0), (214, .ireturn, (0, 0, 0), 0)]
theorem sK_l_0 : SK M_l q_l_0 := by
  show segOK M_l.1.cls M_l.2.1 q_l_0 = true
  decide +kernel
def q_l_1 : List (Nat × ENT) := [(215, .aload_n 1, (0, 0, 0), 0), (216, .aload_n 0, (0, 0, 0), 0), (217, .iload_n 3, (0, 0, 0), 0), (218, .iconst 1, (0, 0, 0), 0), (219, .iadd, (0, 0, 0), 0), (220, .iaload, (0, 0, 0), 0), (221, .ifCond .eq 7, (0, 0, 0), 0), (224, .iconst 1, (0, 0, 0), 0), (225, .goto 4, (229, 0, 0), 0), (228, .iconst 0, (0, 0, 0), 0), (229, .invokevirtual 18, (0, 0, 0), 0), (232, .aload_n 2, (0, 0, 0), 0), (233, .aload_n 0, (0, 0, 0), 0), (234, .iload_n 3, (0, 0, 0), 0), (235, .iconst 1, (0, 0, 0), 0), (236, .iadd, (0, 0, 0), 0), (237, .iaload, (0, 0, 0), 0), (238, .ifCond .eq 7, (0, 0, 0), 0), (241, .iconst 1, (0, 0, 0), 0), (242, .goto 4, (246, 0, 0), 0), (245, .iconst 0, (0, 0, 0), 0), (246, .invokevirtual 21, (0, 0, 0), 0), (249, .if_icmp .eq 872, (0, 0, 0), 0), (252, .iconst 0, (0, 0, 0), 0), (253, .ireturn, (0, 0, 0), 0)]
theorem sK_l_1 : SK M_l q_l_1 := by
  show segOK M_l.1.cls M_l.2.1 q_l_1 = true
  decide +kernel
def q_l_2 : List (Nat × ENT) := [(254, .aload_n 1, (0, 0, 0), 0), (255, .aload_n 0, (0, 0, 0), 0), (256, .iload_n 3, (0, 0, 0), 0), (257, .iconst 1, (0, 0, 0), 0), (258, .iadd, (0, 0, 0), 0), (259, .iaload, (0, 0, 0), 0), (260, .invokevirtual 22, (0, 0, 0), 0), (263, .aload_n 2, (0, 0, 0), 0), (264, .aload_n 0, (0, 0, 0), 0), (265, .iload_n 3, (0, 0, 0), 0), (266, .iconst 1, (0, 0, 0), 0), (267, .iadd, (0, 0, 0), 0), (268, .iaload, (0, 0, 0), 0), (269, .invokevirtual 26, (0, 0, 0), 0), (272, .if_icmp .eq 849, (0, 0, 0), 0), (275, .iconst 0, (0, 0, 0), 0), (276, .ireturn, (0, 0, 0), 0)]
theorem sK_l_2 : SK M_l q_l_2 := by
  show segOK M_l.1.cls M_l.2.1 q_l_2 = true
  decide +kernel
def q_l_3 : List (Nat × ENT) := [(277, .aload_n 1, (0, 0, 0), 0), (278, .aload_n 0, (0, 0, 0), 0), (279, .iload_n 3, (0, 0, 0), 0), (280, .iconst 1, (0, 0, 0), 0), (281, .iadd, (0, 0, 0), 0), (282, .iaload, (0, 0, 0), 0), (283, .aload_n 0, (0, 0, 0), 0), (284, .iload_n 3, (0, 0, 0), 0), (285, .iconst 2, (0, 0, 0), 0), (286, .iadd, (0, 0, 0), 0), (287, .iaload, (0, 0, 0), 0), (288, .aload_n 0, (0, 0, 0), 0), (289, .iload_n 3, (0, 0, 0), 0), (290, .iconst 3, (0, 0, 0), 0), (291, .iadd, (0, 0, 0), 0), (292, .iaload, (0, 0, 0), 0), (293, .aload_n 0, (0, 0, 0), 0), (294, .iload_n 3, (0, 0, 0), 0), (295, .iconst 4, (0, 0, 0), 0), (296, .iadd, (0, 0, 0), 0), (297, .iaload, (0, 0, 0), 0), (298, .aload_n 0, (0, 0, 0), 0), (299, .iload_n 3, (0, 0, 0), 0), (300, .iconst 5, (0, 0, 0), 0), (301, .iadd, (0, 0, 0), 0), (302, .iaload, (0, 0, 0), 0), (303, .invokevirtual 27, (0, 0, 0), 0), (306, .aload_n 2, (0, 0, 0), 0), (307, .aload_n 0, (0, 0, 0), 0), (308, .iload_n 3, (0, 0, 0), 0), (309, .iconst 1, (0, 0, 0), 0), (310, .iadd, (0, 0, 0), 0), (311, .iaload, (0, 0, 0), 0), (312, .aload_n 0, (0, 0, 0), 0), (313, .iload_n 3, (0, 0, 0), 0), (314, .iconst 2, (0, 0, 0), 0), (315, .iadd, (0, 0, 0), 0), (316, .iaload, (0, 0, 0), 0), (317, .aload_n 0, (0, 0, 0), 0), (318, .iload_n 3, (0, 0, 0), 0), (319, .iconst 3, (0, 0, 0), 0), (320, .iadd, (0, 0, 0), 0), (321, .iaload, (0, 0, 0), 0), (322, .aload_n 0, (0, 0, 0), 0), (323, .iload_n 3, (0, 0, 0), 0), (324, .iconst 4, (0, 0, 0), 0), (325, .iadd, (0, 0, 0), 0), (326, .iaload, (0, 0, 0), 0), (327, .aload_n 0, (0, 0, 0), 0), (328, .iload_n 3, (0, 0, 0), 0), (329, .iconst 5, (0, 0, 0), 0), (330, .iadd, (0, 0, 0), 0), (331, .iaload, (0, 0, 0), 0), (332, .invokevirtual 31, (0, 0, 0), 0), (335, .if_icmp .eq 786, (0, 0, 0), 0), (338, .iconst 0, (0, 0, 0), 0), (339, .ireturn, (0, 0, 0), 0)]
theorem sK_l_3 : SK M_l q_l_3 := by
  show segOK M_l.1.cls M_l.2.1 q_l_3 = true
  decide +kernel
def q_l_4 : List (Nat × ENT) := [(340, .aload_n 1, (0, 0, 0), 0), (341, .aload_n 0, (0, 0, 0), 0), (342, .iload_n 3, (0, 0, 0), 0), (343, .iconst 1, (0, 0, 0), 0), (344, .iadd, (0, 0, 0), 0), (345, .iaload, (0, 0, 0), 0), (346, .invokevirtual 32, (0, 0, 0), 0), (349, .aload_n 2, (0, 0, 0), 0), (350, .aload_n 0, (0, 0, 0), 0), (351, .iload_n 3, (0, 0, 0), 0), (352, .iconst 1, (0, 0, 0), 0), (353, .iadd, (0, 0, 0), 0), (354, .iaload, (0, 0, 0), 0), (355, .invokevirtual 36, (0, 0, 0), 0), (358, .if_icmp .eq 763, (0, 0, 0), 0), (361, .iconst 0, (0, 0, 0), 0), (362, .ireturn, (0, 0, 0), 0)]
theorem sK_l_4 : SK M_l q_l_4 := by
  show segOK M_l.1.cls M_l.2.1 q_l_4 = true
  decide +kernel
def q_l_5 : List (Nat × ENT) := [(363, .aload_n 1, (0, 0, 0), 0), (364, .invokevirtual 37, (0, 0, 0), 0), (367, .aload_n 2, (0, 0, 0), 0), (368, .invokevirtual 41, (0, 0, 0), 0), (371, .if_icmp .eq 750, (0, 0, 0), 0), (374, .iconst 0, (0, 0, 0), 0), (375, .ireturn, (0, 0, 0), 0)]
theorem sK_l_5 : SK M_l q_l_5 := by
  show segOK M_l.1.cls M_l.2.1 q_l_5 = true
  decide +kernel
def q_l_6 : List (Nat × ENT) := [(376, .aload_n 1, (0, 0, 0), 0), (377, .aload_n 0, (0, 0, 0), 0), (378, .iload_n 3, (0, 0, 0), 0), (379, .iconst 1, (0, 0, 0), 0), (380, .iadd, (0, 0, 0), 0), (381, .iaload, (0, 0, 0), 0), (382, .invokevirtual 42, (0, 0, 0), 0), (385, .aload_n 2, (0, 0, 0), 0), (386, .aload_n 0, (0, 0, 0), 0), (387, .iload_n 3, (0, 0, 0), 0), (388, .iconst 1, (0, 0, 0), 0), (389, .iadd, (0, 0, 0), 0), (390, .iaload, (0, 0, 0), 0), (391, .invokevirtual 45, (0, 0, 0), 0), (394, .if_icmp .eq 727, (0, 0, 0), 0), (397, .iconst 0, (0, 0, 0), 0), (398, .ireturn, (0, 0, 0), 0)]
theorem sK_l_6 : SK M_l q_l_6 := by
  show segOK M_l.1.cls M_l.2.1 q_l_6 = true
  decide +kernel
def q_l_7 : List (Nat × ENT) := [(399, .aload_n 1, (0, 0, 0), 0), (400, .aload_n 0, (0, 0, 0), 0), (401, .iload_n 3, (0, 0, 0), 0), (402, .iconst 1, (0, 0, 0), 0), (403, .iadd, (0, 0, 0), 0), (404, .iaload, (0, 0, 0), 0), (405, .invokevirtual 46, (0, 0, 0), 0), (408, .aload_n 2, (0, 0, 0), 0), (409, .aload_n 0, (0, 0, 0), 0), (410, .iload_n 3, (0, 0, 0), 0), (411, .iconst 1, (0, 0, 0), 0), (412, .iadd, (0, 0, 0), 0), (413, .iaload, (0, 0, 0), 0), (414, .invokevirtual 49, (0, 0, 0), 0), (417, .if_icmp .eq 704, (0, 0, 0), 0), (420, .iconst 0, (0, 0, 0), 0), (421, .ireturn, (0, 0, 0), 0)]
theorem sK_l_7 : SK M_l q_l_7 := by
  show segOK M_l.1.cls M_l.2.1 q_l_7 = true
  decide +kernel
def q_l_8 : List (Nat × ENT) := [(422, .aload_n 1, (0, 0, 0), 0), (423, .aload_n 0, (0, 0, 0), 0), (424, .iload_n 3, (0, 0, 0), 0), (425, .iconst 1, (0, 0, 0), 0), (426, .iadd, (0, 0, 0), 0), (427, .iaload, (0, 0, 0), 0), (428, .invokevirtual 50, (0, 0, 0), 0), (431, .aload_n 2, (0, 0, 0), 0), (432, .aload_n 0, (0, 0, 0), 0), (433, .iload_n 3, (0, 0, 0), 0), (434, .iconst 1, (0, 0, 0), 0), (435, .iadd, (0, 0, 0), 0), (436, .iaload, (0, 0, 0), 0), (437, .invokevirtual 53, (0, 0, 0), 0), (440, .if_icmp .eq 681, (0, 0, 0), 0), (443, .iconst 0, (0, 0, 0), 0), (444, .ireturn, (0, 0, 0), 0)]
theorem sK_l_8 : SK M_l q_l_8 := by
  show segOK M_l.1.cls M_l.2.1 q_l_8 = true
  decide +kernel
def q_l_9 : List (Nat × ENT) := [(445, .aload_n 1, (0, 0, 0), 0), (446, .aload_n 0, (0, 0, 0), 0), (447, .iload_n 3, (0, 0, 0), 0), (448, .iconst 1, (0, 0, 0), 0), (449, .iadd, (0, 0, 0), 0), (450, .iaload, (0, 0, 0), 0), (451, .aload_n 0, (0, 0, 0), 0), (452, .iload_n 3, (0, 0, 0), 0), (453, .iconst 2, (0, 0, 0), 0), (454, .iadd, (0, 0, 0), 0), (455, .iaload, (0, 0, 0), 0), (456, .invokevirtual 54, (0, 0, 0), 0), (459, .aload_n 2, (0, 0, 0), 0), (460, .aload_n 0, (0, 0, 0), 0), (461, .iload_n 3, (0, 0, 0), 0), (462, .iconst 1, (0, 0, 0), 0), (463, .iadd, (0, 0, 0), 0), (464, .iaload, (0, 0, 0), 0), (465, .aload_n 0, (0, 0, 0), 0), (466, .iload_n 3, (0, 0, 0), 0), (467, .iconst 2, (0, 0, 0), 0), (468, .iadd, (0, 0, 0), 0), (469, .iaload, (0, 0, 0), 0), (470, .invokevirtual 58, (0, 0, 0), 0), (473, .if_icmp .eq 648, (0, 0, 0), 0), (476, .iconst 0, (0, 0, 0), 0), (477, .ireturn, (0, 0, 0), 0)]
theorem sK_l_9 : SK M_l q_l_9 := by
  show segOK M_l.1.cls M_l.2.1 q_l_9 = true
  decide +kernel
def q_l_10 : List (Nat × ENT) := [(478, .aload_n 1, (0, 0, 0), 0), (479, .aload_n 0, (0, 0, 0), 0), (480, .iload_n 3, (0, 0, 0), 0), (481, .iconst 1, (0, 0, 0), 0), (482, .iadd, (0, 0, 0), 0), (483, .iaload, (0, 0, 0), 0), (484, .aload_n 0, (0, 0, 0), 0), (485, .iload_n 3, (0, 0, 0), 0), (486, .iconst 2, (0, 0, 0), 0), (487, .iadd, (0, 0, 0), 0), (488, .iaload, (0, 0, 0), 0), (489, .invokevirtual 59, (0, 0, 0), 0), (492, .aload_n 2, (0, 0, 0), 0), (493, .aload_n 0, (0, 0, 0), 0), (494, .iload_n 3, (0, 0, 0), 0), (495, .iconst 1, (0, 0, 0), 0), (496, .iadd, (0, 0, 0), 0), (497, .iaload, (0, 0, 0), 0), (498, .aload_n 0, (0, 0, 0), 0), (499, .iload_n 3, (0, 0, 0), 0), (500, .iconst 2, (0, 0, 0), 0), (501, .iadd, (0, 0, 0), 0), (502, .iaload, (0, 0, 0), 0), (503, .invokevirtual 62, (0, 0, 0), 0), (506, .if_icmp .eq 615, (0, 0, 0), 0), (509, .iconst 0, (0, 0, 0), 0), (510, .ireturn, (0, 0, 0), 0)]
theorem sK_l_10 : SK M_l q_l_10 := by
  show segOK M_l.1.cls M_l.2.1 q_l_10 = true
  decide +kernel
def q_l_11 : List (Nat × ENT) := [(511, .aload_n 1, (0, 0, 0), 0), (512, .aload_n 0, (0, 0, 0), 0), (513, .iload_n 3, (0, 0, 0), 0), (514, .iconst 1, (0, 0, 0), 0), (515, .iadd, (0, 0, 0), 0), (516, .iaload, (0, 0, 0), 0), (517, .invokevirtual 63, (0, 0, 0), 0), (520, .aload_n 2, (0, 0, 0), 0), (521, .aload_n 0, (0, 0, 0), 0), (522, .iload_n 3, (0, 0, 0), 0), (523, .iconst 1, (0, 0, 0), 0), (524, .iadd, (0, 0, 0), 0), (525, .iaload, (0, 0, 0), 0), (526, .invokevirtual 66, (0, 0, 0), 0), (529, .if_icmp .eq 592, (0, 0, 0), 0), (532, .iconst 0, (0, 0, 0), 0), (533, .ireturn, (0, 0, 0), 0)]
theorem sK_l_11 : SK M_l q_l_11 := by
  show segOK M_l.1.cls M_l.2.1 q_l_11 = true
  decide +kernel
def q_l_12 : List (Nat × ENT) := [(534, .aload_n 1, (0, 0, 0), 0), (535, .aload_n 0, (0, 0, 0), 0), (536, .iload_n 3, (0, 0, 0), 0), (537, .iconst 1, (0, 0, 0), 0), (538, .iadd, (0, 0, 0), 0), (539, .iaload, (0, 0, 0), 0), (540, .aload_n 0, (0, 0, 0), 0), (541, .iload_n 3, (0, 0, 0), 0), (542, .iconst 2, (0, 0, 0), 0), (543, .iadd, (0, 0, 0), 0), (544, .iaload, (0, 0, 0), 0), (545, .invokevirtual 67, (0, 0, 0), 0), (548, .aload_n 2, (0, 0, 0), 0), (549, .aload_n 0, (0, 0, 0), 0), (550, .iload_n 3, (0, 0, 0), 0), (551, .iconst 1, (0, 0, 0), 0), (552, .iadd, (0, 0, 0), 0), (553, .iaload, (0, 0, 0), 0), (554, .aload_n 0, (0, 0, 0), 0), (555, .iload_n 3, (0, 0, 0), 0), (556, .iconst 2, (0, 0, 0), 0), (557, .iadd, (0, 0, 0), 0), (558, .iaload, (0, 0, 0), 0), (559, .invokevirtual 70, (0, 0, 0), 0), (562, .if_icmp .eq 559, (0, 0, 0), 0), (565, .iconst 0, (0, 0, 0), 0), (566, .ireturn, (0, 0, 0), 0)]
theorem sK_l_12 : SK M_l q_l_12 := by
  show segOK M_l.1.cls M_l.2.1 q_l_12 = true
  decide +kernel
def q_l_13 : List (Nat × ENT) := [(567, .aload_n 1, (0, 0, 0), 0), (568, .aload_n 0, (0, 0, 0), 0), (569, .iload_n 3, (0, 0, 0), 0), (570, .iconst 1, (0, 0, 0), 0), (571, .iadd, (0, 0, 0), 0), (572, .iaload, (0, 0, 0), 0), (573, .aload_n 0, (0, 0, 0), 0), (574, .iload_n 3, (0, 0, 0), 0), (575, .iconst 2, (0, 0, 0), 0), (576, .iadd, (0, 0, 0), 0), (577, .iaload, (0, 0, 0), 0), (578, .invokevirtual 71, (0, 0, 0), 0), (581, .aload_n 2, (0, 0, 0), 0), (582, .aload_n 0, (0, 0, 0), 0), (583, .iload_n 3, (0, 0, 0), 0), (584, .iconst 1, (0, 0, 0), 0), (585, .iadd, (0, 0, 0), 0), (586, .iaload, (0, 0, 0), 0), (587, .aload_n 0, (0, 0, 0), 0), (588, .iload_n 3, (0, 0, 0), 0), (589, .iconst 2, (0, 0, 0), 0), (590, .iadd, (0, 0, 0), 0), (591, .iaload, (0, 0, 0), 0), (592, .invokevirtual 74, (0, 0, 0), 0), (595, .if_icmp .eq 526, (0, 0, 0), 0), (598, .iconst 0, (0, 0, 0), 0), (599, .ireturn, (0, 0, 0), 0)]
theorem sK_l_13 : SK M_l q_l_13 := by
  show segOK M_l.1.cls M_l.2.1 q_l_13 = true
  decide +kernel
def q_l_14 : List (Nat × ENT) := [(600, .aload_n 1, (0, 0, 0), 0), (601, .aload_n 0, (0, 0, 0), 0), (602, .iload_n 3, (0, 0, 0), 0), (603, .iconst 1, (0, 0, 0), 0), (604, .iadd, (0, 0, 0), 0), (605, .iaload, (0, 0, 0), 0), (606, .invokevirtual 75, (0, 0, 0), 0), (609, .aload_n 2, (0, 0, 0), 0), (610, .aload_n 0, (0, 0, 0), 0), (611, .iload_n 3, (0, 0, 0), 0), (612, .iconst 1, (0, 0, 0), 0), (613, .iadd, (0, 0, 0), 0), (614, .iaload, (0, 0, 0), 0), (615, .invokevirtual 78, (0, 0, 0), 0), (618, .if_icmp .eq 503, (0, 0, 0), 0), (621, .iconst 0, (0, 0, 0), 0), (622, .ireturn, (0, 0, 0), 0)]
theorem sK_l_14 : SK M_l q_l_14 := by
  show segOK M_l.1.cls M_l.2.1 q_l_14 = true
  decide +kernel
def q_l_15 : List (Nat × ENT) := [(623, .aload_n 1, (0, 0, 0), 0), (624, .aload_n 0, (0, 0, 0), 0), (625, .iload_n 3, (0, 0, 0), 0), (626, .iconst 1, (0, 0, 0), 0), (627, .iadd, (0, 0, 0), 0), (628, .iaload, (0, 0, 0), 0), (629, .aload_n 0, (0, 0, 0), 0), (630, .iload_n 3, (0, 0, 0), 0), (631, .iconst 2, (0, 0, 0), 0), (632, .iadd, (0, 0, 0), 0), (633, .iaload, (0, 0, 0), 0), (634, .invokevirtual 79, (0, 0, 0), 0), (637, .aload_n 2, (0, 0, 0), 0), (638, .aload_n 0, (0, 0, 0), 0), (639, .iload_n 3, (0, 0, 0), 0), (640, .iconst 1, (0, 0, 0), 0), (641, .iadd, (0, 0, 0), 0), (642, .iaload, (0, 0, 0), 0), (643, .aload_n 0, (0, 0, 0), 0), (644, .iload_n 3, (0, 0, 0), 0), (645, .iconst 2, (0, 0, 0), 0), (646, .iadd, (0, 0, 0), 0), (647, .iaload, (0, 0, 0), 0), (648, .invokevirtual 82, (0, 0, 0), 0), (651, .if_icmp .eq 470, (0, 0, 0), 0), (654, .iconst 0, (0, 0, 0), 0), (655, .ireturn, (0, 0, 0), 0)]
theorem sK_l_15 : SK M_l q_l_15 := by
  show segOK M_l.1.cls M_l.2.1 q_l_15 = true
  decide +kernel
def q_l_16 : List (Nat × ENT) := [(656, .aload_n 1, (0, 0, 0), 0), (657, .invokevirtual 83, (0, 0, 0), 0), (660, .aload_n 2, (0, 0, 0), 0), (661, .invokevirtual 86, (0, 0, 0), 0), (664, .if_icmp .eq 457, (0, 0, 0), 0), (667, .iconst 0, (0, 0, 0), 0), (668, .ireturn, (0, 0, 0), 0)]
theorem sK_l_16 : SK M_l q_l_16 := by
  show segOK M_l.1.cls M_l.2.1 q_l_16 = true
  decide +kernel
def q_l_17 : List (Nat × ENT) := [(669, .aload_n 1, (0, 0, 0), 0), (670, .aload_n 0, (0, 0, 0), 0), (671, .iload_n 3, (0, 0, 0), 0), (672, .iconst 1, (0, 0, 0), 0), (673, .iadd, (0, 0, 0), 0), (674, .iaload, (0, 0, 0), 0), (675, .invokevirtual 87, (0, 0, 0), 0), (678, .aload_n 2, (0, 0, 0), 0), (679, .aload_n 0, (0, 0, 0), 0), (680, .iload_n 3, (0, 0, 0), 0), (681, .iconst 1, (0, 0, 0), 0), (682, .iadd, (0, 0, 0), 0), (683, .iaload, (0, 0, 0), 0), (684, .invokevirtual 90, (0, 0, 0), 0), (687, .if_icmp .eq 434, (0, 0, 0), 0), (690, .iconst 0, (0, 0, 0), 0), (691, .ireturn, (0, 0, 0), 0)]
theorem sK_l_17 : SK M_l q_l_17 := by
  show segOK M_l.1.cls M_l.2.1 q_l_17 = true
  decide +kernel
def q_l_18 : List (Nat × ENT) := [(692, .aload_n 1, (0, 0, 0), 0), (693, .aload_n 0, (0, 0, 0), 0), (694, .iload_n 3, (0, 0, 0), 0), (695, .iconst 1, (0, 0, 0), 0), (696, .iadd, (0, 0, 0), 0), (697, .iaload, (0, 0, 0), 0), (698, .aload_n 0, (0, 0, 0), 0), (699, .iload_n 3, (0, 0, 0), 0), (700, .iconst 2, (0, 0, 0), 0), (701, .iadd, (0, 0, 0), 0), (702, .iaload, (0, 0, 0), 0), (703, .aload_n 0, (0, 0, 0), 0), (704, .iload_n 3, (0, 0, 0), 0), (705, .iconst 3, (0, 0, 0), 0), (706, .iadd, (0, 0, 0), 0), (707, .iaload, (0, 0, 0), 0), (708, .invokevirtual 91, (0, 0, 0), 0), (711, .aload_n 2, (0, 0, 0), 0), (712, .aload_n 0, (0, 0, 0), 0), (713, .iload_n 3, (0, 0, 0), 0), (714, .iconst 1, (0, 0, 0), 0), (715, .iadd, (0, 0, 0), 0), (716, .iaload, (0, 0, 0), 0), (717, .aload_n 0, (0, 0, 0), 0), (718, .iload_n 3, (0, 0, 0), 0), (719, .iconst 2, (0, 0, 0), 0), (720, .iadd, (0, 0, 0), 0), (721, .iaload, (0, 0, 0), 0), (722, .aload_n 0, (0, 0, 0), 0), (723, .iload_n 3, (0, 0, 0), 0), (724, .iconst 3, (0, 0, 0), 0), (725, .iadd, (0, 0, 0), 0), (726, .iaload, (0, 0, 0), 0), (727, .invokevirtual 95, (0, 0, 0), 0), (730, .lcmp, (0, 0, 0), 0), (731, .ifCond .eq 390, (0, 0, 0), 0), (734, .iconst 0, (0, 0, 0), 0), (735, .ireturn, (0, 0, 0), 0)]
theorem sK_l_18 : SK M_l q_l_18 := by
  show segOK M_l.1.cls M_l.2.1 q_l_18 = true
  decide +kernel
def q_l_19 : List (Nat × ENT) := [(736, .aload_n 1, (0, 0, 0), 0), (737, .aload_n 0, (0, 0, 0), 0), (738, .iload_n 3, (0, 0, 0), 0), (739, .iconst 1, (0, 0, 0), 0), (740, .iadd, (0, 0, 0), 0), (741, .iaload, (0, 0, 0), 0), (742, .ifCond .eq 7, (0, 0, 0), 0), (745, .iconst 1, (0, 0, 0), 0), (746, .goto 4, (750, 0, 0), 0), (749, .iconst 0, (0, 0, 0), 0), (750, .aload_n 0, (0, 0, 0), 0), (751, .iload_n 3, (0, 0, 0), 0), (752, .iconst 2, (0, 0, 0), 0), (753, .iadd, (0, 0, 0), 0), (754, .iaload, (0, 0, 0), 0), (755, .aload_n 0, (0, 0, 0), 0), (756, .iload_n 3, (0, 0, 0), 0), (757, .iconst 3, (0, 0, 0), 0), (758, .iadd, (0, 0, 0), 0), (759, .iaload, (0, 0, 0), 0), (760, .invokevirtual 96, (0, 0, 0), 0), (763, .aload_n 2, (0, 0, 0), 0), (764, .aload_n 0, (0, 0, 0), 0), (765, .iload_n 3, (0, 0, 0), 0), (766, .iconst 1, (0, 0, 0), 0), (767, .iadd, (0, 0, 0), 0), (768, .iaload, (0, 0, 0), 0), (769, .ifCond .eq 7, (0, 0, 0), 0), (772, .iconst 1, (0, 0, 0), 0), (773, .goto 4, (777, 0, 0), 0), (776, .iconst 0, (0, 0, 0), 0), (777, .aload_n 0, (0, 0, 0), 0), (778, .iload_n 3, (0, 0, 0), 0), (779, .iconst 2, (0, 0, 0), 0), (780, .iadd, (0, 0, 0), 0), (781, .iaload, (0, 0, 0), 0), (782, .aload_n 0, (0, 0, 0), 0), (783, .iload_n 3, (0, 0, 0), 0), (784, .iconst 3, (0, 0, 0), 0), (785, .iadd, (0, 0, 0), 0), (786, .iaload, (0, 0, 0), 0), (787, .invokevirtual 100, (0, 0, 0), 0), (790, .if_icmp .eq 331, (0, 0, 0), 0), (793, .iconst 0, (0, 0, 0), 0), (794, .ireturn, (0, 0, 0), 0)]
theorem sK_l_19 : SK M_l q_l_19 := by
  show segOK M_l.1.cls M_l.2.1 q_l_19 = true
  decide +kernel
def q_l_20 : List (Nat × ENT) := [(795, .aload_n 1, (0, 0, 0), 0), (796, .invokevirtual 101, (0, 0, 0), 0), (799, .aload_n 2, (0, 0, 0), 0), (800, .invokevirtual 104, (0, 0, 0), 0), (803, .if_icmp .eq 318, (0, 0, 0), 0), (806, .iconst 0, (0, 0, 0), 0), (807, .ireturn, (0, 0, 0), 0)]
theorem sK_l_20 : SK M_l q_l_20 := by
  show segOK M_l.1.cls M_l.2.1 q_l_20 = true
  decide +kernel
def q_l_21 : List (Nat × ENT) := [(808, .aload_n 1, (0, 0, 0), 0), (809, .aload_n 0, (0, 0, 0), 0), (810, .iload_n 3, (0, 0, 0), 0), (811, .iconst 1, (0, 0, 0), 0), (812, .iadd, (0, 0, 0), 0), (813, .iaload, (0, 0, 0), 0), (814, .invokevirtual 105, (0, 0, 0), 0), (817, .aload_n 2, (0, 0, 0), 0), (818, .aload_n 0, (0, 0, 0), 0), (819, .iload_n 3, (0, 0, 0), 0), (820, .iconst 1, (0, 0, 0), 0), (821, .iadd, (0, 0, 0), 0), (822, .iaload, (0, 0, 0), 0), (823, .invokevirtual 108, (0, 0, 0), 0), (826, .if_icmp .eq 295, (0, 0, 0), 0), (829, .iconst 0, (0, 0, 0), 0), (830, .ireturn, (0, 0, 0), 0)]
theorem sK_l_21 : SK M_l q_l_21 := by
  show segOK M_l.1.cls M_l.2.1 q_l_21 = true
  decide +kernel
def q_l_22 : List (Nat × ENT) := [(831, .aload_n 1, (0, 0, 0), 0), (832, .aload_n 0, (0, 0, 0), 0), (833, .iload_n 3, (0, 0, 0), 0), (834, .iconst 1, (0, 0, 0), 0), (835, .iadd, (0, 0, 0), 0), (836, .iaload, (0, 0, 0), 0), (837, .invokevirtual 109, (0, 0, 0), 0), (840, .aload_n 2, (0, 0, 0), 0), (841, .aload_n 0, (0, 0, 0), 0), (842, .iload_n 3, (0, 0, 0), 0), (843, .iconst 1, (0, 0, 0), 0), (844, .iadd, (0, 0, 0), 0), (845, .iaload, (0, 0, 0), 0), (846, .invokevirtual 112, (0, 0, 0), 0), (849, .if_icmp .eq 272, (0, 0, 0), 0), (852, .iconst 0, (0, 0, 0), 0), (853, .ireturn, (0, 0, 0), 0)]
theorem sK_l_22 : SK M_l q_l_22 := by
  show segOK M_l.1.cls M_l.2.1 q_l_22 = true
  decide +kernel
def q_l_23 : List (Nat × ENT) := [(854, .aload_n 1, (0, 0, 0), 0), (855, .aload_n 0, (0, 0, 0), 0), (856, .iload_n 3, (0, 0, 0), 0), (857, .iconst 1, (0, 0, 0), 0), (858, .iadd, (0, 0, 0), 0), (859, .iaload, (0, 0, 0), 0), (860, .aload_n 0, (0, 0, 0), 0), (861, .iload_n 3, (0, 0, 0), 0), (862, .iconst 2, (0, 0, 0), 0), (863, .iadd, (0, 0, 0), 0), (864, .iaload, (0, 0, 0), 0), (865, .aload_n 0, (0, 0, 0), 0), (866, .iload_n 3, (0, 0, 0), 0), (867, .iconst 3, (0, 0, 0), 0), (868, .iadd, (0, 0, 0), 0), (869, .iaload, (0, 0, 0), 0), (870, .aload_n 0, (0, 0, 0), 0), (871, .iload_n 3, (0, 0, 0), 0), (872, .iconst 4, (0, 0, 0), 0), (873, .iadd, (0, 0, 0), 0), (874, .iaload, (0, 0, 0), 0), (875, .aload_n 0, (0, 0, 0), 0), (876, .iload_n 3, (0, 0, 0), 0), (877, .iconst 5, (0, 0, 0), 0), (878, .iadd, (0, 0, 0), 0), (879, .iaload, (0, 0, 0), 0), (880, .invokevirtual 113, (0, 0, 0), 0), (883, .aload_n 2, (0, 0, 0), 0), (884, .aload_n 0, (0, 0, 0), 0), (885, .iload_n 3, (0, 0, 0), 0), (886, .iconst 1, (0, 0, 0), 0), (887, .iadd, (0, 0, 0), 0), (888, .iaload, (0, 0, 0), 0), (889, .aload_n 0, (0, 0, 0), 0), (890, .iload_n 3, (0, 0, 0), 0), (891, .iconst 2, (0, 0, 0), 0), (892, .iadd, (0, 0, 0), 0), (893, .iaload, (0, 0, 0), 0), (894, .aload_n 0, (0, 0, 0), 0), (895, .iload_n 3, (0, 0, 0), 0), (896, .iconst 3, (0, 0, 0), 0), (897, .iadd, (0, 0, 0), 0), (898, .iaload, (0, 0, 0), 0), (899, .aload_n 0, (0, 0, 0), 0), (900, .iload_n 3, (0, 0, 0), 0), (901, .iconst 4, (0, 0, 0), 0), (902, .iadd, (0, 0, 0), 0), (903, .iaload, (0, 0, 0), 0), (904, .aload_n 0, (0, 0, 0), 0), (905, .iload_n 3, (0, 0, 0), 0), (906, .iconst 5, (0, 0, 0), 0), (907, .iadd, (0, 0, 0), 0), (908, .iaload, (0, 0, 0), 0), (909, .invokevirtual 116, (0, 0, 0), 0), (912, .if_icmp .eq 209, (0, 0, 0), 0), (915, .iconst 0, (0, 0, 0), 0), (916, .ireturn, (0, 0, 0), 0)]
theorem sK_l_23 : SK M_l q_l_23 := by
  show segOK M_l.1.cls M_l.2.1 q_l_23 = true
  decide +kernel
def q_l_24 : List (Nat × ENT) := [(917, .aload_n 1, (0, 0, 0), 0), (918, .aload_n 0, (0, 0, 0), 0), (919, .iload_n 3, (0, 0, 0), 0), (920, .iconst 1, (0, 0, 0), 0), (921, .iadd, (0, 0, 0), 0), (922, .iaload, (0, 0, 0), 0), (923, .aload_n 0, (0, 0, 0), 0), (924, .iload_n 3, (0, 0, 0), 0), (925, .iconst 2, (0, 0, 0), 0), (926, .iadd, (0, 0, 0), 0), (927, .iaload, (0, 0, 0), 0), (928, .invokevirtual 117, (0, 0, 0), 0), (931, .aload_n 2, (0, 0, 0), 0), (932, .aload_n 0, (0, 0, 0), 0), (933, .iload_n 3, (0, 0, 0), 0), (934, .iconst 1, (0, 0, 0), 0), (935, .iadd, (0, 0, 0), 0), (936, .iaload, (0, 0, 0), 0), (937, .aload_n 0, (0, 0, 0), 0), (938, .iload_n 3, (0, 0, 0), 0), (939, .iconst 2, (0, 0, 0), 0), (940, .iadd, (0, 0, 0), 0), (941, .iaload, (0, 0, 0), 0), (942, .invokevirtual 120, (0, 0, 0), 0), (945, .if_icmp .eq 176, (0, 0, 0), 0), (948, .iconst 0, (0, 0, 0), 0), (949, .ireturn, (0, 0, 0), 0)]
theorem sK_l_24 : SK M_l q_l_24 := by
  show segOK M_l.1.cls M_l.2.1 q_l_24 = true
  decide +kernel
def q_l_25 : List (Nat × ENT) := [(950, .aload_n 1, (0, 0, 0), 0), (951, .aload_n 0, (0, 0, 0), 0), (952, .iload_n 3, (0, 0, 0), 0), (953, .iconst 1, (0, 0, 0), 0), (954, .iadd, (0, 0, 0), 0), (955, .iaload, (0, 0, 0), 0), (956, .aload_n 0, (0, 0, 0), 0), (957, .iload_n 3, (0, 0, 0), 0), (958, .iconst 2, (0, 0, 0), 0), (959, .iadd, (0, 0, 0), 0), (960, .iaload, (0, 0, 0), 0), (961, .aload_n 0, (0, 0, 0), 0), (962, .iload_n 3, (0, 0, 0), 0), (963, .iconst 3, (0, 0, 0), 0), (964, .iadd, (0, 0, 0), 0), (965, .iaload, (0, 0, 0), 0), (966, .invokevirtual 121, (0, 0, 0), 0), (969, .aload_n 2, (0, 0, 0), 0), (970, .aload_n 0, (0, 0, 0), 0), (971, .iload_n 3, (0, 0, 0), 0), (972, .iconst 1, (0, 0, 0), 0), (973, .iadd, (0, 0, 0), 0), (974, .iaload, (0, 0, 0), 0), (975, .aload_n 0, (0, 0, 0), 0), (976, .iload_n 3, (0, 0, 0), 0), (977, .iconst 2, (0, 0, 0), 0), (978, .iadd, (0, 0, 0), 0), (979, .iaload, (0, 0, 0), 0), (980, .aload_n 0, (0, 0, 0), 0), (981, .iload_n 3, (0, 0, 0), 0), (982, .iconst 3, (0, 0, 0), 0), (983, .iadd, (0, 0, 0), 0), (984, .iaload, (0, 0, 0), 0), (985, .invokevirtual 125, (0, 0, 0), 0), (988, .if_icmp .eq 133, (0, 0, 0), 0), (991, .iconst 0, (0, 0, 0), 0), (992, .ireturn, (0, 0, 0), 0)]
theorem sK_l_25 : SK M_l q_l_25 := by
  show segOK M_l.1.cls M_l.2.1 q_l_25 = true
  decide +kernel
def q_l_26 : List (Nat × ENT) := [(993, .aload_n 1, (0, 0, 0), 0), (994, .aload_n 0, (0, 0, 0), 0), (995, .iload_n 3, (0, 0, 0), 0), (996, .iconst 1, (0, 0, 0), 0), (997, .iadd, (0, 0, 0), 0), (998, .iaload, (0, 0, 0), 0), (999, .aload_n 0, (0, 0, 0), 0), (1000, .iload_n 3, (0, 0, 0), 0), (1001, .iconst 2, (0, 0, 0), 0), (1002, .iadd, (0, 0, 0), 0), (1003, .iaload, (0, 0, 0), 0), (1004, .invokevirtual 126, (0, 0, 0), 0), (1007, .aload_n 2, (0, 0, 0), 0), (1008, .aload_n 0, (0, 0, 0), 0), (1009, .iload_n 3, (0, 0, 0), 0), (1010, .iconst 1, (0, 0, 0), 0), (1011, .iadd, (0, 0, 0), 0), (1012, .iaload, (0, 0, 0), 0), (1013, .aload_n 0, (0, 0, 0), 0), (1014, .iload_n 3, (0, 0, 0), 0), (1015, .iconst 2, (0, 0, 0), 0), (1016, .iadd, (0, 0, 0), 0), (1017, .iaload, (0, 0, 0), 0), (1018, .invokevirtual 129, (0, 0, 0), 0), (1021, .if_icmp .eq 100, (0, 0, 0), 0), (1024, .iconst 0, (0, 0, 0), 0), (1025, .ireturn, (0, 0, 0), 0)]
theorem sK_l_26 : SK M_l q_l_26 := by
  show segOK M_l.1.cls M_l.2.1 q_l_26 = true
  decide +kernel
def q_l_27 : List (Nat × ENT) := [(1026, .aload_n 1, (0, 0, 0), 0), (1027, .aload_n 0, (0, 0, 0), 0), (1028, .iload_n 3, (0, 0, 0), 0), (1029, .iconst 1, (0, 0, 0), 0), (1030, .iadd, (0, 0, 0), 0), (1031, .iaload, (0, 0, 0), 0), (1032, .invokevirtual 130, (0, 0, 0), 0), (1035, .aload_n 2, (0, 0, 0), 0), (1036, .aload_n 0, (0, 0, 0), 0), (1037, .iload_n 3, (0, 0, 0), 0), (1038, .iconst 1, (0, 0, 0), 0), (1039, .iadd, (0, 0, 0), 0), (1040, .iaload, (0, 0, 0), 0), (1041, .invokevirtual 133, (0, 0, 0), 0), (1044, .if_icmp .eq 77, (0, 0, 0), 0), (1047, .iconst 0, (0, 0, 0), 0), (1048, .ireturn, (0, 0, 0), 0)]
theorem sK_l_27 : SK M_l q_l_27 := by
  show segOK M_l.1.cls M_l.2.1 q_l_27 = true
  decide +kernel
def q_l_28 : List (Nat × ENT) := [(1049, .aload_n 1, (0, 0, 0), 0), (1050, .aload_n 0, (0, 0, 0), 0), (1051, .iload_n 3, (0, 0, 0), 0), (1052, .iconst 1, (0, 0, 0), 0), (1053, .iadd, (0, 0, 0), 0), (1054, .iaload, (0, 0, 0), 0), (1055, .invokevirtual 134, (0, 0, 0), 0), (1058, .aload_n 2, (0, 0, 0), 0), (1059, .aload_n 0, (0, 0, 0), 0), (1060, .iload_n 3, (0, 0, 0), 0), (1061, .iconst 1, (0, 0, 0), 0), (1062, .iadd, (0, 0, 0), 0), (1063, .iaload, (0, 0, 0), 0), (1064, .invokevirtual 137, (0, 0, 0), 0), (1067, .if_icmp .eq 54, (0, 0, 0), 0), (1070, .iconst 0, (0, 0, 0), 0), (1071, .ireturn, (0, 0, 0), 0)]
theorem sK_l_28 : SK M_l q_l_28 := by
  show segOK M_l.1.cls M_l.2.1 q_l_28 = true
  decide +kernel
def q_l_29 : List (Nat × ENT) := [(1072, .aload_n 1, (0, 0, 0), 0), (1073, .invokevirtual 138, (0, 0, 0), 0), (1076, .aload_n 2, (0, 0, 0), 0), (1077, .invokevirtual 141, (0, 0, 0), 0), (1080, .if_icmp .eq 41, (0, 0, 0), 0), (1083, .iconst 0, (0, 0, 0), 0), (1084, .ireturn, (0, 0, 0), 0)]
theorem sK_l_29 : SK M_l q_l_29 := by
  show segOK M_l.1.cls M_l.2.1 q_l_29 = true
  decide +kernel
def q_l_30 : List (Nat × ENT) := [(1085, .aload_n 1, (0, 0, 0), 0), (1086, .invokevirtual 142, (0, 0, 0), 0), (1089, .aload_n 2, (0, 0, 0), 0), (1090, .invokevirtual 145, (0, 0, 0), 0), (1093, .if_icmp .eq 28, (0, 0, 0), 0), (1096, .iconst 0, (0, 0, 0), 0), (1097, .ireturn, (0, 0, 0), 0)]
theorem sK_l_30 : SK M_l q_l_30 := by
  show segOK M_l.1.cls M_l.2.1 q_l_30 = true
  decide +kernel
def q_l_31 : List (Nat × ENT) := [(1098, .aload_n 1, (0, 0, 0), 0), (1099, .aload_n 0, (0, 0, 0), 0), (1100, .iload_n 3, (0, 0, 0), 0), (1101, .iconst 1, (0, 0, 0), 0), (1102, .iadd, (0, 0, 0), 0), (1103, .iaload, (0, 0, 0), 0), (1104, .invokevirtual 146, (0, 0, 0), 0), (1107, .aload_n 2, (0, 0, 0), 0), (1108, .aload_n 0, (0, 0, 0), 0), (1109, .iload_n 3, (0, 0, 0), 0), (1110, .iconst 1, (0, 0, 0), 0), (1111, .iadd, (0, 0, 0), 0), (1112, .iaload, (0, 0, 0), 0), (1113, .invokevirtual 149, (0, 0, 0), 0), (1116, .if_icmp .eq 5, (0, 0, 0), 0), (1119, .iconst 0, (0, 0, 0), 0), (1120, .ireturn, (0, 0, 0), 0)]
theorem sK_l_31 : SK M_l q_l_31 := by
  show segOK M_l.1.cls M_l.2.1 q_l_31 = true
  decide +kernel
def q_l_z : List (Nat × ENT) := [(1121, .iinc 3 6, (0, 0, 0), 0), (1124, .goto (-1106), (18, 0, 0), 0), (1127, .iconst 1, (0, 0, 0), 0), (1128, .ireturn, (0, 0, 0), 0)]
theorem sK_l_z : SK M_l q_l_z := by
  show segOK M_l.1.cls M_l.2.1 q_l_z = true
  decide +kernel
theorem dl_0 : decode M_l.2.1 0 = .ok (.new 7, 3) := by decide +kernel
theorem dl_4 : decode M_l.2.1 4 = .ok (.invokespecial 9, 3) := by decide +kernel
theorem dl_8 : decode M_l.2.1 8 = .ok (.new 10, 3) := by decide +kernel
theorem dl_12 : decode M_l.2.1 12 = .ok (.invokespecial 12, 3) := by decide +kernel
theorem dl_33 : decode M_l.2.1 33 = .ok (.tableswitch 1088 0 31 #[143, 182, 221, 244, 307, 330, 343, 366, 389, 412, 445, 478, 501, 534, 567, 590, 623, 636, 659, 703, 762, 775, 798, 821, 884, 917, 960, 993, 1016, 1039, 1052, 1065], 143) := by decide +kernel
theorem wl_c1 : Jvm.Cond.classLink M_l.1.cls 7 "LastName" ∈ ALLW := wdOK_mem (i := 1022) (by decide +kernel)
theorem wl_c2 : Jvm.Cond.classLink M_l.1.cls 10 "LastNameModel" ∈ ALLW := wdOK_mem (i := 5213) (by decide +kernel)
theorem wl_i1 : Jvm.Cond.instantiable "LastName" 9 ∈ ALLW := wdOK_mem (i := 1023) (by decide +kernel)
theorem wl_i2 : Jvm.Cond.instantiable "LastNameModel" 43 ∈ ALLW := wdOK_mem (i := 5214) (by decide +kernel)
theorem wl_n1 : Jvm.Cond.initialized "LastName" ∈ ALLW := wdOK_mem (i := 1001) (by decide +kernel)
theorem wl_n2 : Jvm.Cond.initialized "LastNameModel" ∈ ALLW := wdOK_mem (i := 1015) (by decide +kernel)
set_option maxRecDepth 20000 in
theorem lkl_i1 : LK M_l.1.cls 9 M_i_x.1 false := LK_p 1024 (by decide +kernel)
set_option maxRecDepth 20000 in
theorem lkl_i2 : LK M_l.1.cls 12 M_i_m.1 false := LK_p 5215 (by decide +kernel)
set_option maxRecDepth 20000 in
theorem lkl_x_person : LK M_l.1.cls 13 M_x_person.1 false := LK_p 2199 (by decide +kernel)
set_option maxRecDepth 20000 in
theorem lkl_m_person : LK M_l.1.cls 17 M_m_person.1 false := LK_p 6116 (by decide +kernel)
set_option maxRecDepth 20000 in
theorem lkl_x_gate : LK M_l.1.cls 18 M_x_gate.1 false := LK_p 2211 (by decide +kernel)
set_option maxRecDepth 20000 in
theorem lkl_m_gate : LK M_l.1.cls 21 M_m_gate.1 false := LK_p 6120 (by decide +kernel)
set_option maxRecDepth 20000 in
theorem lkl_x_hour : LK M_l.1.cls 22 M_x_hour.1 false := LK_p 2219 (by decide +kernel)
set_option maxRecDepth 20000 in
theorem lkl_m_hour : LK M_l.1.cls 26 M_m_hour.1 false := LK_p 6124 (by decide +kernel)
set_option maxRecDepth 20000 in
theorem lkl_x_feed : LK M_l.1.cls 27 M_x_feed.1 false := LK_p 2223 (by decide +kernel)
set_option maxRecDepth 20000 in
theorem lkl_m_feed : LK M_l.1.cls 31 M_m_feed.1 false := LK_p 6131 (by decide +kernel)
set_option maxRecDepth 20000 in
theorem lkl_x_end : LK M_l.1.cls 32 M_x_end.1 false := LK_p 2231 (by decide +kernel)
set_option maxRecDepth 20000 in
theorem lkl_m_end : LK M_l.1.cls 36 M_m_end.1 false := LK_p 6139 (by decide +kernel)
set_option maxRecDepth 20000 in
theorem lkl_x_text : LK M_l.1.cls 37 M_x_text.1 false := LK_p 2235 (by decide +kernel)
set_option maxRecDepth 20000 in
theorem lkl_m_text : LK M_l.1.cls 41 M_m_text.1 false := LK_p 6143 (by decide +kernel)
set_option maxRecDepth 20000 in
theorem lkl_x_fault : LK M_l.1.cls 42 M_x_fault.1 false := LK_p 3235 (by decide +kernel)
set_option maxRecDepth 20000 in
theorem lkl_m_fault : LK M_l.1.cls 45 M_m_fault.1 false := LK_p 7015 (by decide +kernel)
set_option maxRecDepth 20000 in
theorem lkl_x_by : LK M_l.1.cls 46 M_x_by.1 false := LK_p 3239 (by decide +kernel)
set_option maxRecDepth 20000 in
theorem lkl_m_by : LK M_l.1.cls 49 M_m_by.1 false := LK_p 7019 (by decide +kernel)
set_option maxRecDepth 20000 in
theorem lkl_x_gone : LK M_l.1.cls 50 M_x_gone1.1 false := LK_p 4003 (by decide +kernel)
set_option maxRecDepth 20000 in
theorem lkl_m_gone : LK M_l.1.cls 53 M_m_gone.1 false := LK_p 7023 (by decide +kernel)
set_option maxRecDepth 20000 in
theorem lkl_x_go : LK M_l.1.cls 54 M_x_go.1 false := LK_p 4107 (by decide +kernel)
set_option maxRecDepth 20000 in
theorem lkl_m_go : LK M_l.1.cls 58 M_m_go.1 false := LK_p 7120 (by decide +kernel)
set_option maxRecDepth 20000 in
theorem lkl_x_of : LK M_l.1.cls 59 M_x_of.1 false := LK_p 4111 (by decide +kernel)
set_option maxRecDepth 20000 in
theorem lkl_m_of : LK M_l.1.cls 62 M_m_of.1 false := LK_p 7121 (by decide +kernel)
set_option maxRecDepth 20000 in
theorem lkl_x_called : LK M_l.1.cls 63 M_x_called.1 false := LK_p 4133 (by decide +kernel)
set_option maxRecDepth 20000 in
theorem lkl_m_called : LK M_l.1.cls 66 M_m_called.1 false := LK_p 7133 (by decide +kernel)
set_option maxRecDepth 20000 in
theorem lkl_x_heap : LK M_l.1.cls 67 M_x_heap.1 false := LK_p 4144 (by decide +kernel)
set_option maxRecDepth 20000 in
theorem lkl_m_heap : LK M_l.1.cls 70 M_m_heap.1 false := LK_p 7141 (by decide +kernel)
set_option maxRecDepth 20000 in
theorem lkl_x_deed : LK M_l.1.cls 71 M_x_deed.1 false := LK_p 4151 (by decide +kernel)
set_option maxRecDepth 20000 in
theorem lkl_m_deed : LK M_l.1.cls 74 M_m_deed.1 false := LK_p 7145 (by decide +kernel)
set_option maxRecDepth 20000 in
theorem lkl_x_owes : LK M_l.1.cls 75 M_x_owes.1 false := LK_p 4159 (by decide +kernel)
set_option maxRecDepth 20000 in
theorem lkl_m_owes : LK M_l.1.cls 78 M_m_owes.1 false := LK_p 7149 (by decide +kernel)
set_option maxRecDepth 20000 in
theorem lkl_x_row : LK M_l.1.cls 79 M_x_row.1 false := LK_p 4163 (by decide +kernel)
set_option maxRecDepth 20000 in
theorem lkl_m_row : LK M_l.1.cls 82 M_m_row.1 false := LK_p 7153 (by decide +kernel)
set_option maxRecDepth 20000 in
theorem lkl_x_judge : LK M_l.1.cls 83 M_x_judge.1 false := LK_p 4167 (by decide +kernel)
set_option maxRecDepth 20000 in
theorem lkl_m_judge : LK M_l.1.cls 86 M_m_judge.1 false := LK_p 7157 (by decide +kernel)
set_option maxRecDepth 20000 in
theorem lkl_x_then : LK M_l.1.cls 87 M_x_then.1 false := LK_p 4185 (by decide +kernel)
set_option maxRecDepth 20000 in
theorem lkl_m_then : LK M_l.1.cls 90 M_m_then.1 false := LK_p 7173 (by decide +kernel)
set_option maxRecDepth 20000 in
theorem lkl_x_chance : LK M_l.1.cls 91 M_x_chance.1 false := LK_p 4189 (by decide +kernel)
set_option maxRecDepth 20000 in
theorem lkl_m_chance : LK M_l.1.cls 95 M_m_chance.1 false := LK_p 7177 (by decide +kernel)
set_option maxRecDepth 20000 in
theorem lkl_x_line : LK M_l.1.cls 96 M_x_line.1 false := LK_p 4238 (by decide +kernel)
set_option maxRecDepth 20000 in
theorem lkl_m_line : LK M_l.1.cls 100 M_m_line.1 false := LK_p 7197 (by decide +kernel)
set_option maxRecDepth 20000 in
theorem lkl_x_ways : LK M_l.1.cls 101 M_x_ways.1 false := LK_p 5011 (by decide +kernel)
set_option maxRecDepth 20000 in
theorem lkl_m_ways : LK M_l.1.cls 104 M_m_ways.1 false := LK_p 7201 (by decide +kernel)
set_option maxRecDepth 20000 in
theorem lkl_x_may : LK M_l.1.cls 105 M_x_may.1 false := LK_p 5055 (by decide +kernel)
set_option maxRecDepth 20000 in
theorem lkl_m_may : LK M_l.1.cls 108 M_m_may.1 false := LK_p 7221 (by decide +kernel)
set_option maxRecDepth 20000 in
theorem lkl_x_ask : LK M_l.1.cls 109 M_x_ask.1 false := LK_p 5059 (by decide +kernel)
set_option maxRecDepth 20000 in
theorem lkl_m_ask : LK M_l.1.cls 112 M_m_ask.1 false := LK_p 7225 (by decide +kernel)
set_option maxRecDepth 20000 in
theorem lkl_x_fewest : LK M_l.1.cls 113 M_x_fewest.1 false := LK_p 5073 (by decide +kernel)
set_option maxRecDepth 20000 in
theorem lkl_m_fewest : LK M_l.1.cls 116 M_m_fewest.1 false := LK_p 7229 (by decide +kernel)
set_option maxRecDepth 20000 in
theorem lkl_x_third : LK M_l.1.cls 117 M_x_third.1 false := LK_p 5131 (by decide +kernel)
set_option maxRecDepth 20000 in
theorem lkl_m_third : LK M_l.1.cls 120 M_m_third.1 false := LK_p 8025 (by decide +kernel)
set_option maxRecDepth 20000 in
theorem lkl_x_left : LK M_l.1.cls 121 M_x_left.1 false := LK_p 5135 (by decide +kernel)
set_option maxRecDepth 20000 in
theorem lkl_m_left : LK M_l.1.cls 125 M_m_left.1 false := LK_p 8029 (by decide +kernel)
set_option maxRecDepth 20000 in
theorem lkl_x_thief : LK M_l.1.cls 126 M_x_thief.1 false := LK_p 5158 (by decide +kernel)
set_option maxRecDepth 20000 in
theorem lkl_m_thief : LK M_l.1.cls 129 M_m_thief.1 false := LK_p 8037 (by decide +kernel)
set_option maxRecDepth 20000 in
theorem lkl_x_seed : LK M_l.1.cls 130 M_x_seed.1 false := LK_p 5176 (by decide +kernel)
set_option maxRecDepth 20000 in
theorem lkl_m_seed : LK M_l.1.cls 133 M_m_seed.1 false := LK_p 8041 (by decide +kernel)
set_option maxRecDepth 20000 in
theorem lkl_x_days : LK M_l.1.cls 134 M_x_days.1 false := LK_p 5184 (by decide +kernel)
set_option maxRecDepth 20000 in
theorem lkl_m_days : LK M_l.1.cls 137 M_m_days.1 false := LK_p 8045 (by decide +kernel)
set_option maxRecDepth 20000 in
theorem lkl_x_image : LK M_l.1.cls 138 M_x_image.1 false := LK_p 5189 (by decide +kernel)
set_option maxRecDepth 20000 in
theorem lkl_m_image : LK M_l.1.cls 141 M_m_image.1 false := LK_p 8049 (by decide +kernel)
set_option maxRecDepth 20000 in
theorem lkl_x_back : LK M_l.1.cls 142 M_x_back.1 false := LK_p 5205 (by decide +kernel)
set_option maxRecDepth 20000 in
theorem lkl_m_back : LK M_l.1.cls 145 M_m_back.1 false := LK_p 8053 (by decide +kernel)
set_option maxRecDepth 20000 in
theorem lkl_x_about : LK M_l.1.cls 146 M_x_about.1 false := LK_p 5209 (by decide +kernel)
set_option maxRecDepth 20000 in
theorem lkl_m_about : LK M_l.1.cls 149 M_m_about.1 false := LK_p 8057 (by decide +kernel)
