def t_law0 : List (Nat × Instr × Nat) := [(16, .iconst 0, 1), (17, .istore_n 3, 1), (18, .iload_n 3, 1), (19, .aload_n 0, 1), (20, .arraylength, 1), (21, .bipush 6, 2), (23, .isub, 1), (24, .if_icmp .gt 1523, 3), (27, .aload_n 0, 1), (28, .iload_n 3, 1), (29, .iaload, 1), (30, .bipush 63, 2), (32, .iand, 1), (33, .tableswitch 1508 0 49 #[215, 248, 291, 324, 347, 410, 433, 466, 509, 532, 555, 588, 621, 644, 677, 700, 723, 736, 769, 792, 825, 848, 871, 894, 907, 940, 973, 996, 1019, 1042, 1065, 1088, 1101, 1134, 1167, 1200, 1233, 1256, 1269, 1292, 1315, 1338, 1361, 1394, 1407, 1421, 1435, 1458, 1471, 1494], 215), (248, .aload_n 1, 1), (249, .aload_n 0, 1), (250, .iload_n 3, 1), (251, .iconst 1, 1), (252, .iadd, 1), (253, .iaload, 1), (254, .aload_n 0, 1), (255, .iload_n 3, 1), (256, .iconst 2, 1), (257, .iadd, 1), (258, .iaload, 1), (259, .invokevirtual 13, 3), (262, .aload_n 2, 1), (263, .aload_n 0, 1), (264, .iload_n 3, 1), (265, .iconst 1, 1), (266, .iadd, 1), (267, .iaload, 1), (268, .aload_n 0, 1), (269, .iload_n 3, 1), (270, .iconst 2, 1), (271, .iadd, 1), (272, .iaload, 1), (273, .invokevirtual 17, 3), (276, .if_icmp .eq 1265, 3), (279, .iconst 0, 1), (280, .ireturn, 1), (281, .aload_n 1, 1), (282, .aload_n 0, 1), (283, .iload_n 3, 1), (284, .iconst 1, 1), (285, .iadd, 1), (286, .iaload, 1), (287, .aload_n 0, 1), (288, .iload_n 3, 1), (289, .iconst 2, 1), (290, .iadd, 1), (291, .iaload, 1), (292, .aload_n 0, 1), (293, .iload_n 3, 1), (294, .iconst 3, 1), (295, .iadd, 1), (296, .iaload, 1), (297, .invokevirtual 18, 3), (300, .aload_n 2, 1), (301, .aload_n 0, 1)]
set_option maxRecDepth 20000 in
theorem d_law0 : ∀ q ∈ t_law0, decode code q.1 = .ok q.2 := by decide +kernel
def t_law1 : List (Nat × Instr × Nat) := [(302, .iload_n 3, 1), (303, .iconst 1, 1), (304, .iadd, 1), (305, .iaload, 1), (306, .aload_n 0, 1), (307, .iload_n 3, 1), (308, .iconst 2, 1), (309, .iadd, 1), (310, .iaload, 1), (311, .aload_n 0, 1), (312, .iload_n 3, 1), (313, .iconst 3, 1), (314, .iadd, 1), (315, .iaload, 1), (316, .invokevirtual 22, 3), (319, .if_icmp .eq 1222, 3), (322, .iconst 0, 1), (323, .ireturn, 1), (324, .aload_n 1, 1), (325, .aload_n 0, 1), (326, .iload_n 3, 1), (327, .iconst 1, 1), (328, .iadd, 1), (329, .iaload, 1), (330, .aload_n 0, 1), (331, .iload_n 3, 1), (332, .iconst 2, 1), (333, .iadd, 1), (334, .iaload, 1), (335, .invokevirtual 23, 3), (338, .aload_n 2, 1), (339, .aload_n 0, 1), (340, .iload_n 3, 1), (341, .iconst 1, 1), (342, .iadd, 1), (343, .iaload, 1), (344, .aload_n 0, 1), (345, .iload_n 3, 1), (346, .iconst 2, 1), (347, .iadd, 1), (348, .iaload, 1), (349, .invokevirtual 26, 3), (352, .if_icmp .eq 1189, 3), (355, .iconst 0, 1), (356, .ireturn, 1), (357, .aload_n 1, 1), (358, .aload_n 0, 1), (359, .iload_n 3, 1), (360, .iconst 1, 1), (361, .iadd, 1), (362, .iaload, 1), (363, .invokevirtual 27, 3), (366, .aload_n 2, 1), (367, .aload_n 0, 1), (368, .iload_n 3, 1), (369, .iconst 1, 1), (370, .iadd, 1), (371, .iaload, 1), (372, .invokevirtual 31, 3), (375, .if_icmp .eq 1166, 3)]
set_option maxRecDepth 20000 in
theorem d_law1 : ∀ q ∈ t_law1, decode code q.1 = .ok q.2 := by decide +kernel
def t_law2 : List (Nat × Instr × Nat) := [(378, .iconst 0, 1), (379, .ireturn, 1), (380, .aload_n 1, 1), (381, .aload_n 0, 1), (382, .iload_n 3, 1), (383, .iconst 1, 1), (384, .iadd, 1), (385, .iaload, 1), (386, .aload_n 0, 1), (387, .iload_n 3, 1), (388, .iconst 2, 1), (389, .iadd, 1), (390, .iaload, 1), (391, .aload_n 0, 1), (392, .iload_n 3, 1), (393, .iconst 3, 1), (394, .iadd, 1), (395, .iaload, 1), (396, .aload_n 0, 1), (397, .iload_n 3, 1), (398, .iconst 4, 1), (399, .iadd, 1), (400, .iaload, 1), (401, .aload_n 0, 1), (402, .iload_n 3, 1), (403, .iconst 5, 1), (404, .iadd, 1), (405, .iaload, 1), (406, .invokevirtual 32, 3), (409, .aload_n 2, 1), (410, .aload_n 0, 1), (411, .iload_n 3, 1), (412, .iconst 1, 1), (413, .iadd, 1), (414, .iaload, 1), (415, .aload_n 0, 1), (416, .iload_n 3, 1), (417, .iconst 2, 1), (418, .iadd, 1), (419, .iaload, 1), (420, .aload_n 0, 1), (421, .iload_n 3, 1), (422, .iconst 3, 1), (423, .iadd, 1), (424, .iaload, 1), (425, .aload_n 0, 1), (426, .iload_n 3, 1), (427, .iconst 4, 1), (428, .iadd, 1), (429, .iaload, 1), (430, .aload_n 0, 1), (431, .iload_n 3, 1), (432, .iconst 5, 1), (433, .iadd, 1), (434, .iaload, 1), (435, .invokevirtual 36, 3), (438, .if_icmp .eq 1103, 3), (441, .iconst 0, 1), (442, .ireturn, 1), (443, .aload_n 1, 1)]
set_option maxRecDepth 20000 in
theorem d_law2 : ∀ q ∈ t_law2, decode code q.1 = .ok q.2 := by decide +kernel
def t_law3 : List (Nat × Instr × Nat) := [(444, .aload_n 0, 1), (445, .iload_n 3, 1), (446, .iconst 1, 1), (447, .iadd, 1), (448, .iaload, 1), (449, .invokevirtual 37, 3), (452, .aload_n 2, 1), (453, .aload_n 0, 1), (454, .iload_n 3, 1), (455, .iconst 1, 1), (456, .iadd, 1), (457, .iaload, 1), (458, .invokevirtual 40, 3), (461, .if_icmp .eq 1080, 3), (464, .iconst 0, 1), (465, .ireturn, 1), (466, .aload_n 1, 1), (467, .aload_n 0, 1), (468, .iload_n 3, 1), (469, .iconst 1, 1), (470, .iadd, 1), (471, .iaload, 1), (472, .aload_n 0, 1), (473, .iload_n 3, 1), (474, .iconst 2, 1), (475, .iadd, 1), (476, .iaload, 1), (477, .invokevirtual 41, 3), (480, .aload_n 2, 1), (481, .aload_n 0, 1), (482, .iload_n 3, 1), (483, .iconst 1, 1), (484, .iadd, 1), (485, .iaload, 1), (486, .aload_n 0, 1), (487, .iload_n 3, 1), (488, .iconst 2, 1), (489, .iadd, 1), (490, .iaload, 1), (491, .invokevirtual 44, 3), (494, .if_icmp .eq 1047, 3), (497, .iconst 0, 1), (498, .ireturn, 1), (499, .aload_n 1, 1), (500, .aload_n 0, 1), (501, .iload_n 3, 1), (502, .iconst 1, 1), (503, .iadd, 1), (504, .iaload, 1), (505, .aload_n 0, 1), (506, .iload_n 3, 1), (507, .iconst 2, 1), (508, .iadd, 1), (509, .iaload, 1), (510, .aload_n 0, 1), (511, .iload_n 3, 1), (512, .iconst 3, 1), (513, .iadd, 1), (514, .iaload, 1), (515, .invokevirtual 45, 3)]
set_option maxRecDepth 20000 in
theorem d_law3 : ∀ q ∈ t_law3, decode code q.1 = .ok q.2 := by decide +kernel
def t_law4 : List (Nat × Instr × Nat) := [(518, .aload_n 2, 1), (519, .aload_n 0, 1), (520, .iload_n 3, 1), (521, .iconst 1, 1), (522, .iadd, 1), (523, .iaload, 1), (524, .aload_n 0, 1), (525, .iload_n 3, 1), (526, .iconst 2, 1), (527, .iadd, 1), (528, .iaload, 1), (529, .aload_n 0, 1), (530, .iload_n 3, 1), (531, .iconst 3, 1), (532, .iadd, 1), (533, .iaload, 1), (534, .invokevirtual 48, 3), (537, .if_icmp .eq 1004, 3), (540, .iconst 0, 1), (541, .ireturn, 1), (542, .aload_n 1, 1), (543, .aload_n 0, 1), (544, .iload_n 3, 1), (545, .iconst 1, 1), (546, .iadd, 1), (547, .iaload, 1), (548, .invokevirtual 49, 3), (551, .aload_n 2, 1), (552, .aload_n 0, 1), (553, .iload_n 3, 1), (554, .iconst 1, 1), (555, .iadd, 1), (556, .iaload, 1), (557, .invokevirtual 52, 3), (560, .if_icmp .eq 981, 3), (563, .iconst 0, 1), (564, .ireturn, 1), (565, .aload_n 1, 1), (566, .aload_n 0, 1), (567, .iload_n 3, 1), (568, .iconst 1, 1), (569, .iadd, 1), (570, .iaload, 1), (571, .invokevirtual 53, 3), (574, .aload_n 2, 1), (575, .aload_n 0, 1), (576, .iload_n 3, 1), (577, .iconst 1, 1), (578, .iadd, 1), (579, .iaload, 1), (580, .invokevirtual 56, 3), (583, .if_icmp .eq 958, 3), (586, .iconst 0, 1), (587, .ireturn, 1), (588, .aload_n 1, 1), (589, .aload_n 0, 1), (590, .iload_n 3, 1), (591, .iconst 1, 1), (592, .iadd, 1), (593, .iaload, 1)]
set_option maxRecDepth 20000 in
theorem d_law4 : ∀ q ∈ t_law4, decode code q.1 = .ok q.2 := by decide +kernel
def t_law5 : List (Nat × Instr × Nat) := [(594, .aload_n 0, 1), (595, .iload_n 3, 1), (596, .iconst 2, 1), (597, .iadd, 1), (598, .iaload, 1), (599, .invokevirtual 57, 3), (602, .aload_n 2, 1), (603, .aload_n 0, 1), (604, .iload_n 3, 1), (605, .iconst 1, 1), (606, .iadd, 1), (607, .iaload, 1), (608, .aload_n 0, 1), (609, .iload_n 3, 1), (610, .iconst 2, 1), (611, .iadd, 1), (612, .iaload, 1), (613, .invokevirtual 60, 3), (616, .if_icmp .eq 925, 3), (619, .iconst 0, 1), (620, .ireturn, 1), (621, .aload_n 1, 1), (622, .aload_n 0, 1), (623, .iload_n 3, 1), (624, .iconst 1, 1), (625, .iadd, 1), (626, .iaload, 1), (627, .aload_n 0, 1), (628, .iload_n 3, 1), (629, .iconst 2, 1), (630, .iadd, 1), (631, .iaload, 1), (632, .invokevirtual 61, 3), (635, .aload_n 2, 1), (636, .aload_n 0, 1), (637, .iload_n 3, 1), (638, .iconst 1, 1), (639, .iadd, 1), (640, .iaload, 1), (641, .aload_n 0, 1), (642, .iload_n 3, 1), (643, .iconst 2, 1), (644, .iadd, 1), (645, .iaload, 1), (646, .invokevirtual 64, 3), (649, .if_icmp .eq 892, 3), (652, .iconst 0, 1), (653, .ireturn, 1), (654, .aload_n 1, 1), (655, .aload_n 0, 1), (656, .iload_n 3, 1), (657, .iconst 1, 1), (658, .iadd, 1), (659, .iaload, 1), (660, .invokevirtual 65, 3), (663, .aload_n 2, 1), (664, .aload_n 0, 1), (665, .iload_n 3, 1), (666, .iconst 1, 1), (667, .iadd, 1)]
set_option maxRecDepth 20000 in
theorem d_law5 : ∀ q ∈ t_law5, decode code q.1 = .ok q.2 := by decide +kernel
def t_law6 : List (Nat × Instr × Nat) := [(668, .iaload, 1), (669, .invokevirtual 68, 3), (672, .if_icmp .eq 869, 3), (675, .iconst 0, 1), (676, .ireturn, 1), (677, .aload_n 1, 1), (678, .aload_n 0, 1), (679, .iload_n 3, 1), (680, .iconst 1, 1), (681, .iadd, 1), (682, .iaload, 1), (683, .aload_n 0, 1), (684, .iload_n 3, 1), (685, .iconst 2, 1), (686, .iadd, 1), (687, .iaload, 1), (688, .invokevirtual 69, 3), (691, .aload_n 2, 1), (692, .aload_n 0, 1), (693, .iload_n 3, 1), (694, .iconst 1, 1), (695, .iadd, 1), (696, .iaload, 1), (697, .aload_n 0, 1), (698, .iload_n 3, 1), (699, .iconst 2, 1), (700, .iadd, 1), (701, .iaload, 1), (702, .invokevirtual 72, 3), (705, .if_icmp .eq 836, 3), (708, .iconst 0, 1), (709, .ireturn, 1), (710, .aload_n 1, 1), (711, .aload_n 0, 1), (712, .iload_n 3, 1), (713, .iconst 1, 1), (714, .iadd, 1), (715, .iaload, 1), (716, .invokevirtual 73, 3), (719, .aload_n 2, 1), (720, .aload_n 0, 1), (721, .iload_n 3, 1), (722, .iconst 1, 1), (723, .iadd, 1), (724, .iaload, 1), (725, .invokevirtual 76, 3), (728, .if_icmp .eq 813, 3), (731, .iconst 0, 1), (732, .ireturn, 1), (733, .aload_n 1, 1), (734, .aload_n 0, 1), (735, .iload_n 3, 1), (736, .iconst 1, 1), (737, .iadd, 1), (738, .iaload, 1), (739, .invokevirtual 77, 3), (742, .aload_n 2, 1), (743, .aload_n 0, 1), (744, .iload_n 3, 1), (745, .iconst 1, 1)]
set_option maxRecDepth 20000 in
theorem d_law6 : ∀ q ∈ t_law6, decode code q.1 = .ok q.2 := by decide +kernel
def t_law7 : List (Nat × Instr × Nat) := [(746, .iadd, 1), (747, .iaload, 1), (748, .invokevirtual 80, 3), (751, .if_icmp .eq 790, 3), (754, .iconst 0, 1), (755, .ireturn, 1), (756, .aload_n 1, 1), (757, .invokevirtual 81, 3), (760, .aload_n 2, 1), (761, .invokevirtual 85, 3), (764, .if_icmp .eq 777, 3), (767, .iconst 0, 1), (768, .ireturn, 1), (769, .aload_n 1, 1), (770, .aload_n 0, 1), (771, .iload_n 3, 1), (772, .iconst 1, 1), (773, .iadd, 1), (774, .iaload, 1), (775, .aload_n 0, 1), (776, .iload_n 3, 1), (777, .iconst 2, 1), (778, .iadd, 1), (779, .iaload, 1), (780, .invokevirtual 86, 3), (783, .aload_n 2, 1), (784, .aload_n 0, 1), (785, .iload_n 3, 1), (786, .iconst 1, 1), (787, .iadd, 1), (788, .iaload, 1), (789, .aload_n 0, 1), (790, .iload_n 3, 1), (791, .iconst 2, 1), (792, .iadd, 1), (793, .iaload, 1), (794, .invokevirtual 89, 3), (797, .if_icmp .eq 744, 3), (800, .iconst 0, 1), (801, .ireturn, 1), (802, .aload_n 1, 1), (803, .aload_n 0, 1), (804, .iload_n 3, 1), (805, .iconst 1, 1), (806, .iadd, 1), (807, .iaload, 1), (808, .invokevirtual 90, 3), (811, .aload_n 2, 1), (812, .aload_n 0, 1), (813, .iload_n 3, 1), (814, .iconst 1, 1), (815, .iadd, 1), (816, .iaload, 1), (817, .invokevirtual 93, 3), (820, .if_icmp .eq 721, 3), (823, .iconst 0, 1), (824, .ireturn, 1), (825, .aload_n 1, 1), (826, .aload_n 0, 1), (827, .iload_n 3, 1)]
set_option maxRecDepth 20000 in
theorem d_law7 : ∀ q ∈ t_law7, decode code q.1 = .ok q.2 := by decide +kernel
def t_law8 : List (Nat × Instr × Nat) := [(828, .iconst 1, 1), (829, .iadd, 1), (830, .iaload, 1), (831, .aload_n 0, 1), (832, .iload_n 3, 1), (833, .iconst 2, 1), (834, .iadd, 1), (835, .iaload, 1), (836, .invokevirtual 94, 3), (839, .aload_n 2, 1), (840, .aload_n 0, 1), (841, .iload_n 3, 1), (842, .iconst 1, 1), (843, .iadd, 1), (844, .iaload, 1), (845, .aload_n 0, 1), (846, .iload_n 3, 1), (847, .iconst 2, 1), (848, .iadd, 1), (849, .iaload, 1), (850, .invokevirtual 97, 3), (853, .if_icmp .eq 688, 3), (856, .iconst 0, 1), (857, .ireturn, 1), (858, .aload_n 1, 1), (859, .aload_n 0, 1), (860, .iload_n 3, 1), (861, .iconst 1, 1), (862, .iadd, 1), (863, .iaload, 1), (864, .invokevirtual 98, 3), (867, .aload_n 2, 1), (868, .aload_n 0, 1), (869, .iload_n 3, 1), (870, .iconst 1, 1), (871, .iadd, 1), (872, .iaload, 1), (873, .invokevirtual 101, 3), (876, .if_icmp .eq 665, 3), (879, .iconst 0, 1), (880, .ireturn, 1), (881, .aload_n 1, 1), (882, .aload_n 0, 1), (883, .iload_n 3, 1), (884, .iconst 1, 1), (885, .iadd, 1), (886, .iaload, 1), (887, .invokevirtual 102, 3), (890, .aload_n 2, 1), (891, .aload_n 0, 1), (892, .iload_n 3, 1), (893, .iconst 1, 1), (894, .iadd, 1), (895, .iaload, 1), (896, .invokevirtual 105, 3), (899, .if_icmp .eq 642, 3), (902, .iconst 0, 1), (903, .ireturn, 1), (904, .aload_n 1, 1), (905, .aload_n 0, 1)]
set_option maxRecDepth 20000 in
theorem d_law8 : ∀ q ∈ t_law8, decode code q.1 = .ok q.2 := by decide +kernel
def t_law9 : List (Nat × Instr × Nat) := [(906, .iload_n 3, 1), (907, .iconst 1, 1), (908, .iadd, 1), (909, .iaload, 1), (910, .invokevirtual 106, 3), (913, .aload_n 2, 1), (914, .aload_n 0, 1), (915, .iload_n 3, 1), (916, .iconst 1, 1), (917, .iadd, 1), (918, .iaload, 1), (919, .invokevirtual 109, 3), (922, .if_icmp .eq 619, 3), (925, .iconst 0, 1), (926, .ireturn, 1), (927, .aload_n 1, 1), (928, .invokevirtual 110, 3), (931, .aload_n 2, 1), (932, .invokevirtual 113, 3), (935, .if_icmp .eq 606, 3), (938, .iconst 0, 1), (939, .ireturn, 1), (940, .aload_n 1, 1), (941, .aload_n 0, 1), (942, .iload_n 3, 1), (943, .iconst 1, 1), (944, .iadd, 1), (945, .iaload, 1), (946, .aload_n 0, 1), (947, .iload_n 3, 1), (948, .iconst 2, 1), (949, .iadd, 1), (950, .iaload, 1), (951, .invokevirtual 114, 3), (954, .aload_n 2, 1), (955, .aload_n 0, 1), (956, .iload_n 3, 1), (957, .iconst 1, 1), (958, .iadd, 1), (959, .iaload, 1), (960, .aload_n 0, 1), (961, .iload_n 3, 1), (962, .iconst 2, 1), (963, .iadd, 1), (964, .iaload, 1), (965, .invokevirtual 117, 3), (968, .if_icmp .eq 573, 3), (971, .iconst 0, 1), (972, .ireturn, 1), (973, .aload_n 1, 1), (974, .aload_n 0, 1), (975, .iload_n 3, 1), (976, .iconst 1, 1), (977, .iadd, 1), (978, .iaload, 1), (979, .aload_n 0, 1), (980, .iload_n 3, 1), (981, .iconst 2, 1), (982, .iadd, 1), (983, .iaload, 1)]
set_option maxRecDepth 20000 in
theorem d_law9 : ∀ q ∈ t_law9, decode code q.1 = .ok q.2 := by decide +kernel
def t_law10 : List (Nat × Instr × Nat) := [(984, .invokevirtual 118, 3), (987, .aload_n 2, 1), (988, .aload_n 0, 1), (989, .iload_n 3, 1), (990, .iconst 1, 1), (991, .iadd, 1), (992, .iaload, 1), (993, .aload_n 0, 1), (994, .iload_n 3, 1), (995, .iconst 2, 1), (996, .iadd, 1), (997, .iaload, 1), (998, .invokevirtual 121, 3), (1001, .if_icmp .eq 540, 3), (1004, .iconst 0, 1), (1005, .ireturn, 1), (1006, .aload_n 1, 1), (1007, .aload_n 0, 1), (1008, .iload_n 3, 1), (1009, .iconst 1, 1), (1010, .iadd, 1), (1011, .iaload, 1), (1012, .invokevirtual 122, 3), (1015, .aload_n 2, 1), (1016, .aload_n 0, 1), (1017, .iload_n 3, 1), (1018, .iconst 1, 1), (1019, .iadd, 1), (1020, .iaload, 1), (1021, .invokevirtual 125, 3), (1024, .if_icmp .eq 517, 3), (1027, .iconst 0, 1), (1028, .ireturn, 1), (1029, .aload_n 1, 1), (1030, .aload_n 0, 1), (1031, .iload_n 3, 1), (1032, .iconst 1, 1), (1033, .iadd, 1), (1034, .iaload, 1), (1035, .invokevirtual 126, 3), (1038, .aload_n 2, 1), (1039, .aload_n 0, 1), (1040, .iload_n 3, 1), (1041, .iconst 1, 1), (1042, .iadd, 1), (1043, .iaload, 1), (1044, .invokevirtual 129, 3), (1047, .if_icmp .eq 494, 3), (1050, .iconst 0, 1), (1051, .ireturn, 1), (1052, .aload_n 1, 1), (1053, .aload_n 0, 1), (1054, .iload_n 3, 1), (1055, .iconst 1, 1), (1056, .iadd, 1), (1057, .iaload, 1), (1058, .invokevirtual 130, 3), (1061, .aload_n 2, 1), (1062, .aload_n 0, 1), (1063, .iload_n 3, 1)]
set_option maxRecDepth 20000 in
theorem d_law10 : ∀ q ∈ t_law10, decode code q.1 = .ok q.2 := by decide +kernel
def t_law11 : List (Nat × Instr × Nat) := [(1064, .iconst 1, 1), (1065, .iadd, 1), (1066, .iaload, 1), (1067, .invokevirtual 133, 3), (1070, .if_icmp .eq 471, 3), (1073, .iconst 0, 1), (1074, .ireturn, 1), (1075, .aload_n 1, 1), (1076, .aload_n 0, 1), (1077, .iload_n 3, 1), (1078, .iconst 1, 1), (1079, .iadd, 1), (1080, .iaload, 1), (1081, .invokevirtual 134, 3), (1084, .aload_n 2, 1), (1085, .aload_n 0, 1), (1086, .iload_n 3, 1), (1087, .iconst 1, 1), (1088, .iadd, 1), (1089, .iaload, 1), (1090, .invokevirtual 137, 3), (1093, .if_icmp .eq 448, 3), (1096, .iconst 0, 1), (1097, .ireturn, 1), (1098, .aload_n 1, 1), (1099, .aload_n 0, 1), (1100, .iload_n 3, 1), (1101, .iconst 1, 1), (1102, .iadd, 1), (1103, .iaload, 1), (1104, .invokevirtual 138, 3), (1107, .aload_n 2, 1), (1108, .aload_n 0, 1), (1109, .iload_n 3, 1), (1110, .iconst 1, 1), (1111, .iadd, 1), (1112, .iaload, 1), (1113, .invokevirtual 141, 3), (1116, .if_icmp .eq 425, 3), (1119, .iconst 0, 1), (1120, .ireturn, 1), (1121, .aload_n 1, 1), (1122, .invokevirtual 142, 3), (1125, .aload_n 2, 1), (1126, .invokevirtual 145, 3), (1129, .if_icmp .eq 412, 3), (1132, .iconst 0, 1), (1133, .ireturn, 1), (1134, .aload_n 1, 1), (1135, .aload_n 0, 1), (1136, .iload_n 3, 1), (1137, .iconst 1, 1), (1138, .iadd, 1), (1139, .iaload, 1), (1140, .aload_n 0, 1), (1141, .iload_n 3, 1), (1142, .iconst 2, 1), (1143, .iadd, 1), (1144, .iaload, 1), (1145, .invokevirtual 146, 3)]
set_option maxRecDepth 20000 in
theorem d_law11 : ∀ q ∈ t_law11, decode code q.1 = .ok q.2 := by decide +kernel
def t_law12 : List (Nat × Instr × Nat) := [(1148, .aload_n 2, 1), (1149, .aload_n 0, 1), (1150, .iload_n 3, 1), (1151, .iconst 1, 1), (1152, .iadd, 1), (1153, .iaload, 1), (1154, .aload_n 0, 1), (1155, .iload_n 3, 1), (1156, .iconst 2, 1), (1157, .iadd, 1), (1158, .iaload, 1), (1159, .invokevirtual 149, 3), (1162, .if_icmp .eq 379, 3), (1165, .iconst 0, 1), (1166, .ireturn, 1), (1167, .aload_n 1, 1), (1168, .aload_n 0, 1), (1169, .iload_n 3, 1), (1170, .iconst 1, 1), (1171, .iadd, 1), (1172, .iaload, 1), (1173, .aload_n 0, 1), (1174, .iload_n 3, 1), (1175, .iconst 2, 1), (1176, .iadd, 1), (1177, .iaload, 1), (1178, .invokevirtual 150, 3), (1181, .aload_n 2, 1), (1182, .aload_n 0, 1), (1183, .iload_n 3, 1), (1184, .iconst 1, 1), (1185, .iadd, 1), (1186, .iaload, 1), (1187, .aload_n 0, 1), (1188, .iload_n 3, 1), (1189, .iconst 2, 1), (1190, .iadd, 1), (1191, .iaload, 1), (1192, .invokevirtual 153, 3), (1195, .if_icmp .eq 346, 3), (1198, .iconst 0, 1), (1199, .ireturn, 1), (1200, .aload_n 1, 1), (1201, .aload_n 0, 1), (1202, .iload_n 3, 1), (1203, .iconst 1, 1), (1204, .iadd, 1), (1205, .iaload, 1), (1206, .aload_n 0, 1), (1207, .iload_n 3, 1), (1208, .iconst 2, 1), (1209, .iadd, 1), (1210, .iaload, 1), (1211, .invokevirtual 154, 3), (1214, .aload_n 2, 1), (1215, .aload_n 0, 1), (1216, .iload_n 3, 1), (1217, .iconst 1, 1), (1218, .iadd, 1), (1219, .iaload, 1)]
set_option maxRecDepth 20000 in
theorem d_law12 : ∀ q ∈ t_law12, decode code q.1 = .ok q.2 := by decide +kernel
def t_law13 : List (Nat × Instr × Nat) := [(1220, .aload_n 0, 1), (1221, .iload_n 3, 1), (1222, .iconst 2, 1), (1223, .iadd, 1), (1224, .iaload, 1), (1225, .invokevirtual 157, 3), (1228, .if_icmp .eq 313, 3), (1231, .iconst 0, 1), (1232, .ireturn, 1), (1233, .aload_n 1, 1), (1234, .aload_n 0, 1), (1235, .iload_n 3, 1), (1236, .iconst 1, 1), (1237, .iadd, 1), (1238, .iaload, 1), (1239, .aload_n 0, 1), (1240, .iload_n 3, 1), (1241, .iconst 2, 1), (1242, .iadd, 1), (1243, .iaload, 1), (1244, .invokevirtual 158, 3), (1247, .aload_n 2, 1), (1248, .aload_n 0, 1), (1249, .iload_n 3, 1), (1250, .iconst 1, 1), (1251, .iadd, 1), (1252, .iaload, 1), (1253, .aload_n 0, 1), (1254, .iload_n 3, 1), (1255, .iconst 2, 1), (1256, .iadd, 1), (1257, .iaload, 1), (1258, .invokevirtual 161, 3), (1261, .if_icmp .eq 280, 3), (1264, .iconst 0, 1), (1265, .ireturn, 1), (1266, .aload_n 1, 1), (1267, .aload_n 0, 1), (1268, .iload_n 3, 1), (1269, .iconst 1, 1), (1270, .iadd, 1), (1271, .iaload, 1), (1272, .invokevirtual 162, 3), (1275, .aload_n 2, 1), (1276, .aload_n 0, 1), (1277, .iload_n 3, 1), (1278, .iconst 1, 1), (1279, .iadd, 1), (1280, .iaload, 1), (1281, .invokevirtual 165, 3), (1284, .if_icmp .eq 257, 3), (1287, .iconst 0, 1), (1288, .ireturn, 1), (1289, .aload_n 1, 1), (1290, .invokevirtual 166, 3), (1293, .aload_n 2, 1), (1294, .invokevirtual 169, 3), (1297, .if_icmp .eq 244, 3), (1300, .iconst 0, 1), (1301, .ireturn, 1)]
set_option maxRecDepth 20000 in
theorem d_law13 : ∀ q ∈ t_law13, decode code q.1 = .ok q.2 := by decide +kernel
def t_law14 : List (Nat × Instr × Nat) := [(1302, .aload_n 1, 1), (1303, .aload_n 0, 1), (1304, .iload_n 3, 1), (1305, .iconst 1, 1), (1306, .iadd, 1), (1307, .iaload, 1), (1308, .invokevirtual 170, 3), (1311, .aload_n 2, 1), (1312, .aload_n 0, 1), (1313, .iload_n 3, 1), (1314, .iconst 1, 1), (1315, .iadd, 1), (1316, .iaload, 1), (1317, .invokevirtual 173, 3), (1320, .if_icmp .eq 221, 3), (1323, .iconst 0, 1), (1324, .ireturn, 1), (1325, .aload_n 1, 1), (1326, .aload_n 0, 1), (1327, .iload_n 3, 1), (1328, .iconst 1, 1), (1329, .iadd, 1), (1330, .iaload, 1), (1331, .invokevirtual 174, 3), (1334, .aload_n 2, 1), (1335, .aload_n 0, 1), (1336, .iload_n 3, 1), (1337, .iconst 1, 1), (1338, .iadd, 1), (1339, .iaload, 1), (1340, .invokevirtual 177, 3), (1343, .if_icmp .eq 198, 3), (1346, .iconst 0, 1), (1347, .ireturn, 1), (1348, .aload_n 1, 1), (1349, .aload_n 0, 1), (1350, .iload_n 3, 1), (1351, .iconst 1, 1), (1352, .iadd, 1), (1353, .iaload, 1), (1354, .invokevirtual 178, 3), (1357, .aload_n 2, 1), (1358, .aload_n 0, 1), (1359, .iload_n 3, 1), (1360, .iconst 1, 1), (1361, .iadd, 1), (1362, .iaload, 1), (1363, .invokevirtual 181, 3), (1366, .if_icmp .eq 175, 3), (1369, .iconst 0, 1), (1370, .ireturn, 1), (1371, .aload_n 1, 1), (1372, .aload_n 0, 1), (1373, .iload_n 3, 1), (1374, .iconst 1, 1), (1375, .iadd, 1), (1376, .iaload, 1), (1377, .invokevirtual 182, 3), (1380, .aload_n 2, 1), (1381, .aload_n 0, 1)]
set_option maxRecDepth 20000 in
theorem d_law14 : ∀ q ∈ t_law14, decode code q.1 = .ok q.2 := by decide +kernel
def t_law15 : List (Nat × Instr × Nat) := [(1382, .iload_n 3, 1), (1383, .iconst 1, 1), (1384, .iadd, 1), (1385, .iaload, 1), (1386, .invokevirtual 185, 3), (1389, .if_icmp .eq 152, 3), (1392, .iconst 0, 1), (1393, .ireturn, 1), (1394, .aload_n 1, 1), (1395, .aload_n 0, 1), (1396, .iload_n 3, 1), (1397, .iconst 1, 1), (1398, .iadd, 1), (1399, .iaload, 1), (1400, .aload_n 0, 1), (1401, .iload_n 3, 1), (1402, .iconst 2, 1), (1403, .iadd, 1), (1404, .iaload, 1), (1405, .invokevirtual 186, 3), (1408, .aload_n 2, 1), (1409, .aload_n 0, 1), (1410, .iload_n 3, 1), (1411, .iconst 1, 1), (1412, .iadd, 1), (1413, .iaload, 1), (1414, .aload_n 0, 1), (1415, .iload_n 3, 1), (1416, .iconst 2, 1), (1417, .iadd, 1), (1418, .iaload, 1), (1419, .invokevirtual 189, 3), (1422, .if_icmp .eq 119, 3), (1425, .iconst 0, 1), (1426, .ireturn, 1), (1427, .aload_n 1, 1), (1428, .invokevirtual 190, 3), (1431, .aload_n 2, 1), (1432, .invokevirtual 193, 3), (1435, .if_icmp .eq 106, 3), (1438, .iconst 0, 1), (1439, .ireturn, 1), (1440, .aload_n 1, 1), (1441, .invokevirtual 194, 3), (1444, .aload_n 2, 1), (1445, .invokevirtual 198, 3), (1448, .lcmp, 1), (1449, .ifCond .eq 92, 3), (1452, .iconst 0, 1), (1453, .ireturn, 1), (1454, .aload_n 1, 1), (1455, .invokevirtual 199, 3), (1458, .aload_n 2, 1), (1459, .invokevirtual 202, 3), (1462, .lcmp, 1), (1463, .ifCond .eq 78, 3), (1466, .iconst 0, 1), (1467, .ireturn, 1), (1468, .aload_n 1, 1), (1469, .aload_n 0, 1)]
set_option maxRecDepth 20000 in
theorem d_law15 : ∀ q ∈ t_law15, decode code q.1 = .ok q.2 := by decide +kernel
def t_law16 : List (Nat × Instr × Nat) := [(1470, .iload_n 3, 1), (1471, .iconst 1, 1), (1472, .iadd, 1), (1473, .iaload, 1), (1474, .invokevirtual 203, 3), (1477, .aload_n 2, 1), (1478, .aload_n 0, 1), (1479, .iload_n 3, 1), (1480, .iconst 1, 1), (1481, .iadd, 1), (1482, .iaload, 1), (1483, .invokevirtual 206, 3), (1486, .if_icmp .eq 55, 3), (1489, .iconst 0, 1), (1490, .ireturn, 1), (1491, .aload_n 1, 1), (1492, .invokevirtual 207, 3), (1495, .aload_n 2, 1), (1496, .invokevirtual 210, 3), (1499, .if_icmp .eq 42, 3), (1502, .iconst 0, 1), (1503, .ireturn, 1), (1504, .aload_n 1, 1), (1505, .aload_n 0, 1), (1506, .iload_n 3, 1), (1507, .iconst 1, 1), (1508, .iadd, 1), (1509, .iaload, 1), (1510, .invokevirtual 211, 3), (1513, .aload_n 2, 1), (1514, .aload_n 0, 1), (1515, .iload_n 3, 1), (1516, .iconst 1, 1), (1517, .iadd, 1), (1518, .iaload, 1), (1519, .invokevirtual 214, 3), (1522, .if_icmp .eq 19, 3), (1525, .iconst 0, 1), (1526, .ireturn, 1), (1527, .aload_n 1, 1), (1528, .invokevirtual 215, 3), (1531, .aload_n 2, 1), (1532, .invokevirtual 218, 3), (1535, .lcmp, 1), (1536, .ifCond .eq 5, 3), (1539, .iconst 0, 1), (1540, .ireturn, 1), (1541, .iinc 3 6, 3), (1544, .goto (-1526), 3), (1547, .iconst 1, 1), (1548, .ireturn, 1)]
set_option maxRecDepth 20000 in
theorem d_law16 : ∀ q ∈ t_law16, decode code q.1 = .ok q.2 := by decide +kernel
theorem Z_sld {x : CX} {own : String} {cc : ByteArray} {n d pc : Nat} {ls : LV} {st : List AV} {w : Wd} {b L : Nat} {sc : Nat → Int32} {j : Int32} (hC : Cx x own cc n d) (hX : va_X b L sc (xs x) (xs x).heap) (hbl : b < (xs x).heap.size) (hbA : ¬ aG (xG x) b) (he : (xG x).2.2 51 0 = b) (hin : vp_in j L) (hd : decode cc pc = .ok (.iaload, 1)) (pc' : Nat) (hp : pc + 1 = pc') (k : Z x pc' ls (vi (sc j.toNatClampNeg) :: st) w) : Z x pc ls (vi j :: vr 51 0 :: st) w := fun H locs la hl hP hS => by
  show W _ _ _ _ _ _ _ _ _ _ _ _ _ _ _ (F0 _ _ _ (.int j :: .ref ((xG x).2.2 51 0) :: st.map (cv (xG x))))
  rw [he]
  refine va_sld hC.1 hC.2.1 hX hbl hbA hS hin hd ?_
  subst hp; exact k H locs la hl hP hS
theorem Z_slen {x : CX} {own : String} {cc : ByteArray} {n d pc : Nat} {ls : LV} {st : List AV} {w : Wd} {b L : Nat} {sc : Nat → Int32} (hC : Cx x own cc n d) (hX : va_X b L sc (xs x) (xs x).heap) (hbl : b < (xs x).heap.size) (hbA : ¬ aG (xG x) b) (he : (xG x).2.2 51 0 = b) (hd : decode cc pc = .ok (.arraylength, 1)) (pc' : Nat) (hp : pc + 1 = pc') (k : Z x pc' ls (vi (Int32.ofNat L) :: st) w) : Z x pc ls (vr 51 0 :: st) w := fun H locs la hl hP hS => by
  show W _ _ _ _ _ _ _ _ _ _ _ _ _ _ _ (F0 _ _ _ (.ref ((xG x).2.2 51 0) :: st.map (cv (xG x))))
  rw [he]
  refine va_slen hC.1 hC.2.1 hX hbl hbA hS hd ?_
  subst hp; exact k H locs la hl hP hS
theorem lg_cmp_self (r : Int64) : lg_cmp r r = 0 := by unfold lg_cmp; simp
def Ok_row (N : Nat) (Inv : Wd → Prop) : Prop := ∀ (a1 a2 : Int32) (w : Wd), Inv w → ∃ (r : Int32) (w1 w2 : Wd), f_X4_row N a1 a2 w = some (r, w1) ∧ f_X5_row N a1 a2 w1 = some (r, w2) ∧ Inv w2
set_option maxRecDepth 20000 in
set_option maxHeartbeats 4000000 in
theorem law_c0 {x : CX} {b L : Nat} {sc : Nat → Int32} {Inv : Wd → Prop} {N : Nat} (hC : Cx x RL code 4 30) (hX : va_X b L sc (xs x) (xs x).heap) (hbl : b < (xs x).heap.size) (hbA : ¬ aG (xG x) b) (he : (xG x).2.2 51 0 = b) (Hk : Ok_row N Inv) {v : Int32} (i1 : vp_in (v + 1) L) (i2 : vp_in (v + 2) L) (ke : ∀ w, Inv w → Z x 1541 [some (vr 51 0), some (vr 0 0), some (vr 5 0), some (vi v)] [] w) (w : Wd) (hI : Inv w) : Z x 248 [some (vr 51 0), some (vr 0 0), some (vr 5 0), some (vi v)] [] w := by
  obtain ⟨r, w1, w2, h1, h2, hI2⟩ := Hk (sc (v + 1).toNatClampNeg) (sc (v + 2).toNatClampNeg) w hI
  refine Z_aload_n hC (dk d_law0 14 rfl) 249 rfl rfl rfl ?_
  refine Z_aload_n hC (dk d_law0 15 rfl) 250 rfl rfl rfl ?_
  refine Z_iload_n hC (dk d_law0 16 rfl) 251 rfl rfl rfl ?_
  refine Z_iconst (v := 1) hC (dk d_law0 17 rfl) 252 rfl (by decide) ?_
  refine Z_iadd hC (dk d_law0 18 rfl) 253 rfl ?_
  refine Z_sld hC hX hbl hbA he i1 (dk d_law0 19 rfl) 254 rfl ?_
  refine Z_aload_n hC (dk d_law0 20 rfl) 255 rfl rfl rfl ?_
  refine Z_iload_n hC (dk d_law0 21 rfl) 256 rfl rfl rfl ?_
  refine Z_iconst (v := 2) hC (dk d_law0 22 rfl) 257 rfl (by decide) ?_
  refine Z_iadd hC (dk d_law0 23 rfl) 258 rfl ?_
  refine Z_sld hC hX hbl hbA he i2 (dk d_law0 24 rfl) 259 rfl ?_
  refine K_L_13 [vi (sc (v + 1).toNatClampNeg), vi (sc (v + 2).toNatClampNeg)] hC m_0 (s_X4_row (xG x) (xl x) N (sc (v + 1).toNatClampNeg) (sc (v + 2).toNatClampNeg) w (r, w1) h1) (Nat.le_of_ble_eq_true rfl) rfl rfl rfl (Nat.le_of_ble_eq_true rfl) (dk d_law0 25 rfl) 262 rfl ?_
  refine Z_aload_n hC (dk d_law0 26 rfl) 263 rfl rfl rfl ?_
  refine Z_aload_n hC (dk d_law0 27 rfl) 264 rfl rfl rfl ?_
  refine Z_iload_n hC (dk d_law0 28 rfl) 265 rfl rfl rfl ?_
  refine Z_iconst (v := 1) hC (dk d_law0 29 rfl) 266 rfl (by decide) ?_
  refine Z_iadd hC (dk d_law0 30 rfl) 267 rfl ?_
  refine Z_sld hC hX hbl hbA he i1 (dk d_law0 31 rfl) 268 rfl ?_
  refine Z_aload_n hC (dk d_law0 32 rfl) 269 rfl rfl rfl ?_
  refine Z_iload_n hC (dk d_law0 33 rfl) 270 rfl rfl rfl ?_
  refine Z_iconst (v := 2) hC (dk d_law0 34 rfl) 271 rfl (by decide) ?_
  refine Z_iadd hC (dk d_law0 35 rfl) 272 rfl ?_
  refine Z_sld hC hX hbl hbA he i2 (dk d_law0 36 rfl) 273 rfl ?_
  refine K_L_17 [vi (sc (v + 1).toNatClampNeg), vi (sc (v + 2).toNatClampNeg)] hC m_5 (s_X5_row (xG x) (xl x) N (sc (v + 1).toNatClampNeg) (sc (v + 2).toNatClampNeg) w1 (r, w2) h2) (Nat.le_of_ble_eq_true rfl) rfl rfl rfl (Nat.le_of_ble_eq_true rfl) (dk d_law0 37 rfl) 276 rfl ?_
  refine Z_icmp_eq hC (dk d_law0 38 rfl) 279 1541 rfl (by decide) (fun c => ?_) (fun c => absurd rfl c)
  exact ke w2 hI2
def Ok_lay (N : Nat) (Inv : Wd → Prop) : Prop := ∀ (a1 a2 a3 : Int32) (w : Wd), Inv w → ∃ (r : Int32) (w1 w2 : Wd), f_X4_lay N a1 a2 a3 w = some (r, w1) ∧ f_X5_lay N a1 a2 a3 w1 = some (r, w2) ∧ Inv w2
set_option maxRecDepth 20000 in
set_option maxHeartbeats 4000000 in
theorem law_c1 {x : CX} {b L : Nat} {sc : Nat → Int32} {Inv : Wd → Prop} {N : Nat} (hC : Cx x RL code 4 30) (hX : va_X b L sc (xs x) (xs x).heap) (hbl : b < (xs x).heap.size) (hbA : ¬ aG (xG x) b) (he : (xG x).2.2 51 0 = b) (Hk : Ok_lay N Inv) {v : Int32} (i1 : vp_in (v + 1) L) (i2 : vp_in (v + 2) L) (i3 : vp_in (v + 3) L) (ke : ∀ w, Inv w → Z x 1541 [some (vr 51 0), some (vr 0 0), some (vr 5 0), some (vi v)] [] w) (w : Wd) (hI : Inv w) : Z x 281 [some (vr 51 0), some (vr 0 0), some (vr 5 0), some (vi v)] [] w := by
  obtain ⟨r, w1, w2, h1, h2, hI2⟩ := Hk (sc (v + 1).toNatClampNeg) (sc (v + 2).toNatClampNeg) (sc (v + 3).toNatClampNeg) w hI
  refine Z_aload_n hC (dk d_law0 41 rfl) 282 rfl rfl rfl ?_
  refine Z_aload_n hC (dk d_law0 42 rfl) 283 rfl rfl rfl ?_
  refine Z_iload_n hC (dk d_law0 43 rfl) 284 rfl rfl rfl ?_
  refine Z_iconst (v := 1) hC (dk d_law0 44 rfl) 285 rfl (by decide) ?_
  refine Z_iadd hC (dk d_law0 45 rfl) 286 rfl ?_
  refine Z_sld hC hX hbl hbA he i1 (dk d_law0 46 rfl) 287 rfl ?_
  refine Z_aload_n hC (dk d_law0 47 rfl) 288 rfl rfl rfl ?_
  refine Z_iload_n hC (dk d_law0 48 rfl) 289 rfl rfl rfl ?_
  refine Z_iconst (v := 2) hC (dk d_law0 49 rfl) 290 rfl (by decide) ?_
  refine Z_iadd hC (dk d_law0 50 rfl) 291 rfl ?_
  refine Z_sld hC hX hbl hbA he i2 (dk d_law0 51 rfl) 292 rfl ?_
  refine Z_aload_n hC (dk d_law0 52 rfl) 293 rfl rfl rfl ?_
  refine Z_iload_n hC (dk d_law0 53 rfl) 294 rfl rfl rfl ?_
  refine Z_iconst (v := 3) hC (dk d_law0 54 rfl) 295 rfl (by decide) ?_
  refine Z_iadd hC (dk d_law0 55 rfl) 296 rfl ?_
  refine Z_sld hC hX hbl hbA he i3 (dk d_law0 56 rfl) 297 rfl ?_
  refine K_L_18 [vi (sc (v + 1).toNatClampNeg), vi (sc (v + 2).toNatClampNeg), vi (sc (v + 3).toNatClampNeg)] hC m_0 (s_X4_lay (xG x) (xl x) N (sc (v + 1).toNatClampNeg) (sc (v + 2).toNatClampNeg) (sc (v + 3).toNatClampNeg) w (r, w1) h1) (Nat.le_of_ble_eq_true rfl) rfl rfl rfl (Nat.le_of_ble_eq_true rfl) (dk d_law0 57 rfl) 300 rfl ?_
  refine Z_aload_n hC (dk d_law0 58 rfl) 301 rfl rfl rfl ?_
  refine Z_aload_n hC (dk d_law0 59 rfl) 302 rfl rfl rfl ?_
  refine Z_iload_n hC (dk d_law1 0 rfl) 303 rfl rfl rfl ?_
  refine Z_iconst (v := 1) hC (dk d_law1 1 rfl) 304 rfl (by decide) ?_
  refine Z_iadd hC (dk d_law1 2 rfl) 305 rfl ?_
  refine Z_sld hC hX hbl hbA he i1 (dk d_law1 3 rfl) 306 rfl ?_
  refine Z_aload_n hC (dk d_law1 4 rfl) 307 rfl rfl rfl ?_
  refine Z_iload_n hC (dk d_law1 5 rfl) 308 rfl rfl rfl ?_
  refine Z_iconst (v := 2) hC (dk d_law1 6 rfl) 309 rfl (by decide) ?_
  refine Z_iadd hC (dk d_law1 7 rfl) 310 rfl ?_
  refine Z_sld hC hX hbl hbA he i2 (dk d_law1 8 rfl) 311 rfl ?_
  refine Z_aload_n hC (dk d_law1 9 rfl) 312 rfl rfl rfl ?_
  refine Z_iload_n hC (dk d_law1 10 rfl) 313 rfl rfl rfl ?_
  refine Z_iconst (v := 3) hC (dk d_law1 11 rfl) 314 rfl (by decide) ?_
  refine Z_iadd hC (dk d_law1 12 rfl) 315 rfl ?_
  refine Z_sld hC hX hbl hbA he i3 (dk d_law1 13 rfl) 316 rfl ?_
  refine K_L_22 [vi (sc (v + 1).toNatClampNeg), vi (sc (v + 2).toNatClampNeg), vi (sc (v + 3).toNatClampNeg)] hC m_5 (s_X5_lay (xG x) (xl x) N (sc (v + 1).toNatClampNeg) (sc (v + 2).toNatClampNeg) (sc (v + 3).toNatClampNeg) w1 (r, w2) h2) (Nat.le_of_ble_eq_true rfl) rfl rfl rfl (Nat.le_of_ble_eq_true rfl) (dk d_law1 14 rfl) 319 rfl ?_
  refine Z_icmp_eq hC (dk d_law1 15 rfl) 322 1541 rfl (by decide) (fun c => ?_) (fun c => absurd rfl c)
  exact ke w2 hI2
def Ok_at (N : Nat) (Inv : Wd → Prop) : Prop := ∀ (a1 a2 : Int32) (w : Wd), Inv w → ∃ (r : Int32) (w1 w2 : Wd), f_X4_at N a1 a2 w = some (r, w1) ∧ f_X5_at N a1 a2 w1 = some (r, w2) ∧ Inv w2
set_option maxRecDepth 20000 in
set_option maxHeartbeats 4000000 in
theorem law_c2 {x : CX} {b L : Nat} {sc : Nat → Int32} {Inv : Wd → Prop} {N : Nat} (hC : Cx x RL code 4 30) (hX : va_X b L sc (xs x) (xs x).heap) (hbl : b < (xs x).heap.size) (hbA : ¬ aG (xG x) b) (he : (xG x).2.2 51 0 = b) (Hk : Ok_at N Inv) {v : Int32} (i1 : vp_in (v + 1) L) (i2 : vp_in (v + 2) L) (ke : ∀ w, Inv w → Z x 1541 [some (vr 51 0), some (vr 0 0), some (vr 5 0), some (vi v)] [] w) (w : Wd) (hI : Inv w) : Z x 324 [some (vr 51 0), some (vr 0 0), some (vr 5 0), some (vi v)] [] w := by
  obtain ⟨r, w1, w2, h1, h2, hI2⟩ := Hk (sc (v + 1).toNatClampNeg) (sc (v + 2).toNatClampNeg) w hI
  refine Z_aload_n hC (dk d_law1 18 rfl) 325 rfl rfl rfl ?_
  refine Z_aload_n hC (dk d_law1 19 rfl) 326 rfl rfl rfl ?_
  refine Z_iload_n hC (dk d_law1 20 rfl) 327 rfl rfl rfl ?_
  refine Z_iconst (v := 1) hC (dk d_law1 21 rfl) 328 rfl (by decide) ?_
  refine Z_iadd hC (dk d_law1 22 rfl) 329 rfl ?_
  refine Z_sld hC hX hbl hbA he i1 (dk d_law1 23 rfl) 330 rfl ?_
  refine Z_aload_n hC (dk d_law1 24 rfl) 331 rfl rfl rfl ?_
  refine Z_iload_n hC (dk d_law1 25 rfl) 332 rfl rfl rfl ?_
  refine Z_iconst (v := 2) hC (dk d_law1 26 rfl) 333 rfl (by decide) ?_
  refine Z_iadd hC (dk d_law1 27 rfl) 334 rfl ?_
  refine Z_sld hC hX hbl hbA he i2 (dk d_law1 28 rfl) 335 rfl ?_
  refine K_L_23 [vi (sc (v + 1).toNatClampNeg), vi (sc (v + 2).toNatClampNeg)] hC m_0 (s_X4_at (xG x) (xl x) N (sc (v + 1).toNatClampNeg) (sc (v + 2).toNatClampNeg) w (r, w1) h1) (Nat.le_of_ble_eq_true rfl) rfl rfl rfl (Nat.le_of_ble_eq_true rfl) (dk d_law1 29 rfl) 338 rfl ?_
  refine Z_aload_n hC (dk d_law1 30 rfl) 339 rfl rfl rfl ?_
  refine Z_aload_n hC (dk d_law1 31 rfl) 340 rfl rfl rfl ?_
  refine Z_iload_n hC (dk d_law1 32 rfl) 341 rfl rfl rfl ?_
  refine Z_iconst (v := 1) hC (dk d_law1 33 rfl) 342 rfl (by decide) ?_
  refine Z_iadd hC (dk d_law1 34 rfl) 343 rfl ?_
  refine Z_sld hC hX hbl hbA he i1 (dk d_law1 35 rfl) 344 rfl ?_
  refine Z_aload_n hC (dk d_law1 36 rfl) 345 rfl rfl rfl ?_
  refine Z_iload_n hC (dk d_law1 37 rfl) 346 rfl rfl rfl ?_
  refine Z_iconst (v := 2) hC (dk d_law1 38 rfl) 347 rfl (by decide) ?_
  refine Z_iadd hC (dk d_law1 39 rfl) 348 rfl ?_
  refine Z_sld hC hX hbl hbA he i2 (dk d_law1 40 rfl) 349 rfl ?_
  refine K_L_26 [vi (sc (v + 1).toNatClampNeg), vi (sc (v + 2).toNatClampNeg)] hC m_5 (s_X5_at (xG x) (xl x) N (sc (v + 1).toNatClampNeg) (sc (v + 2).toNatClampNeg) w1 (r, w2) h2) (Nat.le_of_ble_eq_true rfl) rfl rfl rfl (Nat.le_of_ble_eq_true rfl) (dk d_law1 41 rfl) 352 rfl ?_
  refine Z_icmp_eq hC (dk d_law1 42 rfl) 355 1541 rfl (by decide) (fun c => ?_) (fun c => absurd rfl c)
  exact ke w2 hI2
def Ok_tear (N : Nat) (Inv : Wd → Prop) : Prop := ∀ (a1 : Int32) (w : Wd), Inv w → ∃ (r : Int32) (w1 w2 : Wd), f_X4_tear N a1 w = some (r, w1) ∧ f_X5_tear N a1 w1 = some (r, w2) ∧ Inv w2
set_option maxRecDepth 20000 in
set_option maxHeartbeats 4000000 in
theorem law_c3 {x : CX} {b L : Nat} {sc : Nat → Int32} {Inv : Wd → Prop} {N : Nat} (hC : Cx x RL code 4 30) (hX : va_X b L sc (xs x) (xs x).heap) (hbl : b < (xs x).heap.size) (hbA : ¬ aG (xG x) b) (he : (xG x).2.2 51 0 = b) (Hk : Ok_tear N Inv) {v : Int32} (i1 : vp_in (v + 1) L) (ke : ∀ w, Inv w → Z x 1541 [some (vr 51 0), some (vr 0 0), some (vr 5 0), some (vi v)] [] w) (w : Wd) (hI : Inv w) : Z x 357 [some (vr 51 0), some (vr 0 0), some (vr 5 0), some (vi v)] [] w := by
  obtain ⟨r, w1, w2, h1, h2, hI2⟩ := Hk (sc (v + 1).toNatClampNeg) w hI
  refine Z_aload_n hC (dk d_law1 45 rfl) 358 rfl rfl rfl ?_
  refine Z_aload_n hC (dk d_law1 46 rfl) 359 rfl rfl rfl ?_
  refine Z_iload_n hC (dk d_law1 47 rfl) 360 rfl rfl rfl ?_
  refine Z_iconst (v := 1) hC (dk d_law1 48 rfl) 361 rfl (by decide) ?_
  refine Z_iadd hC (dk d_law1 49 rfl) 362 rfl ?_
  refine Z_sld hC hX hbl hbA he i1 (dk d_law1 50 rfl) 363 rfl ?_
  refine K_L_27 [vi (sc (v + 1).toNatClampNeg)] hC m_0 (s_X4_tear (xG x) (xl x) N (sc (v + 1).toNatClampNeg) w (r, w1) h1) (Nat.le_of_ble_eq_true rfl) rfl rfl rfl (Nat.le_of_ble_eq_true rfl) (dk d_law1 51 rfl) 366 rfl ?_
  refine Z_aload_n hC (dk d_law1 52 rfl) 367 rfl rfl rfl ?_
  refine Z_aload_n hC (dk d_law1 53 rfl) 368 rfl rfl rfl ?_
  refine Z_iload_n hC (dk d_law1 54 rfl) 369 rfl rfl rfl ?_
  refine Z_iconst (v := 1) hC (dk d_law1 55 rfl) 370 rfl (by decide) ?_
  refine Z_iadd hC (dk d_law1 56 rfl) 371 rfl ?_
  refine Z_sld hC hX hbl hbA he i1 (dk d_law1 57 rfl) 372 rfl ?_
  refine K_L_31 [vi (sc (v + 1).toNatClampNeg)] hC m_5 (s_X5_tear (xG x) (xl x) N (sc (v + 1).toNatClampNeg) w1 (r, w2) h2) (Nat.le_of_ble_eq_true rfl) rfl rfl rfl (Nat.le_of_ble_eq_true rfl) (dk d_law1 58 rfl) 375 rfl ?_
  refine Z_icmp_eq hC (dk d_law1 59 rfl) 378 1541 rfl (by decide) (fun c => ?_) (fun c => absurd rfl c)
  exact ke w2 hI2
def Ok_copy (N : Nat) (Inv : Wd → Prop) : Prop := ∀ (a1 a2 a3 a4 a5 : Int32) (w : Wd), Inv w → ∃ (r : Int32) (w1 w2 : Wd), f_X4_copy N a1 a2 a3 a4 a5 w = some (r, w1) ∧ f_X5_copy N a1 a2 a3 a4 a5 w1 = some (r, w2) ∧ Inv w2
set_option maxRecDepth 20000 in
set_option maxHeartbeats 4000000 in
theorem law_c4 {x : CX} {b L : Nat} {sc : Nat → Int32} {Inv : Wd → Prop} {N : Nat} (hC : Cx x RL code 4 30) (hX : va_X b L sc (xs x) (xs x).heap) (hbl : b < (xs x).heap.size) (hbA : ¬ aG (xG x) b) (he : (xG x).2.2 51 0 = b) (Hk : Ok_copy N Inv) {v : Int32} (i1 : vp_in (v + 1) L) (i2 : vp_in (v + 2) L) (i3 : vp_in (v + 3) L) (i4 : vp_in (v + 4) L) (i5 : vp_in (v + 5) L) (ke : ∀ w, Inv w → Z x 1541 [some (vr 51 0), some (vr 0 0), some (vr 5 0), some (vi v)] [] w) (w : Wd) (hI : Inv w) : Z x 380 [some (vr 51 0), some (vr 0 0), some (vr 5 0), some (vi v)] [] w := by
  obtain ⟨r, w1, w2, h1, h2, hI2⟩ := Hk (sc (v + 1).toNatClampNeg) (sc (v + 2).toNatClampNeg) (sc (v + 3).toNatClampNeg) (sc (v + 4).toNatClampNeg) (sc (v + 5).toNatClampNeg) w hI
  refine Z_aload_n hC (dk d_law2 2 rfl) 381 rfl rfl rfl ?_
  refine Z_aload_n hC (dk d_law2 3 rfl) 382 rfl rfl rfl ?_
  refine Z_iload_n hC (dk d_law2 4 rfl) 383 rfl rfl rfl ?_
  refine Z_iconst (v := 1) hC (dk d_law2 5 rfl) 384 rfl (by decide) ?_
  refine Z_iadd hC (dk d_law2 6 rfl) 385 rfl ?_
  refine Z_sld hC hX hbl hbA he i1 (dk d_law2 7 rfl) 386 rfl ?_
  refine Z_aload_n hC (dk d_law2 8 rfl) 387 rfl rfl rfl ?_
  refine Z_iload_n hC (dk d_law2 9 rfl) 388 rfl rfl rfl ?_
  refine Z_iconst (v := 2) hC (dk d_law2 10 rfl) 389 rfl (by decide) ?_
  refine Z_iadd hC (dk d_law2 11 rfl) 390 rfl ?_
  refine Z_sld hC hX hbl hbA he i2 (dk d_law2 12 rfl) 391 rfl ?_
  refine Z_aload_n hC (dk d_law2 13 rfl) 392 rfl rfl rfl ?_
  refine Z_iload_n hC (dk d_law2 14 rfl) 393 rfl rfl rfl ?_
  refine Z_iconst (v := 3) hC (dk d_law2 15 rfl) 394 rfl (by decide) ?_
  refine Z_iadd hC (dk d_law2 16 rfl) 395 rfl ?_
  refine Z_sld hC hX hbl hbA he i3 (dk d_law2 17 rfl) 396 rfl ?_
  refine Z_aload_n hC (dk d_law2 18 rfl) 397 rfl rfl rfl ?_
  refine Z_iload_n hC (dk d_law2 19 rfl) 398 rfl rfl rfl ?_
  refine Z_iconst (v := 4) hC (dk d_law2 20 rfl) 399 rfl (by decide) ?_
  refine Z_iadd hC (dk d_law2 21 rfl) 400 rfl ?_
  refine Z_sld hC hX hbl hbA he i4 (dk d_law2 22 rfl) 401 rfl ?_
  refine Z_aload_n hC (dk d_law2 23 rfl) 402 rfl rfl rfl ?_
  refine Z_iload_n hC (dk d_law2 24 rfl) 403 rfl rfl rfl ?_
  refine Z_iconst (v := 5) hC (dk d_law2 25 rfl) 404 rfl (by decide) ?_
  refine Z_iadd hC (dk d_law2 26 rfl) 405 rfl ?_
  refine Z_sld hC hX hbl hbA he i5 (dk d_law2 27 rfl) 406 rfl ?_
  refine K_L_32 [vi (sc (v + 1).toNatClampNeg), vi (sc (v + 2).toNatClampNeg), vi (sc (v + 3).toNatClampNeg), vi (sc (v + 4).toNatClampNeg), vi (sc (v + 5).toNatClampNeg)] hC m_0 (s_X4_copy (xG x) (xl x) N (sc (v + 1).toNatClampNeg) (sc (v + 2).toNatClampNeg) (sc (v + 3).toNatClampNeg) (sc (v + 4).toNatClampNeg) (sc (v + 5).toNatClampNeg) w (r, w1) h1) (Nat.le_of_ble_eq_true rfl) rfl rfl rfl (Nat.le_of_ble_eq_true rfl) (dk d_law2 28 rfl) 409 rfl ?_
  refine Z_aload_n hC (dk d_law2 29 rfl) 410 rfl rfl rfl ?_
  refine Z_aload_n hC (dk d_law2 30 rfl) 411 rfl rfl rfl ?_
  refine Z_iload_n hC (dk d_law2 31 rfl) 412 rfl rfl rfl ?_
  refine Z_iconst (v := 1) hC (dk d_law2 32 rfl) 413 rfl (by decide) ?_
  refine Z_iadd hC (dk d_law2 33 rfl) 414 rfl ?_
  refine Z_sld hC hX hbl hbA he i1 (dk d_law2 34 rfl) 415 rfl ?_
  refine Z_aload_n hC (dk d_law2 35 rfl) 416 rfl rfl rfl ?_
  refine Z_iload_n hC (dk d_law2 36 rfl) 417 rfl rfl rfl ?_
  refine Z_iconst (v := 2) hC (dk d_law2 37 rfl) 418 rfl (by decide) ?_
  refine Z_iadd hC (dk d_law2 38 rfl) 419 rfl ?_
  refine Z_sld hC hX hbl hbA he i2 (dk d_law2 39 rfl) 420 rfl ?_
  refine Z_aload_n hC (dk d_law2 40 rfl) 421 rfl rfl rfl ?_
  refine Z_iload_n hC (dk d_law2 41 rfl) 422 rfl rfl rfl ?_
  refine Z_iconst (v := 3) hC (dk d_law2 42 rfl) 423 rfl (by decide) ?_
  refine Z_iadd hC (dk d_law2 43 rfl) 424 rfl ?_
  refine Z_sld hC hX hbl hbA he i3 (dk d_law2 44 rfl) 425 rfl ?_
  refine Z_aload_n hC (dk d_law2 45 rfl) 426 rfl rfl rfl ?_
  refine Z_iload_n hC (dk d_law2 46 rfl) 427 rfl rfl rfl ?_
  refine Z_iconst (v := 4) hC (dk d_law2 47 rfl) 428 rfl (by decide) ?_
  refine Z_iadd hC (dk d_law2 48 rfl) 429 rfl ?_
  refine Z_sld hC hX hbl hbA he i4 (dk d_law2 49 rfl) 430 rfl ?_
  refine Z_aload_n hC (dk d_law2 50 rfl) 431 rfl rfl rfl ?_
  refine Z_iload_n hC (dk d_law2 51 rfl) 432 rfl rfl rfl ?_
  refine Z_iconst (v := 5) hC (dk d_law2 52 rfl) 433 rfl (by decide) ?_
  refine Z_iadd hC (dk d_law2 53 rfl) 434 rfl ?_
  refine Z_sld hC hX hbl hbA he i5 (dk d_law2 54 rfl) 435 rfl ?_
  refine K_L_36 [vi (sc (v + 1).toNatClampNeg), vi (sc (v + 2).toNatClampNeg), vi (sc (v + 3).toNatClampNeg), vi (sc (v + 4).toNatClampNeg), vi (sc (v + 5).toNatClampNeg)] hC m_5 (s_X5_copy (xG x) (xl x) N (sc (v + 1).toNatClampNeg) (sc (v + 2).toNatClampNeg) (sc (v + 3).toNatClampNeg) (sc (v + 4).toNatClampNeg) (sc (v + 5).toNatClampNeg) w1 (r, w2) h2) (Nat.le_of_ble_eq_true rfl) rfl rfl rfl (Nat.le_of_ble_eq_true rfl) (dk d_law2 55 rfl) 438 rfl ?_
  refine Z_icmp_eq hC (dk d_law2 56 rfl) 441 1541 rfl (by decide) (fun c => ?_) (fun c => absurd rfl c)
  exact ke w2 hI2
def Ok_mean (N : Nat) (Inv : Wd → Prop) : Prop := ∀ (a1 : Int32) (w : Wd), Inv w → ∃ (r : Int32) (w1 w2 : Wd), f_X4_mean N a1 w = some (r, w1) ∧ f_X5_mean N a1 w1 = some (r, w2) ∧ Inv w2
set_option maxRecDepth 20000 in
set_option maxHeartbeats 4000000 in
theorem law_c5 {x : CX} {b L : Nat} {sc : Nat → Int32} {Inv : Wd → Prop} {N : Nat} (hC : Cx x RL code 4 30) (hX : va_X b L sc (xs x) (xs x).heap) (hbl : b < (xs x).heap.size) (hbA : ¬ aG (xG x) b) (he : (xG x).2.2 51 0 = b) (Hk : Ok_mean N Inv) {v : Int32} (i1 : vp_in (v + 1) L) (ke : ∀ w, Inv w → Z x 1541 [some (vr 51 0), some (vr 0 0), some (vr 5 0), some (vi v)] [] w) (w : Wd) (hI : Inv w) : Z x 443 [some (vr 51 0), some (vr 0 0), some (vr 5 0), some (vi v)] [] w := by
  obtain ⟨r, w1, w2, h1, h2, hI2⟩ := Hk (sc (v + 1).toNatClampNeg) w hI
  refine Z_aload_n hC (dk d_law2 59 rfl) 444 rfl rfl rfl ?_
  refine Z_aload_n hC (dk d_law3 0 rfl) 445 rfl rfl rfl ?_
  refine Z_iload_n hC (dk d_law3 1 rfl) 446 rfl rfl rfl ?_
  refine Z_iconst (v := 1) hC (dk d_law3 2 rfl) 447 rfl (by decide) ?_
  refine Z_iadd hC (dk d_law3 3 rfl) 448 rfl ?_
  refine Z_sld hC hX hbl hbA he i1 (dk d_law3 4 rfl) 449 rfl ?_
  refine K_L_37 [vi (sc (v + 1).toNatClampNeg)] hC m_0 (s_X4_mean (xG x) (xl x) N (sc (v + 1).toNatClampNeg) w (r, w1) h1) (Nat.le_of_ble_eq_true rfl) rfl rfl rfl (Nat.le_of_ble_eq_true rfl) (dk d_law3 5 rfl) 452 rfl ?_
  refine Z_aload_n hC (dk d_law3 6 rfl) 453 rfl rfl rfl ?_
  refine Z_aload_n hC (dk d_law3 7 rfl) 454 rfl rfl rfl ?_
  refine Z_iload_n hC (dk d_law3 8 rfl) 455 rfl rfl rfl ?_
  refine Z_iconst (v := 1) hC (dk d_law3 9 rfl) 456 rfl (by decide) ?_
  refine Z_iadd hC (dk d_law3 10 rfl) 457 rfl ?_
  refine Z_sld hC hX hbl hbA he i1 (dk d_law3 11 rfl) 458 rfl ?_
  refine K_L_40 [vi (sc (v + 1).toNatClampNeg)] hC m_5 (s_X5_mean (xG x) (xl x) N (sc (v + 1).toNatClampNeg) w1 (r, w2) h2) (Nat.le_of_ble_eq_true rfl) rfl rfl rfl (Nat.le_of_ble_eq_true rfl) (dk d_law3 12 rfl) 461 rfl ?_
  refine Z_icmp_eq hC (dk d_law3 13 rfl) 464 1541 rfl (by decide) (fun c => ?_) (fun c => absurd rfl c)
  exact ke w2 hI2
def Ok_text (N : Nat) (Inv : Wd → Prop) : Prop := ∀ (a1 a2 : Int32) (w : Wd), Inv w → ∃ (r : Int32) (w1 w2 : Wd), f_X4_text N a1 a2 w = some (r, w1) ∧ f_X5_text N a1 a2 w1 = some (r, w2) ∧ Inv w2
set_option maxRecDepth 20000 in
set_option maxHeartbeats 4000000 in
theorem law_c6 {x : CX} {b L : Nat} {sc : Nat → Int32} {Inv : Wd → Prop} {N : Nat} (hC : Cx x RL code 4 30) (hX : va_X b L sc (xs x) (xs x).heap) (hbl : b < (xs x).heap.size) (hbA : ¬ aG (xG x) b) (he : (xG x).2.2 51 0 = b) (Hk : Ok_text N Inv) {v : Int32} (i1 : vp_in (v + 1) L) (i2 : vp_in (v + 2) L) (ke : ∀ w, Inv w → Z x 1541 [some (vr 51 0), some (vr 0 0), some (vr 5 0), some (vi v)] [] w) (w : Wd) (hI : Inv w) : Z x 466 [some (vr 51 0), some (vr 0 0), some (vr 5 0), some (vi v)] [] w := by
  obtain ⟨r, w1, w2, h1, h2, hI2⟩ := Hk (sc (v + 1).toNatClampNeg) (sc (v + 2).toNatClampNeg) w hI
  refine Z_aload_n hC (dk d_law3 16 rfl) 467 rfl rfl rfl ?_
  refine Z_aload_n hC (dk d_law3 17 rfl) 468 rfl rfl rfl ?_
  refine Z_iload_n hC (dk d_law3 18 rfl) 469 rfl rfl rfl ?_
  refine Z_iconst (v := 1) hC (dk d_law3 19 rfl) 470 rfl (by decide) ?_
  refine Z_iadd hC (dk d_law3 20 rfl) 471 rfl ?_
  refine Z_sld hC hX hbl hbA he i1 (dk d_law3 21 rfl) 472 rfl ?_
  refine Z_aload_n hC (dk d_law3 22 rfl) 473 rfl rfl rfl ?_
  refine Z_iload_n hC (dk d_law3 23 rfl) 474 rfl rfl rfl ?_
  refine Z_iconst (v := 2) hC (dk d_law3 24 rfl) 475 rfl (by decide) ?_
  refine Z_iadd hC (dk d_law3 25 rfl) 476 rfl ?_
  refine Z_sld hC hX hbl hbA he i2 (dk d_law3 26 rfl) 477 rfl ?_
  refine K_L_41 [vi (sc (v + 1).toNatClampNeg), vi (sc (v + 2).toNatClampNeg)] hC m_0 (s_X4_text (xG x) (xl x) N (sc (v + 1).toNatClampNeg) (sc (v + 2).toNatClampNeg) w (r, w1) h1) (Nat.le_of_ble_eq_true rfl) rfl rfl rfl (Nat.le_of_ble_eq_true rfl) (dk d_law3 27 rfl) 480 rfl ?_
  refine Z_aload_n hC (dk d_law3 28 rfl) 481 rfl rfl rfl ?_
  refine Z_aload_n hC (dk d_law3 29 rfl) 482 rfl rfl rfl ?_
  refine Z_iload_n hC (dk d_law3 30 rfl) 483 rfl rfl rfl ?_
  refine Z_iconst (v := 1) hC (dk d_law3 31 rfl) 484 rfl (by decide) ?_
  refine Z_iadd hC (dk d_law3 32 rfl) 485 rfl ?_
  refine Z_sld hC hX hbl hbA he i1 (dk d_law3 33 rfl) 486 rfl ?_
  refine Z_aload_n hC (dk d_law3 34 rfl) 487 rfl rfl rfl ?_
  refine Z_iload_n hC (dk d_law3 35 rfl) 488 rfl rfl rfl ?_
  refine Z_iconst (v := 2) hC (dk d_law3 36 rfl) 489 rfl (by decide) ?_
  refine Z_iadd hC (dk d_law3 37 rfl) 490 rfl ?_
  refine Z_sld hC hX hbl hbA he i2 (dk d_law3 38 rfl) 491 rfl ?_
  refine K_L_44 [vi (sc (v + 1).toNatClampNeg), vi (sc (v + 2).toNatClampNeg)] hC m_5 (s_X5_text (xG x) (xl x) N (sc (v + 1).toNatClampNeg) (sc (v + 2).toNatClampNeg) w1 (r, w2) h2) (Nat.le_of_ble_eq_true rfl) rfl rfl rfl (Nat.le_of_ble_eq_true rfl) (dk d_law3 39 rfl) 494 rfl ?_
  refine Z_icmp_eq hC (dk d_law3 40 rfl) 497 1541 rfl (by decide) (fun c => ?_) (fun c => absurd rfl c)
  exact ke w2 hI2
def Ok_put (N : Nat) (Inv : Wd → Prop) : Prop := ∀ (a1 a2 a3 : Int32) (w : Wd), Inv w → ∃ (r : Int32) (w1 w2 : Wd), f_X4_put N a1 a2 a3 w = some (r, w1) ∧ f_X5_put N a1 a2 a3 w1 = some (r, w2) ∧ Inv w2
set_option maxRecDepth 20000 in
set_option maxHeartbeats 4000000 in
theorem law_c7 {x : CX} {b L : Nat} {sc : Nat → Int32} {Inv : Wd → Prop} {N : Nat} (hC : Cx x RL code 4 30) (hX : va_X b L sc (xs x) (xs x).heap) (hbl : b < (xs x).heap.size) (hbA : ¬ aG (xG x) b) (he : (xG x).2.2 51 0 = b) (Hk : Ok_put N Inv) {v : Int32} (i1 : vp_in (v + 1) L) (i2 : vp_in (v + 2) L) (i3 : vp_in (v + 3) L) (ke : ∀ w, Inv w → Z x 1541 [some (vr 51 0), some (vr 0 0), some (vr 5 0), some (vi v)] [] w) (w : Wd) (hI : Inv w) : Z x 499 [some (vr 51 0), some (vr 0 0), some (vr 5 0), some (vi v)] [] w := by
  obtain ⟨r, w1, w2, h1, h2, hI2⟩ := Hk (sc (v + 1).toNatClampNeg) (sc (v + 2).toNatClampNeg) (sc (v + 3).toNatClampNeg) w hI
  refine Z_aload_n hC (dk d_law3 43 rfl) 500 rfl rfl rfl ?_
  refine Z_aload_n hC (dk d_law3 44 rfl) 501 rfl rfl rfl ?_
  refine Z_iload_n hC (dk d_law3 45 rfl) 502 rfl rfl rfl ?_
  refine Z_iconst (v := 1) hC (dk d_law3 46 rfl) 503 rfl (by decide) ?_
  refine Z_iadd hC (dk d_law3 47 rfl) 504 rfl ?_
  refine Z_sld hC hX hbl hbA he i1 (dk d_law3 48 rfl) 505 rfl ?_
  refine Z_aload_n hC (dk d_law3 49 rfl) 506 rfl rfl rfl ?_
  refine Z_iload_n hC (dk d_law3 50 rfl) 507 rfl rfl rfl ?_
  refine Z_iconst (v := 2) hC (dk d_law3 51 rfl) 508 rfl (by decide) ?_
  refine Z_iadd hC (dk d_law3 52 rfl) 509 rfl ?_
  refine Z_sld hC hX hbl hbA he i2 (dk d_law3 53 rfl) 510 rfl ?_
  refine Z_aload_n hC (dk d_law3 54 rfl) 511 rfl rfl rfl ?_
  refine Z_iload_n hC (dk d_law3 55 rfl) 512 rfl rfl rfl ?_
  refine Z_iconst (v := 3) hC (dk d_law3 56 rfl) 513 rfl (by decide) ?_
  refine Z_iadd hC (dk d_law3 57 rfl) 514 rfl ?_
  refine Z_sld hC hX hbl hbA he i3 (dk d_law3 58 rfl) 515 rfl ?_
  refine K_L_45 [vi (sc (v + 1).toNatClampNeg), vi (sc (v + 2).toNatClampNeg), vi (sc (v + 3).toNatClampNeg)] hC m_0 (s_X4_put (xG x) (xl x) N (sc (v + 1).toNatClampNeg) (sc (v + 2).toNatClampNeg) (sc (v + 3).toNatClampNeg) w (r, w1) h1) (Nat.le_of_ble_eq_true rfl) rfl rfl rfl (Nat.le_of_ble_eq_true rfl) (dk d_law3 59 rfl) 518 rfl ?_
  refine Z_aload_n hC (dk d_law4 0 rfl) 519 rfl rfl rfl ?_
  refine Z_aload_n hC (dk d_law4 1 rfl) 520 rfl rfl rfl ?_
  refine Z_iload_n hC (dk d_law4 2 rfl) 521 rfl rfl rfl ?_
  refine Z_iconst (v := 1) hC (dk d_law4 3 rfl) 522 rfl (by decide) ?_
  refine Z_iadd hC (dk d_law4 4 rfl) 523 rfl ?_
  refine Z_sld hC hX hbl hbA he i1 (dk d_law4 5 rfl) 524 rfl ?_
  refine Z_aload_n hC (dk d_law4 6 rfl) 525 rfl rfl rfl ?_
  refine Z_iload_n hC (dk d_law4 7 rfl) 526 rfl rfl rfl ?_
  refine Z_iconst (v := 2) hC (dk d_law4 8 rfl) 527 rfl (by decide) ?_
  refine Z_iadd hC (dk d_law4 9 rfl) 528 rfl ?_
  refine Z_sld hC hX hbl hbA he i2 (dk d_law4 10 rfl) 529 rfl ?_
  refine Z_aload_n hC (dk d_law4 11 rfl) 530 rfl rfl rfl ?_
  refine Z_iload_n hC (dk d_law4 12 rfl) 531 rfl rfl rfl ?_
  refine Z_iconst (v := 3) hC (dk d_law4 13 rfl) 532 rfl (by decide) ?_
  refine Z_iadd hC (dk d_law4 14 rfl) 533 rfl ?_
  refine Z_sld hC hX hbl hbA he i3 (dk d_law4 15 rfl) 534 rfl ?_
  refine K_L_48 [vi (sc (v + 1).toNatClampNeg), vi (sc (v + 2).toNatClampNeg), vi (sc (v + 3).toNatClampNeg)] hC m_5 (s_X5_put (xG x) (xl x) N (sc (v + 1).toNatClampNeg) (sc (v + 2).toNatClampNeg) (sc (v + 3).toNatClampNeg) w1 (r, w2) h2) (Nat.le_of_ble_eq_true rfl) rfl rfl rfl (Nat.le_of_ble_eq_true rfl) (dk d_law4 16 rfl) 537 rfl ?_
  refine Z_icmp_eq hC (dk d_law4 17 rfl) 540 1541 rfl (by decide) (fun c => ?_) (fun c => absurd rfl c)
  exact ke w2 hI2
def Ok_fault (N : Nat) (Inv : Wd → Prop) : Prop := ∀ (a1 : Int32) (w : Wd), Inv w → ∃ (r : Int32) (w1 w2 : Wd), f_X4_fault N a1 w = some (r, w1) ∧ f_X5_fault N a1 w1 = some (r, w2) ∧ Inv w2
set_option maxRecDepth 20000 in
set_option maxHeartbeats 4000000 in
theorem law_c8 {x : CX} {b L : Nat} {sc : Nat → Int32} {Inv : Wd → Prop} {N : Nat} (hC : Cx x RL code 4 30) (hX : va_X b L sc (xs x) (xs x).heap) (hbl : b < (xs x).heap.size) (hbA : ¬ aG (xG x) b) (he : (xG x).2.2 51 0 = b) (Hk : Ok_fault N Inv) {v : Int32} (i1 : vp_in (v + 1) L) (ke : ∀ w, Inv w → Z x 1541 [some (vr 51 0), some (vr 0 0), some (vr 5 0), some (vi v)] [] w) (w : Wd) (hI : Inv w) : Z x 542 [some (vr 51 0), some (vr 0 0), some (vr 5 0), some (vi v)] [] w := by
  obtain ⟨r, w1, w2, h1, h2, hI2⟩ := Hk (sc (v + 1).toNatClampNeg) w hI
  refine Z_aload_n hC (dk d_law4 20 rfl) 543 rfl rfl rfl ?_
  refine Z_aload_n hC (dk d_law4 21 rfl) 544 rfl rfl rfl ?_
  refine Z_iload_n hC (dk d_law4 22 rfl) 545 rfl rfl rfl ?_
  refine Z_iconst (v := 1) hC (dk d_law4 23 rfl) 546 rfl (by decide) ?_
  refine Z_iadd hC (dk d_law4 24 rfl) 547 rfl ?_
  refine Z_sld hC hX hbl hbA he i1 (dk d_law4 25 rfl) 548 rfl ?_
  refine K_L_49 [vi (sc (v + 1).toNatClampNeg)] hC m_0 (s_X4_fault (xG x) (xl x) N (sc (v + 1).toNatClampNeg) w (r, w1) h1) (Nat.le_of_ble_eq_true rfl) rfl rfl rfl (Nat.le_of_ble_eq_true rfl) (dk d_law4 26 rfl) 551 rfl ?_
  refine Z_aload_n hC (dk d_law4 27 rfl) 552 rfl rfl rfl ?_
  refine Z_aload_n hC (dk d_law4 28 rfl) 553 rfl rfl rfl ?_
  refine Z_iload_n hC (dk d_law4 29 rfl) 554 rfl rfl rfl ?_
  refine Z_iconst (v := 1) hC (dk d_law4 30 rfl) 555 rfl (by decide) ?_
  refine Z_iadd hC (dk d_law4 31 rfl) 556 rfl ?_
  refine Z_sld hC hX hbl hbA he i1 (dk d_law4 32 rfl) 557 rfl ?_
  refine K_L_52 [vi (sc (v + 1).toNatClampNeg)] hC m_5 (s_X5_fault (xG x) (xl x) N (sc (v + 1).toNatClampNeg) w1 (r, w2) h2) (Nat.le_of_ble_eq_true rfl) rfl rfl rfl (Nat.le_of_ble_eq_true rfl) (dk d_law4 33 rfl) 560 rfl ?_
  refine Z_icmp_eq hC (dk d_law4 34 rfl) 563 1541 rfl (by decide) (fun c => ?_) (fun c => absurd rfl c)
  exact ke w2 hI2
def Ok_office (N : Nat) (Inv : Wd → Prop) : Prop := ∀ (a1 : Int32) (w : Wd), Inv w → ∃ (r : Int32) (w1 w2 : Wd), f_X4_office N a1 w = some (r, w1) ∧ f_X5_office N a1 w1 = some (r, w2) ∧ Inv w2
set_option maxRecDepth 20000 in
set_option maxHeartbeats 4000000 in
theorem law_c9 {x : CX} {b L : Nat} {sc : Nat → Int32} {Inv : Wd → Prop} {N : Nat} (hC : Cx x RL code 4 30) (hX : va_X b L sc (xs x) (xs x).heap) (hbl : b < (xs x).heap.size) (hbA : ¬ aG (xG x) b) (he : (xG x).2.2 51 0 = b) (Hk : Ok_office N Inv) {v : Int32} (i1 : vp_in (v + 1) L) (ke : ∀ w, Inv w → Z x 1541 [some (vr 51 0), some (vr 0 0), some (vr 5 0), some (vi v)] [] w) (w : Wd) (hI : Inv w) : Z x 565 [some (vr 51 0), some (vr 0 0), some (vr 5 0), some (vi v)] [] w := by
  obtain ⟨r, w1, w2, h1, h2, hI2⟩ := Hk (sc (v + 1).toNatClampNeg) w hI
  refine Z_aload_n hC (dk d_law4 37 rfl) 566 rfl rfl rfl ?_
  refine Z_aload_n hC (dk d_law4 38 rfl) 567 rfl rfl rfl ?_
  refine Z_iload_n hC (dk d_law4 39 rfl) 568 rfl rfl rfl ?_
  refine Z_iconst (v := 1) hC (dk d_law4 40 rfl) 569 rfl (by decide) ?_
  refine Z_iadd hC (dk d_law4 41 rfl) 570 rfl ?_
  refine Z_sld hC hX hbl hbA he i1 (dk d_law4 42 rfl) 571 rfl ?_
  refine K_L_53 [vi (sc (v + 1).toNatClampNeg)] hC m_0 (s_X4_office (xG x) (xl x) N (sc (v + 1).toNatClampNeg) w (r, w1) h1) (Nat.le_of_ble_eq_true rfl) rfl rfl rfl (Nat.le_of_ble_eq_true rfl) (dk d_law4 43 rfl) 574 rfl ?_
  refine Z_aload_n hC (dk d_law4 44 rfl) 575 rfl rfl rfl ?_
  refine Z_aload_n hC (dk d_law4 45 rfl) 576 rfl rfl rfl ?_
  refine Z_iload_n hC (dk d_law4 46 rfl) 577 rfl rfl rfl ?_
  refine Z_iconst (v := 1) hC (dk d_law4 47 rfl) 578 rfl (by decide) ?_
  refine Z_iadd hC (dk d_law4 48 rfl) 579 rfl ?_
  refine Z_sld hC hX hbl hbA he i1 (dk d_law4 49 rfl) 580 rfl ?_
  refine K_L_56 [vi (sc (v + 1).toNatClampNeg)] hC m_5 (s_X5_office (xG x) (xl x) N (sc (v + 1).toNatClampNeg) w1 (r, w2) h2) (Nat.le_of_ble_eq_true rfl) rfl rfl rfl (Nat.le_of_ble_eq_true rfl) (dk d_law4 50 rfl) 583 rfl ?_
  refine Z_icmp_eq hC (dk d_law4 51 rfl) 586 1541 rfl (by decide) (fun c => ?_) (fun c => absurd rfl c)
  exact ke w2 hI2
def Ok_mate (N : Nat) (Inv : Wd → Prop) : Prop := ∀ (a1 a2 : Int32) (w : Wd), Inv w → ∃ (r : Int32) (w1 w2 : Wd), f_X4_mate N a1 a2 w = some (r, w1) ∧ f_X5_mate N a1 a2 w1 = some (r, w2) ∧ Inv w2
set_option maxRecDepth 20000 in
set_option maxHeartbeats 4000000 in
theorem law_c10 {x : CX} {b L : Nat} {sc : Nat → Int32} {Inv : Wd → Prop} {N : Nat} (hC : Cx x RL code 4 30) (hX : va_X b L sc (xs x) (xs x).heap) (hbl : b < (xs x).heap.size) (hbA : ¬ aG (xG x) b) (he : (xG x).2.2 51 0 = b) (Hk : Ok_mate N Inv) {v : Int32} (i1 : vp_in (v + 1) L) (i2 : vp_in (v + 2) L) (ke : ∀ w, Inv w → Z x 1541 [some (vr 51 0), some (vr 0 0), some (vr 5 0), some (vi v)] [] w) (w : Wd) (hI : Inv w) : Z x 588 [some (vr 51 0), some (vr 0 0), some (vr 5 0), some (vi v)] [] w := by
  obtain ⟨r, w1, w2, h1, h2, hI2⟩ := Hk (sc (v + 1).toNatClampNeg) (sc (v + 2).toNatClampNeg) w hI
  refine Z_aload_n hC (dk d_law4 54 rfl) 589 rfl rfl rfl ?_
  refine Z_aload_n hC (dk d_law4 55 rfl) 590 rfl rfl rfl ?_
  refine Z_iload_n hC (dk d_law4 56 rfl) 591 rfl rfl rfl ?_
  refine Z_iconst (v := 1) hC (dk d_law4 57 rfl) 592 rfl (by decide) ?_
  refine Z_iadd hC (dk d_law4 58 rfl) 593 rfl ?_
  refine Z_sld hC hX hbl hbA he i1 (dk d_law4 59 rfl) 594 rfl ?_
  refine Z_aload_n hC (dk d_law5 0 rfl) 595 rfl rfl rfl ?_
  refine Z_iload_n hC (dk d_law5 1 rfl) 596 rfl rfl rfl ?_
  refine Z_iconst (v := 2) hC (dk d_law5 2 rfl) 597 rfl (by decide) ?_
  refine Z_iadd hC (dk d_law5 3 rfl) 598 rfl ?_
  refine Z_sld hC hX hbl hbA he i2 (dk d_law5 4 rfl) 599 rfl ?_
  refine K_L_57 [vi (sc (v + 1).toNatClampNeg), vi (sc (v + 2).toNatClampNeg)] hC m_0 (s_X4_mate (xG x) (xl x) N (sc (v + 1).toNatClampNeg) (sc (v + 2).toNatClampNeg) w (r, w1) h1) (Nat.le_of_ble_eq_true rfl) rfl rfl rfl (Nat.le_of_ble_eq_true rfl) (dk d_law5 5 rfl) 602 rfl ?_
  refine Z_aload_n hC (dk d_law5 6 rfl) 603 rfl rfl rfl ?_
  refine Z_aload_n hC (dk d_law5 7 rfl) 604 rfl rfl rfl ?_
  refine Z_iload_n hC (dk d_law5 8 rfl) 605 rfl rfl rfl ?_
  refine Z_iconst (v := 1) hC (dk d_law5 9 rfl) 606 rfl (by decide) ?_
  refine Z_iadd hC (dk d_law5 10 rfl) 607 rfl ?_
  refine Z_sld hC hX hbl hbA he i1 (dk d_law5 11 rfl) 608 rfl ?_
  refine Z_aload_n hC (dk d_law5 12 rfl) 609 rfl rfl rfl ?_
  refine Z_iload_n hC (dk d_law5 13 rfl) 610 rfl rfl rfl ?_
  refine Z_iconst (v := 2) hC (dk d_law5 14 rfl) 611 rfl (by decide) ?_
  refine Z_iadd hC (dk d_law5 15 rfl) 612 rfl ?_
  refine Z_sld hC hX hbl hbA he i2 (dk d_law5 16 rfl) 613 rfl ?_
  refine K_L_60 [vi (sc (v + 1).toNatClampNeg), vi (sc (v + 2).toNatClampNeg)] hC m_5 (s_X5_mate (xG x) (xl x) N (sc (v + 1).toNatClampNeg) (sc (v + 2).toNatClampNeg) w1 (r, w2) h2) (Nat.le_of_ble_eq_true rfl) rfl rfl rfl (Nat.le_of_ble_eq_true rfl) (dk d_law5 17 rfl) 616 rfl ?_
  refine Z_icmp_eq hC (dk d_law5 18 rfl) 619 1541 rfl (by decide) (fun c => ?_) (fun c => absurd rfl c)
  exact ke w2 hI2
def Ok_mark (N : Nat) (Inv : Wd → Prop) : Prop := ∀ (a1 a2 : Int32) (w : Wd), Inv w → ∃ (r : Int32) (w1 w2 : Wd), f_X4_mark N a1 a2 w = some (r, w1) ∧ f_X5_mark N a1 a2 w1 = some (r, w2) ∧ Inv w2
set_option maxRecDepth 20000 in
set_option maxHeartbeats 4000000 in
theorem law_c11 {x : CX} {b L : Nat} {sc : Nat → Int32} {Inv : Wd → Prop} {N : Nat} (hC : Cx x RL code 4 30) (hX : va_X b L sc (xs x) (xs x).heap) (hbl : b < (xs x).heap.size) (hbA : ¬ aG (xG x) b) (he : (xG x).2.2 51 0 = b) (Hk : Ok_mark N Inv) {v : Int32} (i1 : vp_in (v + 1) L) (i2 : vp_in (v + 2) L) (ke : ∀ w, Inv w → Z x 1541 [some (vr 51 0), some (vr 0 0), some (vr 5 0), some (vi v)] [] w) (w : Wd) (hI : Inv w) : Z x 621 [some (vr 51 0), some (vr 0 0), some (vr 5 0), some (vi v)] [] w := by
  obtain ⟨r, w1, w2, h1, h2, hI2⟩ := Hk (sc (v + 1).toNatClampNeg) (sc (v + 2).toNatClampNeg) w hI
  refine Z_aload_n hC (dk d_law5 21 rfl) 622 rfl rfl rfl ?_
  refine Z_aload_n hC (dk d_law5 22 rfl) 623 rfl rfl rfl ?_
  refine Z_iload_n hC (dk d_law5 23 rfl) 624 rfl rfl rfl ?_
  refine Z_iconst (v := 1) hC (dk d_law5 24 rfl) 625 rfl (by decide) ?_
  refine Z_iadd hC (dk d_law5 25 rfl) 626 rfl ?_
  refine Z_sld hC hX hbl hbA he i1 (dk d_law5 26 rfl) 627 rfl ?_
  refine Z_aload_n hC (dk d_law5 27 rfl) 628 rfl rfl rfl ?_
  refine Z_iload_n hC (dk d_law5 28 rfl) 629 rfl rfl rfl ?_
  refine Z_iconst (v := 2) hC (dk d_law5 29 rfl) 630 rfl (by decide) ?_
  refine Z_iadd hC (dk d_law5 30 rfl) 631 rfl ?_
  refine Z_sld hC hX hbl hbA he i2 (dk d_law5 31 rfl) 632 rfl ?_
  refine K_L_61 [vi (sc (v + 1).toNatClampNeg), vi (sc (v + 2).toNatClampNeg)] hC m_0 (s_X4_mark (xG x) (xl x) N (sc (v + 1).toNatClampNeg) (sc (v + 2).toNatClampNeg) w (r, w1) h1) (Nat.le_of_ble_eq_true rfl) rfl rfl rfl (Nat.le_of_ble_eq_true rfl) (dk d_law5 32 rfl) 635 rfl ?_
  refine Z_aload_n hC (dk d_law5 33 rfl) 636 rfl rfl rfl ?_
  refine Z_aload_n hC (dk d_law5 34 rfl) 637 rfl rfl rfl ?_
  refine Z_iload_n hC (dk d_law5 35 rfl) 638 rfl rfl rfl ?_
  refine Z_iconst (v := 1) hC (dk d_law5 36 rfl) 639 rfl (by decide) ?_
  refine Z_iadd hC (dk d_law5 37 rfl) 640 rfl ?_
  refine Z_sld hC hX hbl hbA he i1 (dk d_law5 38 rfl) 641 rfl ?_
  refine Z_aload_n hC (dk d_law5 39 rfl) 642 rfl rfl rfl ?_
  refine Z_iload_n hC (dk d_law5 40 rfl) 643 rfl rfl rfl ?_
  refine Z_iconst (v := 2) hC (dk d_law5 41 rfl) 644 rfl (by decide) ?_
  refine Z_iadd hC (dk d_law5 42 rfl) 645 rfl ?_
  refine Z_sld hC hX hbl hbA he i2 (dk d_law5 43 rfl) 646 rfl ?_
  refine K_L_64 [vi (sc (v + 1).toNatClampNeg), vi (sc (v + 2).toNatClampNeg)] hC m_5 (s_X5_mark (xG x) (xl x) N (sc (v + 1).toNatClampNeg) (sc (v + 2).toNatClampNeg) w1 (r, w2) h2) (Nat.le_of_ble_eq_true rfl) rfl rfl rfl (Nat.le_of_ble_eq_true rfl) (dk d_law5 44 rfl) 649 rfl ?_
  refine Z_icmp_eq hC (dk d_law5 45 rfl) 652 1541 rfl (by decide) (fun c => ?_) (fun c => absurd rfl c)
  exact ke w2 hI2
def Ok_rules (N : Nat) (Inv : Wd → Prop) : Prop := ∀ (a1 : Int32) (w : Wd), Inv w → ∃ (r : Int32) (w1 w2 : Wd), f_X4_rules N a1 w = some (r, w1) ∧ f_X5_rules N a1 w1 = some (r, w2) ∧ Inv w2
set_option maxRecDepth 20000 in
set_option maxHeartbeats 4000000 in
theorem law_c12 {x : CX} {b L : Nat} {sc : Nat → Int32} {Inv : Wd → Prop} {N : Nat} (hC : Cx x RL code 4 30) (hX : va_X b L sc (xs x) (xs x).heap) (hbl : b < (xs x).heap.size) (hbA : ¬ aG (xG x) b) (he : (xG x).2.2 51 0 = b) (Hk : Ok_rules N Inv) {v : Int32} (i1 : vp_in (v + 1) L) (ke : ∀ w, Inv w → Z x 1541 [some (vr 51 0), some (vr 0 0), some (vr 5 0), some (vi v)] [] w) (w : Wd) (hI : Inv w) : Z x 654 [some (vr 51 0), some (vr 0 0), some (vr 5 0), some (vi v)] [] w := by
  obtain ⟨r, w1, w2, h1, h2, hI2⟩ := Hk (sc (v + 1).toNatClampNeg) w hI
  refine Z_aload_n hC (dk d_law5 48 rfl) 655 rfl rfl rfl ?_
  refine Z_aload_n hC (dk d_law5 49 rfl) 656 rfl rfl rfl ?_
  refine Z_iload_n hC (dk d_law5 50 rfl) 657 rfl rfl rfl ?_
  refine Z_iconst (v := 1) hC (dk d_law5 51 rfl) 658 rfl (by decide) ?_
  refine Z_iadd hC (dk d_law5 52 rfl) 659 rfl ?_
  refine Z_sld hC hX hbl hbA he i1 (dk d_law5 53 rfl) 660 rfl ?_
  refine K_L_65 [vi (sc (v + 1).toNatClampNeg)] hC m_0 (s_X4_rules (xG x) (xl x) N (sc (v + 1).toNatClampNeg) w (r, w1) h1) (Nat.le_of_ble_eq_true rfl) rfl rfl rfl (Nat.le_of_ble_eq_true rfl) (dk d_law5 54 rfl) 663 rfl ?_
  refine Z_aload_n hC (dk d_law5 55 rfl) 664 rfl rfl rfl ?_
  refine Z_aload_n hC (dk d_law5 56 rfl) 665 rfl rfl rfl ?_
  refine Z_iload_n hC (dk d_law5 57 rfl) 666 rfl rfl rfl ?_
  refine Z_iconst (v := 1) hC (dk d_law5 58 rfl) 667 rfl (by decide) ?_
  refine Z_iadd hC (dk d_law5 59 rfl) 668 rfl ?_
  refine Z_sld hC hX hbl hbA he i1 (dk d_law6 0 rfl) 669 rfl ?_
  refine K_L_68 [vi (sc (v + 1).toNatClampNeg)] hC m_5 (s_X5_rules (xG x) (xl x) N (sc (v + 1).toNatClampNeg) w1 (r, w2) h2) (Nat.le_of_ble_eq_true rfl) rfl rfl rfl (Nat.le_of_ble_eq_true rfl) (dk d_law6 1 rfl) 672 rfl ?_
  refine Z_icmp_eq hC (dk d_law6 2 rfl) 675 1541 rfl (by decide) (fun c => ?_) (fun c => absurd rfl c)
  exact ke w2 hI2
def Ok_move (N : Nat) (Inv : Wd → Prop) : Prop := ∀ (a1 a2 : Int32) (w : Wd), Inv w → ∃ (r : Int32) (w1 w2 : Wd), f_X4_move N a1 a2 w = some (r, w1) ∧ f_X5_move N a1 a2 w1 = some (r, w2) ∧ Inv w2
set_option maxRecDepth 20000 in
set_option maxHeartbeats 4000000 in
theorem law_c13 {x : CX} {b L : Nat} {sc : Nat → Int32} {Inv : Wd → Prop} {N : Nat} (hC : Cx x RL code 4 30) (hX : va_X b L sc (xs x) (xs x).heap) (hbl : b < (xs x).heap.size) (hbA : ¬ aG (xG x) b) (he : (xG x).2.2 51 0 = b) (Hk : Ok_move N Inv) {v : Int32} (i1 : vp_in (v + 1) L) (i2 : vp_in (v + 2) L) (ke : ∀ w, Inv w → Z x 1541 [some (vr 51 0), some (vr 0 0), some (vr 5 0), some (vi v)] [] w) (w : Wd) (hI : Inv w) : Z x 677 [some (vr 51 0), some (vr 0 0), some (vr 5 0), some (vi v)] [] w := by
  obtain ⟨r, w1, w2, h1, h2, hI2⟩ := Hk (sc (v + 1).toNatClampNeg) (sc (v + 2).toNatClampNeg) w hI
  refine Z_aload_n hC (dk d_law6 5 rfl) 678 rfl rfl rfl ?_
  refine Z_aload_n hC (dk d_law6 6 rfl) 679 rfl rfl rfl ?_
  refine Z_iload_n hC (dk d_law6 7 rfl) 680 rfl rfl rfl ?_
  refine Z_iconst (v := 1) hC (dk d_law6 8 rfl) 681 rfl (by decide) ?_
  refine Z_iadd hC (dk d_law6 9 rfl) 682 rfl ?_
  refine Z_sld hC hX hbl hbA he i1 (dk d_law6 10 rfl) 683 rfl ?_
  refine Z_aload_n hC (dk d_law6 11 rfl) 684 rfl rfl rfl ?_
  refine Z_iload_n hC (dk d_law6 12 rfl) 685 rfl rfl rfl ?_
  refine Z_iconst (v := 2) hC (dk d_law6 13 rfl) 686 rfl (by decide) ?_
  refine Z_iadd hC (dk d_law6 14 rfl) 687 rfl ?_
  refine Z_sld hC hX hbl hbA he i2 (dk d_law6 15 rfl) 688 rfl ?_
  refine K_L_69 [vi (sc (v + 1).toNatClampNeg), vi (sc (v + 2).toNatClampNeg)] hC m_0 (s_X4_move (xG x) (xl x) N (sc (v + 1).toNatClampNeg) (sc (v + 2).toNatClampNeg) w (r, w1) h1) (Nat.le_of_ble_eq_true rfl) rfl rfl rfl (Nat.le_of_ble_eq_true rfl) (dk d_law6 16 rfl) 691 rfl ?_
  refine Z_aload_n hC (dk d_law6 17 rfl) 692 rfl rfl rfl ?_
  refine Z_aload_n hC (dk d_law6 18 rfl) 693 rfl rfl rfl ?_
  refine Z_iload_n hC (dk d_law6 19 rfl) 694 rfl rfl rfl ?_
  refine Z_iconst (v := 1) hC (dk d_law6 20 rfl) 695 rfl (by decide) ?_
  refine Z_iadd hC (dk d_law6 21 rfl) 696 rfl ?_
  refine Z_sld hC hX hbl hbA he i1 (dk d_law6 22 rfl) 697 rfl ?_
  refine Z_aload_n hC (dk d_law6 23 rfl) 698 rfl rfl rfl ?_
  refine Z_iload_n hC (dk d_law6 24 rfl) 699 rfl rfl rfl ?_
  refine Z_iconst (v := 2) hC (dk d_law6 25 rfl) 700 rfl (by decide) ?_
  refine Z_iadd hC (dk d_law6 26 rfl) 701 rfl ?_
  refine Z_sld hC hX hbl hbA he i2 (dk d_law6 27 rfl) 702 rfl ?_
  refine K_L_72 [vi (sc (v + 1).toNatClampNeg), vi (sc (v + 2).toNatClampNeg)] hC m_5 (s_X5_move (xG x) (xl x) N (sc (v + 1).toNatClampNeg) (sc (v + 2).toNatClampNeg) w1 (r, w2) h2) (Nat.le_of_ble_eq_true rfl) rfl rfl rfl (Nat.le_of_ble_eq_true rfl) (dk d_law6 28 rfl) 705 rfl ?_
  refine Z_icmp_eq hC (dk d_law6 29 rfl) 708 1541 rfl (by decide) (fun c => ?_) (fun c => absurd rfl c)
  exact ke w2 hI2
def Ok_may (N : Nat) (Inv : Wd → Prop) : Prop := ∀ (a1 : Int32) (w : Wd), Inv w → ∃ (r : Int32) (w1 w2 : Wd), f_X4_may N a1 w = some (r, w1) ∧ f_X5_may N a1 w1 = some (r, w2) ∧ Inv w2
set_option maxRecDepth 20000 in
set_option maxHeartbeats 4000000 in
theorem law_c14 {x : CX} {b L : Nat} {sc : Nat → Int32} {Inv : Wd → Prop} {N : Nat} (hC : Cx x RL code 4 30) (hX : va_X b L sc (xs x) (xs x).heap) (hbl : b < (xs x).heap.size) (hbA : ¬ aG (xG x) b) (he : (xG x).2.2 51 0 = b) (Hk : Ok_may N Inv) {v : Int32} (i1 : vp_in (v + 1) L) (ke : ∀ w, Inv w → Z x 1541 [some (vr 51 0), some (vr 0 0), some (vr 5 0), some (vi v)] [] w) (w : Wd) (hI : Inv w) : Z x 710 [some (vr 51 0), some (vr 0 0), some (vr 5 0), some (vi v)] [] w := by
  obtain ⟨r, w1, w2, h1, h2, hI2⟩ := Hk (sc (v + 1).toNatClampNeg) w hI
  refine Z_aload_n hC (dk d_law6 32 rfl) 711 rfl rfl rfl ?_
  refine Z_aload_n hC (dk d_law6 33 rfl) 712 rfl rfl rfl ?_
  refine Z_iload_n hC (dk d_law6 34 rfl) 713 rfl rfl rfl ?_
  refine Z_iconst (v := 1) hC (dk d_law6 35 rfl) 714 rfl (by decide) ?_
  refine Z_iadd hC (dk d_law6 36 rfl) 715 rfl ?_
  refine Z_sld hC hX hbl hbA he i1 (dk d_law6 37 rfl) 716 rfl ?_
  refine K_L_73 [vi (sc (v + 1).toNatClampNeg)] hC m_0 (s_X4_may (xG x) (xl x) N (sc (v + 1).toNatClampNeg) w (r, w1) h1) (Nat.le_of_ble_eq_true rfl) rfl rfl rfl (Nat.le_of_ble_eq_true rfl) (dk d_law6 38 rfl) 719 rfl ?_
  refine Z_aload_n hC (dk d_law6 39 rfl) 720 rfl rfl rfl ?_
  refine Z_aload_n hC (dk d_law6 40 rfl) 721 rfl rfl rfl ?_
  refine Z_iload_n hC (dk d_law6 41 rfl) 722 rfl rfl rfl ?_
  refine Z_iconst (v := 1) hC (dk d_law6 42 rfl) 723 rfl (by decide) ?_
  refine Z_iadd hC (dk d_law6 43 rfl) 724 rfl ?_
  refine Z_sld hC hX hbl hbA he i1 (dk d_law6 44 rfl) 725 rfl ?_
  refine K_L_76 [vi (sc (v + 1).toNatClampNeg)] hC m_5 (s_X5_may (xG x) (xl x) N (sc (v + 1).toNatClampNeg) w1 (r, w2) h2) (Nat.le_of_ble_eq_true rfl) rfl rfl rfl (Nat.le_of_ble_eq_true rfl) (dk d_law6 45 rfl) 728 rfl ?_
  refine Z_icmp_eq hC (dk d_law6 46 rfl) 731 1541 rfl (by decide) (fun c => ?_) (fun c => absurd rfl c)
  exact ke w2 hI2
def Ok_judge (N : Nat) (Inv : Wd → Prop) : Prop := ∀ (a1 : Int32) (w : Wd), Inv w → ∃ (r : Int32) (w1 w2 : Wd), f_X4_judge N a1 w = some (r, w1) ∧ f_X5_judge N a1 w1 = some (r, w2) ∧ Inv w2
set_option maxRecDepth 20000 in
set_option maxHeartbeats 4000000 in
theorem law_c15 {x : CX} {b L : Nat} {sc : Nat → Int32} {Inv : Wd → Prop} {N : Nat} (hC : Cx x RL code 4 30) (hX : va_X b L sc (xs x) (xs x).heap) (hbl : b < (xs x).heap.size) (hbA : ¬ aG (xG x) b) (he : (xG x).2.2 51 0 = b) (Hk : Ok_judge N Inv) {v : Int32} (i1 : vp_in (v + 1) L) (ke : ∀ w, Inv w → Z x 1541 [some (vr 51 0), some (vr 0 0), some (vr 5 0), some (vi v)] [] w) (w : Wd) (hI : Inv w) : Z x 733 [some (vr 51 0), some (vr 0 0), some (vr 5 0), some (vi v)] [] w := by
  obtain ⟨r, w1, w2, h1, h2, hI2⟩ := Hk (sc (v + 1).toNatClampNeg) w hI
  refine Z_aload_n hC (dk d_law6 49 rfl) 734 rfl rfl rfl ?_
  refine Z_aload_n hC (dk d_law6 50 rfl) 735 rfl rfl rfl ?_
  refine Z_iload_n hC (dk d_law6 51 rfl) 736 rfl rfl rfl ?_
  refine Z_iconst (v := 1) hC (dk d_law6 52 rfl) 737 rfl (by decide) ?_
  refine Z_iadd hC (dk d_law6 53 rfl) 738 rfl ?_
  refine Z_sld hC hX hbl hbA he i1 (dk d_law6 54 rfl) 739 rfl ?_
  refine K_L_77 [vi (sc (v + 1).toNatClampNeg)] hC m_0 (s_X4_judge (xG x) (xl x) N (sc (v + 1).toNatClampNeg) w (r, w1) h1) (Nat.le_of_ble_eq_true rfl) rfl rfl rfl (Nat.le_of_ble_eq_true rfl) (dk d_law6 55 rfl) 742 rfl ?_
  refine Z_aload_n hC (dk d_law6 56 rfl) 743 rfl rfl rfl ?_
  refine Z_aload_n hC (dk d_law6 57 rfl) 744 rfl rfl rfl ?_
  refine Z_iload_n hC (dk d_law6 58 rfl) 745 rfl rfl rfl ?_
  refine Z_iconst (v := 1) hC (dk d_law6 59 rfl) 746 rfl (by decide) ?_
  refine Z_iadd hC (dk d_law7 0 rfl) 747 rfl ?_
  refine Z_sld hC hX hbl hbA he i1 (dk d_law7 1 rfl) 748 rfl ?_
  refine K_L_80 [vi (sc (v + 1).toNatClampNeg)] hC m_5 (s_X5_judge (xG x) (xl x) N (sc (v + 1).toNatClampNeg) w1 (r, w2) h2) (Nat.le_of_ble_eq_true rfl) rfl rfl rfl (Nat.le_of_ble_eq_true rfl) (dk d_law7 2 rfl) 751 rfl ?_
  refine Z_icmp_eq hC (dk d_law7 3 rfl) 754 1541 rfl (by decide) (fun c => ?_) (fun c => absurd rfl c)
  exact ke w2 hI2
def Ok_ways (N : Nat) (Inv : Wd → Prop) : Prop := ∀ (w : Wd), Inv w → ∃ (r : Int32) (w1 w2 : Wd), f_X4_ways N w = some (r, w1) ∧ f_X5_ways N w1 = some (r, w2) ∧ Inv w2
set_option maxRecDepth 20000 in
set_option maxHeartbeats 4000000 in
theorem law_c16 {x : CX} {b L : Nat} {sc : Nat → Int32} {Inv : Wd → Prop} {N : Nat} (hC : Cx x RL code 4 30) (hX : va_X b L sc (xs x) (xs x).heap) (hbl : b < (xs x).heap.size) (hbA : ¬ aG (xG x) b) (he : (xG x).2.2 51 0 = b) (Hk : Ok_ways N Inv) {v : Int32} (ke : ∀ w, Inv w → Z x 1541 [some (vr 51 0), some (vr 0 0), some (vr 5 0), some (vi v)] [] w) (w : Wd) (hI : Inv w) : Z x 756 [some (vr 51 0), some (vr 0 0), some (vr 5 0), some (vi v)] [] w := by
  obtain ⟨r, w1, w2, h1, h2, hI2⟩ := Hk w hI
  refine Z_aload_n hC (dk d_law7 6 rfl) 757 rfl rfl rfl ?_
  refine K_L_81 [] hC m_0 (s_X4_ways (xG x) (xl x) N  w (r, w1) h1) (Nat.le_of_ble_eq_true rfl) rfl rfl rfl (Nat.le_of_ble_eq_true rfl) (dk d_law7 7 rfl) 760 rfl ?_
  refine Z_aload_n hC (dk d_law7 8 rfl) 761 rfl rfl rfl ?_
  refine K_L_85 [] hC m_5 (s_X5_ways (xG x) (xl x) N  w1 (r, w2) h2) (Nat.le_of_ble_eq_true rfl) rfl rfl rfl (Nat.le_of_ble_eq_true rfl) (dk d_law7 9 rfl) 764 rfl ?_
  refine Z_icmp_eq hC (dk d_law7 10 rfl) 767 1541 rfl (by decide) (fun c => ?_) (fun c => absurd rfl c)
  exact ke w2 hI2
def Ok_nth (N : Nat) (Inv : Wd → Prop) : Prop := ∀ (a1 a2 : Int32) (w : Wd), Inv w → ∃ (r : Int32) (w1 w2 : Wd), f_X4_nth N a1 a2 w = some (r, w1) ∧ f_X5_nth N a1 a2 w1 = some (r, w2) ∧ Inv w2
set_option maxRecDepth 20000 in
set_option maxHeartbeats 4000000 in
theorem law_c17 {x : CX} {b L : Nat} {sc : Nat → Int32} {Inv : Wd → Prop} {N : Nat} (hC : Cx x RL code 4 30) (hX : va_X b L sc (xs x) (xs x).heap) (hbl : b < (xs x).heap.size) (hbA : ¬ aG (xG x) b) (he : (xG x).2.2 51 0 = b) (Hk : Ok_nth N Inv) {v : Int32} (i1 : vp_in (v + 1) L) (i2 : vp_in (v + 2) L) (ke : ∀ w, Inv w → Z x 1541 [some (vr 51 0), some (vr 0 0), some (vr 5 0), some (vi v)] [] w) (w : Wd) (hI : Inv w) : Z x 769 [some (vr 51 0), some (vr 0 0), some (vr 5 0), some (vi v)] [] w := by
  obtain ⟨r, w1, w2, h1, h2, hI2⟩ := Hk (sc (v + 1).toNatClampNeg) (sc (v + 2).toNatClampNeg) w hI
  refine Z_aload_n hC (dk d_law7 13 rfl) 770 rfl rfl rfl ?_
  refine Z_aload_n hC (dk d_law7 14 rfl) 771 rfl rfl rfl ?_
  refine Z_iload_n hC (dk d_law7 15 rfl) 772 rfl rfl rfl ?_
  refine Z_iconst (v := 1) hC (dk d_law7 16 rfl) 773 rfl (by decide) ?_
  refine Z_iadd hC (dk d_law7 17 rfl) 774 rfl ?_
  refine Z_sld hC hX hbl hbA he i1 (dk d_law7 18 rfl) 775 rfl ?_
  refine Z_aload_n hC (dk d_law7 19 rfl) 776 rfl rfl rfl ?_
  refine Z_iload_n hC (dk d_law7 20 rfl) 777 rfl rfl rfl ?_
  refine Z_iconst (v := 2) hC (dk d_law7 21 rfl) 778 rfl (by decide) ?_
  refine Z_iadd hC (dk d_law7 22 rfl) 779 rfl ?_
  refine Z_sld hC hX hbl hbA he i2 (dk d_law7 23 rfl) 780 rfl ?_
  refine K_L_86 [vi (sc (v + 1).toNatClampNeg), vi (sc (v + 2).toNatClampNeg)] hC m_0 (s_X4_nth (xG x) (xl x) N (sc (v + 1).toNatClampNeg) (sc (v + 2).toNatClampNeg) w (r, w1) h1) (Nat.le_of_ble_eq_true rfl) rfl rfl rfl (Nat.le_of_ble_eq_true rfl) (dk d_law7 24 rfl) 783 rfl ?_
  refine Z_aload_n hC (dk d_law7 25 rfl) 784 rfl rfl rfl ?_
  refine Z_aload_n hC (dk d_law7 26 rfl) 785 rfl rfl rfl ?_
  refine Z_iload_n hC (dk d_law7 27 rfl) 786 rfl rfl rfl ?_
  refine Z_iconst (v := 1) hC (dk d_law7 28 rfl) 787 rfl (by decide) ?_
  refine Z_iadd hC (dk d_law7 29 rfl) 788 rfl ?_
  refine Z_sld hC hX hbl hbA he i1 (dk d_law7 30 rfl) 789 rfl ?_
  refine Z_aload_n hC (dk d_law7 31 rfl) 790 rfl rfl rfl ?_
  refine Z_iload_n hC (dk d_law7 32 rfl) 791 rfl rfl rfl ?_
  refine Z_iconst (v := 2) hC (dk d_law7 33 rfl) 792 rfl (by decide) ?_
  refine Z_iadd hC (dk d_law7 34 rfl) 793 rfl ?_
  refine Z_sld hC hX hbl hbA he i2 (dk d_law7 35 rfl) 794 rfl ?_
  refine K_L_89 [vi (sc (v + 1).toNatClampNeg), vi (sc (v + 2).toNatClampNeg)] hC m_5 (s_X5_nth (xG x) (xl x) N (sc (v + 1).toNatClampNeg) (sc (v + 2).toNatClampNeg) w1 (r, w2) h2) (Nat.le_of_ble_eq_true rfl) rfl rfl rfl (Nat.le_of_ble_eq_true rfl) (dk d_law7 36 rfl) 797 rfl ?_
  refine Z_icmp_eq hC (dk d_law7 37 rfl) 800 1541 rfl (by decide) (fun c => ?_) (fun c => absurd rfl c)
  exact ke w2 hI2
def Ok_number (N : Nat) (Inv : Wd → Prop) : Prop := ∀ (a1 : Int32) (w : Wd), Inv w → ∃ (r : Int32) (w1 w2 : Wd), f_X4_number N a1 w = some (r, w1) ∧ f_X5_number N a1 w1 = some (r, w2) ∧ Inv w2
set_option maxRecDepth 20000 in
set_option maxHeartbeats 4000000 in
theorem law_c18 {x : CX} {b L : Nat} {sc : Nat → Int32} {Inv : Wd → Prop} {N : Nat} (hC : Cx x RL code 4 30) (hX : va_X b L sc (xs x) (xs x).heap) (hbl : b < (xs x).heap.size) (hbA : ¬ aG (xG x) b) (he : (xG x).2.2 51 0 = b) (Hk : Ok_number N Inv) {v : Int32} (i1 : vp_in (v + 1) L) (ke : ∀ w, Inv w → Z x 1541 [some (vr 51 0), some (vr 0 0), some (vr 5 0), some (vi v)] [] w) (w : Wd) (hI : Inv w) : Z x 802 [some (vr 51 0), some (vr 0 0), some (vr 5 0), some (vi v)] [] w := by
  obtain ⟨r, w1, w2, h1, h2, hI2⟩ := Hk (sc (v + 1).toNatClampNeg) w hI
  refine Z_aload_n hC (dk d_law7 40 rfl) 803 rfl rfl rfl ?_
  refine Z_aload_n hC (dk d_law7 41 rfl) 804 rfl rfl rfl ?_
  refine Z_iload_n hC (dk d_law7 42 rfl) 805 rfl rfl rfl ?_
  refine Z_iconst (v := 1) hC (dk d_law7 43 rfl) 806 rfl (by decide) ?_
  refine Z_iadd hC (dk d_law7 44 rfl) 807 rfl ?_
  refine Z_sld hC hX hbl hbA he i1 (dk d_law7 45 rfl) 808 rfl ?_
  refine K_L_90 [vi (sc (v + 1).toNatClampNeg)] hC m_0 (s_X4_number (xG x) (xl x) N (sc (v + 1).toNatClampNeg) w (r, w1) h1) (Nat.le_of_ble_eq_true rfl) rfl rfl rfl (Nat.le_of_ble_eq_true rfl) (dk d_law7 46 rfl) 811 rfl ?_
  refine Z_aload_n hC (dk d_law7 47 rfl) 812 rfl rfl rfl ?_
  refine Z_aload_n hC (dk d_law7 48 rfl) 813 rfl rfl rfl ?_
  refine Z_iload_n hC (dk d_law7 49 rfl) 814 rfl rfl rfl ?_
  refine Z_iconst (v := 1) hC (dk d_law7 50 rfl) 815 rfl (by decide) ?_
  refine Z_iadd hC (dk d_law7 51 rfl) 816 rfl ?_
  refine Z_sld hC hX hbl hbA he i1 (dk d_law7 52 rfl) 817 rfl ?_
  refine K_L_93 [vi (sc (v + 1).toNatClampNeg)] hC m_5 (s_X5_number (xG x) (xl x) N (sc (v + 1).toNatClampNeg) w1 (r, w2) h2) (Nat.le_of_ble_eq_true rfl) rfl rfl rfl (Nat.le_of_ble_eq_true rfl) (dk d_law7 53 rfl) 820 rfl ?_
  refine Z_icmp_eq hC (dk d_law7 54 rfl) 823 1541 rfl (by decide) (fun c => ?_) (fun c => absurd rfl c)
  exact ke w2 hI2
def Ok_lot (N : Nat) (Inv : Wd → Prop) : Prop := ∀ (a1 a2 : Int32) (w : Wd), Inv w → ∃ (r : Int32) (w1 w2 : Wd), f_X4_lot N a1 a2 w = some (r, w1) ∧ f_X5_lot N a1 a2 w1 = some (r, w2) ∧ Inv w2
set_option maxRecDepth 20000 in
set_option maxHeartbeats 4000000 in
theorem law_c19 {x : CX} {b L : Nat} {sc : Nat → Int32} {Inv : Wd → Prop} {N : Nat} (hC : Cx x RL code 4 30) (hX : va_X b L sc (xs x) (xs x).heap) (hbl : b < (xs x).heap.size) (hbA : ¬ aG (xG x) b) (he : (xG x).2.2 51 0 = b) (Hk : Ok_lot N Inv) {v : Int32} (i1 : vp_in (v + 1) L) (i2 : vp_in (v + 2) L) (ke : ∀ w, Inv w → Z x 1541 [some (vr 51 0), some (vr 0 0), some (vr 5 0), some (vi v)] [] w) (w : Wd) (hI : Inv w) : Z x 825 [some (vr 51 0), some (vr 0 0), some (vr 5 0), some (vi v)] [] w := by
  obtain ⟨r, w1, w2, h1, h2, hI2⟩ := Hk (sc (v + 1).toNatClampNeg) (sc (v + 2).toNatClampNeg) w hI
  refine Z_aload_n hC (dk d_law7 57 rfl) 826 rfl rfl rfl ?_
  refine Z_aload_n hC (dk d_law7 58 rfl) 827 rfl rfl rfl ?_
  refine Z_iload_n hC (dk d_law7 59 rfl) 828 rfl rfl rfl ?_
  refine Z_iconst (v := 1) hC (dk d_law8 0 rfl) 829 rfl (by decide) ?_
  refine Z_iadd hC (dk d_law8 1 rfl) 830 rfl ?_
  refine Z_sld hC hX hbl hbA he i1 (dk d_law8 2 rfl) 831 rfl ?_
  refine Z_aload_n hC (dk d_law8 3 rfl) 832 rfl rfl rfl ?_
  refine Z_iload_n hC (dk d_law8 4 rfl) 833 rfl rfl rfl ?_
  refine Z_iconst (v := 2) hC (dk d_law8 5 rfl) 834 rfl (by decide) ?_
  refine Z_iadd hC (dk d_law8 6 rfl) 835 rfl ?_
  refine Z_sld hC hX hbl hbA he i2 (dk d_law8 7 rfl) 836 rfl ?_
  refine K_L_94 [vi (sc (v + 1).toNatClampNeg), vi (sc (v + 2).toNatClampNeg)] hC m_0 (s_X4_lot (xG x) (xl x) N (sc (v + 1).toNatClampNeg) (sc (v + 2).toNatClampNeg) w (r, w1) h1) (Nat.le_of_ble_eq_true rfl) rfl rfl rfl (Nat.le_of_ble_eq_true rfl) (dk d_law8 8 rfl) 839 rfl ?_
  refine Z_aload_n hC (dk d_law8 9 rfl) 840 rfl rfl rfl ?_
  refine Z_aload_n hC (dk d_law8 10 rfl) 841 rfl rfl rfl ?_
  refine Z_iload_n hC (dk d_law8 11 rfl) 842 rfl rfl rfl ?_
  refine Z_iconst (v := 1) hC (dk d_law8 12 rfl) 843 rfl (by decide) ?_
  refine Z_iadd hC (dk d_law8 13 rfl) 844 rfl ?_
  refine Z_sld hC hX hbl hbA he i1 (dk d_law8 14 rfl) 845 rfl ?_
  refine Z_aload_n hC (dk d_law8 15 rfl) 846 rfl rfl rfl ?_
  refine Z_iload_n hC (dk d_law8 16 rfl) 847 rfl rfl rfl ?_
  refine Z_iconst (v := 2) hC (dk d_law8 17 rfl) 848 rfl (by decide) ?_
  refine Z_iadd hC (dk d_law8 18 rfl) 849 rfl ?_
  refine Z_sld hC hX hbl hbA he i2 (dk d_law8 19 rfl) 850 rfl ?_
  refine K_L_97 [vi (sc (v + 1).toNatClampNeg), vi (sc (v + 2).toNatClampNeg)] hC m_5 (s_X5_lot (xG x) (xl x) N (sc (v + 1).toNatClampNeg) (sc (v + 2).toNatClampNeg) w1 (r, w2) h2) (Nat.le_of_ble_eq_true rfl) rfl rfl rfl (Nat.le_of_ble_eq_true rfl) (dk d_law8 20 rfl) 853 rfl ?_
  refine Z_icmp_eq hC (dk d_law8 21 rfl) 856 1541 rfl (by decide) (fun c => ?_) (fun c => absurd rfl c)
  exact ke w2 hI2
def Ok_draw (N : Nat) (Inv : Wd → Prop) : Prop := ∀ (a1 : Int32) (w : Wd), Inv w → ∃ (r : Int32) (w1 w2 : Wd), f_X4_draw N a1 w = some (r, w1) ∧ f_X5_draw N a1 w1 = some (r, w2) ∧ Inv w2
set_option maxRecDepth 20000 in
set_option maxHeartbeats 4000000 in
theorem law_c20 {x : CX} {b L : Nat} {sc : Nat → Int32} {Inv : Wd → Prop} {N : Nat} (hC : Cx x RL code 4 30) (hX : va_X b L sc (xs x) (xs x).heap) (hbl : b < (xs x).heap.size) (hbA : ¬ aG (xG x) b) (he : (xG x).2.2 51 0 = b) (Hk : Ok_draw N Inv) {v : Int32} (i1 : vp_in (v + 1) L) (ke : ∀ w, Inv w → Z x 1541 [some (vr 51 0), some (vr 0 0), some (vr 5 0), some (vi v)] [] w) (w : Wd) (hI : Inv w) : Z x 858 [some (vr 51 0), some (vr 0 0), some (vr 5 0), some (vi v)] [] w := by
  obtain ⟨r, w1, w2, h1, h2, hI2⟩ := Hk (sc (v + 1).toNatClampNeg) w hI
  refine Z_aload_n hC (dk d_law8 24 rfl) 859 rfl rfl rfl ?_
  refine Z_aload_n hC (dk d_law8 25 rfl) 860 rfl rfl rfl ?_
  refine Z_iload_n hC (dk d_law8 26 rfl) 861 rfl rfl rfl ?_
  refine Z_iconst (v := 1) hC (dk d_law8 27 rfl) 862 rfl (by decide) ?_
  refine Z_iadd hC (dk d_law8 28 rfl) 863 rfl ?_
  refine Z_sld hC hX hbl hbA he i1 (dk d_law8 29 rfl) 864 rfl ?_
  refine K_L_98 [vi (sc (v + 1).toNatClampNeg)] hC m_0 (s_X4_draw (xG x) (xl x) N (sc (v + 1).toNatClampNeg) w (r, w1) h1) (Nat.le_of_ble_eq_true rfl) rfl rfl rfl (Nat.le_of_ble_eq_true rfl) (dk d_law8 30 rfl) 867 rfl ?_
  refine Z_aload_n hC (dk d_law8 31 rfl) 868 rfl rfl rfl ?_
  refine Z_aload_n hC (dk d_law8 32 rfl) 869 rfl rfl rfl ?_
  refine Z_iload_n hC (dk d_law8 33 rfl) 870 rfl rfl rfl ?_
  refine Z_iconst (v := 1) hC (dk d_law8 34 rfl) 871 rfl (by decide) ?_
  refine Z_iadd hC (dk d_law8 35 rfl) 872 rfl ?_
  refine Z_sld hC hX hbl hbA he i1 (dk d_law8 36 rfl) 873 rfl ?_
  refine K_L_101 [vi (sc (v + 1).toNatClampNeg)] hC m_5 (s_X5_draw (xG x) (xl x) N (sc (v + 1).toNatClampNeg) w1 (r, w2) h2) (Nat.le_of_ble_eq_true rfl) rfl rfl rfl (Nat.le_of_ble_eq_true rfl) (dk d_law8 37 rfl) 876 rfl ?_
  refine Z_icmp_eq hC (dk d_law8 38 rfl) 879 1541 rfl (by decide) (fun c => ?_) (fun c => absurd rfl c)
  exact ke w2 hI2
def Ok_undo (N : Nat) (Inv : Wd → Prop) : Prop := ∀ (a1 : Int32) (w : Wd), Inv w → ∃ (r : Int32) (w1 w2 : Wd), f_X4_undo N a1 w = some (r, w1) ∧ f_X5_undo N a1 w1 = some (r, w2) ∧ Inv w2
set_option maxRecDepth 20000 in
set_option maxHeartbeats 4000000 in
theorem law_c21 {x : CX} {b L : Nat} {sc : Nat → Int32} {Inv : Wd → Prop} {N : Nat} (hC : Cx x RL code 4 30) (hX : va_X b L sc (xs x) (xs x).heap) (hbl : b < (xs x).heap.size) (hbA : ¬ aG (xG x) b) (he : (xG x).2.2 51 0 = b) (Hk : Ok_undo N Inv) {v : Int32} (i1 : vp_in (v + 1) L) (ke : ∀ w, Inv w → Z x 1541 [some (vr 51 0), some (vr 0 0), some (vr 5 0), some (vi v)] [] w) (w : Wd) (hI : Inv w) : Z x 881 [some (vr 51 0), some (vr 0 0), some (vr 5 0), some (vi v)] [] w := by
  obtain ⟨r, w1, w2, h1, h2, hI2⟩ := Hk (sc (v + 1).toNatClampNeg) w hI
  refine Z_aload_n hC (dk d_law8 41 rfl) 882 rfl rfl rfl ?_
  refine Z_aload_n hC (dk d_law8 42 rfl) 883 rfl rfl rfl ?_
  refine Z_iload_n hC (dk d_law8 43 rfl) 884 rfl rfl rfl ?_
  refine Z_iconst (v := 1) hC (dk d_law8 44 rfl) 885 rfl (by decide) ?_
  refine Z_iadd hC (dk d_law8 45 rfl) 886 rfl ?_
  refine Z_sld hC hX hbl hbA he i1 (dk d_law8 46 rfl) 887 rfl ?_
  refine K_L_102 [vi (sc (v + 1).toNatClampNeg)] hC m_0 (s_X4_undo (xG x) (xl x) N (sc (v + 1).toNatClampNeg) w (r, w1) h1) (Nat.le_of_ble_eq_true rfl) rfl rfl rfl (Nat.le_of_ble_eq_true rfl) (dk d_law8 47 rfl) 890 rfl ?_
  refine Z_aload_n hC (dk d_law8 48 rfl) 891 rfl rfl rfl ?_
  refine Z_aload_n hC (dk d_law8 49 rfl) 892 rfl rfl rfl ?_
  refine Z_iload_n hC (dk d_law8 50 rfl) 893 rfl rfl rfl ?_
  refine Z_iconst (v := 1) hC (dk d_law8 51 rfl) 894 rfl (by decide) ?_
  refine Z_iadd hC (dk d_law8 52 rfl) 895 rfl ?_
  refine Z_sld hC hX hbl hbA he i1 (dk d_law8 53 rfl) 896 rfl ?_
  refine K_L_105 [vi (sc (v + 1).toNatClampNeg)] hC m_5 (s_X5_undo (xG x) (xl x) N (sc (v + 1).toNatClampNeg) w1 (r, w2) h2) (Nat.le_of_ble_eq_true rfl) rfl rfl rfl (Nat.le_of_ble_eq_true rfl) (dk d_law8 54 rfl) 899 rfl ?_
  refine Z_icmp_eq hC (dk d_law8 55 rfl) 902 1541 rfl (by decide) (fun c => ?_) (fun c => absurd rfl c)
  exact ke w2 hI2
def Ok_drew (N : Nat) (Inv : Wd → Prop) : Prop := ∀ (a1 : Int32) (w : Wd), Inv w → ∃ (r : Int32) (w1 w2 : Wd), f_X4_drew N a1 w = some (r, w1) ∧ f_X5_drew N a1 w1 = some (r, w2) ∧ Inv w2
set_option maxRecDepth 20000 in
set_option maxHeartbeats 4000000 in
theorem law_c22 {x : CX} {b L : Nat} {sc : Nat → Int32} {Inv : Wd → Prop} {N : Nat} (hC : Cx x RL code 4 30) (hX : va_X b L sc (xs x) (xs x).heap) (hbl : b < (xs x).heap.size) (hbA : ¬ aG (xG x) b) (he : (xG x).2.2 51 0 = b) (Hk : Ok_drew N Inv) {v : Int32} (i1 : vp_in (v + 1) L) (ke : ∀ w, Inv w → Z x 1541 [some (vr 51 0), some (vr 0 0), some (vr 5 0), some (vi v)] [] w) (w : Wd) (hI : Inv w) : Z x 904 [some (vr 51 0), some (vr 0 0), some (vr 5 0), some (vi v)] [] w := by
  obtain ⟨r, w1, w2, h1, h2, hI2⟩ := Hk (sc (v + 1).toNatClampNeg) w hI
  refine Z_aload_n hC (dk d_law8 58 rfl) 905 rfl rfl rfl ?_
  refine Z_aload_n hC (dk d_law8 59 rfl) 906 rfl rfl rfl ?_
  refine Z_iload_n hC (dk d_law9 0 rfl) 907 rfl rfl rfl ?_
  refine Z_iconst (v := 1) hC (dk d_law9 1 rfl) 908 rfl (by decide) ?_
  refine Z_iadd hC (dk d_law9 2 rfl) 909 rfl ?_
  refine Z_sld hC hX hbl hbA he i1 (dk d_law9 3 rfl) 910 rfl ?_
  refine K_L_106 [vi (sc (v + 1).toNatClampNeg)] hC m_0 (s_X4_drew (xG x) (xl x) N (sc (v + 1).toNatClampNeg) w (r, w1) h1) (Nat.le_of_ble_eq_true rfl) rfl rfl rfl (Nat.le_of_ble_eq_true rfl) (dk d_law9 4 rfl) 913 rfl ?_
  refine Z_aload_n hC (dk d_law9 5 rfl) 914 rfl rfl rfl ?_
  refine Z_aload_n hC (dk d_law9 6 rfl) 915 rfl rfl rfl ?_
  refine Z_iload_n hC (dk d_law9 7 rfl) 916 rfl rfl rfl ?_
  refine Z_iconst (v := 1) hC (dk d_law9 8 rfl) 917 rfl (by decide) ?_
  refine Z_iadd hC (dk d_law9 9 rfl) 918 rfl ?_
  refine Z_sld hC hX hbl hbA he i1 (dk d_law9 10 rfl) 919 rfl ?_
  refine K_L_109 [vi (sc (v + 1).toNatClampNeg)] hC m_5 (s_X5_drew (xG x) (xl x) N (sc (v + 1).toNatClampNeg) w1 (r, w2) h2) (Nat.le_of_ble_eq_true rfl) rfl rfl rfl (Nat.le_of_ble_eq_true rfl) (dk d_law9 11 rfl) 922 rfl ?_
  refine Z_icmp_eq hC (dk d_law9 12 rfl) 925 1541 rfl (by decide) (fun c => ?_) (fun c => absurd rfl c)
  exact ke w2 hI2
def Ok_can (N : Nat) (Inv : Wd → Prop) : Prop := ∀ (w : Wd), Inv w → ∃ (r : Int32) (w1 w2 : Wd), f_X4_can N w = some (r, w1) ∧ f_X5_can N w1 = some (r, w2) ∧ Inv w2
set_option maxRecDepth 20000 in
set_option maxHeartbeats 4000000 in
theorem law_c23 {x : CX} {b L : Nat} {sc : Nat → Int32} {Inv : Wd → Prop} {N : Nat} (hC : Cx x RL code 4 30) (hX : va_X b L sc (xs x) (xs x).heap) (hbl : b < (xs x).heap.size) (hbA : ¬ aG (xG x) b) (he : (xG x).2.2 51 0 = b) (Hk : Ok_can N Inv) {v : Int32} (ke : ∀ w, Inv w → Z x 1541 [some (vr 51 0), some (vr 0 0), some (vr 5 0), some (vi v)] [] w) (w : Wd) (hI : Inv w) : Z x 927 [some (vr 51 0), some (vr 0 0), some (vr 5 0), some (vi v)] [] w := by
  obtain ⟨r, w1, w2, h1, h2, hI2⟩ := Hk w hI
  refine Z_aload_n hC (dk d_law9 15 rfl) 928 rfl rfl rfl ?_
  refine K_L_110 [] hC m_0 (s_X4_can (xG x) (xl x) N  w (r, w1) h1) (Nat.le_of_ble_eq_true rfl) rfl rfl rfl (Nat.le_of_ble_eq_true rfl) (dk d_law9 16 rfl) 931 rfl ?_
  refine Z_aload_n hC (dk d_law9 17 rfl) 932 rfl rfl rfl ?_
  refine K_L_113 [] hC m_5 (s_X5_can (xG x) (xl x) N  w1 (r, w2) h2) (Nat.le_of_ble_eq_true rfl) rfl rfl rfl (Nat.le_of_ble_eq_true rfl) (dk d_law9 18 rfl) 935 rfl ?_
  refine Z_icmp_eq hC (dk d_law9 19 rfl) 938 1541 rfl (by decide) (fun c => ?_) (fun c => absurd rfl c)
  exact ke w2 hI2
def Ok_turns (N : Nat) (Inv : Wd → Prop) : Prop := ∀ (a1 a2 : Int32) (w : Wd), Inv w → ∃ (r : Int32) (w1 w2 : Wd), f_X4_turns N a1 a2 w = some (r, w1) ∧ f_X5_turns N a1 a2 w1 = some (r, w2) ∧ Inv w2
set_option maxRecDepth 20000 in
set_option maxHeartbeats 4000000 in
theorem law_c24 {x : CX} {b L : Nat} {sc : Nat → Int32} {Inv : Wd → Prop} {N : Nat} (hC : Cx x RL code 4 30) (hX : va_X b L sc (xs x) (xs x).heap) (hbl : b < (xs x).heap.size) (hbA : ¬ aG (xG x) b) (he : (xG x).2.2 51 0 = b) (Hk : Ok_turns N Inv) {v : Int32} (i1 : vp_in (v + 1) L) (i2 : vp_in (v + 2) L) (ke : ∀ w, Inv w → Z x 1541 [some (vr 51 0), some (vr 0 0), some (vr 5 0), some (vi v)] [] w) (w : Wd) (hI : Inv w) : Z x 940 [some (vr 51 0), some (vr 0 0), some (vr 5 0), some (vi v)] [] w := by
  obtain ⟨r, w1, w2, h1, h2, hI2⟩ := Hk (sc (v + 1).toNatClampNeg) (sc (v + 2).toNatClampNeg) w hI
  refine Z_aload_n hC (dk d_law9 22 rfl) 941 rfl rfl rfl ?_
  refine Z_aload_n hC (dk d_law9 23 rfl) 942 rfl rfl rfl ?_
  refine Z_iload_n hC (dk d_law9 24 rfl) 943 rfl rfl rfl ?_
  refine Z_iconst (v := 1) hC (dk d_law9 25 rfl) 944 rfl (by decide) ?_
  refine Z_iadd hC (dk d_law9 26 rfl) 945 rfl ?_
  refine Z_sld hC hX hbl hbA he i1 (dk d_law9 27 rfl) 946 rfl ?_
  refine Z_aload_n hC (dk d_law9 28 rfl) 947 rfl rfl rfl ?_
  refine Z_iload_n hC (dk d_law9 29 rfl) 948 rfl rfl rfl ?_
  refine Z_iconst (v := 2) hC (dk d_law9 30 rfl) 949 rfl (by decide) ?_
  refine Z_iadd hC (dk d_law9 31 rfl) 950 rfl ?_
  refine Z_sld hC hX hbl hbA he i2 (dk d_law9 32 rfl) 951 rfl ?_
  refine K_L_114 [vi (sc (v + 1).toNatClampNeg), vi (sc (v + 2).toNatClampNeg)] hC m_0 (s_X4_turns (xG x) (xl x) N (sc (v + 1).toNatClampNeg) (sc (v + 2).toNatClampNeg) w (r, w1) h1) (Nat.le_of_ble_eq_true rfl) rfl rfl rfl (Nat.le_of_ble_eq_true rfl) (dk d_law9 33 rfl) 954 rfl ?_
  refine Z_aload_n hC (dk d_law9 34 rfl) 955 rfl rfl rfl ?_
  refine Z_aload_n hC (dk d_law9 35 rfl) 956 rfl rfl rfl ?_
  refine Z_iload_n hC (dk d_law9 36 rfl) 957 rfl rfl rfl ?_
  refine Z_iconst (v := 1) hC (dk d_law9 37 rfl) 958 rfl (by decide) ?_
  refine Z_iadd hC (dk d_law9 38 rfl) 959 rfl ?_
  refine Z_sld hC hX hbl hbA he i1 (dk d_law9 39 rfl) 960 rfl ?_
  refine Z_aload_n hC (dk d_law9 40 rfl) 961 rfl rfl rfl ?_
  refine Z_iload_n hC (dk d_law9 41 rfl) 962 rfl rfl rfl ?_
  refine Z_iconst (v := 2) hC (dk d_law9 42 rfl) 963 rfl (by decide) ?_
  refine Z_iadd hC (dk d_law9 43 rfl) 964 rfl ?_
  refine Z_sld hC hX hbl hbA he i2 (dk d_law9 44 rfl) 965 rfl ?_
  refine K_L_117 [vi (sc (v + 1).toNatClampNeg), vi (sc (v + 2).toNatClampNeg)] hC m_5 (s_X5_turns (xG x) (xl x) N (sc (v + 1).toNatClampNeg) (sc (v + 2).toNatClampNeg) w1 (r, w2) h2) (Nat.le_of_ble_eq_true rfl) rfl rfl rfl (Nat.le_of_ble_eq_true rfl) (dk d_law9 45 rfl) 968 rfl ?_
  refine Z_icmp_eq hC (dk d_law9 46 rfl) 971 1541 rfl (by decide) (fun c => ?_) (fun c => absurd rfl c)
  exact ke w2 hI2
def Ok_alike (N : Nat) (Inv : Wd → Prop) : Prop := ∀ (a1 a2 : Int32) (w : Wd), Inv w → ∃ (r : Int32) (w1 w2 : Wd), f_X4_alike N a1 a2 w = some (r, w1) ∧ f_X5_alike N a1 a2 w1 = some (r, w2) ∧ Inv w2
set_option maxRecDepth 20000 in
set_option maxHeartbeats 4000000 in
theorem law_c25 {x : CX} {b L : Nat} {sc : Nat → Int32} {Inv : Wd → Prop} {N : Nat} (hC : Cx x RL code 4 30) (hX : va_X b L sc (xs x) (xs x).heap) (hbl : b < (xs x).heap.size) (hbA : ¬ aG (xG x) b) (he : (xG x).2.2 51 0 = b) (Hk : Ok_alike N Inv) {v : Int32} (i1 : vp_in (v + 1) L) (i2 : vp_in (v + 2) L) (ke : ∀ w, Inv w → Z x 1541 [some (vr 51 0), some (vr 0 0), some (vr 5 0), some (vi v)] [] w) (w : Wd) (hI : Inv w) : Z x 973 [some (vr 51 0), some (vr 0 0), some (vr 5 0), some (vi v)] [] w := by
  obtain ⟨r, w1, w2, h1, h2, hI2⟩ := Hk (sc (v + 1).toNatClampNeg) (sc (v + 2).toNatClampNeg) w hI
  refine Z_aload_n hC (dk d_law9 49 rfl) 974 rfl rfl rfl ?_
  refine Z_aload_n hC (dk d_law9 50 rfl) 975 rfl rfl rfl ?_
  refine Z_iload_n hC (dk d_law9 51 rfl) 976 rfl rfl rfl ?_
  refine Z_iconst (v := 1) hC (dk d_law9 52 rfl) 977 rfl (by decide) ?_
  refine Z_iadd hC (dk d_law9 53 rfl) 978 rfl ?_
  refine Z_sld hC hX hbl hbA he i1 (dk d_law9 54 rfl) 979 rfl ?_
  refine Z_aload_n hC (dk d_law9 55 rfl) 980 rfl rfl rfl ?_
  refine Z_iload_n hC (dk d_law9 56 rfl) 981 rfl rfl rfl ?_
  refine Z_iconst (v := 2) hC (dk d_law9 57 rfl) 982 rfl (by decide) ?_
  refine Z_iadd hC (dk d_law9 58 rfl) 983 rfl ?_
  refine Z_sld hC hX hbl hbA he i2 (dk d_law9 59 rfl) 984 rfl ?_
  refine K_L_118 [vi (sc (v + 1).toNatClampNeg), vi (sc (v + 2).toNatClampNeg)] hC m_0 (s_X4_alike (xG x) (xl x) N (sc (v + 1).toNatClampNeg) (sc (v + 2).toNatClampNeg) w (r, w1) h1) (Nat.le_of_ble_eq_true rfl) rfl rfl rfl (Nat.le_of_ble_eq_true rfl) (dk d_law10 0 rfl) 987 rfl ?_
  refine Z_aload_n hC (dk d_law10 1 rfl) 988 rfl rfl rfl ?_
  refine Z_aload_n hC (dk d_law10 2 rfl) 989 rfl rfl rfl ?_
  refine Z_iload_n hC (dk d_law10 3 rfl) 990 rfl rfl rfl ?_
  refine Z_iconst (v := 1) hC (dk d_law10 4 rfl) 991 rfl (by decide) ?_
  refine Z_iadd hC (dk d_law10 5 rfl) 992 rfl ?_
  refine Z_sld hC hX hbl hbA he i1 (dk d_law10 6 rfl) 993 rfl ?_
  refine Z_aload_n hC (dk d_law10 7 rfl) 994 rfl rfl rfl ?_
  refine Z_iload_n hC (dk d_law10 8 rfl) 995 rfl rfl rfl ?_
  refine Z_iconst (v := 2) hC (dk d_law10 9 rfl) 996 rfl (by decide) ?_
  refine Z_iadd hC (dk d_law10 10 rfl) 997 rfl ?_
  refine Z_sld hC hX hbl hbA he i2 (dk d_law10 11 rfl) 998 rfl ?_
  refine K_L_121 [vi (sc (v + 1).toNatClampNeg), vi (sc (v + 2).toNatClampNeg)] hC m_5 (s_X5_alike (xG x) (xl x) N (sc (v + 1).toNatClampNeg) (sc (v + 2).toNatClampNeg) w1 (r, w2) h2) (Nat.le_of_ble_eq_true rfl) rfl rfl rfl (Nat.le_of_ble_eq_true rfl) (dk d_law10 12 rfl) 1001 rfl ?_
  refine Z_icmp_eq hC (dk d_law10 13 rfl) 1004 1541 rfl (by decide) (fun c => ?_) (fun c => absurd rfl c)
  exact ke w2 hI2
def Ok_play (N : Nat) (Inv : Wd → Prop) : Prop := ∀ (a1 : Int32) (w : Wd), Inv w → ∃ (r : Int32) (w1 w2 : Wd), f_X4_play N a1 w = some (r, w1) ∧ f_X5_play N a1 w1 = some (r, w2) ∧ Inv w2
set_option maxRecDepth 20000 in
set_option maxHeartbeats 4000000 in
theorem law_c26 {x : CX} {b L : Nat} {sc : Nat → Int32} {Inv : Wd → Prop} {N : Nat} (hC : Cx x RL code 4 30) (hX : va_X b L sc (xs x) (xs x).heap) (hbl : b < (xs x).heap.size) (hbA : ¬ aG (xG x) b) (he : (xG x).2.2 51 0 = b) (Hk : Ok_play N Inv) {v : Int32} (i1 : vp_in (v + 1) L) (ke : ∀ w, Inv w → Z x 1541 [some (vr 51 0), some (vr 0 0), some (vr 5 0), some (vi v)] [] w) (w : Wd) (hI : Inv w) : Z x 1006 [some (vr 51 0), some (vr 0 0), some (vr 5 0), some (vi v)] [] w := by
  obtain ⟨r, w1, w2, h1, h2, hI2⟩ := Hk (sc (v + 1).toNatClampNeg) w hI
  refine Z_aload_n hC (dk d_law10 16 rfl) 1007 rfl rfl rfl ?_
  refine Z_aload_n hC (dk d_law10 17 rfl) 1008 rfl rfl rfl ?_
  refine Z_iload_n hC (dk d_law10 18 rfl) 1009 rfl rfl rfl ?_
  refine Z_iconst (v := 1) hC (dk d_law10 19 rfl) 1010 rfl (by decide) ?_
  refine Z_iadd hC (dk d_law10 20 rfl) 1011 rfl ?_
  refine Z_sld hC hX hbl hbA he i1 (dk d_law10 21 rfl) 1012 rfl ?_
  refine K_L_122 [vi (sc (v + 1).toNatClampNeg)] hC m_0 (s_X4_play (xG x) (xl x) N (sc (v + 1).toNatClampNeg) w (r, w1) h1) (Nat.le_of_ble_eq_true rfl) rfl rfl rfl (Nat.le_of_ble_eq_true rfl) (dk d_law10 22 rfl) 1015 rfl ?_
  refine Z_aload_n hC (dk d_law10 23 rfl) 1016 rfl rfl rfl ?_
  refine Z_aload_n hC (dk d_law10 24 rfl) 1017 rfl rfl rfl ?_
  refine Z_iload_n hC (dk d_law10 25 rfl) 1018 rfl rfl rfl ?_
  refine Z_iconst (v := 1) hC (dk d_law10 26 rfl) 1019 rfl (by decide) ?_
  refine Z_iadd hC (dk d_law10 27 rfl) 1020 rfl ?_
  refine Z_sld hC hX hbl hbA he i1 (dk d_law10 28 rfl) 1021 rfl ?_
  refine K_L_125 [vi (sc (v + 1).toNatClampNeg)] hC m_5 (s_X5_play (xG x) (xl x) N (sc (v + 1).toNatClampNeg) w1 (r, w2) h2) (Nat.le_of_ble_eq_true rfl) rfl rfl rfl (Nat.le_of_ble_eq_true rfl) (dk d_law10 29 rfl) 1024 rfl ?_
  refine Z_icmp_eq hC (dk d_law10 30 rfl) 1027 1541 rfl (by decide) (fun c => ?_) (fun c => absurd rfl c)
  exact ke w2 hI2
def Ok_keep (N : Nat) (Inv : Wd → Prop) : Prop := ∀ (a1 : Int32) (w : Wd), Inv w → ∃ (r : Int32) (w1 w2 : Wd), f_X4_keep N a1 w = some (r, w1) ∧ f_X5_keep N a1 w1 = some (r, w2) ∧ Inv w2
set_option maxRecDepth 20000 in
set_option maxHeartbeats 4000000 in
theorem law_c27 {x : CX} {b L : Nat} {sc : Nat → Int32} {Inv : Wd → Prop} {N : Nat} (hC : Cx x RL code 4 30) (hX : va_X b L sc (xs x) (xs x).heap) (hbl : b < (xs x).heap.size) (hbA : ¬ aG (xG x) b) (he : (xG x).2.2 51 0 = b) (Hk : Ok_keep N Inv) {v : Int32} (i1 : vp_in (v + 1) L) (ke : ∀ w, Inv w → Z x 1541 [some (vr 51 0), some (vr 0 0), some (vr 5 0), some (vi v)] [] w) (w : Wd) (hI : Inv w) : Z x 1029 [some (vr 51 0), some (vr 0 0), some (vr 5 0), some (vi v)] [] w := by
  obtain ⟨r, w1, w2, h1, h2, hI2⟩ := Hk (sc (v + 1).toNatClampNeg) w hI
  refine Z_aload_n hC (dk d_law10 33 rfl) 1030 rfl rfl rfl ?_
  refine Z_aload_n hC (dk d_law10 34 rfl) 1031 rfl rfl rfl ?_
  refine Z_iload_n hC (dk d_law10 35 rfl) 1032 rfl rfl rfl ?_
  refine Z_iconst (v := 1) hC (dk d_law10 36 rfl) 1033 rfl (by decide) ?_
  refine Z_iadd hC (dk d_law10 37 rfl) 1034 rfl ?_
  refine Z_sld hC hX hbl hbA he i1 (dk d_law10 38 rfl) 1035 rfl ?_
  refine K_L_126 [vi (sc (v + 1).toNatClampNeg)] hC m_0 (s_X4_keep (xG x) (xl x) N (sc (v + 1).toNatClampNeg) w (r, w1) h1) (Nat.le_of_ble_eq_true rfl) rfl rfl rfl (Nat.le_of_ble_eq_true rfl) (dk d_law10 39 rfl) 1038 rfl ?_
  refine Z_aload_n hC (dk d_law10 40 rfl) 1039 rfl rfl rfl ?_
  refine Z_aload_n hC (dk d_law10 41 rfl) 1040 rfl rfl rfl ?_
  refine Z_iload_n hC (dk d_law10 42 rfl) 1041 rfl rfl rfl ?_
  refine Z_iconst (v := 1) hC (dk d_law10 43 rfl) 1042 rfl (by decide) ?_
  refine Z_iadd hC (dk d_law10 44 rfl) 1043 rfl ?_
  refine Z_sld hC hX hbl hbA he i1 (dk d_law10 45 rfl) 1044 rfl ?_
  refine K_L_129 [vi (sc (v + 1).toNatClampNeg)] hC m_5 (s_X5_keep (xG x) (xl x) N (sc (v + 1).toNatClampNeg) w1 (r, w2) h2) (Nat.le_of_ble_eq_true rfl) rfl rfl rfl (Nat.le_of_ble_eq_true rfl) (dk d_law10 46 rfl) 1047 rfl ?_
  refine Z_icmp_eq hC (dk d_law10 47 rfl) 1050 1541 rfl (by decide) (fun c => ?_) (fun c => absurd rfl c)
  exact ke w2 hI2
def Ok_on (N : Nat) (Inv : Wd → Prop) : Prop := ∀ (a1 : Int32) (w : Wd), Inv w → ∃ (r : Int32) (w1 w2 : Wd), f_X4_on N a1 w = some (r, w1) ∧ f_X5_on N a1 w1 = some (r, w2) ∧ Inv w2
set_option maxRecDepth 20000 in
set_option maxHeartbeats 4000000 in
theorem law_c28 {x : CX} {b L : Nat} {sc : Nat → Int32} {Inv : Wd → Prop} {N : Nat} (hC : Cx x RL code 4 30) (hX : va_X b L sc (xs x) (xs x).heap) (hbl : b < (xs x).heap.size) (hbA : ¬ aG (xG x) b) (he : (xG x).2.2 51 0 = b) (Hk : Ok_on N Inv) {v : Int32} (i1 : vp_in (v + 1) L) (ke : ∀ w, Inv w → Z x 1541 [some (vr 51 0), some (vr 0 0), some (vr 5 0), some (vi v)] [] w) (w : Wd) (hI : Inv w) : Z x 1052 [some (vr 51 0), some (vr 0 0), some (vr 5 0), some (vi v)] [] w := by
  obtain ⟨r, w1, w2, h1, h2, hI2⟩ := Hk (sc (v + 1).toNatClampNeg) w hI
  refine Z_aload_n hC (dk d_law10 50 rfl) 1053 rfl rfl rfl ?_
  refine Z_aload_n hC (dk d_law10 51 rfl) 1054 rfl rfl rfl ?_
  refine Z_iload_n hC (dk d_law10 52 rfl) 1055 rfl rfl rfl ?_
  refine Z_iconst (v := 1) hC (dk d_law10 53 rfl) 1056 rfl (by decide) ?_
  refine Z_iadd hC (dk d_law10 54 rfl) 1057 rfl ?_
  refine Z_sld hC hX hbl hbA he i1 (dk d_law10 55 rfl) 1058 rfl ?_
  refine K_L_130 [vi (sc (v + 1).toNatClampNeg)] hC m_0 (s_X4_on (xG x) (xl x) N (sc (v + 1).toNatClampNeg) w (r, w1) h1) (Nat.le_of_ble_eq_true rfl) rfl rfl rfl (Nat.le_of_ble_eq_true rfl) (dk d_law10 56 rfl) 1061 rfl ?_
  refine Z_aload_n hC (dk d_law10 57 rfl) 1062 rfl rfl rfl ?_
  refine Z_aload_n hC (dk d_law10 58 rfl) 1063 rfl rfl rfl ?_
  refine Z_iload_n hC (dk d_law10 59 rfl) 1064 rfl rfl rfl ?_
  refine Z_iconst (v := 1) hC (dk d_law11 0 rfl) 1065 rfl (by decide) ?_
  refine Z_iadd hC (dk d_law11 1 rfl) 1066 rfl ?_
  refine Z_sld hC hX hbl hbA he i1 (dk d_law11 2 rfl) 1067 rfl ?_
  refine K_L_133 [vi (sc (v + 1).toNatClampNeg)] hC m_5 (s_X5_on (xG x) (xl x) N (sc (v + 1).toNatClampNeg) w1 (r, w2) h2) (Nat.le_of_ble_eq_true rfl) rfl rfl rfl (Nat.le_of_ble_eq_true rfl) (dk d_law11 3 rfl) 1070 rfl ?_
  refine Z_icmp_eq hC (dk d_law11 4 rfl) 1073 1541 rfl (by decide) (fun c => ?_) (fun c => absurd rfl c)
  exact ke w2 hI2
def Ok_year (N : Nat) (Inv : Wd → Prop) : Prop := ∀ (a1 : Int32) (w : Wd), Inv w → ∃ (r : Int32) (w1 w2 : Wd), f_X4_year N a1 w = some (r, w1) ∧ f_X5_year N a1 w1 = some (r, w2) ∧ Inv w2
set_option maxRecDepth 20000 in
set_option maxHeartbeats 4000000 in
theorem law_c29 {x : CX} {b L : Nat} {sc : Nat → Int32} {Inv : Wd → Prop} {N : Nat} (hC : Cx x RL code 4 30) (hX : va_X b L sc (xs x) (xs x).heap) (hbl : b < (xs x).heap.size) (hbA : ¬ aG (xG x) b) (he : (xG x).2.2 51 0 = b) (Hk : Ok_year N Inv) {v : Int32} (i1 : vp_in (v + 1) L) (ke : ∀ w, Inv w → Z x 1541 [some (vr 51 0), some (vr 0 0), some (vr 5 0), some (vi v)] [] w) (w : Wd) (hI : Inv w) : Z x 1075 [some (vr 51 0), some (vr 0 0), some (vr 5 0), some (vi v)] [] w := by
  obtain ⟨r, w1, w2, h1, h2, hI2⟩ := Hk (sc (v + 1).toNatClampNeg) w hI
  refine Z_aload_n hC (dk d_law11 7 rfl) 1076 rfl rfl rfl ?_
  refine Z_aload_n hC (dk d_law11 8 rfl) 1077 rfl rfl rfl ?_
  refine Z_iload_n hC (dk d_law11 9 rfl) 1078 rfl rfl rfl ?_
  refine Z_iconst (v := 1) hC (dk d_law11 10 rfl) 1079 rfl (by decide) ?_
  refine Z_iadd hC (dk d_law11 11 rfl) 1080 rfl ?_
  refine Z_sld hC hX hbl hbA he i1 (dk d_law11 12 rfl) 1081 rfl ?_
  refine K_L_134 [vi (sc (v + 1).toNatClampNeg)] hC m_0 (s_X4_year (xG x) (xl x) N (sc (v + 1).toNatClampNeg) w (r, w1) h1) (Nat.le_of_ble_eq_true rfl) rfl rfl rfl (Nat.le_of_ble_eq_true rfl) (dk d_law11 13 rfl) 1084 rfl ?_
  refine Z_aload_n hC (dk d_law11 14 rfl) 1085 rfl rfl rfl ?_
  refine Z_aload_n hC (dk d_law11 15 rfl) 1086 rfl rfl rfl ?_
  refine Z_iload_n hC (dk d_law11 16 rfl) 1087 rfl rfl rfl ?_
  refine Z_iconst (v := 1) hC (dk d_law11 17 rfl) 1088 rfl (by decide) ?_
  refine Z_iadd hC (dk d_law11 18 rfl) 1089 rfl ?_
  refine Z_sld hC hX hbl hbA he i1 (dk d_law11 19 rfl) 1090 rfl ?_
  refine K_L_137 [vi (sc (v + 1).toNatClampNeg)] hC m_5 (s_X5_year (xG x) (xl x) N (sc (v + 1).toNatClampNeg) w1 (r, w2) h2) (Nat.le_of_ble_eq_true rfl) rfl rfl rfl (Nat.le_of_ble_eq_true rfl) (dk d_law11 20 rfl) 1093 rfl ?_
  refine Z_icmp_eq hC (dk d_law11 21 rfl) 1096 1541 rfl (by decide) (fun c => ?_) (fun c => absurd rfl c)
  exact ke w2 hI2
def Ok_forget (N : Nat) (Inv : Wd → Prop) : Prop := ∀ (a1 : Int32) (w : Wd), Inv w → ∃ (r : Int32) (w1 w2 : Wd), f_X4_forget N a1 w = some (r, w1) ∧ f_X5_forget N a1 w1 = some (r, w2) ∧ Inv w2
set_option maxRecDepth 20000 in
set_option maxHeartbeats 4000000 in
theorem law_c30 {x : CX} {b L : Nat} {sc : Nat → Int32} {Inv : Wd → Prop} {N : Nat} (hC : Cx x RL code 4 30) (hX : va_X b L sc (xs x) (xs x).heap) (hbl : b < (xs x).heap.size) (hbA : ¬ aG (xG x) b) (he : (xG x).2.2 51 0 = b) (Hk : Ok_forget N Inv) {v : Int32} (i1 : vp_in (v + 1) L) (ke : ∀ w, Inv w → Z x 1541 [some (vr 51 0), some (vr 0 0), some (vr 5 0), some (vi v)] [] w) (w : Wd) (hI : Inv w) : Z x 1098 [some (vr 51 0), some (vr 0 0), some (vr 5 0), some (vi v)] [] w := by
  obtain ⟨r, w1, w2, h1, h2, hI2⟩ := Hk (sc (v + 1).toNatClampNeg) w hI
  refine Z_aload_n hC (dk d_law11 24 rfl) 1099 rfl rfl rfl ?_
  refine Z_aload_n hC (dk d_law11 25 rfl) 1100 rfl rfl rfl ?_
  refine Z_iload_n hC (dk d_law11 26 rfl) 1101 rfl rfl rfl ?_
  refine Z_iconst (v := 1) hC (dk d_law11 27 rfl) 1102 rfl (by decide) ?_
  refine Z_iadd hC (dk d_law11 28 rfl) 1103 rfl ?_
  refine Z_sld hC hX hbl hbA he i1 (dk d_law11 29 rfl) 1104 rfl ?_
  refine K_L_138 [vi (sc (v + 1).toNatClampNeg)] hC m_0 (s_X4_forget (xG x) (xl x) N (sc (v + 1).toNatClampNeg) w (r, w1) h1) (Nat.le_of_ble_eq_true rfl) rfl rfl rfl (Nat.le_of_ble_eq_true rfl) (dk d_law11 30 rfl) 1107 rfl ?_
  refine Z_aload_n hC (dk d_law11 31 rfl) 1108 rfl rfl rfl ?_
  refine Z_aload_n hC (dk d_law11 32 rfl) 1109 rfl rfl rfl ?_
  refine Z_iload_n hC (dk d_law11 33 rfl) 1110 rfl rfl rfl ?_
  refine Z_iconst (v := 1) hC (dk d_law11 34 rfl) 1111 rfl (by decide) ?_
  refine Z_iadd hC (dk d_law11 35 rfl) 1112 rfl ?_
  refine Z_sld hC hX hbl hbA he i1 (dk d_law11 36 rfl) 1113 rfl ?_
  refine K_L_141 [vi (sc (v + 1).toNatClampNeg)] hC m_5 (s_X5_forget (xG x) (xl x) N (sc (v + 1).toNatClampNeg) w1 (r, w2) h2) (Nat.le_of_ble_eq_true rfl) rfl rfl rfl (Nat.le_of_ble_eq_true rfl) (dk d_law11 37 rfl) 1116 rfl ?_
  refine Z_icmp_eq hC (dk d_law11 38 rfl) 1119 1541 rfl (by decide) (fun c => ?_) (fun c => absurd rfl c)
  exact ke w2 hI2
def Ok_run (N : Nat) (Inv : Wd → Prop) : Prop := ∀ (w : Wd), Inv w → ∃ (r : Int32) (w1 w2 : Wd), f_X4_run N w = some (r, w1) ∧ f_X5_run N w1 = some (r, w2) ∧ Inv w2
set_option maxRecDepth 20000 in
set_option maxHeartbeats 4000000 in
theorem law_c31 {x : CX} {b L : Nat} {sc : Nat → Int32} {Inv : Wd → Prop} {N : Nat} (hC : Cx x RL code 4 30) (hX : va_X b L sc (xs x) (xs x).heap) (hbl : b < (xs x).heap.size) (hbA : ¬ aG (xG x) b) (he : (xG x).2.2 51 0 = b) (Hk : Ok_run N Inv) {v : Int32} (ke : ∀ w, Inv w → Z x 1541 [some (vr 51 0), some (vr 0 0), some (vr 5 0), some (vi v)] [] w) (w : Wd) (hI : Inv w) : Z x 1121 [some (vr 51 0), some (vr 0 0), some (vr 5 0), some (vi v)] [] w := by
  obtain ⟨r, w1, w2, h1, h2, hI2⟩ := Hk w hI
  refine Z_aload_n hC (dk d_law11 41 rfl) 1122 rfl rfl rfl ?_
  refine K_L_142 [] hC m_0 (s_X4_run (xG x) (xl x) N  w (r, w1) h1) (Nat.le_of_ble_eq_true rfl) rfl rfl rfl (Nat.le_of_ble_eq_true rfl) (dk d_law11 42 rfl) 1125 rfl ?_
  refine Z_aload_n hC (dk d_law11 43 rfl) 1126 rfl rfl rfl ?_
  refine K_L_145 [] hC m_5 (s_X5_run (xG x) (xl x) N  w1 (r, w2) h2) (Nat.le_of_ble_eq_true rfl) rfl rfl rfl (Nat.le_of_ble_eq_true rfl) (dk d_law11 44 rfl) 1129 rfl ?_
  refine Z_icmp_eq hC (dk d_law11 45 rfl) 1132 1541 rfl (by decide) (fun c => ?_) (fun c => absurd rfl c)
  exact ke w2 hI2
def Ok_times (N : Nat) (Inv : Wd → Prop) : Prop := ∀ (a1 a2 : Int32) (w : Wd), Inv w → ∃ (r : Int32) (w1 w2 : Wd), f_X4_times N a1 a2 w = some (r, w1) ∧ f_X5_times N a1 a2 w1 = some (r, w2) ∧ Inv w2
set_option maxRecDepth 20000 in
set_option maxHeartbeats 4000000 in
theorem law_c32 {x : CX} {b L : Nat} {sc : Nat → Int32} {Inv : Wd → Prop} {N : Nat} (hC : Cx x RL code 4 30) (hX : va_X b L sc (xs x) (xs x).heap) (hbl : b < (xs x).heap.size) (hbA : ¬ aG (xG x) b) (he : (xG x).2.2 51 0 = b) (Hk : Ok_times N Inv) {v : Int32} (i1 : vp_in (v + 1) L) (i2 : vp_in (v + 2) L) (ke : ∀ w, Inv w → Z x 1541 [some (vr 51 0), some (vr 0 0), some (vr 5 0), some (vi v)] [] w) (w : Wd) (hI : Inv w) : Z x 1134 [some (vr 51 0), some (vr 0 0), some (vr 5 0), some (vi v)] [] w := by
  obtain ⟨r, w1, w2, h1, h2, hI2⟩ := Hk (sc (v + 1).toNatClampNeg) (sc (v + 2).toNatClampNeg) w hI
  refine Z_aload_n hC (dk d_law11 48 rfl) 1135 rfl rfl rfl ?_
  refine Z_aload_n hC (dk d_law11 49 rfl) 1136 rfl rfl rfl ?_
  refine Z_iload_n hC (dk d_law11 50 rfl) 1137 rfl rfl rfl ?_
  refine Z_iconst (v := 1) hC (dk d_law11 51 rfl) 1138 rfl (by decide) ?_
  refine Z_iadd hC (dk d_law11 52 rfl) 1139 rfl ?_
  refine Z_sld hC hX hbl hbA he i1 (dk d_law11 53 rfl) 1140 rfl ?_
  refine Z_aload_n hC (dk d_law11 54 rfl) 1141 rfl rfl rfl ?_
  refine Z_iload_n hC (dk d_law11 55 rfl) 1142 rfl rfl rfl ?_
  refine Z_iconst (v := 2) hC (dk d_law11 56 rfl) 1143 rfl (by decide) ?_
  refine Z_iadd hC (dk d_law11 57 rfl) 1144 rfl ?_
  refine Z_sld hC hX hbl hbA he i2 (dk d_law11 58 rfl) 1145 rfl ?_
  refine K_L_146 [vi (sc (v + 1).toNatClampNeg), vi (sc (v + 2).toNatClampNeg)] hC m_0 (s_X4_times (xG x) (xl x) N (sc (v + 1).toNatClampNeg) (sc (v + 2).toNatClampNeg) w (r, w1) h1) (Nat.le_of_ble_eq_true rfl) rfl rfl rfl (Nat.le_of_ble_eq_true rfl) (dk d_law11 59 rfl) 1148 rfl ?_
  refine Z_aload_n hC (dk d_law12 0 rfl) 1149 rfl rfl rfl ?_
  refine Z_aload_n hC (dk d_law12 1 rfl) 1150 rfl rfl rfl ?_
  refine Z_iload_n hC (dk d_law12 2 rfl) 1151 rfl rfl rfl ?_
  refine Z_iconst (v := 1) hC (dk d_law12 3 rfl) 1152 rfl (by decide) ?_
  refine Z_iadd hC (dk d_law12 4 rfl) 1153 rfl ?_
  refine Z_sld hC hX hbl hbA he i1 (dk d_law12 5 rfl) 1154 rfl ?_
  refine Z_aload_n hC (dk d_law12 6 rfl) 1155 rfl rfl rfl ?_
  refine Z_iload_n hC (dk d_law12 7 rfl) 1156 rfl rfl rfl ?_
  refine Z_iconst (v := 2) hC (dk d_law12 8 rfl) 1157 rfl (by decide) ?_
  refine Z_iadd hC (dk d_law12 9 rfl) 1158 rfl ?_
  refine Z_sld hC hX hbl hbA he i2 (dk d_law12 10 rfl) 1159 rfl ?_
  refine K_L_149 [vi (sc (v + 1).toNatClampNeg), vi (sc (v + 2).toNatClampNeg)] hC m_5 (s_X5_times (xG x) (xl x) N (sc (v + 1).toNatClampNeg) (sc (v + 2).toNatClampNeg) w1 (r, w2) h2) (Nat.le_of_ble_eq_true rfl) rfl rfl rfl (Nat.le_of_ble_eq_true rfl) (dk d_law12 11 rfl) 1162 rfl ?_
  refine Z_icmp_eq hC (dk d_law12 12 rfl) 1165 1541 rfl (by decide) (fun c => ?_) (fun c => absurd rfl c)
  exact ke w2 hI2
def Ok_fits (N : Nat) (Inv : Wd → Prop) : Prop := ∀ (a1 a2 : Int32) (w : Wd), Inv w → ∃ (r : Int32) (w1 w2 : Wd), f_X4_fits N a1 a2 w = some (r, w1) ∧ f_X5_fits N a1 a2 w1 = some (r, w2) ∧ Inv w2
set_option maxRecDepth 20000 in
set_option maxHeartbeats 4000000 in
theorem law_c33 {x : CX} {b L : Nat} {sc : Nat → Int32} {Inv : Wd → Prop} {N : Nat} (hC : Cx x RL code 4 30) (hX : va_X b L sc (xs x) (xs x).heap) (hbl : b < (xs x).heap.size) (hbA : ¬ aG (xG x) b) (he : (xG x).2.2 51 0 = b) (Hk : Ok_fits N Inv) {v : Int32} (i1 : vp_in (v + 1) L) (i2 : vp_in (v + 2) L) (ke : ∀ w, Inv w → Z x 1541 [some (vr 51 0), some (vr 0 0), some (vr 5 0), some (vi v)] [] w) (w : Wd) (hI : Inv w) : Z x 1167 [some (vr 51 0), some (vr 0 0), some (vr 5 0), some (vi v)] [] w := by
  obtain ⟨r, w1, w2, h1, h2, hI2⟩ := Hk (sc (v + 1).toNatClampNeg) (sc (v + 2).toNatClampNeg) w hI
  refine Z_aload_n hC (dk d_law12 15 rfl) 1168 rfl rfl rfl ?_
  refine Z_aload_n hC (dk d_law12 16 rfl) 1169 rfl rfl rfl ?_
  refine Z_iload_n hC (dk d_law12 17 rfl) 1170 rfl rfl rfl ?_
  refine Z_iconst (v := 1) hC (dk d_law12 18 rfl) 1171 rfl (by decide) ?_
  refine Z_iadd hC (dk d_law12 19 rfl) 1172 rfl ?_
  refine Z_sld hC hX hbl hbA he i1 (dk d_law12 20 rfl) 1173 rfl ?_
  refine Z_aload_n hC (dk d_law12 21 rfl) 1174 rfl rfl rfl ?_
  refine Z_iload_n hC (dk d_law12 22 rfl) 1175 rfl rfl rfl ?_
  refine Z_iconst (v := 2) hC (dk d_law12 23 rfl) 1176 rfl (by decide) ?_
  refine Z_iadd hC (dk d_law12 24 rfl) 1177 rfl ?_
  refine Z_sld hC hX hbl hbA he i2 (dk d_law12 25 rfl) 1178 rfl ?_
  refine K_L_150 [vi (sc (v + 1).toNatClampNeg), vi (sc (v + 2).toNatClampNeg)] hC m_0 (s_X4_fits (xG x) (xl x) N (sc (v + 1).toNatClampNeg) (sc (v + 2).toNatClampNeg) w (r, w1) h1) (Nat.le_of_ble_eq_true rfl) rfl rfl rfl (Nat.le_of_ble_eq_true rfl) (dk d_law12 26 rfl) 1181 rfl ?_
  refine Z_aload_n hC (dk d_law12 27 rfl) 1182 rfl rfl rfl ?_
  refine Z_aload_n hC (dk d_law12 28 rfl) 1183 rfl rfl rfl ?_
  refine Z_iload_n hC (dk d_law12 29 rfl) 1184 rfl rfl rfl ?_
  refine Z_iconst (v := 1) hC (dk d_law12 30 rfl) 1185 rfl (by decide) ?_
  refine Z_iadd hC (dk d_law12 31 rfl) 1186 rfl ?_
  refine Z_sld hC hX hbl hbA he i1 (dk d_law12 32 rfl) 1187 rfl ?_
  refine Z_aload_n hC (dk d_law12 33 rfl) 1188 rfl rfl rfl ?_
  refine Z_iload_n hC (dk d_law12 34 rfl) 1189 rfl rfl rfl ?_
  refine Z_iconst (v := 2) hC (dk d_law12 35 rfl) 1190 rfl (by decide) ?_
  refine Z_iadd hC (dk d_law12 36 rfl) 1191 rfl ?_
  refine Z_sld hC hX hbl hbA he i2 (dk d_law12 37 rfl) 1192 rfl ?_
  refine K_L_153 [vi (sc (v + 1).toNatClampNeg), vi (sc (v + 2).toNatClampNeg)] hC m_5 (s_X5_fits (xG x) (xl x) N (sc (v + 1).toNatClampNeg) (sc (v + 2).toNatClampNeg) w1 (r, w2) h2) (Nat.le_of_ble_eq_true rfl) rfl rfl rfl (Nat.le_of_ble_eq_true rfl) (dk d_law12 38 rfl) 1195 rfl ?_
  refine Z_icmp_eq hC (dk d_law12 39 rfl) 1198 1541 rfl (by decide) (fun c => ?_) (fun c => absurd rfl c)
  exact ke w2 hI2
def Ok_known (N : Nat) (Inv : Wd → Prop) : Prop := ∀ (a1 a2 : Int32) (w : Wd), Inv w → ∃ (r : Int32) (w1 w2 : Wd), f_X4_known N a1 a2 w = some (r, w1) ∧ f_X5_known N a1 a2 w1 = some (r, w2) ∧ Inv w2
set_option maxRecDepth 20000 in
set_option maxHeartbeats 4000000 in
theorem law_c34 {x : CX} {b L : Nat} {sc : Nat → Int32} {Inv : Wd → Prop} {N : Nat} (hC : Cx x RL code 4 30) (hX : va_X b L sc (xs x) (xs x).heap) (hbl : b < (xs x).heap.size) (hbA : ¬ aG (xG x) b) (he : (xG x).2.2 51 0 = b) (Hk : Ok_known N Inv) {v : Int32} (i1 : vp_in (v + 1) L) (i2 : vp_in (v + 2) L) (ke : ∀ w, Inv w → Z x 1541 [some (vr 51 0), some (vr 0 0), some (vr 5 0), some (vi v)] [] w) (w : Wd) (hI : Inv w) : Z x 1200 [some (vr 51 0), some (vr 0 0), some (vr 5 0), some (vi v)] [] w := by
  obtain ⟨r, w1, w2, h1, h2, hI2⟩ := Hk (sc (v + 1).toNatClampNeg) (sc (v + 2).toNatClampNeg) w hI
  refine Z_aload_n hC (dk d_law12 42 rfl) 1201 rfl rfl rfl ?_
  refine Z_aload_n hC (dk d_law12 43 rfl) 1202 rfl rfl rfl ?_
  refine Z_iload_n hC (dk d_law12 44 rfl) 1203 rfl rfl rfl ?_
  refine Z_iconst (v := 1) hC (dk d_law12 45 rfl) 1204 rfl (by decide) ?_
  refine Z_iadd hC (dk d_law12 46 rfl) 1205 rfl ?_
  refine Z_sld hC hX hbl hbA he i1 (dk d_law12 47 rfl) 1206 rfl ?_
  refine Z_aload_n hC (dk d_law12 48 rfl) 1207 rfl rfl rfl ?_
  refine Z_iload_n hC (dk d_law12 49 rfl) 1208 rfl rfl rfl ?_
  refine Z_iconst (v := 2) hC (dk d_law12 50 rfl) 1209 rfl (by decide) ?_
  refine Z_iadd hC (dk d_law12 51 rfl) 1210 rfl ?_
  refine Z_sld hC hX hbl hbA he i2 (dk d_law12 52 rfl) 1211 rfl ?_
  refine K_L_154 [vi (sc (v + 1).toNatClampNeg), vi (sc (v + 2).toNatClampNeg)] hC m_0 (s_X4_known (xG x) (xl x) N (sc (v + 1).toNatClampNeg) (sc (v + 2).toNatClampNeg) w (r, w1) h1) (Nat.le_of_ble_eq_true rfl) rfl rfl rfl (Nat.le_of_ble_eq_true rfl) (dk d_law12 53 rfl) 1214 rfl ?_
  refine Z_aload_n hC (dk d_law12 54 rfl) 1215 rfl rfl rfl ?_
  refine Z_aload_n hC (dk d_law12 55 rfl) 1216 rfl rfl rfl ?_
  refine Z_iload_n hC (dk d_law12 56 rfl) 1217 rfl rfl rfl ?_
  refine Z_iconst (v := 1) hC (dk d_law12 57 rfl) 1218 rfl (by decide) ?_
  refine Z_iadd hC (dk d_law12 58 rfl) 1219 rfl ?_
  refine Z_sld hC hX hbl hbA he i1 (dk d_law12 59 rfl) 1220 rfl ?_
  refine Z_aload_n hC (dk d_law13 0 rfl) 1221 rfl rfl rfl ?_
  refine Z_iload_n hC (dk d_law13 1 rfl) 1222 rfl rfl rfl ?_
  refine Z_iconst (v := 2) hC (dk d_law13 2 rfl) 1223 rfl (by decide) ?_
  refine Z_iadd hC (dk d_law13 3 rfl) 1224 rfl ?_
  refine Z_sld hC hX hbl hbA he i2 (dk d_law13 4 rfl) 1225 rfl ?_
  refine K_L_157 [vi (sc (v + 1).toNatClampNeg), vi (sc (v + 2).toNatClampNeg)] hC m_5 (s_X5_known (xG x) (xl x) N (sc (v + 1).toNatClampNeg) (sc (v + 2).toNatClampNeg) w1 (r, w2) h2) (Nat.le_of_ble_eq_true rfl) rfl rfl rfl (Nat.le_of_ble_eq_true rfl) (dk d_law13 5 rfl) 1228 rfl ?_
  refine Z_icmp_eq hC (dk d_law13 6 rfl) 1231 1541 rfl (by decide) (fun c => ?_) (fun c => absurd rfl c)
  exact ke w2 hI2
def Ok_still (N : Nat) (Inv : Wd → Prop) : Prop := ∀ (a1 a2 : Int32) (w : Wd), Inv w → ∃ (r : Int32) (w1 w2 : Wd), f_X4_still N a1 a2 w = some (r, w1) ∧ f_X5_still N a1 a2 w1 = some (r, w2) ∧ Inv w2
set_option maxRecDepth 20000 in
set_option maxHeartbeats 4000000 in
theorem law_c35 {x : CX} {b L : Nat} {sc : Nat → Int32} {Inv : Wd → Prop} {N : Nat} (hC : Cx x RL code 4 30) (hX : va_X b L sc (xs x) (xs x).heap) (hbl : b < (xs x).heap.size) (hbA : ¬ aG (xG x) b) (he : (xG x).2.2 51 0 = b) (Hk : Ok_still N Inv) {v : Int32} (i1 : vp_in (v + 1) L) (i2 : vp_in (v + 2) L) (ke : ∀ w, Inv w → Z x 1541 [some (vr 51 0), some (vr 0 0), some (vr 5 0), some (vi v)] [] w) (w : Wd) (hI : Inv w) : Z x 1233 [some (vr 51 0), some (vr 0 0), some (vr 5 0), some (vi v)] [] w := by
  obtain ⟨r, w1, w2, h1, h2, hI2⟩ := Hk (sc (v + 1).toNatClampNeg) (sc (v + 2).toNatClampNeg) w hI
  refine Z_aload_n hC (dk d_law13 9 rfl) 1234 rfl rfl rfl ?_
  refine Z_aload_n hC (dk d_law13 10 rfl) 1235 rfl rfl rfl ?_
  refine Z_iload_n hC (dk d_law13 11 rfl) 1236 rfl rfl rfl ?_
  refine Z_iconst (v := 1) hC (dk d_law13 12 rfl) 1237 rfl (by decide) ?_
  refine Z_iadd hC (dk d_law13 13 rfl) 1238 rfl ?_
  refine Z_sld hC hX hbl hbA he i1 (dk d_law13 14 rfl) 1239 rfl ?_
  refine Z_aload_n hC (dk d_law13 15 rfl) 1240 rfl rfl rfl ?_
  refine Z_iload_n hC (dk d_law13 16 rfl) 1241 rfl rfl rfl ?_
  refine Z_iconst (v := 2) hC (dk d_law13 17 rfl) 1242 rfl (by decide) ?_
  refine Z_iadd hC (dk d_law13 18 rfl) 1243 rfl ?_
  refine Z_sld hC hX hbl hbA he i2 (dk d_law13 19 rfl) 1244 rfl ?_
  refine K_L_158 [vi (sc (v + 1).toNatClampNeg), vi (sc (v + 2).toNatClampNeg)] hC m_0 (s_X4_still (xG x) (xl x) N (sc (v + 1).toNatClampNeg) (sc (v + 2).toNatClampNeg) w (r, w1) h1) (Nat.le_of_ble_eq_true rfl) rfl rfl rfl (Nat.le_of_ble_eq_true rfl) (dk d_law13 20 rfl) 1247 rfl ?_
  refine Z_aload_n hC (dk d_law13 21 rfl) 1248 rfl rfl rfl ?_
  refine Z_aload_n hC (dk d_law13 22 rfl) 1249 rfl rfl rfl ?_
  refine Z_iload_n hC (dk d_law13 23 rfl) 1250 rfl rfl rfl ?_
  refine Z_iconst (v := 1) hC (dk d_law13 24 rfl) 1251 rfl (by decide) ?_
  refine Z_iadd hC (dk d_law13 25 rfl) 1252 rfl ?_
  refine Z_sld hC hX hbl hbA he i1 (dk d_law13 26 rfl) 1253 rfl ?_
  refine Z_aload_n hC (dk d_law13 27 rfl) 1254 rfl rfl rfl ?_
  refine Z_iload_n hC (dk d_law13 28 rfl) 1255 rfl rfl rfl ?_
  refine Z_iconst (v := 2) hC (dk d_law13 29 rfl) 1256 rfl (by decide) ?_
  refine Z_iadd hC (dk d_law13 30 rfl) 1257 rfl ?_
  refine Z_sld hC hX hbl hbA he i2 (dk d_law13 31 rfl) 1258 rfl ?_
  refine K_L_161 [vi (sc (v + 1).toNatClampNeg), vi (sc (v + 2).toNatClampNeg)] hC m_5 (s_X5_still (xG x) (xl x) N (sc (v + 1).toNatClampNeg) (sc (v + 2).toNatClampNeg) w1 (r, w2) h2) (Nat.le_of_ble_eq_true rfl) rfl rfl rfl (Nat.le_of_ble_eq_true rfl) (dk d_law13 32 rfl) 1261 rfl ?_
  refine Z_icmp_eq hC (dk d_law13 33 rfl) 1264 1541 rfl (by decide) (fun c => ?_) (fun c => absurd rfl c)
  exact ke w2 hI2
def Ok_fewest (N : Nat) (Inv : Wd → Prop) : Prop := ∀ (a1 : Int32) (w : Wd), Inv w → ∃ (r : Int32) (w1 w2 : Wd), f_X4_fewest N a1 w = some (r, w1) ∧ f_X5_fewest N a1 w1 = some (r, w2) ∧ Inv w2
set_option maxRecDepth 20000 in
set_option maxHeartbeats 4000000 in
theorem law_c36 {x : CX} {b L : Nat} {sc : Nat → Int32} {Inv : Wd → Prop} {N : Nat} (hC : Cx x RL code 4 30) (hX : va_X b L sc (xs x) (xs x).heap) (hbl : b < (xs x).heap.size) (hbA : ¬ aG (xG x) b) (he : (xG x).2.2 51 0 = b) (Hk : Ok_fewest N Inv) {v : Int32} (i1 : vp_in (v + 1) L) (ke : ∀ w, Inv w → Z x 1541 [some (vr 51 0), some (vr 0 0), some (vr 5 0), some (vi v)] [] w) (w : Wd) (hI : Inv w) : Z x 1266 [some (vr 51 0), some (vr 0 0), some (vr 5 0), some (vi v)] [] w := by
  obtain ⟨r, w1, w2, h1, h2, hI2⟩ := Hk (sc (v + 1).toNatClampNeg) w hI
  refine Z_aload_n hC (dk d_law13 36 rfl) 1267 rfl rfl rfl ?_
  refine Z_aload_n hC (dk d_law13 37 rfl) 1268 rfl rfl rfl ?_
  refine Z_iload_n hC (dk d_law13 38 rfl) 1269 rfl rfl rfl ?_
  refine Z_iconst (v := 1) hC (dk d_law13 39 rfl) 1270 rfl (by decide) ?_
  refine Z_iadd hC (dk d_law13 40 rfl) 1271 rfl ?_
  refine Z_sld hC hX hbl hbA he i1 (dk d_law13 41 rfl) 1272 rfl ?_
  refine K_L_162 [vi (sc (v + 1).toNatClampNeg)] hC m_0 (s_X4_fewest (xG x) (xl x) N (sc (v + 1).toNatClampNeg) w (r, w1) h1) (Nat.le_of_ble_eq_true rfl) rfl rfl rfl (Nat.le_of_ble_eq_true rfl) (dk d_law13 42 rfl) 1275 rfl ?_
  refine Z_aload_n hC (dk d_law13 43 rfl) 1276 rfl rfl rfl ?_
  refine Z_aload_n hC (dk d_law13 44 rfl) 1277 rfl rfl rfl ?_
  refine Z_iload_n hC (dk d_law13 45 rfl) 1278 rfl rfl rfl ?_
  refine Z_iconst (v := 1) hC (dk d_law13 46 rfl) 1279 rfl (by decide) ?_
  refine Z_iadd hC (dk d_law13 47 rfl) 1280 rfl ?_
  refine Z_sld hC hX hbl hbA he i1 (dk d_law13 48 rfl) 1281 rfl ?_
  refine K_L_165 [vi (sc (v + 1).toNatClampNeg)] hC m_5 (s_X5_fewest (xG x) (xl x) N (sc (v + 1).toNatClampNeg) w1 (r, w2) h2) (Nat.le_of_ble_eq_true rfl) rfl rfl rfl (Nat.le_of_ble_eq_true rfl) (dk d_law13 49 rfl) 1284 rfl ?_
  refine Z_icmp_eq hC (dk d_law13 50 rfl) 1287 1541 rfl (by decide) (fun c => ?_) (fun c => absurd rfl c)
  exact ke w2 hI2
def Ok_drop (N : Nat) (Inv : Wd → Prop) : Prop := ∀ (w : Wd), Inv w → ∃ (r : Int32) (w1 w2 : Wd), f_X4_drop N w = some (r, w1) ∧ f_X5_drop N w1 = some (r, w2) ∧ Inv w2
set_option maxRecDepth 20000 in
set_option maxHeartbeats 4000000 in
theorem law_c37 {x : CX} {b L : Nat} {sc : Nat → Int32} {Inv : Wd → Prop} {N : Nat} (hC : Cx x RL code 4 30) (hX : va_X b L sc (xs x) (xs x).heap) (hbl : b < (xs x).heap.size) (hbA : ¬ aG (xG x) b) (he : (xG x).2.2 51 0 = b) (Hk : Ok_drop N Inv) {v : Int32} (ke : ∀ w, Inv w → Z x 1541 [some (vr 51 0), some (vr 0 0), some (vr 5 0), some (vi v)] [] w) (w : Wd) (hI : Inv w) : Z x 1289 [some (vr 51 0), some (vr 0 0), some (vr 5 0), some (vi v)] [] w := by
  obtain ⟨r, w1, w2, h1, h2, hI2⟩ := Hk w hI
  refine Z_aload_n hC (dk d_law13 53 rfl) 1290 rfl rfl rfl ?_
  refine K_L_166 [] hC m_0 (s_X4_drop (xG x) (xl x) N  w (r, w1) h1) (Nat.le_of_ble_eq_true rfl) rfl rfl rfl (Nat.le_of_ble_eq_true rfl) (dk d_law13 54 rfl) 1293 rfl ?_
  refine Z_aload_n hC (dk d_law13 55 rfl) 1294 rfl rfl rfl ?_
  refine K_L_169 [] hC m_5 (s_X5_drop (xG x) (xl x) N  w1 (r, w2) h2) (Nat.le_of_ble_eq_true rfl) rfl rfl rfl (Nat.le_of_ble_eq_true rfl) (dk d_law13 56 rfl) 1297 rfl ?_
  refine Z_icmp_eq hC (dk d_law13 57 rfl) 1300 1541 rfl (by decide) (fun c => ?_) (fun c => absurd rfl c)
  exact ke w2 hI2
def Ok_table (N : Nat) (Inv : Wd → Prop) : Prop := ∀ (a1 : Int32) (w : Wd), Inv w → ∃ (r : Int32) (w1 w2 : Wd), f_X4_table N a1 w = some (r, w1) ∧ f_X5_table N a1 w1 = some (r, w2) ∧ Inv w2
set_option maxRecDepth 20000 in
set_option maxHeartbeats 4000000 in
theorem law_c38 {x : CX} {b L : Nat} {sc : Nat → Int32} {Inv : Wd → Prop} {N : Nat} (hC : Cx x RL code 4 30) (hX : va_X b L sc (xs x) (xs x).heap) (hbl : b < (xs x).heap.size) (hbA : ¬ aG (xG x) b) (he : (xG x).2.2 51 0 = b) (Hk : Ok_table N Inv) {v : Int32} (i1 : vp_in (v + 1) L) (ke : ∀ w, Inv w → Z x 1541 [some (vr 51 0), some (vr 0 0), some (vr 5 0), some (vi v)] [] w) (w : Wd) (hI : Inv w) : Z x 1302 [some (vr 51 0), some (vr 0 0), some (vr 5 0), some (vi v)] [] w := by
  obtain ⟨r, w1, w2, h1, h2, hI2⟩ := Hk (sc (v + 1).toNatClampNeg) w hI
  refine Z_aload_n hC (dk d_law14 0 rfl) 1303 rfl rfl rfl ?_
  refine Z_aload_n hC (dk d_law14 1 rfl) 1304 rfl rfl rfl ?_
  refine Z_iload_n hC (dk d_law14 2 rfl) 1305 rfl rfl rfl ?_
  refine Z_iconst (v := 1) hC (dk d_law14 3 rfl) 1306 rfl (by decide) ?_
  refine Z_iadd hC (dk d_law14 4 rfl) 1307 rfl ?_
  refine Z_sld hC hX hbl hbA he i1 (dk d_law14 5 rfl) 1308 rfl ?_
  refine K_L_170 [vi (sc (v + 1).toNatClampNeg)] hC m_0 (s_X4_table (xG x) (xl x) N (sc (v + 1).toNatClampNeg) w (r, w1) h1) (Nat.le_of_ble_eq_true rfl) rfl rfl rfl (Nat.le_of_ble_eq_true rfl) (dk d_law14 6 rfl) 1311 rfl ?_
  refine Z_aload_n hC (dk d_law14 7 rfl) 1312 rfl rfl rfl ?_
  refine Z_aload_n hC (dk d_law14 8 rfl) 1313 rfl rfl rfl ?_
  refine Z_iload_n hC (dk d_law14 9 rfl) 1314 rfl rfl rfl ?_
  refine Z_iconst (v := 1) hC (dk d_law14 10 rfl) 1315 rfl (by decide) ?_
  refine Z_iadd hC (dk d_law14 11 rfl) 1316 rfl ?_
  refine Z_sld hC hX hbl hbA he i1 (dk d_law14 12 rfl) 1317 rfl ?_
  refine K_L_173 [vi (sc (v + 1).toNatClampNeg)] hC m_5 (s_X5_table (xG x) (xl x) N (sc (v + 1).toNatClampNeg) w1 (r, w2) h2) (Nat.le_of_ble_eq_true rfl) rfl rfl rfl (Nat.le_of_ble_eq_true rfl) (dk d_law14 13 rfl) 1320 rfl ?_
  refine Z_icmp_eq hC (dk d_law14 14 rfl) 1323 1541 rfl (by decide) (fun c => ?_) (fun c => absurd rfl c)
  exact ke w2 hI2
def Ok_rings (N : Nat) (Inv : Wd → Prop) : Prop := ∀ (a1 : Int32) (w : Wd), Inv w → ∃ (r : Int32) (w1 w2 : Wd), f_X4_rings N a1 w = some (r, w1) ∧ f_X5_rings N a1 w1 = some (r, w2) ∧ Inv w2
set_option maxRecDepth 20000 in
set_option maxHeartbeats 4000000 in
theorem law_c39 {x : CX} {b L : Nat} {sc : Nat → Int32} {Inv : Wd → Prop} {N : Nat} (hC : Cx x RL code 4 30) (hX : va_X b L sc (xs x) (xs x).heap) (hbl : b < (xs x).heap.size) (hbA : ¬ aG (xG x) b) (he : (xG x).2.2 51 0 = b) (Hk : Ok_rings N Inv) {v : Int32} (i1 : vp_in (v + 1) L) (ke : ∀ w, Inv w → Z x 1541 [some (vr 51 0), some (vr 0 0), some (vr 5 0), some (vi v)] [] w) (w : Wd) (hI : Inv w) : Z x 1325 [some (vr 51 0), some (vr 0 0), some (vr 5 0), some (vi v)] [] w := by
  obtain ⟨r, w1, w2, h1, h2, hI2⟩ := Hk (sc (v + 1).toNatClampNeg) w hI
  refine Z_aload_n hC (dk d_law14 17 rfl) 1326 rfl rfl rfl ?_
  refine Z_aload_n hC (dk d_law14 18 rfl) 1327 rfl rfl rfl ?_
  refine Z_iload_n hC (dk d_law14 19 rfl) 1328 rfl rfl rfl ?_
  refine Z_iconst (v := 1) hC (dk d_law14 20 rfl) 1329 rfl (by decide) ?_
  refine Z_iadd hC (dk d_law14 21 rfl) 1330 rfl ?_
  refine Z_sld hC hX hbl hbA he i1 (dk d_law14 22 rfl) 1331 rfl ?_
  refine K_L_174 [vi (sc (v + 1).toNatClampNeg)] hC m_0 (s_X4_rings (xG x) (xl x) N (sc (v + 1).toNatClampNeg) w (r, w1) h1) (Nat.le_of_ble_eq_true rfl) rfl rfl rfl (Nat.le_of_ble_eq_true rfl) (dk d_law14 23 rfl) 1334 rfl ?_
  refine Z_aload_n hC (dk d_law14 24 rfl) 1335 rfl rfl rfl ?_
  refine Z_aload_n hC (dk d_law14 25 rfl) 1336 rfl rfl rfl ?_
  refine Z_iload_n hC (dk d_law14 26 rfl) 1337 rfl rfl rfl ?_
  refine Z_iconst (v := 1) hC (dk d_law14 27 rfl) 1338 rfl (by decide) ?_
  refine Z_iadd hC (dk d_law14 28 rfl) 1339 rfl ?_
  refine Z_sld hC hX hbl hbA he i1 (dk d_law14 29 rfl) 1340 rfl ?_
  refine K_L_177 [vi (sc (v + 1).toNatClampNeg)] hC m_5 (s_X5_rings (xG x) (xl x) N (sc (v + 1).toNatClampNeg) w1 (r, w2) h2) (Nat.le_of_ble_eq_true rfl) rfl rfl rfl (Nat.le_of_ble_eq_true rfl) (dk d_law14 30 rfl) 1343 rfl ?_
  refine Z_icmp_eq hC (dk d_law14 31 rfl) 1346 1541 rfl (by decide) (fun c => ?_) (fun c => absurd rfl c)
  exact ke w2 hI2
def Ok_ringed (N : Nat) (Inv : Wd → Prop) : Prop := ∀ (a1 : Int32) (w : Wd), Inv w → ∃ (r : Int32) (w1 w2 : Wd), f_X4_ringed N a1 w = some (r, w1) ∧ f_X5_ringed N a1 w1 = some (r, w2) ∧ Inv w2
set_option maxRecDepth 20000 in
set_option maxHeartbeats 4000000 in
theorem law_c40 {x : CX} {b L : Nat} {sc : Nat → Int32} {Inv : Wd → Prop} {N : Nat} (hC : Cx x RL code 4 30) (hX : va_X b L sc (xs x) (xs x).heap) (hbl : b < (xs x).heap.size) (hbA : ¬ aG (xG x) b) (he : (xG x).2.2 51 0 = b) (Hk : Ok_ringed N Inv) {v : Int32} (i1 : vp_in (v + 1) L) (ke : ∀ w, Inv w → Z x 1541 [some (vr 51 0), some (vr 0 0), some (vr 5 0), some (vi v)] [] w) (w : Wd) (hI : Inv w) : Z x 1348 [some (vr 51 0), some (vr 0 0), some (vr 5 0), some (vi v)] [] w := by
  obtain ⟨r, w1, w2, h1, h2, hI2⟩ := Hk (sc (v + 1).toNatClampNeg) w hI
  refine Z_aload_n hC (dk d_law14 34 rfl) 1349 rfl rfl rfl ?_
  refine Z_aload_n hC (dk d_law14 35 rfl) 1350 rfl rfl rfl ?_
  refine Z_iload_n hC (dk d_law14 36 rfl) 1351 rfl rfl rfl ?_
  refine Z_iconst (v := 1) hC (dk d_law14 37 rfl) 1352 rfl (by decide) ?_
  refine Z_iadd hC (dk d_law14 38 rfl) 1353 rfl ?_
  refine Z_sld hC hX hbl hbA he i1 (dk d_law14 39 rfl) 1354 rfl ?_
  refine K_L_178 [vi (sc (v + 1).toNatClampNeg)] hC m_0 (s_X4_ringed (xG x) (xl x) N (sc (v + 1).toNatClampNeg) w (r, w1) h1) (Nat.le_of_ble_eq_true rfl) rfl rfl rfl (Nat.le_of_ble_eq_true rfl) (dk d_law14 40 rfl) 1357 rfl ?_
  refine Z_aload_n hC (dk d_law14 41 rfl) 1358 rfl rfl rfl ?_
  refine Z_aload_n hC (dk d_law14 42 rfl) 1359 rfl rfl rfl ?_
  refine Z_iload_n hC (dk d_law14 43 rfl) 1360 rfl rfl rfl ?_
  refine Z_iconst (v := 1) hC (dk d_law14 44 rfl) 1361 rfl (by decide) ?_
  refine Z_iadd hC (dk d_law14 45 rfl) 1362 rfl ?_
  refine Z_sld hC hX hbl hbA he i1 (dk d_law14 46 rfl) 1363 rfl ?_
  refine K_L_181 [vi (sc (v + 1).toNatClampNeg)] hC m_5 (s_X5_ringed (xG x) (xl x) N (sc (v + 1).toNatClampNeg) w1 (r, w2) h2) (Nat.le_of_ble_eq_true rfl) rfl rfl rfl (Nat.le_of_ble_eq_true rfl) (dk d_law14 47 rfl) 1366 rfl ?_
  refine Z_icmp_eq hC (dk d_law14 48 rfl) 1369 1541 rfl (by decide) (fun c => ?_) (fun c => absurd rfl c)
  exact ke w2 hI2
def Ok_even (N : Nat) (Inv : Wd → Prop) : Prop := ∀ (a1 : Int32) (w : Wd), Inv w → ∃ (r : Int32) (w1 w2 : Wd), f_X4_even N a1 w = some (r, w1) ∧ f_X5_even N a1 w1 = some (r, w2) ∧ Inv w2
set_option maxRecDepth 20000 in
set_option maxHeartbeats 4000000 in
theorem law_c41 {x : CX} {b L : Nat} {sc : Nat → Int32} {Inv : Wd → Prop} {N : Nat} (hC : Cx x RL code 4 30) (hX : va_X b L sc (xs x) (xs x).heap) (hbl : b < (xs x).heap.size) (hbA : ¬ aG (xG x) b) (he : (xG x).2.2 51 0 = b) (Hk : Ok_even N Inv) {v : Int32} (i1 : vp_in (v + 1) L) (ke : ∀ w, Inv w → Z x 1541 [some (vr 51 0), some (vr 0 0), some (vr 5 0), some (vi v)] [] w) (w : Wd) (hI : Inv w) : Z x 1371 [some (vr 51 0), some (vr 0 0), some (vr 5 0), some (vi v)] [] w := by
  obtain ⟨r, w1, w2, h1, h2, hI2⟩ := Hk (sc (v + 1).toNatClampNeg) w hI
  refine Z_aload_n hC (dk d_law14 51 rfl) 1372 rfl rfl rfl ?_
  refine Z_aload_n hC (dk d_law14 52 rfl) 1373 rfl rfl rfl ?_
  refine Z_iload_n hC (dk d_law14 53 rfl) 1374 rfl rfl rfl ?_
  refine Z_iconst (v := 1) hC (dk d_law14 54 rfl) 1375 rfl (by decide) ?_
  refine Z_iadd hC (dk d_law14 55 rfl) 1376 rfl ?_
  refine Z_sld hC hX hbl hbA he i1 (dk d_law14 56 rfl) 1377 rfl ?_
  refine K_L_182 [vi (sc (v + 1).toNatClampNeg)] hC m_0 (s_X4_even (xG x) (xl x) N (sc (v + 1).toNatClampNeg) w (r, w1) h1) (Nat.le_of_ble_eq_true rfl) rfl rfl rfl (Nat.le_of_ble_eq_true rfl) (dk d_law14 57 rfl) 1380 rfl ?_
  refine Z_aload_n hC (dk d_law14 58 rfl) 1381 rfl rfl rfl ?_
  refine Z_aload_n hC (dk d_law14 59 rfl) 1382 rfl rfl rfl ?_
  refine Z_iload_n hC (dk d_law15 0 rfl) 1383 rfl rfl rfl ?_
  refine Z_iconst (v := 1) hC (dk d_law15 1 rfl) 1384 rfl (by decide) ?_
  refine Z_iadd hC (dk d_law15 2 rfl) 1385 rfl ?_
  refine Z_sld hC hX hbl hbA he i1 (dk d_law15 3 rfl) 1386 rfl ?_
  refine K_L_185 [vi (sc (v + 1).toNatClampNeg)] hC m_5 (s_X5_even (xG x) (xl x) N (sc (v + 1).toNatClampNeg) w1 (r, w2) h2) (Nat.le_of_ble_eq_true rfl) rfl rfl rfl (Nat.le_of_ble_eq_true rfl) (dk d_law15 4 rfl) 1389 rfl ?_
  refine Z_icmp_eq hC (dk d_law15 5 rfl) 1392 1541 rfl (by decide) (fun c => ?_) (fun c => absurd rfl c)
  exact ke w2 hI2
def Ok_gain (N : Nat) (Inv : Wd → Prop) : Prop := ∀ (a1 a2 : Int32) (w : Wd), Inv w → ∃ (r : Int32) (w1 w2 : Wd), f_X4_gain N a1 a2 w = some (r, w1) ∧ f_X5_gain N a1 a2 w1 = some (r, w2) ∧ Inv w2
set_option maxRecDepth 20000 in
set_option maxHeartbeats 4000000 in
theorem law_c42 {x : CX} {b L : Nat} {sc : Nat → Int32} {Inv : Wd → Prop} {N : Nat} (hC : Cx x RL code 4 30) (hX : va_X b L sc (xs x) (xs x).heap) (hbl : b < (xs x).heap.size) (hbA : ¬ aG (xG x) b) (he : (xG x).2.2 51 0 = b) (Hk : Ok_gain N Inv) {v : Int32} (i1 : vp_in (v + 1) L) (i2 : vp_in (v + 2) L) (ke : ∀ w, Inv w → Z x 1541 [some (vr 51 0), some (vr 0 0), some (vr 5 0), some (vi v)] [] w) (w : Wd) (hI : Inv w) : Z x 1394 [some (vr 51 0), some (vr 0 0), some (vr 5 0), some (vi v)] [] w := by
  obtain ⟨r, w1, w2, h1, h2, hI2⟩ := Hk (sc (v + 1).toNatClampNeg) (sc (v + 2).toNatClampNeg) w hI
  refine Z_aload_n hC (dk d_law15 8 rfl) 1395 rfl rfl rfl ?_
  refine Z_aload_n hC (dk d_law15 9 rfl) 1396 rfl rfl rfl ?_
  refine Z_iload_n hC (dk d_law15 10 rfl) 1397 rfl rfl rfl ?_
  refine Z_iconst (v := 1) hC (dk d_law15 11 rfl) 1398 rfl (by decide) ?_
  refine Z_iadd hC (dk d_law15 12 rfl) 1399 rfl ?_
  refine Z_sld hC hX hbl hbA he i1 (dk d_law15 13 rfl) 1400 rfl ?_
  refine Z_aload_n hC (dk d_law15 14 rfl) 1401 rfl rfl rfl ?_
  refine Z_iload_n hC (dk d_law15 15 rfl) 1402 rfl rfl rfl ?_
  refine Z_iconst (v := 2) hC (dk d_law15 16 rfl) 1403 rfl (by decide) ?_
  refine Z_iadd hC (dk d_law15 17 rfl) 1404 rfl ?_
  refine Z_sld hC hX hbl hbA he i2 (dk d_law15 18 rfl) 1405 rfl ?_
  refine K_L_186 [vi (sc (v + 1).toNatClampNeg), vi (sc (v + 2).toNatClampNeg)] hC m_0 (s_X4_gain (xG x) (xl x) N (sc (v + 1).toNatClampNeg) (sc (v + 2).toNatClampNeg) w (r, w1) h1) (Nat.le_of_ble_eq_true rfl) rfl rfl rfl (Nat.le_of_ble_eq_true rfl) (dk d_law15 19 rfl) 1408 rfl ?_
  refine Z_aload_n hC (dk d_law15 20 rfl) 1409 rfl rfl rfl ?_
  refine Z_aload_n hC (dk d_law15 21 rfl) 1410 rfl rfl rfl ?_
  refine Z_iload_n hC (dk d_law15 22 rfl) 1411 rfl rfl rfl ?_
  refine Z_iconst (v := 1) hC (dk d_law15 23 rfl) 1412 rfl (by decide) ?_
  refine Z_iadd hC (dk d_law15 24 rfl) 1413 rfl ?_
  refine Z_sld hC hX hbl hbA he i1 (dk d_law15 25 rfl) 1414 rfl ?_
  refine Z_aload_n hC (dk d_law15 26 rfl) 1415 rfl rfl rfl ?_
  refine Z_iload_n hC (dk d_law15 27 rfl) 1416 rfl rfl rfl ?_
  refine Z_iconst (v := 2) hC (dk d_law15 28 rfl) 1417 rfl (by decide) ?_
  refine Z_iadd hC (dk d_law15 29 rfl) 1418 rfl ?_
  refine Z_sld hC hX hbl hbA he i2 (dk d_law15 30 rfl) 1419 rfl ?_
  refine K_L_189 [vi (sc (v + 1).toNatClampNeg), vi (sc (v + 2).toNatClampNeg)] hC m_5 (s_X5_gain (xG x) (xl x) N (sc (v + 1).toNatClampNeg) (sc (v + 2).toNatClampNeg) w1 (r, w2) h2) (Nat.le_of_ble_eq_true rfl) rfl rfl rfl (Nat.le_of_ble_eq_true rfl) (dk d_law15 31 rfl) 1422 rfl ?_
  refine Z_icmp_eq hC (dk d_law15 32 rfl) 1425 1541 rfl (by decide) (fun c => ?_) (fun c => absurd rfl c)
  exact ke w2 hI2
def Ok_asked (N : Nat) (Inv : Wd → Prop) : Prop := ∀ (w : Wd), Inv w → ∃ (r : Int32) (w1 w2 : Wd), f_X4_asked N w = some (r, w1) ∧ f_X5_asked N w1 = some (r, w2) ∧ Inv w2
set_option maxRecDepth 20000 in
set_option maxHeartbeats 4000000 in
theorem law_c43 {x : CX} {b L : Nat} {sc : Nat → Int32} {Inv : Wd → Prop} {N : Nat} (hC : Cx x RL code 4 30) (hX : va_X b L sc (xs x) (xs x).heap) (hbl : b < (xs x).heap.size) (hbA : ¬ aG (xG x) b) (he : (xG x).2.2 51 0 = b) (Hk : Ok_asked N Inv) {v : Int32} (ke : ∀ w, Inv w → Z x 1541 [some (vr 51 0), some (vr 0 0), some (vr 5 0), some (vi v)] [] w) (w : Wd) (hI : Inv w) : Z x 1427 [some (vr 51 0), some (vr 0 0), some (vr 5 0), some (vi v)] [] w := by
  obtain ⟨r, w1, w2, h1, h2, hI2⟩ := Hk w hI
  refine Z_aload_n hC (dk d_law15 35 rfl) 1428 rfl rfl rfl ?_
  refine K_L_190 [] hC m_0 (s_X4_asked (xG x) (xl x) N  w (r, w1) h1) (Nat.le_of_ble_eq_true rfl) rfl rfl rfl (Nat.le_of_ble_eq_true rfl) (dk d_law15 36 rfl) 1431 rfl ?_
  refine Z_aload_n hC (dk d_law15 37 rfl) 1432 rfl rfl rfl ?_
  refine K_L_193 [] hC m_5 (s_X5_asked (xG x) (xl x) N  w1 (r, w2) h2) (Nat.le_of_ble_eq_true rfl) rfl rfl rfl (Nat.le_of_ble_eq_true rfl) (dk d_law15 38 rfl) 1435 rfl ?_
  refine Z_icmp_eq hC (dk d_law15 39 rfl) 1438 1541 rfl (by decide) (fun c => ?_) (fun c => absurd rfl c)
  exact ke w2 hI2
def Ok_upper (N : Nat) (Inv : Wd → Prop) : Prop := ∀ (w : Wd), Inv w → ∃ (r : Int64) (w1 w2 : Wd), f_X4_upper N w = some (r, w1) ∧ f_X5_upper N w1 = some (r, w2) ∧ Inv w2
set_option maxRecDepth 20000 in
set_option maxHeartbeats 4000000 in
theorem law_c44 {x : CX} {b L : Nat} {sc : Nat → Int32} {Inv : Wd → Prop} {N : Nat} (hC : Cx x RL code 4 30) (hX : va_X b L sc (xs x) (xs x).heap) (hbl : b < (xs x).heap.size) (hbA : ¬ aG (xG x) b) (he : (xG x).2.2 51 0 = b) (Hk : Ok_upper N Inv) {v : Int32} (ke : ∀ w, Inv w → Z x 1541 [some (vr 51 0), some (vr 0 0), some (vr 5 0), some (vi v)] [] w) (w : Wd) (hI : Inv w) : Z x 1440 [some (vr 51 0), some (vr 0 0), some (vr 5 0), some (vi v)] [] w := by
  obtain ⟨r, w1, w2, h1, h2, hI2⟩ := Hk w hI
  refine Z_aload_n hC (dk d_law15 42 rfl) 1441 rfl rfl rfl ?_
  refine K_L_194 [] hC m_0 (s_X4_upper (xG x) (xl x) N  w (r, w1) h1) (Nat.le_of_ble_eq_true rfl) rfl rfl rfl (Nat.le_of_ble_eq_true rfl) (dk d_law15 43 rfl) 1444 rfl ?_
  refine Z_aload_n hC (dk d_law15 44 rfl) 1445 rfl rfl rfl ?_
  refine K_L_198 [] hC m_5 (s_X5_upper (xG x) (xl x) N  w1 (r, w2) h2) (Nat.le_of_ble_eq_true rfl) rfl rfl rfl (Nat.le_of_ble_eq_true rfl) (dk d_law15 45 rfl) 1448 rfl ?_
  refine Z_lcmp hC (dk d_law15 46 rfl) 1449 rfl ?_
  refine Z_if_eq hC (dk d_law15 47 rfl) 1452 1541 rfl (by decide) (fun c => ?_) (fun c => absurd (lg_cmp_self r) c)
  exact ke w2 hI2
def Ok_lower (N : Nat) (Inv : Wd → Prop) : Prop := ∀ (w : Wd), Inv w → ∃ (r : Int64) (w1 w2 : Wd), f_X4_lower N w = some (r, w1) ∧ f_X5_lower N w1 = some (r, w2) ∧ Inv w2
set_option maxRecDepth 20000 in
set_option maxHeartbeats 4000000 in
theorem law_c45 {x : CX} {b L : Nat} {sc : Nat → Int32} {Inv : Wd → Prop} {N : Nat} (hC : Cx x RL code 4 30) (hX : va_X b L sc (xs x) (xs x).heap) (hbl : b < (xs x).heap.size) (hbA : ¬ aG (xG x) b) (he : (xG x).2.2 51 0 = b) (Hk : Ok_lower N Inv) {v : Int32} (ke : ∀ w, Inv w → Z x 1541 [some (vr 51 0), some (vr 0 0), some (vr 5 0), some (vi v)] [] w) (w : Wd) (hI : Inv w) : Z x 1454 [some (vr 51 0), some (vr 0 0), some (vr 5 0), some (vi v)] [] w := by
  obtain ⟨r, w1, w2, h1, h2, hI2⟩ := Hk w hI
  refine Z_aload_n hC (dk d_law15 50 rfl) 1455 rfl rfl rfl ?_
  refine K_L_199 [] hC m_0 (s_X4_lower (xG x) (xl x) N  w (r, w1) h1) (Nat.le_of_ble_eq_true rfl) rfl rfl rfl (Nat.le_of_ble_eq_true rfl) (dk d_law15 51 rfl) 1458 rfl ?_
  refine Z_aload_n hC (dk d_law15 52 rfl) 1459 rfl rfl rfl ?_
  refine K_L_202 [] hC m_5 (s_X5_lower (xG x) (xl x) N  w1 (r, w2) h2) (Nat.le_of_ble_eq_true rfl) rfl rfl rfl (Nat.le_of_ble_eq_true rfl) (dk d_law15 53 rfl) 1462 rfl ?_
  refine Z_lcmp hC (dk d_law15 54 rfl) 1463 rfl ?_
  refine Z_if_eq hC (dk d_law15 55 rfl) 1466 1541 rfl (by decide) (fun c => ?_) (fun c => absurd (lg_cmp_self r) c)
  exact ke w2 hI2
def Ok_count (N : Nat) (Inv : Wd → Prop) : Prop := ∀ (a1 : Int32) (w : Wd), Inv w → ∃ (r : Int32) (w1 w2 : Wd), f_X4_count N a1 w = some (r, w1) ∧ f_X5_count N a1 w1 = some (r, w2) ∧ Inv w2
set_option maxRecDepth 20000 in
set_option maxHeartbeats 4000000 in
theorem law_c46 {x : CX} {b L : Nat} {sc : Nat → Int32} {Inv : Wd → Prop} {N : Nat} (hC : Cx x RL code 4 30) (hX : va_X b L sc (xs x) (xs x).heap) (hbl : b < (xs x).heap.size) (hbA : ¬ aG (xG x) b) (he : (xG x).2.2 51 0 = b) (Hk : Ok_count N Inv) {v : Int32} (i1 : vp_in (v + 1) L) (ke : ∀ w, Inv w → Z x 1541 [some (vr 51 0), some (vr 0 0), some (vr 5 0), some (vi v)] [] w) (w : Wd) (hI : Inv w) : Z x 1468 [some (vr 51 0), some (vr 0 0), some (vr 5 0), some (vi v)] [] w := by
  obtain ⟨r, w1, w2, h1, h2, hI2⟩ := Hk (sc (v + 1).toNatClampNeg) w hI
  refine Z_aload_n hC (dk d_law15 58 rfl) 1469 rfl rfl rfl ?_
  refine Z_aload_n hC (dk d_law15 59 rfl) 1470 rfl rfl rfl ?_
  refine Z_iload_n hC (dk d_law16 0 rfl) 1471 rfl rfl rfl ?_
  refine Z_iconst (v := 1) hC (dk d_law16 1 rfl) 1472 rfl (by decide) ?_
  refine Z_iadd hC (dk d_law16 2 rfl) 1473 rfl ?_
  refine Z_sld hC hX hbl hbA he i1 (dk d_law16 3 rfl) 1474 rfl ?_
  refine K_L_203 [vi (sc (v + 1).toNatClampNeg)] hC m_0 (s_X4_count (xG x) (xl x) N (sc (v + 1).toNatClampNeg) w (r, w1) h1) (Nat.le_of_ble_eq_true rfl) rfl rfl rfl (Nat.le_of_ble_eq_true rfl) (dk d_law16 4 rfl) 1477 rfl ?_
  refine Z_aload_n hC (dk d_law16 5 rfl) 1478 rfl rfl rfl ?_
  refine Z_aload_n hC (dk d_law16 6 rfl) 1479 rfl rfl rfl ?_
  refine Z_iload_n hC (dk d_law16 7 rfl) 1480 rfl rfl rfl ?_
  refine Z_iconst (v := 1) hC (dk d_law16 8 rfl) 1481 rfl (by decide) ?_
  refine Z_iadd hC (dk d_law16 9 rfl) 1482 rfl ?_
  refine Z_sld hC hX hbl hbA he i1 (dk d_law16 10 rfl) 1483 rfl ?_
  refine K_L_206 [vi (sc (v + 1).toNatClampNeg)] hC m_5 (s_X5_count (xG x) (xl x) N (sc (v + 1).toNatClampNeg) w1 (r, w2) h2) (Nat.le_of_ble_eq_true rfl) rfl rfl rfl (Nat.le_of_ble_eq_true rfl) (dk d_law16 11 rfl) 1486 rfl ?_
  refine Z_icmp_eq hC (dk d_law16 12 rfl) 1489 1541 rfl (by decide) (fun c => ?_) (fun c => absurd rfl c)
  exact ke w2 hI2
def Ok_finding (N : Nat) (Inv : Wd → Prop) : Prop := ∀ (w : Wd), Inv w → ∃ (r : Int32) (w1 w2 : Wd), f_X4_finding N w = some (r, w1) ∧ f_X5_finding N w1 = some (r, w2) ∧ Inv w2
set_option maxRecDepth 20000 in
set_option maxHeartbeats 4000000 in
theorem law_c47 {x : CX} {b L : Nat} {sc : Nat → Int32} {Inv : Wd → Prop} {N : Nat} (hC : Cx x RL code 4 30) (hX : va_X b L sc (xs x) (xs x).heap) (hbl : b < (xs x).heap.size) (hbA : ¬ aG (xG x) b) (he : (xG x).2.2 51 0 = b) (Hk : Ok_finding N Inv) {v : Int32} (ke : ∀ w, Inv w → Z x 1541 [some (vr 51 0), some (vr 0 0), some (vr 5 0), some (vi v)] [] w) (w : Wd) (hI : Inv w) : Z x 1491 [some (vr 51 0), some (vr 0 0), some (vr 5 0), some (vi v)] [] w := by
  obtain ⟨r, w1, w2, h1, h2, hI2⟩ := Hk w hI
  refine Z_aload_n hC (dk d_law16 15 rfl) 1492 rfl rfl rfl ?_
  refine K_L_207 [] hC m_0 (s_X4_finding (xG x) (xl x) N  w (r, w1) h1) (Nat.le_of_ble_eq_true rfl) rfl rfl rfl (Nat.le_of_ble_eq_true rfl) (dk d_law16 16 rfl) 1495 rfl ?_
  refine Z_aload_n hC (dk d_law16 17 rfl) 1496 rfl rfl rfl ?_
  refine K_L_210 [] hC m_5 (s_X5_finding (xG x) (xl x) N  w1 (r, w2) h2) (Nat.le_of_ble_eq_true rfl) rfl rfl rfl (Nat.le_of_ble_eq_true rfl) (dk d_law16 18 rfl) 1499 rfl ?_
  refine Z_icmp_eq hC (dk d_law16 19 rfl) 1502 1541 rfl (by decide) (fun c => ?_) (fun c => absurd rfl c)
  exact ke w2 hI2
def Ok_findings (N : Nat) (Inv : Wd → Prop) : Prop := ∀ (a1 : Int32) (w : Wd), Inv w → ∃ (r : Int32) (w1 w2 : Wd), f_X4_findings N a1 w = some (r, w1) ∧ f_X5_findings N a1 w1 = some (r, w2) ∧ Inv w2
set_option maxRecDepth 20000 in
set_option maxHeartbeats 4000000 in
theorem law_c48 {x : CX} {b L : Nat} {sc : Nat → Int32} {Inv : Wd → Prop} {N : Nat} (hC : Cx x RL code 4 30) (hX : va_X b L sc (xs x) (xs x).heap) (hbl : b < (xs x).heap.size) (hbA : ¬ aG (xG x) b) (he : (xG x).2.2 51 0 = b) (Hk : Ok_findings N Inv) {v : Int32} (i1 : vp_in (v + 1) L) (ke : ∀ w, Inv w → Z x 1541 [some (vr 51 0), some (vr 0 0), some (vr 5 0), some (vi v)] [] w) (w : Wd) (hI : Inv w) : Z x 1504 [some (vr 51 0), some (vr 0 0), some (vr 5 0), some (vi v)] [] w := by
  obtain ⟨r, w1, w2, h1, h2, hI2⟩ := Hk (sc (v + 1).toNatClampNeg) w hI
  refine Z_aload_n hC (dk d_law16 22 rfl) 1505 rfl rfl rfl ?_
  refine Z_aload_n hC (dk d_law16 23 rfl) 1506 rfl rfl rfl ?_
  refine Z_iload_n hC (dk d_law16 24 rfl) 1507 rfl rfl rfl ?_
  refine Z_iconst (v := 1) hC (dk d_law16 25 rfl) 1508 rfl (by decide) ?_
  refine Z_iadd hC (dk d_law16 26 rfl) 1509 rfl ?_
  refine Z_sld hC hX hbl hbA he i1 (dk d_law16 27 rfl) 1510 rfl ?_
  refine K_L_211 [vi (sc (v + 1).toNatClampNeg)] hC m_0 (s_X4_findings (xG x) (xl x) N (sc (v + 1).toNatClampNeg) w (r, w1) h1) (Nat.le_of_ble_eq_true rfl) rfl rfl rfl (Nat.le_of_ble_eq_true rfl) (dk d_law16 28 rfl) 1513 rfl ?_
  refine Z_aload_n hC (dk d_law16 29 rfl) 1514 rfl rfl rfl ?_
  refine Z_aload_n hC (dk d_law16 30 rfl) 1515 rfl rfl rfl ?_
  refine Z_iload_n hC (dk d_law16 31 rfl) 1516 rfl rfl rfl ?_
  refine Z_iconst (v := 1) hC (dk d_law16 32 rfl) 1517 rfl (by decide) ?_
  refine Z_iadd hC (dk d_law16 33 rfl) 1518 rfl ?_
  refine Z_sld hC hX hbl hbA he i1 (dk d_law16 34 rfl) 1519 rfl ?_
  refine K_L_214 [vi (sc (v + 1).toNatClampNeg)] hC m_5 (s_X5_findings (xG x) (xl x) N (sc (v + 1).toNatClampNeg) w1 (r, w2) h2) (Nat.le_of_ble_eq_true rfl) rfl rfl rfl (Nat.le_of_ble_eq_true rfl) (dk d_law16 35 rfl) 1522 rfl ?_
  refine Z_icmp_eq hC (dk d_law16 36 rfl) 1525 1541 rfl (by decide) (fun c => ?_) (fun c => absurd rfl c)
  exact ke w2 hI2
def Ok_digest (N : Nat) (Inv : Wd → Prop) : Prop := ∀ (w : Wd), Inv w → ∃ (r : Int64) (w1 w2 : Wd), f_X4_digest N w = some (r, w1) ∧ f_X5_digest N w1 = some (r, w2) ∧ Inv w2
set_option maxRecDepth 20000 in
set_option maxHeartbeats 4000000 in
theorem law_c49 {x : CX} {b L : Nat} {sc : Nat → Int32} {Inv : Wd → Prop} {N : Nat} (hC : Cx x RL code 4 30) (hX : va_X b L sc (xs x) (xs x).heap) (hbl : b < (xs x).heap.size) (hbA : ¬ aG (xG x) b) (he : (xG x).2.2 51 0 = b) (Hk : Ok_digest N Inv) {v : Int32} (ke : ∀ w, Inv w → Z x 1541 [some (vr 51 0), some (vr 0 0), some (vr 5 0), some (vi v)] [] w) (w : Wd) (hI : Inv w) : Z x 1527 [some (vr 51 0), some (vr 0 0), some (vr 5 0), some (vi v)] [] w := by
  obtain ⟨r, w1, w2, h1, h2, hI2⟩ := Hk w hI
  refine Z_aload_n hC (dk d_law16 39 rfl) 1528 rfl rfl rfl ?_
  refine K_L_215 [] hC m_0 (s_X4_digest (xG x) (xl x) N  w (r, w1) h1) (Nat.le_of_ble_eq_true rfl) rfl rfl rfl (Nat.le_of_ble_eq_true rfl) (dk d_law16 40 rfl) 1531 rfl ?_
  refine Z_aload_n hC (dk d_law16 41 rfl) 1532 rfl rfl rfl ?_
  refine K_L_218 [] hC m_5 (s_X5_digest (xG x) (xl x) N  w1 (r, w2) h2) (Nat.le_of_ble_eq_true rfl) rfl rfl rfl (Nat.le_of_ble_eq_true rfl) (dk d_law16 42 rfl) 1535 rfl ?_
  refine Z_lcmp hC (dk d_law16 43 rfl) 1536 rfl ?_
  refine Z_if_eq hC (dk d_law16 44 rfl) 1539 1541 rfl (by decide) (fun c => ?_) (fun c => absurd (lg_cmp_self r) c)
  exact ke w2 hI2
def AllOk (N : Nat) (Inv : Wd → Prop) : Prop := Ok_row N Inv ∧ Ok_lay N Inv ∧ Ok_at N Inv ∧ Ok_tear N Inv ∧ Ok_copy N Inv ∧ Ok_mean N Inv ∧ Ok_text N Inv ∧ Ok_put N Inv ∧ Ok_fault N Inv ∧ Ok_office N Inv ∧ Ok_mate N Inv ∧ Ok_mark N Inv ∧ Ok_rules N Inv ∧ Ok_move N Inv ∧ Ok_may N Inv ∧ Ok_judge N Inv ∧ Ok_ways N Inv ∧ Ok_nth N Inv ∧ Ok_number N Inv ∧ Ok_lot N Inv ∧ Ok_draw N Inv ∧ Ok_undo N Inv ∧ Ok_drew N Inv ∧ Ok_can N Inv ∧ Ok_turns N Inv ∧ Ok_alike N Inv ∧ Ok_play N Inv ∧ Ok_keep N Inv ∧ Ok_on N Inv ∧ Ok_year N Inv ∧ Ok_forget N Inv ∧ Ok_run N Inv ∧ Ok_times N Inv ∧ Ok_fits N Inv ∧ Ok_known N Inv ∧ Ok_still N Inv ∧ Ok_fewest N Inv ∧ Ok_drop N Inv ∧ Ok_table N Inv ∧ Ok_rings N Inv ∧ Ok_ringed N Inv ∧ Ok_even N Inv ∧ Ok_gain N Inv ∧ Ok_asked N Inv ∧ Ok_upper N Inv ∧ Ok_lower N Inv ∧ Ok_count N Inv ∧ Ok_finding N Inv ∧ Ok_findings N Inv ∧ Ok_digest N Inv
set_option maxRecDepth 20000 in
set_option maxHeartbeats 8000000 in
theorem law_body {x : CX} {b L : Nat} {sc : Nat → Int32} {Inv : Wd → Prop} {N : Nat} (hC : Cx x RL code 4 30) (hX : va_X b L sc (xs x) (xs x).heap) (hbl : b < (xs x).heap.size) (hbA : ¬ aG (xG x) b) (he : (xG x).2.2 51 0 = b) (Hall : AllOk N Inv) {v : Int32} (j0 : vp_in v L) (j1 : vp_in (v + 1) L) (j2 : vp_in (v + 2) L) (j3 : vp_in (v + 3) L) (j4 : vp_in (v + 4) L) (j5 : vp_in (v + 5) L) (kk : ∀ w, Inv w → Z x 1541 [some (vr 51 0), some (vr 0 0), some (vr 5 0), some (vi v)] [] w) (w : Wd) (hI : Inv w) : Z x 27 [some (vr 51 0), some (vr 0 0), some (vr 5 0), some (vi v)] [] w := by
  refine Z_aload_n hC (dk d_law0 8 rfl) 28 rfl rfl rfl ?_
  refine Z_iload_n hC (dk d_law0 9 rfl) 29 rfl rfl rfl ?_
  refine Z_sld hC hX hbl hbA he j0 (dk d_law0 10 rfl) 30 rfl ?_
  refine Z_bipush (v := 63) hC (dk d_law0 11 rfl) 32 rfl (by decide) ?_
  refine Z_iand hC (dk d_law0 12 rfl) 33 rfl ?_
  by_cases c0 : sc v.toNatClampNeg &&& (63 : Int32) = (0 : Int32)
  · refine Z_swIn hC (dk d_law0 13 rfl) (m := 0) (by rw [c0]; rfl) (by decide) (by decide) rfl 248 (by decide) ?_
    exact law_c0 hC hX hbl hbA he Hall.1 j1 j2 kk w hI
  by_cases c1 : sc v.toNatClampNeg &&& (63 : Int32) = (1 : Int32)
  · refine Z_swIn hC (dk d_law0 13 rfl) (m := 1) (by rw [c1]; rfl) (by decide) (by decide) rfl 281 (by decide) ?_
    exact law_c1 hC hX hbl hbA he Hall.2.1 j1 j2 j3 kk w hI
  by_cases c2 : sc v.toNatClampNeg &&& (63 : Int32) = (2 : Int32)
  · refine Z_swIn hC (dk d_law0 13 rfl) (m := 2) (by rw [c2]; rfl) (by decide) (by decide) rfl 324 (by decide) ?_
    exact law_c2 hC hX hbl hbA he Hall.2.2.1 j1 j2 kk w hI
  by_cases c3 : sc v.toNatClampNeg &&& (63 : Int32) = (3 : Int32)
  · refine Z_swIn hC (dk d_law0 13 rfl) (m := 3) (by rw [c3]; rfl) (by decide) (by decide) rfl 357 (by decide) ?_
    exact law_c3 hC hX hbl hbA he Hall.2.2.2.1 j1 kk w hI
  by_cases c4 : sc v.toNatClampNeg &&& (63 : Int32) = (4 : Int32)
  · refine Z_swIn hC (dk d_law0 13 rfl) (m := 4) (by rw [c4]; rfl) (by decide) (by decide) rfl 380 (by decide) ?_
    exact law_c4 hC hX hbl hbA he Hall.2.2.2.2.1 j1 j2 j3 j4 j5 kk w hI
  by_cases c5 : sc v.toNatClampNeg &&& (63 : Int32) = (5 : Int32)
  · refine Z_swIn hC (dk d_law0 13 rfl) (m := 5) (by rw [c5]; rfl) (by decide) (by decide) rfl 443 (by decide) ?_
    exact law_c5 hC hX hbl hbA he Hall.2.2.2.2.2.1 j1 kk w hI
  by_cases c6 : sc v.toNatClampNeg &&& (63 : Int32) = (6 : Int32)
  · refine Z_swIn hC (dk d_law0 13 rfl) (m := 6) (by rw [c6]; rfl) (by decide) (by decide) rfl 466 (by decide) ?_
    exact law_c6 hC hX hbl hbA he Hall.2.2.2.2.2.2.1 j1 j2 kk w hI
  by_cases c7 : sc v.toNatClampNeg &&& (63 : Int32) = (7 : Int32)
  · refine Z_swIn hC (dk d_law0 13 rfl) (m := 7) (by rw [c7]; rfl) (by decide) (by decide) rfl 499 (by decide) ?_
    exact law_c7 hC hX hbl hbA he Hall.2.2.2.2.2.2.2.1 j1 j2 j3 kk w hI
  by_cases c8 : sc v.toNatClampNeg &&& (63 : Int32) = (8 : Int32)
  · refine Z_swIn hC (dk d_law0 13 rfl) (m := 8) (by rw [c8]; rfl) (by decide) (by decide) rfl 542 (by decide) ?_
    exact law_c8 hC hX hbl hbA he Hall.2.2.2.2.2.2.2.2.1 j1 kk w hI
  by_cases c9 : sc v.toNatClampNeg &&& (63 : Int32) = (9 : Int32)
  · refine Z_swIn hC (dk d_law0 13 rfl) (m := 9) (by rw [c9]; rfl) (by decide) (by decide) rfl 565 (by decide) ?_
    exact law_c9 hC hX hbl hbA he Hall.2.2.2.2.2.2.2.2.2.1 j1 kk w hI
  by_cases c10 : sc v.toNatClampNeg &&& (63 : Int32) = (10 : Int32)
  · refine Z_swIn hC (dk d_law0 13 rfl) (m := 10) (by rw [c10]; rfl) (by decide) (by decide) rfl 588 (by decide) ?_
    exact law_c10 hC hX hbl hbA he Hall.2.2.2.2.2.2.2.2.2.2.1 j1 j2 kk w hI
  by_cases c11 : sc v.toNatClampNeg &&& (63 : Int32) = (11 : Int32)
  · refine Z_swIn hC (dk d_law0 13 rfl) (m := 11) (by rw [c11]; rfl) (by decide) (by decide) rfl 621 (by decide) ?_
    exact law_c11 hC hX hbl hbA he Hall.2.2.2.2.2.2.2.2.2.2.2.1 j1 j2 kk w hI
  by_cases c12 : sc v.toNatClampNeg &&& (63 : Int32) = (12 : Int32)
  · refine Z_swIn hC (dk d_law0 13 rfl) (m := 12) (by rw [c12]; rfl) (by decide) (by decide) rfl 654 (by decide) ?_
    exact law_c12 hC hX hbl hbA he Hall.2.2.2.2.2.2.2.2.2.2.2.2.1 j1 kk w hI
  by_cases c13 : sc v.toNatClampNeg &&& (63 : Int32) = (13 : Int32)
  · refine Z_swIn hC (dk d_law0 13 rfl) (m := 13) (by rw [c13]; rfl) (by decide) (by decide) rfl 677 (by decide) ?_
    exact law_c13 hC hX hbl hbA he Hall.2.2.2.2.2.2.2.2.2.2.2.2.2.1 j1 j2 kk w hI
  by_cases c14 : sc v.toNatClampNeg &&& (63 : Int32) = (14 : Int32)
  · refine Z_swIn hC (dk d_law0 13 rfl) (m := 14) (by rw [c14]; rfl) (by decide) (by decide) rfl 710 (by decide) ?_
    exact law_c14 hC hX hbl hbA he Hall.2.2.2.2.2.2.2.2.2.2.2.2.2.2.1 j1 kk w hI
  by_cases c15 : sc v.toNatClampNeg &&& (63 : Int32) = (15 : Int32)
  · refine Z_swIn hC (dk d_law0 13 rfl) (m := 15) (by rw [c15]; rfl) (by decide) (by decide) rfl 733 (by decide) ?_
    exact law_c15 hC hX hbl hbA he Hall.2.2.2.2.2.2.2.2.2.2.2.2.2.2.2.1 j1 kk w hI
  by_cases c16 : sc v.toNatClampNeg &&& (63 : Int32) = (16 : Int32)
  · refine Z_swIn hC (dk d_law0 13 rfl) (m := 16) (by rw [c16]; rfl) (by decide) (by decide) rfl 756 (by decide) ?_
    exact law_c16 hC hX hbl hbA he Hall.2.2.2.2.2.2.2.2.2.2.2.2.2.2.2.2.1 kk w hI
  by_cases c17 : sc v.toNatClampNeg &&& (63 : Int32) = (17 : Int32)
  · refine Z_swIn hC (dk d_law0 13 rfl) (m := 17) (by rw [c17]; rfl) (by decide) (by decide) rfl 769 (by decide) ?_
    exact law_c17 hC hX hbl hbA he Hall.2.2.2.2.2.2.2.2.2.2.2.2.2.2.2.2.2.1 j1 j2 kk w hI
  by_cases c18 : sc v.toNatClampNeg &&& (63 : Int32) = (18 : Int32)
  · refine Z_swIn hC (dk d_law0 13 rfl) (m := 18) (by rw [c18]; rfl) (by decide) (by decide) rfl 802 (by decide) ?_
    exact law_c18 hC hX hbl hbA he Hall.2.2.2.2.2.2.2.2.2.2.2.2.2.2.2.2.2.2.1 j1 kk w hI
  by_cases c19 : sc v.toNatClampNeg &&& (63 : Int32) = (19 : Int32)
  · refine Z_swIn hC (dk d_law0 13 rfl) (m := 19) (by rw [c19]; rfl) (by decide) (by decide) rfl 825 (by decide) ?_
    exact law_c19 hC hX hbl hbA he Hall.2.2.2.2.2.2.2.2.2.2.2.2.2.2.2.2.2.2.2.1 j1 j2 kk w hI
  by_cases c20 : sc v.toNatClampNeg &&& (63 : Int32) = (20 : Int32)
  · refine Z_swIn hC (dk d_law0 13 rfl) (m := 20) (by rw [c20]; rfl) (by decide) (by decide) rfl 858 (by decide) ?_
    exact law_c20 hC hX hbl hbA he Hall.2.2.2.2.2.2.2.2.2.2.2.2.2.2.2.2.2.2.2.2.1 j1 kk w hI
  by_cases c21 : sc v.toNatClampNeg &&& (63 : Int32) = (21 : Int32)
  · refine Z_swIn hC (dk d_law0 13 rfl) (m := 21) (by rw [c21]; rfl) (by decide) (by decide) rfl 881 (by decide) ?_
    exact law_c21 hC hX hbl hbA he Hall.2.2.2.2.2.2.2.2.2.2.2.2.2.2.2.2.2.2.2.2.2.1 j1 kk w hI
  by_cases c22 : sc v.toNatClampNeg &&& (63 : Int32) = (22 : Int32)
  · refine Z_swIn hC (dk d_law0 13 rfl) (m := 22) (by rw [c22]; rfl) (by decide) (by decide) rfl 904 (by decide) ?_
    exact law_c22 hC hX hbl hbA he Hall.2.2.2.2.2.2.2.2.2.2.2.2.2.2.2.2.2.2.2.2.2.2.1 j1 kk w hI
  by_cases c23 : sc v.toNatClampNeg &&& (63 : Int32) = (23 : Int32)
  · refine Z_swIn hC (dk d_law0 13 rfl) (m := 23) (by rw [c23]; rfl) (by decide) (by decide) rfl 927 (by decide) ?_
    exact law_c23 hC hX hbl hbA he Hall.2.2.2.2.2.2.2.2.2.2.2.2.2.2.2.2.2.2.2.2.2.2.2.1 kk w hI
  by_cases c24 : sc v.toNatClampNeg &&& (63 : Int32) = (24 : Int32)
  · refine Z_swIn hC (dk d_law0 13 rfl) (m := 24) (by rw [c24]; rfl) (by decide) (by decide) rfl 940 (by decide) ?_
    exact law_c24 hC hX hbl hbA he Hall.2.2.2.2.2.2.2.2.2.2.2.2.2.2.2.2.2.2.2.2.2.2.2.2.1 j1 j2 kk w hI
  by_cases c25 : sc v.toNatClampNeg &&& (63 : Int32) = (25 : Int32)
  · refine Z_swIn hC (dk d_law0 13 rfl) (m := 25) (by rw [c25]; rfl) (by decide) (by decide) rfl 973 (by decide) ?_
    exact law_c25 hC hX hbl hbA he Hall.2.2.2.2.2.2.2.2.2.2.2.2.2.2.2.2.2.2.2.2.2.2.2.2.2.1 j1 j2 kk w hI
  by_cases c26 : sc v.toNatClampNeg &&& (63 : Int32) = (26 : Int32)
  · refine Z_swIn hC (dk d_law0 13 rfl) (m := 26) (by rw [c26]; rfl) (by decide) (by decide) rfl 1006 (by decide) ?_
    exact law_c26 hC hX hbl hbA he Hall.2.2.2.2.2.2.2.2.2.2.2.2.2.2.2.2.2.2.2.2.2.2.2.2.2.2.1 j1 kk w hI
  by_cases c27 : sc v.toNatClampNeg &&& (63 : Int32) = (27 : Int32)
  · refine Z_swIn hC (dk d_law0 13 rfl) (m := 27) (by rw [c27]; rfl) (by decide) (by decide) rfl 1029 (by decide) ?_
    exact law_c27 hC hX hbl hbA he Hall.2.2.2.2.2.2.2.2.2.2.2.2.2.2.2.2.2.2.2.2.2.2.2.2.2.2.2.1 j1 kk w hI
  by_cases c28 : sc v.toNatClampNeg &&& (63 : Int32) = (28 : Int32)
  · refine Z_swIn hC (dk d_law0 13 rfl) (m := 28) (by rw [c28]; rfl) (by decide) (by decide) rfl 1052 (by decide) ?_
    exact law_c28 hC hX hbl hbA he Hall.2.2.2.2.2.2.2.2.2.2.2.2.2.2.2.2.2.2.2.2.2.2.2.2.2.2.2.2.1 j1 kk w hI
  by_cases c29 : sc v.toNatClampNeg &&& (63 : Int32) = (29 : Int32)
  · refine Z_swIn hC (dk d_law0 13 rfl) (m := 29) (by rw [c29]; rfl) (by decide) (by decide) rfl 1075 (by decide) ?_
    exact law_c29 hC hX hbl hbA he Hall.2.2.2.2.2.2.2.2.2.2.2.2.2.2.2.2.2.2.2.2.2.2.2.2.2.2.2.2.2.1 j1 kk w hI
  by_cases c30 : sc v.toNatClampNeg &&& (63 : Int32) = (30 : Int32)
  · refine Z_swIn hC (dk d_law0 13 rfl) (m := 30) (by rw [c30]; rfl) (by decide) (by decide) rfl 1098 (by decide) ?_
    exact law_c30 hC hX hbl hbA he Hall.2.2.2.2.2.2.2.2.2.2.2.2.2.2.2.2.2.2.2.2.2.2.2.2.2.2.2.2.2.2.1 j1 kk w hI
  by_cases c31 : sc v.toNatClampNeg &&& (63 : Int32) = (31 : Int32)
  · refine Z_swIn hC (dk d_law0 13 rfl) (m := 31) (by rw [c31]; rfl) (by decide) (by decide) rfl 1121 (by decide) ?_
    exact law_c31 hC hX hbl hbA he Hall.2.2.2.2.2.2.2.2.2.2.2.2.2.2.2.2.2.2.2.2.2.2.2.2.2.2.2.2.2.2.2.1 kk w hI
  by_cases c32 : sc v.toNatClampNeg &&& (63 : Int32) = (32 : Int32)
  · refine Z_swIn hC (dk d_law0 13 rfl) (m := 32) (by rw [c32]; rfl) (by decide) (by decide) rfl 1134 (by decide) ?_
    exact law_c32 hC hX hbl hbA he Hall.2.2.2.2.2.2.2.2.2.2.2.2.2.2.2.2.2.2.2.2.2.2.2.2.2.2.2.2.2.2.2.2.1 j1 j2 kk w hI
  by_cases c33 : sc v.toNatClampNeg &&& (63 : Int32) = (33 : Int32)
  · refine Z_swIn hC (dk d_law0 13 rfl) (m := 33) (by rw [c33]; rfl) (by decide) (by decide) rfl 1167 (by decide) ?_
    exact law_c33 hC hX hbl hbA he Hall.2.2.2.2.2.2.2.2.2.2.2.2.2.2.2.2.2.2.2.2.2.2.2.2.2.2.2.2.2.2.2.2.2.1 j1 j2 kk w hI
  by_cases c34 : sc v.toNatClampNeg &&& (63 : Int32) = (34 : Int32)
  · refine Z_swIn hC (dk d_law0 13 rfl) (m := 34) (by rw [c34]; rfl) (by decide) (by decide) rfl 1200 (by decide) ?_
    exact law_c34 hC hX hbl hbA he Hall.2.2.2.2.2.2.2.2.2.2.2.2.2.2.2.2.2.2.2.2.2.2.2.2.2.2.2.2.2.2.2.2.2.2.1 j1 j2 kk w hI
  by_cases c35 : sc v.toNatClampNeg &&& (63 : Int32) = (35 : Int32)
  · refine Z_swIn hC (dk d_law0 13 rfl) (m := 35) (by rw [c35]; rfl) (by decide) (by decide) rfl 1233 (by decide) ?_
    exact law_c35 hC hX hbl hbA he Hall.2.2.2.2.2.2.2.2.2.2.2.2.2.2.2.2.2.2.2.2.2.2.2.2.2.2.2.2.2.2.2.2.2.2.2.1 j1 j2 kk w hI
  by_cases c36 : sc v.toNatClampNeg &&& (63 : Int32) = (36 : Int32)
  · refine Z_swIn hC (dk d_law0 13 rfl) (m := 36) (by rw [c36]; rfl) (by decide) (by decide) rfl 1266 (by decide) ?_
    exact law_c36 hC hX hbl hbA he Hall.2.2.2.2.2.2.2.2.2.2.2.2.2.2.2.2.2.2.2.2.2.2.2.2.2.2.2.2.2.2.2.2.2.2.2.2.1 j1 kk w hI
  by_cases c37 : sc v.toNatClampNeg &&& (63 : Int32) = (37 : Int32)
  · refine Z_swIn hC (dk d_law0 13 rfl) (m := 37) (by rw [c37]; rfl) (by decide) (by decide) rfl 1289 (by decide) ?_
    exact law_c37 hC hX hbl hbA he Hall.2.2.2.2.2.2.2.2.2.2.2.2.2.2.2.2.2.2.2.2.2.2.2.2.2.2.2.2.2.2.2.2.2.2.2.2.2.1 kk w hI
  by_cases c38 : sc v.toNatClampNeg &&& (63 : Int32) = (38 : Int32)
  · refine Z_swIn hC (dk d_law0 13 rfl) (m := 38) (by rw [c38]; rfl) (by decide) (by decide) rfl 1302 (by decide) ?_
    exact law_c38 hC hX hbl hbA he Hall.2.2.2.2.2.2.2.2.2.2.2.2.2.2.2.2.2.2.2.2.2.2.2.2.2.2.2.2.2.2.2.2.2.2.2.2.2.2.1 j1 kk w hI
  by_cases c39 : sc v.toNatClampNeg &&& (63 : Int32) = (39 : Int32)
  · refine Z_swIn hC (dk d_law0 13 rfl) (m := 39) (by rw [c39]; rfl) (by decide) (by decide) rfl 1325 (by decide) ?_
    exact law_c39 hC hX hbl hbA he Hall.2.2.2.2.2.2.2.2.2.2.2.2.2.2.2.2.2.2.2.2.2.2.2.2.2.2.2.2.2.2.2.2.2.2.2.2.2.2.2.1 j1 kk w hI
  by_cases c40 : sc v.toNatClampNeg &&& (63 : Int32) = (40 : Int32)
  · refine Z_swIn hC (dk d_law0 13 rfl) (m := 40) (by rw [c40]; rfl) (by decide) (by decide) rfl 1348 (by decide) ?_
    exact law_c40 hC hX hbl hbA he Hall.2.2.2.2.2.2.2.2.2.2.2.2.2.2.2.2.2.2.2.2.2.2.2.2.2.2.2.2.2.2.2.2.2.2.2.2.2.2.2.2.1 j1 kk w hI
  by_cases c41 : sc v.toNatClampNeg &&& (63 : Int32) = (41 : Int32)
  · refine Z_swIn hC (dk d_law0 13 rfl) (m := 41) (by rw [c41]; rfl) (by decide) (by decide) rfl 1371 (by decide) ?_
    exact law_c41 hC hX hbl hbA he Hall.2.2.2.2.2.2.2.2.2.2.2.2.2.2.2.2.2.2.2.2.2.2.2.2.2.2.2.2.2.2.2.2.2.2.2.2.2.2.2.2.2.1 j1 kk w hI
  by_cases c42 : sc v.toNatClampNeg &&& (63 : Int32) = (42 : Int32)
  · refine Z_swIn hC (dk d_law0 13 rfl) (m := 42) (by rw [c42]; rfl) (by decide) (by decide) rfl 1394 (by decide) ?_
    exact law_c42 hC hX hbl hbA he Hall.2.2.2.2.2.2.2.2.2.2.2.2.2.2.2.2.2.2.2.2.2.2.2.2.2.2.2.2.2.2.2.2.2.2.2.2.2.2.2.2.2.2.1 j1 j2 kk w hI
  by_cases c43 : sc v.toNatClampNeg &&& (63 : Int32) = (43 : Int32)
  · refine Z_swIn hC (dk d_law0 13 rfl) (m := 43) (by rw [c43]; rfl) (by decide) (by decide) rfl 1427 (by decide) ?_
    exact law_c43 hC hX hbl hbA he Hall.2.2.2.2.2.2.2.2.2.2.2.2.2.2.2.2.2.2.2.2.2.2.2.2.2.2.2.2.2.2.2.2.2.2.2.2.2.2.2.2.2.2.2.1 kk w hI
  by_cases c44 : sc v.toNatClampNeg &&& (63 : Int32) = (44 : Int32)
  · refine Z_swIn hC (dk d_law0 13 rfl) (m := 44) (by rw [c44]; rfl) (by decide) (by decide) rfl 1440 (by decide) ?_
    exact law_c44 hC hX hbl hbA he Hall.2.2.2.2.2.2.2.2.2.2.2.2.2.2.2.2.2.2.2.2.2.2.2.2.2.2.2.2.2.2.2.2.2.2.2.2.2.2.2.2.2.2.2.2.1 kk w hI
  by_cases c45 : sc v.toNatClampNeg &&& (63 : Int32) = (45 : Int32)
  · refine Z_swIn hC (dk d_law0 13 rfl) (m := 45) (by rw [c45]; rfl) (by decide) (by decide) rfl 1454 (by decide) ?_
    exact law_c45 hC hX hbl hbA he Hall.2.2.2.2.2.2.2.2.2.2.2.2.2.2.2.2.2.2.2.2.2.2.2.2.2.2.2.2.2.2.2.2.2.2.2.2.2.2.2.2.2.2.2.2.2.1 kk w hI
  by_cases c46 : sc v.toNatClampNeg &&& (63 : Int32) = (46 : Int32)
  · refine Z_swIn hC (dk d_law0 13 rfl) (m := 46) (by rw [c46]; rfl) (by decide) (by decide) rfl 1468 (by decide) ?_
    exact law_c46 hC hX hbl hbA he Hall.2.2.2.2.2.2.2.2.2.2.2.2.2.2.2.2.2.2.2.2.2.2.2.2.2.2.2.2.2.2.2.2.2.2.2.2.2.2.2.2.2.2.2.2.2.2.1 j1 kk w hI
  by_cases c47 : sc v.toNatClampNeg &&& (63 : Int32) = (47 : Int32)
  · refine Z_swIn hC (dk d_law0 13 rfl) (m := 47) (by rw [c47]; rfl) (by decide) (by decide) rfl 1491 (by decide) ?_
    exact law_c47 hC hX hbl hbA he Hall.2.2.2.2.2.2.2.2.2.2.2.2.2.2.2.2.2.2.2.2.2.2.2.2.2.2.2.2.2.2.2.2.2.2.2.2.2.2.2.2.2.2.2.2.2.2.2.1 kk w hI
  by_cases c48 : sc v.toNatClampNeg &&& (63 : Int32) = (48 : Int32)
  · refine Z_swIn hC (dk d_law0 13 rfl) (m := 48) (by rw [c48]; rfl) (by decide) (by decide) rfl 1504 (by decide) ?_
    exact law_c48 hC hX hbl hbA he Hall.2.2.2.2.2.2.2.2.2.2.2.2.2.2.2.2.2.2.2.2.2.2.2.2.2.2.2.2.2.2.2.2.2.2.2.2.2.2.2.2.2.2.2.2.2.2.2.2.1 j1 kk w hI
  by_cases c49 : sc v.toNatClampNeg &&& (63 : Int32) = (49 : Int32)
  · refine Z_swIn hC (dk d_law0 13 rfl) (m := 49) (by rw [c49]; rfl) (by decide) (by decide) rfl 1527 (by decide) ?_
    exact law_c49 hC hX hbl hbA he Hall.2.2.2.2.2.2.2.2.2.2.2.2.2.2.2.2.2.2.2.2.2.2.2.2.2.2.2.2.2.2.2.2.2.2.2.2.2.2.2.2.2.2.2.2.2.2.2.2.2 kk w hI
  refine Z_swOut hC (dk d_law0 13 rfl) 1541 (by decide) (by have e0 := ne_toInt (m := 0) rfl c0; have e1 := ne_toInt (m := 1) rfl c1; have e2 := ne_toInt (m := 2) rfl c2; have e3 := ne_toInt (m := 3) rfl c3; have e4 := ne_toInt (m := 4) rfl c4; have e5 := ne_toInt (m := 5) rfl c5; have e6 := ne_toInt (m := 6) rfl c6; have e7 := ne_toInt (m := 7) rfl c7; have e8 := ne_toInt (m := 8) rfl c8; have e9 := ne_toInt (m := 9) rfl c9; have e10 := ne_toInt (m := 10) rfl c10; have e11 := ne_toInt (m := 11) rfl c11; have e12 := ne_toInt (m := 12) rfl c12; have e13 := ne_toInt (m := 13) rfl c13; have e14 := ne_toInt (m := 14) rfl c14; have e15 := ne_toInt (m := 15) rfl c15; have e16 := ne_toInt (m := 16) rfl c16; have e17 := ne_toInt (m := 17) rfl c17; have e18 := ne_toInt (m := 18) rfl c18; have e19 := ne_toInt (m := 19) rfl c19; have e20 := ne_toInt (m := 20) rfl c20; have e21 := ne_toInt (m := 21) rfl c21; have e22 := ne_toInt (m := 22) rfl c22; have e23 := ne_toInt (m := 23) rfl c23; have e24 := ne_toInt (m := 24) rfl c24; have e25 := ne_toInt (m := 25) rfl c25; have e26 := ne_toInt (m := 26) rfl c26; have e27 := ne_toInt (m := 27) rfl c27; have e28 := ne_toInt (m := 28) rfl c28; have e29 := ne_toInt (m := 29) rfl c29; have e30 := ne_toInt (m := 30) rfl c30; have e31 := ne_toInt (m := 31) rfl c31; have e32 := ne_toInt (m := 32) rfl c32; have e33 := ne_toInt (m := 33) rfl c33; have e34 := ne_toInt (m := 34) rfl c34; have e35 := ne_toInt (m := 35) rfl c35; have e36 := ne_toInt (m := 36) rfl c36; have e37 := ne_toInt (m := 37) rfl c37; have e38 := ne_toInt (m := 38) rfl c38; have e39 := ne_toInt (m := 39) rfl c39; have e40 := ne_toInt (m := 40) rfl c40; have e41 := ne_toInt (m := 41) rfl c41; have e42 := ne_toInt (m := 42) rfl c42; have e43 := ne_toInt (m := 43) rfl c43; have e44 := ne_toInt (m := 44) rfl c44; have e45 := ne_toInt (m := 45) rfl c45; have e46 := ne_toInt (m := 46) rfl c46; have e47 := ne_toInt (m := 47) rfl c47; have e48 := ne_toInt (m := 48) rfl c48; have e49 := ne_toInt (m := 49) rfl c49; omega) ?_
  exact kk w hI
theorem sub6 {i L : Nat} (hi : i ≤ 4000) (hL : L ≤ 3072) : ((Int32.ofNat L - 6 : Int32) < nI i) ↔ L < i + 6 := by
  rw [Int32.lt_iff_toInt_lt, show (Int32.ofNat L - 6 : Int32) = nI L - nI 6 from rfl, pk_sub_toInt (by omega) (by omega), nI_toInt (by omega)]
  omega
theorem law_loop {x : CX} {b L : Nat} {sc : Nat → Int32} {Inv : Wd → Prop} {N : Nat} (hC : Cx x RL code 4 30) (hX : va_X b L sc (xs x) (xs x).heap) (hbl : b < (xs x).heap.size) (hbA : ¬ aG (xG x) b) (he : (xG x).2.2 51 0 = b) (hL : L ≤ 3072) (Hall : AllOk N Inv) (hfin : ∀ (ls : LV) (w : Wd), Z x 1547 ls [] w) : ∀ (n i : Nat) (w : Wd), i ≤ 4000 → L < i + 6 * n → Inv w → Z x 18 [some (vr 51 0), some (vr 0 0), some (vr 5 0), some (vi (nI i))] [] w := by
  intro n
  induction n with
  | zero =>
    intro i w h0 h1 hI
    refine Z_iload_n hC (dk d_law0 2 rfl) 19 rfl rfl rfl ?_
    refine Z_aload_n hC (dk d_law0 3 rfl) 20 rfl rfl rfl ?_
    refine Z_slen hC hX hbl hbA he (dk d_law0 4 rfl) 21 rfl ?_
    refine Z_bipush (v := 6) hC (dk d_law0 5 rfl) 23 rfl (by decide) ?_
    refine Z_isub hC (dk d_law0 6 rfl) 24 rfl ?_
    refine Z_icmp_gt hC (dk d_law0 7 rfl) 27 1547 rfl (by decide) (fun c => hfin _ _) (fun c => absurd ((sub6 h0 hL).mpr (by omega)) c)
  | succ n ih =>
    intro i w h0 h1 hI
    refine Z_iload_n hC (dk d_law0 2 rfl) 19 rfl rfl rfl ?_
    refine Z_aload_n hC (dk d_law0 3 rfl) 20 rfl rfl rfl ?_
    refine Z_slen hC hX hbl hbA he (dk d_law0 4 rfl) 21 rfl ?_
    refine Z_bipush (v := 6) hC (dk d_law0 5 rfl) 23 rfl (by decide) ?_
    refine Z_isub hC (dk d_law0 6 rfl) 24 rfl ?_
    refine Z_icmp_gt hC (dk d_law0 7 rfl) 27 1547 rfl (by decide) (fun c => hfin _ _) (fun c => ?_)
    have hi : i + 6 ≤ L := by
      rcases Nat.lt_or_ge L (i + 6) with q | q
      · exact absurd ((sub6 h0 hL).mpr q) c
      · exact q
    have jn : ∀ k : Nat, k < 6 → vp_in (nI i + nI k) L := fun k hk => by
      rw [nI_add]; exact vp_in_nI (by omega) (by omega)
    refine law_body hC hX hbl hbA he Hall (vp_in_nI (by omega) (by omega)) (jn 1 (by omega)) (jn 2 (by omega)) (jn 3 (by omega)) (jn 4 (by omega)) (jn 5 (by omega)) (fun w2 hI2 => ?_) w hI
    refine Z_iinc (v' := nI (i + 6)) hC (dk d_law16 47 rfl) 1544 rfl rfl ?_ [some (vr 51 0), some (vr 0 0), some (vr 5 0), some (vi (nI (i + 6)))] rfl ?_
    · show nI i + nI 6 = nI (i + 6)
      rw [nI_add]
    refine Z_goto hC (dk d_law16 48 rfl) 18 (by decide) ?_
    exact ih (i + 6) w2 (by omega) (by omega) hI2
