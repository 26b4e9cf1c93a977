set_option maxRecDepth 20000 in
def dl_X11_init : List (Nat × Instr × Nat) := [(0, .aload_n 0, 1), (1, .invokespecial 22, 3), (4, .aload_n 0, 1), (5, .bipush 7, 2), (7, .newarray .int, 2), (9, .putfield 7, 3), (12, .aload_n 0, 1), (13, .sipush 5662, 3), (16, .newarray .int, 2), (18, .putfield 28, 3), (21, .aload_n 0, 1), (22, .sipush 11324, 3), (25, .newarray .int, 2), (27, .putfield 31, 3), (30, .aload_n 0, 1), (31, .iconst 2, 1), (32, .newarray .boolean, 2), (34, .putfield 34, 3), (37, .aload_n 0, 1), (38, .bipush 50, 2), (40, .newarray .int, 2), (42, .putfield 38, 3), (45, .aload_n 0, 1), (46, .sipush 144, 3), (49, .newarray .byte, 2), (51, .dup, 1), (52, .iconst 0, 1), (53, .bipush 112, 2), (55, .bastore, 1), (56, .dup, 1), (57, .iconst 1, 1), (58, .bipush 97, 2), (60, .bastore, 1), (61, .dup, 1), (62, .iconst 2, 1), (63, .bipush 115, 2), (65, .bastore, 1), (66, .dup, 1), (67, .iconst 3, 1), (68, .bipush 115, 2), (70, .bastore, 1), (71, .dup, 1), (72, .iconst 4, 1), (73, .bipush 101, 2), (75, .bastore, 1), (76, .dup, 1), (77, .iconst 5, 1), (78, .bipush 115, 2), (80, .bastore, 1), (81, .dup, 1), (82, .bipush 6, 2), (84, .bipush 32, 2), (86, .bastore, 1), (87, .dup, 1), (88, .bipush 7, 2), (90, .bipush 107, 2), (92, .bastore, 1), (93, .dup, 1), (94, .bipush 8, 2), (96, .bipush 101, 2), (98, .bastore, 1), (99, .dup, 1), (100, .bipush 9, 2), (102, .bipush 101, 2), (104, .bastore, 1), (105, .dup, 1), (106, .bipush 10, 2), (108, .bipush 112, 2), (110, .bastore, 1), (111, .dup, 1), (112, .bipush 11, 2), (114, .bipush 115, 2), (116, .bastore, 1), (117, .dup, 1), (118, .bipush 12, 2), (120, .bipush 32, 2), (122, .bastore, 1), (123, .dup, 1), (124, .bipush 13, 2), (126, .bipush 108, 2), (128, .bastore, 1), (129, .dup, 1), (130, .bipush 14, 2), (132, .bipush 101, 2), (134, .bastore, 1), (135, .dup, 1), (136, .bipush 15, 2), (138, .bipush 97, 2), (140, .bastore, 1), (141, .dup, 1), (142, .bipush 16, 2), (144, .bipush 118, 2), (146, .bastore, 1), (147, .dup, 1), (148, .bipush 17, 2), (150, .bipush 101, 2), (152, .bastore, 1), (153, .dup, 1), (154, .bipush 18, 2), (156, .bipush 115, 2), (158, .bastore, 1), (159, .dup, 1), (160, .bipush 19, 2), (162, .bipush 32, 2), (164, .bastore, 1), (165, .dup, 1), (166, .bipush 20, 2), (168, .bipush 105, 2), (170, .bastore, 1), (171, .dup, 1), (172, .bipush 21, 2), (174, .bipush 102, 2), (176, .bastore, 1), (177, .dup, 1), (178, .bipush 22, 2), (180, .bipush 32, 2), (182, .bastore, 1), (183, .dup, 1), (184, .bipush 23, 2), (186, .bipush 111, 2), (188, .bastore, 1), (189, .dup, 1), (190, .bipush 24, 2), (192, .bipush 114, 2), (194, .bastore, 1), (195, .dup, 1), (196, .bipush 25, 2), (198, .bipush 32, 2), (200, .bastore, 1), (201, .dup, 1), (202, .bipush 26, 2), (204, .bipush 97, 2), (206, .bastore, 1), (207, .dup, 1), (208, .bipush 27, 2), (210, .bipush 110, 2), (212, .bastore, 1), (213, .dup, 1), (214, .bipush 28, 2), (216, .bipush 100, 2), (218, .bastore, 1), (219, .dup, 1), (220, .bipush 29, 2), (222, .bipush 32, 2), (224, .bastore, 1), (225, .dup, 1), (226, .bipush 30, 2), (228, .bipush 110, 2), (230, .bastore, 1), (231, .dup, 1), (232, .bipush 31, 2), (234, .bipush 111, 2), (236, .bastore, 1), (237, .dup, 1), (238, .bipush 32, 2), (240, .bipush 116, 2), (242, .bastore, 1), (243, .dup, 1), (244, .bipush 33, 2), (246, .bipush 32, 2), (248, .bastore, 1), (249, .dup, 1), (250, .bipush 34, 2), (252, .bipush 115, 2), (254, .bastore, 1), (255, .dup, 1), (256, .bipush 35, 2), (258, .bipush 105, 2), (260, .bastore, 1), (261, .dup, 1), (262, .bipush 36, 2), (264, .bipush 116, 2), (266, .bastore, 1), (267, .dup, 1), (268, .bipush 37, 2), (270, .bipush 116, 2), (272, .bastore, 1), (273, .dup, 1), (274, .bipush 38, 2), (276, .bipush 101, 2), (278, .bastore, 1), (279, .dup, 1), (280, .bipush 39, 2), (282, .bipush 114, 2), (284, .bastore, 1), (285, .dup, 1), (286, .bipush 40, 2), (288, .bipush 32, 2), (290, .bastore, 1), (291, .dup, 1), (292, .bipush 41, 2), (294, .bipush 111, 2), (296, .bastore, 1), (297, .dup, 1), (298, .bipush 42, 2), (300, .bipush 116, 2), (302, .bastore, 1), (303, .dup, 1), (304, .bipush 43, 2), (306, .bipush 104, 2), (308, .bastore, 1), (309, .dup, 1), (310, .bipush 44, 2), (312, .bipush 101, 2), (314, .bastore, 1), (315, .dup, 1), (316, .bipush 45, 2), (318, .bipush 114, 2), (320, .bastore, 1), (321, .dup, 1), (322, .bipush 46, 2), (324, .bipush 32, 2), (326, .bastore, 1), (327, .dup, 1), (328, .bipush 47, 2), (330, .bipush 116, 2), (332, .bastore, 1), (333, .dup, 1), (334, .bipush 48, 2), (336, .bipush 105, 2), (338, .bastore, 1), (339, .dup, 1), (340, .bipush 49, 2), (342, .bipush 101, 2), (344, .bastore, 1), (345, .dup, 1), (346, .bipush 50, 2), (348, .bipush 114, 2), (350, .bastore, 1), (351, .dup, 1), (352, .bipush 51, 2), (354, .bipush 32, 2), (356, .bastore, 1), (357, .dup, 1), (358, .bipush 52, 2), (360, .bipush 110, 2), (362, .bastore, 1), (363, .dup, 1), (364, .bipush 53, 2), (366, .bipush 97, 2), (368, .bastore, 1), (369, .dup, 1), (370, .bipush 54, 2), (372, .bipush 116, 2), (374, .bastore, 1), (375, .dup, 1), (376, .bipush 55, 2), (378, .bipush 105, 2), (380, .bastore, 1), (381, .dup, 1), (382, .bipush 56, 2), (384, .bipush 111, 2), (386, .bastore, 1), (387, .dup, 1), (388, .bipush 57, 2), (390, .bipush 110, 2), (392, .bastore, 1), (393, .dup, 1), (394, .bipush 58, 2), (396, .bipush 32, 2), (398, .bastore, 1), (399, .dup, 1), (400, .bipush 59, 2), (402, .bipush 119, 2), (404, .bastore, 1), (405, .dup, 1), (406, .bipush 60, 2), (408, .bipush 105, 2), (410, .bastore, 1), (411, .dup, 1), (412, .bipush 61, 2), (414, .bipush 115, 2), (416, .bastore, 1), (417, .dup, 1), (418, .bipush 62, 2), (420, .bipush 104, 2), (422, .bastore, 1), (423, .dup, 1), (424, .bipush 63, 2), (426, .bipush 32, 2), (428, .bastore, 1), (429, .dup, 1), (430, .bipush 64, 2), (432, .bipush 109, 2), (434, .bastore, 1), (435, .dup, 1), (436, .bipush 65, 2), (438, .bipush 111, 2), (440, .bastore, 1), (441, .dup, 1), (442, .bipush 66, 2), (444, .bipush 111, 2), (446, .bastore, 1), (447, .dup, 1), (448, .bipush 67, 2), (450, .bipush 100, 2), (452, .bastore, 1), (453, .dup, 1), (454, .bipush 68, 2), (456, .bipush 32, 2), (458, .bastore, 1), (459, .dup, 1), (460, .bipush 69, 2), (462, .bipush 109, 2), (464, .bastore, 1), (465, .dup, 1), (466, .bipush 70, 2), (468, .bipush 117, 2), (470, .bastore, 1), (471, .dup, 1), (472, .bipush 71, 2), (474, .bipush 99, 2), (476, .bastore, 1), (477, .dup, 1), (478, .bipush 72, 2), (480, .bipush 104, 2), (482, .bastore, 1), (483, .dup, 1), (484, .bipush 73, 2), (486, .bipush 32, 2), (488, .bastore, 1), (489, .dup, 1), (490, .bipush 74, 2), (492, .bipush 109, 2), (494, .bastore, 1), (495, .dup, 1), (496, .bipush 75, 2), (498, .bipush 105, 2), (500, .bastore, 1), (501, .dup, 1), (502, .bipush 76, 2), (504, .bipush 110, 2), (506, .bastore, 1), (507, .dup, 1), (508, .bipush 77, 2), (510, .bipush 117, 2), (512, .bastore, 1), (513, .dup, 1), (514, .bipush 78, 2), (516, .bipush 116, 2), (518, .bastore, 1), (519, .dup, 1), (520, .bipush 79, 2), (522, .bipush 101, 2), (524, .bastore, 1), (525, .dup, 1), (526, .bipush 80, 2), (528, .bipush 32, 2), (530, .bastore, 1), (531, .dup, 1), (532, .bipush 81, 2), (534, .bipush 100, 2), (536, .bastore, 1), (537, .dup, 1), (538, .bipush 82, 2), (540, .bipush 111, 2), (542, .bastore, 1), (543, .dup, 1), (544, .bipush 83, 2), (546, .bipush 110, 2), (548, .bastore, 1), (549, .dup, 1), (550, .bipush 84, 2), (552, .bipush 101, 2), (554, .bastore, 1), (555, .dup, 1), (556, .bipush 85, 2), (558, .bipush 32, 2), (560, .bastore, 1), (561, .dup, 1), (562, .bipush 86, 2), (564, .bipush 108, 2), (566, .bastore, 1), (567, .dup, 1), (568, .bipush 87, 2), (570, .bipush 97, 2), (572, .bastore, 1), (573, .dup, 1), (574, .bipush 88, 2), (576, .bipush 116, 2), (578, .bastore, 1), (579, .dup, 1), (580, .bipush 89, 2), (582, .bipush 101, 2), (584, .bastore, 1), (585, .dup, 1), (586, .bipush 90, 2), (588, .bipush 115, 2), (590, .bastore, 1), (591, .dup, 1), (592, .bipush 91, 2), (594, .bipush 116, 2), (596, .bastore, 1), (597, .dup, 1), (598, .bipush 92, 2), (600, .bipush 32, 2), (602, .bastore, 1), (603, .dup, 1), (604, .bipush 93, 2), (606, .bipush 105, 2), (608, .bastore, 1), (609, .dup, 1), (610, .bipush 94, 2), (612, .bipush 110, 2), (614, .bastore, 1), (615, .dup, 1), (616, .bipush 95, 2), (618, .bipush 115, 2), (620, .bastore, 1), (621, .dup, 1), (622, .bipush 96, 2), (624, .bipush 105, 2), (626, .bastore, 1), (627, .dup, 1), (628, .bipush 97, 2), (630, .bipush 100, 2), (632, .bastore, 1), (633, .dup, 1), (634, .bipush 98, 2), (636, .bipush 101, 2), (638, .bastore, 1), (639, .dup, 1), (640, .bipush 99, 2), (642, .bipush 32, 2), (644, .bastore, 1), (645, .dup, 1), (646, .bipush 100, 2), (648, .bipush 112, 2), (650, .bastore, 1), (651, .dup, 1), (652, .bipush 101, 2), (654, .bipush 108, 2), (656, .bastore, 1), (657, .dup, 1), (658, .bipush 102, 2), (660, .bipush 101, 2), (662, .bastore, 1), (663, .dup, 1), (664, .bipush 103, 2), (666, .bipush 97, 2), (668, .bastore, 1), (669, .dup, 1), (670, .bipush 104, 2), (672, .bipush 115, 2), (674, .bastore, 1), (675, .dup, 1), (676, .bipush 105, 2), (678, .bipush 101, 2), (680, .bastore, 1), (681, .dup, 1), (682, .bipush 106, 2), (684, .bipush 100, 2), (686, .bastore, 1), (687, .dup, 1), (688, .bipush 107, 2), (690, .bipush 32, 2), (692, .bastore, 1), (693, .dup, 1), (694, .bipush 108, 2), (696, .bipush 105, 2), (698, .bastore, 1), (699, .dup, 1), (700, .bipush 109, 2), (702, .bipush 115, 2), (704, .bastore, 1), (705, .dup, 1), (706, .bipush 110, 2), (708, .bipush 32, 2), (710, .bastore, 1), (711, .dup, 1), (712, .bipush 111, 2), (714, .bipush 115, 2), (716, .bastore, 1), (717, .dup, 1), (718, .bipush 112, 2), (720, .bipush 101, 2), (722, .bastore, 1), (723, .dup, 1), (724, .bipush 113, 2), (726, .bipush 97, 2), (728, .bastore, 1), (729, .dup, 1), (730, .bipush 114, 2), (732, .bipush 116, 2), (734, .bastore, 1), (735, .dup, 1), (736, .bipush 115, 2), (738, .bipush 32, 2), (740, .bastore, 1), (741, .dup, 1), (742, .bipush 116, 2), (744, .bipush 97, 2), (746, .bastore, 1), (747, .dup, 1), (748, .bipush 117, 2), (750, .bipush 116, 2), (752, .bastore, 1), (753, .dup, 1), (754, .bipush 118, 2), (756, .bipush 32, 2), (758, .bastore, 1), (759, .dup, 1), (760, .bipush 119, 2), (762, .bipush 111, 2), (764, .bastore, 1), (765, .dup, 1), (766, .bipush 120, 2), (768, .bipush 117, 2), (770, .bastore, 1), (771, .dup, 1), (772, .bipush 121, 2), (774, .bipush 116, 2), (776, .bastore, 1), (777, .dup, 1), (778, .bipush 122, 2), (780, .bipush 32, 2), (782, .bastore, 1), (783, .dup, 1), (784, .bipush 123, 2), (786, .bipush 115, 2), (788, .bastore, 1), (789, .dup, 1), (790, .bipush 124, 2), (792, .bipush 119, 2), (794, .bastore, 1), (795, .dup, 1), (796, .bipush 125, 2), (798, .bipush 97, 2), (800, .bastore, 1), (801, .dup, 1), (802, .bipush 126, 2), (804, .bipush 112, 2), (806, .bastore, 1), (807, .dup, 1), (808, .bipush 127, 2), (810, .bipush 32, 2), (812, .bastore, 1), (813, .dup, 1), (814, .sipush 128, 3), (817, .bipush 119, 2), (819, .bastore, 1), (820, .dup, 1), (821, .sipush 129, 3), (824, .bipush 105, 2), (826, .bastore, 1), (827, .dup, 1), (828, .sipush 130, 3), (831, .bipush 116, 2), (833, .bastore, 1), (834, .dup, 1), (835, .sipush 131, 3), (838, .bipush 104, 2), (840, .bastore, 1), (841, .dup, 1), (842, .sipush 132, 3), (845, .bipush 32, 2), (847, .bastore, 1), (848, .dup, 1), (849, .sipush 133, 3), (852, .bipush 112, 2), (854, .bastore, 1), (855, .dup, 1), (856, .sipush 134, 3), (859, .bipush 97, 2), (861, .bastore, 1), (862, .dup, 1), (863, .sipush 135, 3), (866, .bipush 115, 2), (868, .bastore, 1), (869, .dup, 1), (870, .sipush 136, 3), (873, .bipush 115, 2), (875, .bastore, 1), (876, .dup, 1), (877, .sipush 137, 3), (880, .bipush 32, 2), (882, .bastore, 1), (883, .dup, 1), (884, .sipush 138, 3), (887, .bipush 116, 2), (889, .bastore, 1), (890, .dup, 1), (891, .sipush 139, 3), (894, .bipush 105, 2), (896, .bastore, 1), (897, .dup, 1), (898, .sipush 140, 3), (901, .bipush 109, 2), (903, .bastore, 1), (904, .dup, 1), (905, .sipush 141, 3), (908, .bipush 101, 2), (910, .bastore, 1), (911, .dup, 1), (912, .sipush 142, 3), (915, .bipush 115, 2), (917, .bastore, 1), (918, .dup, 1), (919, .sipush 143, 3), (922, .bipush 32, 2), (924, .bastore, 1), (925, .putfield 41, 3), (928, .aload_n 0, 1), (929, .sipush 400, 3), (932, .newarray .byte, 2), (934, .putfield 45, 3), (937, .aload_n 0, 1), (938, .iconst 5, 1), (939, .newarray .int, 2), (941, .putfield 48, 3), (944, .aload_n 0, 1), (945, .iconst (-1), 1), (946, .putfield 51, 3), (949, .aload_n 0, 1), (950, .sipush 401, 3), (953, .newarray .int, 2), (955, .putfield 54, 3), (958, .aload_n 0, 1), (959, .sipush 401, 3), (962, .newarray .int, 2), (964, .putfield 57, 3), (967, .aload_n 0, 1), (968, .sipush 401, 3), (971, .newarray .int, 2), (973, .putfield 60, 3), (976, .aload_n 0, 1), (977, .bipush 8, 2), (979, .newarray .int, 2), (981, .putfield 63, 3), (984, .aload_n 0, 1), (985, .bipush 18, 2), (987, .newarray .int, 2), (989, .putfield 66, 3), (992, .aload_n 0, 1), (993, .sipush 416, 3), (996, .newarray .int, 2), (998, .putfield 69, 3), (1001, .aload_n 0, 1), (1002, .sipush 416, 3), (1005, .newarray .int, 2), (1007, .putfield 72, 3), (1010, .aload_n 0, 1), (1011, .bipush 6, 2), (1013, .newarray .int, 2), (1015, .putfield 75, 3), (1018, .aload_n 0, 1), (1019, .bipush 6, 2), (1021, .newarray .int, 2), (1023, .putfield 78, 3), (1026, .aload_n 0, 1), (1027, .sipush 720, 3), (1030, .newarray .int, 2), (1032, .putfield 81, 3), (1035, .aload_n 0, 1), (1036, .sipush 720, 3), (1039, .newarray .int, 2), (1041, .putfield 84, 3), (1044, .aload_n 0, 1), (1045, .sipush 720, 3), (1048, .newarray .int, 2), (1050, .putfield 87, 3), (1053, .aload_n 0, 1), (1054, .sipush 720, 3), (1057, .newarray .boolean, 2), (1059, .putfield 90, 3), (1062, .aload_n 0, 1), (1063, .sipush 4320, 3), (1066, .newarray .int, 2), (1068, .putfield 93, 3), (1071, .aload_n 0, 1), (1072, .iconst 3, 1), (1073, .newarray .int, 2), (1075, .putfield 96, 3), (1078, .aload_n 0, 1), (1079, .bipush 6, 2), (1081, .newarray .int, 2), (1083, .putfield 99, 3), (1086, .aload_n 0, 1), (1087, .bipush 6, 2), (1089, .newarray .int, 2), (1091, .putfield 102, 3), (1094, .aload_n 0, 1), (1095, .bipush 21, 2), (1097, .newarray .long, 2), (1099, .putfield 105, 3), (1102, .aload_n 0, 1), (1103, .iconst (-1), 1), (1104, .putfield 109, 3), (1107, .aload_n 0, 1), (1108, .iconst 2, 1), (1109, .newarray .long, 2), (1111, .putfield 112, 3), (1114, .aload_n 0, 1), (1115, .bipush 25, 2), (1117, .newarray .int, 2), (1119, .putfield 115, 3), (1122, .aload_n 0, 1), (1123, .iconst (-1), 1), (1124, .putfield 118, 3), (1127, .aload_n 0, 1), (1128, .getfield 28, 3), (1131, .bipush 49, 2), (1133, .iconst 1, 1), (1134, .iastore, 1), (1135, .aload_n 0, 1), (1136, .getfield 28, 3), (1139, .bipush 54, 2), (1141, .iconst (-1), 1), (1142, .iastore, 1), (1143, .return_, 1)]
set_option maxRecDepth 20000 in
theorem dt_X11_init : ∀ q ∈ dl_X11_init, decode prog_13_method_12_code q.1 = .ok q.2 := by decide +kernel
set_option maxRecDepth 20000 in
def i_X11 (a0 : Nat) (cs : List CC) : Option (List CC) :=
  (nwA 0 7 cs).bind fun c1 =>
  (pF 11 1 (.ref (cs.length)) a0 c1).bind fun c3 =>
  (nwA 0 5662 c3).bind fun c5 =>
  (pF 11 2 (.ref (c3.length)) a0 c5).bind fun c7 =>
  (nwA 0 11324 c7).bind fun c9 =>
  (pF 11 3 (.ref (c7.length)) a0 c9).bind fun c11 =>
  (nwA 2 2 c11).bind fun c13 =>
  (pF 11 4 (.ref (c11.length)) a0 c13).bind fun c15 =>
  (nwA 0 50 c15).bind fun c17 =>
  (pF 11 5 (.ref (c15.length)) a0 c17).bind fun c19 =>
  (nwA 1 144 c19).bind fun c21 =>
  (sAI 1 (c19.length) 0 (112 : Int32) c21).bind fun c23 =>
  (sAI 1 (c19.length) 1 (97 : Int32) c23).bind fun c25 =>
  (sAI 1 (c19.length) 2 (115 : Int32) c25).bind fun c27 =>
  (sAI 1 (c19.length) 3 (115 : Int32) c27).bind fun c29 =>
  (sAI 1 (c19.length) 4 (101 : Int32) c29).bind fun c31 =>
  (sAI 1 (c19.length) 5 (115 : Int32) c31).bind fun c33 =>
  (sAI 1 (c19.length) 6 (32 : Int32) c33).bind fun c35 =>
  (sAI 1 (c19.length) 7 (107 : Int32) c35).bind fun c37 =>
  (sAI 1 (c19.length) 8 (101 : Int32) c37).bind fun c39 =>
  (sAI 1 (c19.length) 9 (101 : Int32) c39).bind fun c41 =>
  (sAI 1 (c19.length) 10 (112 : Int32) c41).bind fun c43 =>
  (sAI 1 (c19.length) 11 (115 : Int32) c43).bind fun c45 =>
  (sAI 1 (c19.length) 12 (32 : Int32) c45).bind fun c47 =>
  (sAI 1 (c19.length) 13 (108 : Int32) c47).bind fun c49 =>
  (sAI 1 (c19.length) 14 (101 : Int32) c49).bind fun c51 =>
  (sAI 1 (c19.length) 15 (97 : Int32) c51).bind fun c53 =>
  (sAI 1 (c19.length) 16 (118 : Int32) c53).bind fun c55 =>
  (sAI 1 (c19.length) 17 (101 : Int32) c55).bind fun c57 =>
  (sAI 1 (c19.length) 18 (115 : Int32) c57).bind fun c59 =>
  (sAI 1 (c19.length) 19 (32 : Int32) c59).bind fun c61 =>
  (sAI 1 (c19.length) 20 (105 : Int32) c61).bind fun c63 =>
  (sAI 1 (c19.length) 21 (102 : Int32) c63).bind fun c65 =>
  (sAI 1 (c19.length) 22 (32 : Int32) c65).bind fun c67 =>
  (sAI 1 (c19.length) 23 (111 : Int32) c67).bind fun c69 =>
  (sAI 1 (c19.length) 24 (114 : Int32) c69).bind fun c71 =>
  (sAI 1 (c19.length) 25 (32 : Int32) c71).bind fun c73 =>
  (sAI 1 (c19.length) 26 (97 : Int32) c73).bind fun c75 =>
  (sAI 1 (c19.length) 27 (110 : Int32) c75).bind fun c77 =>
  (sAI 1 (c19.length) 28 (100 : Int32) c77).bind fun c79 =>
  (sAI 1 (c19.length) 29 (32 : Int32) c79).bind fun c81 =>
  (sAI 1 (c19.length) 30 (110 : Int32) c81).bind fun c83 =>
  (sAI 1 (c19.length) 31 (111 : Int32) c83).bind fun c85 =>
  (sAI 1 (c19.length) 32 (116 : Int32) c85).bind fun c87 =>
  (sAI 1 (c19.length) 33 (32 : Int32) c87).bind fun c89 =>
  (sAI 1 (c19.length) 34 (115 : Int32) c89).bind fun c91 =>
  (sAI 1 (c19.length) 35 (105 : Int32) c91).bind fun c93 =>
  (sAI 1 (c19.length) 36 (116 : Int32) c93).bind fun c95 =>
  (sAI 1 (c19.length) 37 (116 : Int32) c95).bind fun c97 =>
  (sAI 1 (c19.length) 38 (101 : Int32) c97).bind fun c99 =>
  (sAI 1 (c19.length) 39 (114 : Int32) c99).bind fun c101 =>
  (sAI 1 (c19.length) 40 (32 : Int32) c101).bind fun c103 =>
  (sAI 1 (c19.length) 41 (111 : Int32) c103).bind fun c105 =>
  (sAI 1 (c19.length) 42 (116 : Int32) c105).bind fun c107 =>
  (sAI 1 (c19.length) 43 (104 : Int32) c107).bind fun c109 =>
  (sAI 1 (c19.length) 44 (101 : Int32) c109).bind fun c111 =>
  (sAI 1 (c19.length) 45 (114 : Int32) c111).bind fun c113 =>
  (sAI 1 (c19.length) 46 (32 : Int32) c113).bind fun c115 =>
  (sAI 1 (c19.length) 47 (116 : Int32) c115).bind fun c117 =>
  (sAI 1 (c19.length) 48 (105 : Int32) c117).bind fun c119 =>
  (sAI 1 (c19.length) 49 (101 : Int32) c119).bind fun c121 =>
  (sAI 1 (c19.length) 50 (114 : Int32) c121).bind fun c123 =>
  (sAI 1 (c19.length) 51 (32 : Int32) c123).bind fun c125 =>
  (sAI 1 (c19.length) 52 (110 : Int32) c125).bind fun c127 =>
  (sAI 1 (c19.length) 53 (97 : Int32) c127).bind fun c129 =>
  (sAI 1 (c19.length) 54 (116 : Int32) c129).bind fun c131 =>
  (sAI 1 (c19.length) 55 (105 : Int32) c131).bind fun c133 =>
  (sAI 1 (c19.length) 56 (111 : Int32) c133).bind fun c135 =>
  (sAI 1 (c19.length) 57 (110 : Int32) c135).bind fun c137 =>
  (sAI 1 (c19.length) 58 (32 : Int32) c137).bind fun c139 =>
  (sAI 1 (c19.length) 59 (119 : Int32) c139).bind fun c141 =>
  (sAI 1 (c19.length) 60 (105 : Int32) c141).bind fun c143 =>
  (sAI 1 (c19.length) 61 (115 : Int32) c143).bind fun c145 =>
  (sAI 1 (c19.length) 62 (104 : Int32) c145).bind fun c147 =>
  (sAI 1 (c19.length) 63 (32 : Int32) c147).bind fun c149 =>
  (sAI 1 (c19.length) 64 (109 : Int32) c149).bind fun c151 =>
  (sAI 1 (c19.length) 65 (111 : Int32) c151).bind fun c153 =>
  (sAI 1 (c19.length) 66 (111 : Int32) c153).bind fun c155 =>
  (sAI 1 (c19.length) 67 (100 : Int32) c155).bind fun c157 =>
  (sAI 1 (c19.length) 68 (32 : Int32) c157).bind fun c159 =>
  (sAI 1 (c19.length) 69 (109 : Int32) c159).bind fun c161 =>
  (sAI 1 (c19.length) 70 (117 : Int32) c161).bind fun c163 =>
  (sAI 1 (c19.length) 71 (99 : Int32) c163).bind fun c165 =>
  (sAI 1 (c19.length) 72 (104 : Int32) c165).bind fun c167 =>
  (sAI 1 (c19.length) 73 (32 : Int32) c167).bind fun c169 =>
  (sAI 1 (c19.length) 74 (109 : Int32) c169).bind fun c171 =>
  (sAI 1 (c19.length) 75 (105 : Int32) c171).bind fun c173 =>
  (sAI 1 (c19.length) 76 (110 : Int32) c173).bind fun c175 =>
  (sAI 1 (c19.length) 77 (117 : Int32) c175).bind fun c177 =>
  (sAI 1 (c19.length) 78 (116 : Int32) c177).bind fun c179 =>
  (sAI 1 (c19.length) 79 (101 : Int32) c179).bind fun c181 =>
  (sAI 1 (c19.length) 80 (32 : Int32) c181).bind fun c183 =>
  (sAI 1 (c19.length) 81 (100 : Int32) c183).bind fun c185 =>
  (sAI 1 (c19.length) 82 (111 : Int32) c185).bind fun c187 =>
  (sAI 1 (c19.length) 83 (110 : Int32) c187).bind fun c189 =>
  (sAI 1 (c19.length) 84 (101 : Int32) c189).bind fun c191 =>
  (sAI 1 (c19.length) 85 (32 : Int32) c191).bind fun c193 =>
  (sAI 1 (c19.length) 86 (108 : Int32) c193).bind fun c195 =>
  (sAI 1 (c19.length) 87 (97 : Int32) c195).bind fun c197 =>
  (sAI 1 (c19.length) 88 (116 : Int32) c197).bind fun c199 =>
  (sAI 1 (c19.length) 89 (101 : Int32) c199).bind fun c201 =>
  (sAI 1 (c19.length) 90 (115 : Int32) c201).bind fun c203 =>
  (sAI 1 (c19.length) 91 (116 : Int32) c203).bind fun c205 =>
  (sAI 1 (c19.length) 92 (32 : Int32) c205).bind fun c207 =>
  (sAI 1 (c19.length) 93 (105 : Int32) c207).bind fun c209 =>
  (sAI 1 (c19.length) 94 (110 : Int32) c209).bind fun c211 =>
  (sAI 1 (c19.length) 95 (115 : Int32) c211).bind fun c213 =>
  (sAI 1 (c19.length) 96 (105 : Int32) c213).bind fun c215 =>
  (sAI 1 (c19.length) 97 (100 : Int32) c215).bind fun c217 =>
  (sAI 1 (c19.length) 98 (101 : Int32) c217).bind fun c219 =>
  (sAI 1 (c19.length) 99 (32 : Int32) c219).bind fun c221 =>
  (sAI 1 (c19.length) 100 (112 : Int32) c221).bind fun c223 =>
  (sAI 1 (c19.length) 101 (108 : Int32) c223).bind fun c225 =>
  (sAI 1 (c19.length) 102 (101 : Int32) c225).bind fun c227 =>
  (sAI 1 (c19.length) 103 (97 : Int32) c227).bind fun c229 =>
  (sAI 1 (c19.length) 104 (115 : Int32) c229).bind fun c231 =>
  (sAI 1 (c19.length) 105 (101 : Int32) c231).bind fun c233 =>
  (sAI 1 (c19.length) 106 (100 : Int32) c233).bind fun c235 =>
  (sAI 1 (c19.length) 107 (32 : Int32) c235).bind fun c237 =>
  (sAI 1 (c19.length) 108 (105 : Int32) c237).bind fun c239 =>
  (sAI 1 (c19.length) 109 (115 : Int32) c239).bind fun c241 =>
  (sAI 1 (c19.length) 110 (32 : Int32) c241).bind fun c243 =>
  (sAI 1 (c19.length) 111 (115 : Int32) c243).bind fun c245 =>
  (sAI 1 (c19.length) 112 (101 : Int32) c245).bind fun c247 =>
  (sAI 1 (c19.length) 113 (97 : Int32) c247).bind fun c249 =>
  (sAI 1 (c19.length) 114 (116 : Int32) c249).bind fun c251 =>
  (sAI 1 (c19.length) 115 (32 : Int32) c251).bind fun c253 =>
  (sAI 1 (c19.length) 116 (97 : Int32) c253).bind fun c255 =>
  (sAI 1 (c19.length) 117 (116 : Int32) c255).bind fun c257 =>
  (sAI 1 (c19.length) 118 (32 : Int32) c257).bind fun c259 =>
  (sAI 1 (c19.length) 119 (111 : Int32) c259).bind fun c261 =>
  (sAI 1 (c19.length) 120 (117 : Int32) c261).bind fun c263 =>
  (sAI 1 (c19.length) 121 (116 : Int32) c263).bind fun c265 =>
  (sAI 1 (c19.length) 122 (32 : Int32) c265).bind fun c267 =>
  (sAI 1 (c19.length) 123 (115 : Int32) c267).bind fun c269 =>
  (sAI 1 (c19.length) 124 (119 : Int32) c269).bind fun c271 =>
  (sAI 1 (c19.length) 125 (97 : Int32) c271).bind fun c273 =>
  (sAI 1 (c19.length) 126 (112 : Int32) c273).bind fun c275 =>
  (sAI 1 (c19.length) 127 (32 : Int32) c275).bind fun c277 =>
  (sAI 1 (c19.length) 128 (119 : Int32) c277).bind fun c279 =>
  (sAI 1 (c19.length) 129 (105 : Int32) c279).bind fun c281 =>
  (sAI 1 (c19.length) 130 (116 : Int32) c281).bind fun c283 =>
  (sAI 1 (c19.length) 131 (104 : Int32) c283).bind fun c285 =>
  (sAI 1 (c19.length) 132 (32 : Int32) c285).bind fun c287 =>
  (sAI 1 (c19.length) 133 (112 : Int32) c287).bind fun c289 =>
  (sAI 1 (c19.length) 134 (97 : Int32) c289).bind fun c291 =>
  (sAI 1 (c19.length) 135 (115 : Int32) c291).bind fun c293 =>
  (sAI 1 (c19.length) 136 (115 : Int32) c293).bind fun c295 =>
  (sAI 1 (c19.length) 137 (32 : Int32) c295).bind fun c297 =>
  (sAI 1 (c19.length) 138 (116 : Int32) c297).bind fun c299 =>
  (sAI 1 (c19.length) 139 (105 : Int32) c299).bind fun c301 =>
  (sAI 1 (c19.length) 140 (109 : Int32) c301).bind fun c303 =>
  (sAI 1 (c19.length) 141 (101 : Int32) c303).bind fun c305 =>
  (sAI 1 (c19.length) 142 (115 : Int32) c305).bind fun c307 =>
  (sAI 1 (c19.length) 143 (32 : Int32) c307).bind fun c309 =>
  (pF 11 7 (.ref (c19.length)) a0 c309).bind fun c311 =>
  (nwA 1 400 c311).bind fun c313 =>
  (pF 11 11 (.ref (c311.length)) a0 c313).bind fun c315 =>
  (nwA 0 5 c315).bind fun c317 =>
  (pF 11 12 (.ref (c315.length)) a0 c317).bind fun c319 =>
  (pF 11 14 (.int (-1 : Int32)) a0 c319).bind fun c321 =>
  (nwA 0 401 c321).bind fun c323 =>
  (pF 11 15 (.ref (c321.length)) a0 c323).bind fun c325 =>
  (nwA 0 401 c325).bind fun c327 =>
  (pF 11 16 (.ref (c325.length)) a0 c327).bind fun c329 =>
  (nwA 0 401 c329).bind fun c331 =>
  (pF 11 17 (.ref (c329.length)) a0 c331).bind fun c333 =>
  (nwA 0 8 c333).bind fun c335 =>
  (pF 11 26 (.ref (c333.length)) a0 c335).bind fun c337 =>
  (nwA 0 18 c337).bind fun c339 =>
  (pF 11 29 (.ref (c337.length)) a0 c339).bind fun c341 =>
  (nwA 0 416 c341).bind fun c343 =>
  (pF 11 30 (.ref (c341.length)) a0 c343).bind fun c345 =>
  (nwA 0 416 c345).bind fun c347 =>
  (pF 11 31 (.ref (c345.length)) a0 c347).bind fun c349 =>
  (nwA 0 6 c349).bind fun c351 =>
  (pF 11 33 (.ref (c349.length)) a0 c351).bind fun c353 =>
  (nwA 0 6 c353).bind fun c355 =>
  (pF 11 34 (.ref (c353.length)) a0 c355).bind fun c357 =>
  (nwA 0 720 c357).bind fun c359 =>
  (pF 11 37 (.ref (c357.length)) a0 c359).bind fun c361 =>
  (nwA 0 720 c361).bind fun c363 =>
  (pF 11 38 (.ref (c361.length)) a0 c363).bind fun c365 =>
  (nwA 0 720 c365).bind fun c367 =>
  (pF 11 39 (.ref (c365.length)) a0 c367).bind fun c369 =>
  (nwA 2 720 c369).bind fun c371 =>
  (pF 11 40 (.ref (c369.length)) a0 c371).bind fun c373 =>
  (nwA 0 4320 c373).bind fun c375 =>
  (pF 11 41 (.ref (c373.length)) a0 c375).bind fun c377 =>
  (nwA 0 3 c377).bind fun c379 =>
  (pF 11 42 (.ref (c377.length)) a0 c379).bind fun c381 =>
  (nwA 0 6 c381).bind fun c383 =>
  (pF 11 43 (.ref (c381.length)) a0 c383).bind fun c385 =>
  (nwA 0 6 c385).bind fun c387 =>
  (pF 11 44 (.ref (c385.length)) a0 c387).bind fun c389 =>
  (nwA 3 21 c389).bind fun c391 =>
  (pF 11 45 (.ref (c389.length)) a0 c391).bind fun c393 =>
  (pF 11 46 (.int (-1 : Int32)) a0 c393).bind fun c395 =>
  (nwA 3 2 c395).bind fun c397 =>
  (pF 11 52 (.ref (c395.length)) a0 c397).bind fun c399 =>
  (nwA 0 25 c399).bind fun c401 =>
  (pF 11 53 (.ref (c399.length)) a0 c401).bind fun c403 =>
  (pF 11 54 (.int (-1 : Int32)) a0 c403).bind fun c405 =>
  (gR 11 2 a0 c405).bind fun b407 =>
  (sAI 0 b407 49 (1 : Int32) c405).bind fun c409 =>
  (gR 11 2 a0 c409).bind fun b411 =>
  (sAI 0 b411 54 (-1 : Int32) c409).bind fun c413 =>
  some c413
set_option maxRecDepth 20000 in
set_option maxHeartbeats 4000000 in
theorem wi_X11 (a0 : Nat) (cs q : List CC) (hrun : i_X11 a0 cs = some q) : MetC ⟨"SteamNationsModel", "<init>", "()V"⟩ prog_13_method_12_code 1 none 1 28 26930 [.ref a0] cs none q := by
  refine metC_of (by decide +kernel) (Nat.le_of_ble_eq_true rfl) (fun X C Hi K => ?_)
  have C : Cx X cn_11 prog_13_method_12_code 1 none 1 28 26930 := C
  have Hi := Hi rfl
  show Gc X cs 0 0 0 [(0, .ref a0)] []
  unfold i_X11 at hrun
  refine gc_aload_n C (dat dt_X11_init 0 rfl) 0 rfl ?_
  refine gc_objInit C (dat dt_X11_init 1 rfl) ol_11 oi_1 oi_2 (by decide) ?_
  refine gc_aload_n C (dat dt_X11_init 2 rfl) 0 rfl ?_
  refine gc_bipush C (dat dt_X11_init 3 rfl) bp_7 ?_
  obtain ⟨c1, e2, hrun⟩ := bd hrun
  refine gc_newa (t := 0) (N := 7) C (dat dt_X11_init 4 rfl) rfl rfl ac_int (by decide) (by decide) (by decide) e2 ⟨by decide, by decide⟩ ?_
  obtain ⟨c3, e4, hrun⟩ := bd hrun
  refine gc_putF C Hi (dat dt_X11_init 5 rfl) ff_11_7 (fun E => ⟨rfl, rfl⟩) e4 ?_
  refine gc_aload_n C (dat dt_X11_init 6 rfl) 0 rfl ?_
  refine gc_sipush C (dat dt_X11_init 7 rfl) sp_5662 ?_
  obtain ⟨c5, e6, hrun⟩ := bd hrun
  refine gc_newa (t := 0) (N := 5662) C (dat dt_X11_init 8 rfl) rfl rfl ac_int (by decide) (by decide) (by decide) e6 ⟨by decide, by decide⟩ ?_
  obtain ⟨c7, e8, hrun⟩ := bd hrun
  refine gc_putF C Hi (dat dt_X11_init 9 rfl) ff_11_28 (fun E => ⟨rfl, rfl⟩) e8 ?_
  refine gc_aload_n C (dat dt_X11_init 10 rfl) 0 rfl ?_
  refine gc_sipush C (dat dt_X11_init 11 rfl) sp_11324 ?_
  obtain ⟨c9, e10, hrun⟩ := bd hrun
  refine gc_newa (t := 0) (N := 11324) C (dat dt_X11_init 12 rfl) rfl rfl ac_int (by decide) (by decide) (by decide) e10 ⟨by decide, by decide⟩ ?_
  obtain ⟨c11, e12, hrun⟩ := bd hrun
  refine gc_putF C Hi (dat dt_X11_init 13 rfl) ff_11_31 (fun E => ⟨rfl, rfl⟩) e12 ?_
  refine gc_aload_n C (dat dt_X11_init 14 rfl) 0 rfl ?_
  refine gc_iconst C (dat dt_X11_init 15 rfl) ic_2 ?_
  obtain ⟨c13, e14, hrun⟩ := bd hrun
  refine gc_newa (t := 2) (N := 2) C (dat dt_X11_init 16 rfl) rfl rfl ac_boolean (by decide) (by decide) (by decide) e14 ⟨by decide, by decide⟩ ?_
  obtain ⟨c15, e16, hrun⟩ := bd hrun
  refine gc_putF C Hi (dat dt_X11_init 17 rfl) ff_11_34 (fun E => ⟨rfl, rfl⟩) e16 ?_
  refine gc_aload_n C (dat dt_X11_init 18 rfl) 0 rfl ?_
  refine gc_bipush C (dat dt_X11_init 19 rfl) bp_50 ?_
  obtain ⟨c17, e18, hrun⟩ := bd hrun
  refine gc_newa (t := 0) (N := 50) C (dat dt_X11_init 20 rfl) rfl rfl ac_int (by decide) (by decide) (by decide) e18 ⟨by decide, by decide⟩ ?_
  obtain ⟨c19, e20, hrun⟩ := bd hrun
  refine gc_putF C Hi (dat dt_X11_init 21 rfl) ff_11_38 (fun E => ⟨rfl, rfl⟩) e20 ?_
  refine gc_aload_n C (dat dt_X11_init 22 rfl) 0 rfl ?_
  refine gc_sipush C (dat dt_X11_init 23 rfl) sp_144 ?_
  obtain ⟨c21, e22, hrun⟩ := bd hrun
  refine gc_newa (t := 1) (N := 144) C (dat dt_X11_init 24 rfl) rfl rfl ac_byte (by decide) (by decide) (by decide) e22 ⟨by decide, by decide⟩ ?_
  refine gc_dup C (dat dt_X11_init 25 rfl) rfl ?_
  refine gc_iconst C (dat dt_X11_init 26 rfl) ic_0 ?_
  refine gc_bipush C (dat dt_X11_init 27 rfl) bp_112 ?_
  obtain ⟨c23, e24, hrun⟩ := bd hrun
  refine gc_ast (t := 1) (j := 0) C (dat dt_X11_init 28 rfl) (Or.inr ⟨rfl, rfl⟩) (fun _ => by decide) (by decide) (by decide) e24 ?_
  refine gc_dup C (dat dt_X11_init 29 rfl) rfl ?_
  refine gc_iconst C (dat dt_X11_init 30 rfl) ic_1 ?_
  refine gc_bipush C (dat dt_X11_init 31 rfl) bp_97 ?_
  obtain ⟨c25, e26, hrun⟩ := bd hrun
  refine gc_ast (t := 1) (j := 1) C (dat dt_X11_init 32 rfl) (Or.inr ⟨rfl, rfl⟩) (fun _ => by decide) (by decide) (by decide) e26 ?_
  refine gc_dup C (dat dt_X11_init 33 rfl) rfl ?_
  refine gc_iconst C (dat dt_X11_init 34 rfl) ic_2 ?_
  refine gc_bipush C (dat dt_X11_init 35 rfl) bp_115 ?_
  obtain ⟨c27, e28, hrun⟩ := bd hrun
  refine gc_ast (t := 1) (j := 2) C (dat dt_X11_init 36 rfl) (Or.inr ⟨rfl, rfl⟩) (fun _ => by decide) (by decide) (by decide) e28 ?_
  refine gc_dup C (dat dt_X11_init 37 rfl) rfl ?_
  refine gc_iconst C (dat dt_X11_init 38 rfl) ic_3 ?_
  refine gc_bipush C (dat dt_X11_init 39 rfl) bp_115 ?_
  obtain ⟨c29, e30, hrun⟩ := bd hrun
  refine gc_ast (t := 1) (j := 3) C (dat dt_X11_init 40 rfl) (Or.inr ⟨rfl, rfl⟩) (fun _ => by decide) (by decide) (by decide) e30 ?_
  refine gc_dup C (dat dt_X11_init 41 rfl) rfl ?_
  refine gc_iconst C (dat dt_X11_init 42 rfl) ic_4 ?_
  refine gc_bipush C (dat dt_X11_init 43 rfl) bp_101 ?_
  obtain ⟨c31, e32, hrun⟩ := bd hrun
  refine gc_ast (t := 1) (j := 4) C (dat dt_X11_init 44 rfl) (Or.inr ⟨rfl, rfl⟩) (fun _ => by decide) (by decide) (by decide) e32 ?_
  refine gc_dup C (dat dt_X11_init 45 rfl) rfl ?_
  refine gc_iconst C (dat dt_X11_init 46 rfl) ic_5 ?_
  refine gc_bipush C (dat dt_X11_init 47 rfl) bp_115 ?_
  obtain ⟨c33, e34, hrun⟩ := bd hrun
  refine gc_ast (t := 1) (j := 5) C (dat dt_X11_init 48 rfl) (Or.inr ⟨rfl, rfl⟩) (fun _ => by decide) (by decide) (by decide) e34 ?_
  refine gc_dup C (dat dt_X11_init 49 rfl) rfl ?_
  refine gc_bipush C (dat dt_X11_init 50 rfl) bp_6 ?_
  refine gc_bipush C (dat dt_X11_init 51 rfl) bp_32 ?_
  obtain ⟨c35, e36, hrun⟩ := bd hrun
  refine gc_ast (t := 1) (j := 6) C (dat dt_X11_init 52 rfl) (Or.inr ⟨rfl, rfl⟩) (fun _ => by decide) (by decide) (by decide) e36 ?_
  refine gc_dup C (dat dt_X11_init 53 rfl) rfl ?_
  refine gc_bipush C (dat dt_X11_init 54 rfl) bp_7 ?_
  refine gc_bipush C (dat dt_X11_init 55 rfl) bp_107 ?_
  obtain ⟨c37, e38, hrun⟩ := bd hrun
  refine gc_ast (t := 1) (j := 7) C (dat dt_X11_init 56 rfl) (Or.inr ⟨rfl, rfl⟩) (fun _ => by decide) (by decide) (by decide) e38 ?_
  refine gc_dup C (dat dt_X11_init 57 rfl) rfl ?_
  refine gc_bipush C (dat dt_X11_init 58 rfl) bp_8 ?_
  refine gc_bipush C (dat dt_X11_init 59 rfl) bp_101 ?_
  obtain ⟨c39, e40, hrun⟩ := bd hrun
  refine gc_ast (t := 1) (j := 8) C (dat dt_X11_init 60 rfl) (Or.inr ⟨rfl, rfl⟩) (fun _ => by decide) (by decide) (by decide) e40 ?_
  refine gc_dup C (dat dt_X11_init 61 rfl) rfl ?_
  refine gc_bipush C (dat dt_X11_init 62 rfl) bp_9 ?_
  refine gc_bipush C (dat dt_X11_init 63 rfl) bp_101 ?_
  obtain ⟨c41, e42, hrun⟩ := bd hrun
  refine gc_ast (t := 1) (j := 9) C (dat dt_X11_init 64 rfl) (Or.inr ⟨rfl, rfl⟩) (fun _ => by decide) (by decide) (by decide) e42 ?_
  refine gc_dup C (dat dt_X11_init 65 rfl) rfl ?_
  refine gc_bipush C (dat dt_X11_init 66 rfl) bp_10 ?_
  refine gc_bipush C (dat dt_X11_init 67 rfl) bp_112 ?_
  obtain ⟨c43, e44, hrun⟩ := bd hrun
  refine gc_ast (t := 1) (j := 10) C (dat dt_X11_init 68 rfl) (Or.inr ⟨rfl, rfl⟩) (fun _ => by decide) (by decide) (by decide) e44 ?_
  refine gc_dup C (dat dt_X11_init 69 rfl) rfl ?_
  refine gc_bipush C (dat dt_X11_init 70 rfl) bp_11 ?_
  refine gc_bipush C (dat dt_X11_init 71 rfl) bp_115 ?_
  obtain ⟨c45, e46, hrun⟩ := bd hrun
  refine gc_ast (t := 1) (j := 11) C (dat dt_X11_init 72 rfl) (Or.inr ⟨rfl, rfl⟩) (fun _ => by decide) (by decide) (by decide) e46 ?_
  refine gc_dup C (dat dt_X11_init 73 rfl) rfl ?_
  refine gc_bipush C (dat dt_X11_init 74 rfl) bp_12 ?_
  refine gc_bipush C (dat dt_X11_init 75 rfl) bp_32 ?_
  obtain ⟨c47, e48, hrun⟩ := bd hrun
  refine gc_ast (t := 1) (j := 12) C (dat dt_X11_init 76 rfl) (Or.inr ⟨rfl, rfl⟩) (fun _ => by decide) (by decide) (by decide) e48 ?_
  refine gc_dup C (dat dt_X11_init 77 rfl) rfl ?_
  refine gc_bipush C (dat dt_X11_init 78 rfl) bp_13 ?_
  refine gc_bipush C (dat dt_X11_init 79 rfl) bp_108 ?_
  obtain ⟨c49, e50, hrun⟩ := bd hrun
  refine gc_ast (t := 1) (j := 13) C (dat dt_X11_init 80 rfl) (Or.inr ⟨rfl, rfl⟩) (fun _ => by decide) (by decide) (by decide) e50 ?_
  refine gc_dup C (dat dt_X11_init 81 rfl) rfl ?_
  refine gc_bipush C (dat dt_X11_init 82 rfl) bp_14 ?_
  refine gc_bipush C (dat dt_X11_init 83 rfl) bp_101 ?_
  obtain ⟨c51, e52, hrun⟩ := bd hrun
  refine gc_ast (t := 1) (j := 14) C (dat dt_X11_init 84 rfl) (Or.inr ⟨rfl, rfl⟩) (fun _ => by decide) (by decide) (by decide) e52 ?_
  refine gc_dup C (dat dt_X11_init 85 rfl) rfl ?_
  refine gc_bipush C (dat dt_X11_init 86 rfl) bp_15 ?_
  refine gc_bipush C (dat dt_X11_init 87 rfl) bp_97 ?_
  obtain ⟨c53, e54, hrun⟩ := bd hrun
  refine gc_ast (t := 1) (j := 15) C (dat dt_X11_init 88 rfl) (Or.inr ⟨rfl, rfl⟩) (fun _ => by decide) (by decide) (by decide) e54 ?_
  refine gc_dup C (dat dt_X11_init 89 rfl) rfl ?_
  refine gc_bipush C (dat dt_X11_init 90 rfl) bp_16 ?_
  refine gc_bipush C (dat dt_X11_init 91 rfl) bp_118 ?_
  obtain ⟨c55, e56, hrun⟩ := bd hrun
  refine gc_ast (t := 1) (j := 16) C (dat dt_X11_init 92 rfl) (Or.inr ⟨rfl, rfl⟩) (fun _ => by decide) (by decide) (by decide) e56 ?_
  refine gc_dup C (dat dt_X11_init 93 rfl) rfl ?_
  refine gc_bipush C (dat dt_X11_init 94 rfl) bp_17 ?_
  refine gc_bipush C (dat dt_X11_init 95 rfl) bp_101 ?_
  obtain ⟨c57, e58, hrun⟩ := bd hrun
  refine gc_ast (t := 1) (j := 17) C (dat dt_X11_init 96 rfl) (Or.inr ⟨rfl, rfl⟩) (fun _ => by decide) (by decide) (by decide) e58 ?_
  refine gc_dup C (dat dt_X11_init 97 rfl) rfl ?_
  refine gc_bipush C (dat dt_X11_init 98 rfl) bp_18 ?_
  refine gc_bipush C (dat dt_X11_init 99 rfl) bp_115 ?_
  obtain ⟨c59, e60, hrun⟩ := bd hrun
  refine gc_ast (t := 1) (j := 18) C (dat dt_X11_init 100 rfl) (Or.inr ⟨rfl, rfl⟩) (fun _ => by decide) (by decide) (by decide) e60 ?_
  refine gc_dup C (dat dt_X11_init 101 rfl) rfl ?_
  refine gc_bipush C (dat dt_X11_init 102 rfl) bp_19 ?_
  refine gc_bipush C (dat dt_X11_init 103 rfl) bp_32 ?_
  obtain ⟨c61, e62, hrun⟩ := bd hrun
  refine gc_ast (t := 1) (j := 19) C (dat dt_X11_init 104 rfl) (Or.inr ⟨rfl, rfl⟩) (fun _ => by decide) (by decide) (by decide) e62 ?_
  refine gc_dup C (dat dt_X11_init 105 rfl) rfl ?_
  refine gc_bipush C (dat dt_X11_init 106 rfl) bp_20 ?_
  refine gc_bipush C (dat dt_X11_init 107 rfl) bp_105 ?_
  obtain ⟨c63, e64, hrun⟩ := bd hrun
  refine gc_ast (t := 1) (j := 20) C (dat dt_X11_init 108 rfl) (Or.inr ⟨rfl, rfl⟩) (fun _ => by decide) (by decide) (by decide) e64 ?_
  refine gc_dup C (dat dt_X11_init 109 rfl) rfl ?_
  refine gc_bipush C (dat dt_X11_init 110 rfl) bp_21 ?_
  refine gc_bipush C (dat dt_X11_init 111 rfl) bp_102 ?_
  obtain ⟨c65, e66, hrun⟩ := bd hrun
  refine gc_ast (t := 1) (j := 21) C (dat dt_X11_init 112 rfl) (Or.inr ⟨rfl, rfl⟩) (fun _ => by decide) (by decide) (by decide) e66 ?_
  refine gc_dup C (dat dt_X11_init 113 rfl) rfl ?_
  refine gc_bipush C (dat dt_X11_init 114 rfl) bp_22 ?_
  refine gc_bipush C (dat dt_X11_init 115 rfl) bp_32 ?_
  obtain ⟨c67, e68, hrun⟩ := bd hrun
  refine gc_ast (t := 1) (j := 22) C (dat dt_X11_init 116 rfl) (Or.inr ⟨rfl, rfl⟩) (fun _ => by decide) (by decide) (by decide) e68 ?_
  refine gc_dup C (dat dt_X11_init 117 rfl) rfl ?_
  refine gc_bipush C (dat dt_X11_init 118 rfl) bp_23 ?_
  refine gc_bipush C (dat dt_X11_init 119 rfl) bp_111 ?_
  obtain ⟨c69, e70, hrun⟩ := bd hrun
  refine gc_ast (t := 1) (j := 23) C (dat dt_X11_init 120 rfl) (Or.inr ⟨rfl, rfl⟩) (fun _ => by decide) (by decide) (by decide) e70 ?_
  refine gc_dup C (dat dt_X11_init 121 rfl) rfl ?_
  refine gc_bipush C (dat dt_X11_init 122 rfl) bp_24 ?_
  refine gc_bipush C (dat dt_X11_init 123 rfl) bp_114 ?_
  obtain ⟨c71, e72, hrun⟩ := bd hrun
  refine gc_ast (t := 1) (j := 24) C (dat dt_X11_init 124 rfl) (Or.inr ⟨rfl, rfl⟩) (fun _ => by decide) (by decide) (by decide) e72 ?_
  refine gc_dup C (dat dt_X11_init 125 rfl) rfl ?_
  refine gc_bipush C (dat dt_X11_init 126 rfl) bp_25 ?_
  refine gc_bipush C (dat dt_X11_init 127 rfl) bp_32 ?_
  obtain ⟨c73, e74, hrun⟩ := bd hrun
  refine gc_ast (t := 1) (j := 25) C (dat dt_X11_init 128 rfl) (Or.inr ⟨rfl, rfl⟩) (fun _ => by decide) (by decide) (by decide) e74 ?_
  refine gc_dup C (dat dt_X11_init 129 rfl) rfl ?_
  refine gc_bipush C (dat dt_X11_init 130 rfl) bp_26 ?_
  refine gc_bipush C (dat dt_X11_init 131 rfl) bp_97 ?_
  obtain ⟨c75, e76, hrun⟩ := bd hrun
  refine gc_ast (t := 1) (j := 26) C (dat dt_X11_init 132 rfl) (Or.inr ⟨rfl, rfl⟩) (fun _ => by decide) (by decide) (by decide) e76 ?_
  refine gc_dup C (dat dt_X11_init 133 rfl) rfl ?_
  refine gc_bipush C (dat dt_X11_init 134 rfl) bp_27 ?_
  refine gc_bipush C (dat dt_X11_init 135 rfl) bp_110 ?_
  obtain ⟨c77, e78, hrun⟩ := bd hrun
  refine gc_ast (t := 1) (j := 27) C (dat dt_X11_init 136 rfl) (Or.inr ⟨rfl, rfl⟩) (fun _ => by decide) (by decide) (by decide) e78 ?_
  refine gc_dup C (dat dt_X11_init 137 rfl) rfl ?_
  refine gc_bipush C (dat dt_X11_init 138 rfl) bp_28 ?_
  refine gc_bipush C (dat dt_X11_init 139 rfl) bp_100 ?_
  obtain ⟨c79, e80, hrun⟩ := bd hrun
  refine gc_ast (t := 1) (j := 28) C (dat dt_X11_init 140 rfl) (Or.inr ⟨rfl, rfl⟩) (fun _ => by decide) (by decide) (by decide) e80 ?_
  refine gc_dup C (dat dt_X11_init 141 rfl) rfl ?_
  refine gc_bipush C (dat dt_X11_init 142 rfl) bp_29 ?_
  refine gc_bipush C (dat dt_X11_init 143 rfl) bp_32 ?_
  obtain ⟨c81, e82, hrun⟩ := bd hrun
  refine gc_ast (t := 1) (j := 29) C (dat dt_X11_init 144 rfl) (Or.inr ⟨rfl, rfl⟩) (fun _ => by decide) (by decide) (by decide) e82 ?_
  refine gc_dup C (dat dt_X11_init 145 rfl) rfl ?_
  refine gc_bipush C (dat dt_X11_init 146 rfl) bp_30 ?_
  refine gc_bipush C (dat dt_X11_init 147 rfl) bp_110 ?_
  obtain ⟨c83, e84, hrun⟩ := bd hrun
  refine gc_ast (t := 1) (j := 30) C (dat dt_X11_init 148 rfl) (Or.inr ⟨rfl, rfl⟩) (fun _ => by decide) (by decide) (by decide) e84 ?_
  refine gc_dup C (dat dt_X11_init 149 rfl) rfl ?_
  refine gc_bipush C (dat dt_X11_init 150 rfl) bp_31 ?_
  refine gc_bipush C (dat dt_X11_init 151 rfl) bp_111 ?_
  obtain ⟨c85, e86, hrun⟩ := bd hrun
  refine gc_ast (t := 1) (j := 31) C (dat dt_X11_init 152 rfl) (Or.inr ⟨rfl, rfl⟩) (fun _ => by decide) (by decide) (by decide) e86 ?_
  refine gc_dup C (dat dt_X11_init 153 rfl) rfl ?_
  refine gc_bipush C (dat dt_X11_init 154 rfl) bp_32 ?_
  refine gc_bipush C (dat dt_X11_init 155 rfl) bp_116 ?_
  obtain ⟨c87, e88, hrun⟩ := bd hrun
  refine gc_ast (t := 1) (j := 32) C (dat dt_X11_init 156 rfl) (Or.inr ⟨rfl, rfl⟩) (fun _ => by decide) (by decide) (by decide) e88 ?_
  refine gc_dup C (dat dt_X11_init 157 rfl) rfl ?_
  refine gc_bipush C (dat dt_X11_init 158 rfl) bp_33 ?_
  refine gc_bipush C (dat dt_X11_init 159 rfl) bp_32 ?_
  obtain ⟨c89, e90, hrun⟩ := bd hrun
  refine gc_ast (t := 1) (j := 33) C (dat dt_X11_init 160 rfl) (Or.inr ⟨rfl, rfl⟩) (fun _ => by decide) (by decide) (by decide) e90 ?_
  refine gc_dup C (dat dt_X11_init 161 rfl) rfl ?_
  refine gc_bipush C (dat dt_X11_init 162 rfl) bp_34 ?_
  refine gc_bipush C (dat dt_X11_init 163 rfl) bp_115 ?_
  obtain ⟨c91, e92, hrun⟩ := bd hrun
  refine gc_ast (t := 1) (j := 34) C (dat dt_X11_init 164 rfl) (Or.inr ⟨rfl, rfl⟩) (fun _ => by decide) (by decide) (by decide) e92 ?_
  refine gc_dup C (dat dt_X11_init 165 rfl) rfl ?_
  refine gc_bipush C (dat dt_X11_init 166 rfl) bp_35 ?_
  refine gc_bipush C (dat dt_X11_init 167 rfl) bp_105 ?_
  obtain ⟨c93, e94, hrun⟩ := bd hrun
  refine gc_ast (t := 1) (j := 35) C (dat dt_X11_init 168 rfl) (Or.inr ⟨rfl, rfl⟩) (fun _ => by decide) (by decide) (by decide) e94 ?_
  refine gc_dup C (dat dt_X11_init 169 rfl) rfl ?_
  refine gc_bipush C (dat dt_X11_init 170 rfl) bp_36 ?_
  refine gc_bipush C (dat dt_X11_init 171 rfl) bp_116 ?_
  obtain ⟨c95, e96, hrun⟩ := bd hrun
  refine gc_ast (t := 1) (j := 36) C (dat dt_X11_init 172 rfl) (Or.inr ⟨rfl, rfl⟩) (fun _ => by decide) (by decide) (by decide) e96 ?_
  refine gc_dup C (dat dt_X11_init 173 rfl) rfl ?_
  refine gc_bipush C (dat dt_X11_init 174 rfl) bp_37 ?_
  refine gc_bipush C (dat dt_X11_init 175 rfl) bp_116 ?_
  obtain ⟨c97, e98, hrun⟩ := bd hrun
  refine gc_ast (t := 1) (j := 37) C (dat dt_X11_init 176 rfl) (Or.inr ⟨rfl, rfl⟩) (fun _ => by decide) (by decide) (by decide) e98 ?_
  refine gc_dup C (dat dt_X11_init 177 rfl) rfl ?_
  refine gc_bipush C (dat dt_X11_init 178 rfl) bp_38 ?_
  refine gc_bipush C (dat dt_X11_init 179 rfl) bp_101 ?_
  obtain ⟨c99, e100, hrun⟩ := bd hrun
  refine gc_ast (t := 1) (j := 38) C (dat dt_X11_init 180 rfl) (Or.inr ⟨rfl, rfl⟩) (fun _ => by decide) (by decide) (by decide) e100 ?_
  refine gc_dup C (dat dt_X11_init 181 rfl) rfl ?_
  refine gc_bipush C (dat dt_X11_init 182 rfl) bp_39 ?_
  refine gc_bipush C (dat dt_X11_init 183 rfl) bp_114 ?_
  obtain ⟨c101, e102, hrun⟩ := bd hrun
  refine gc_ast (t := 1) (j := 39) C (dat dt_X11_init 184 rfl) (Or.inr ⟨rfl, rfl⟩) (fun _ => by decide) (by decide) (by decide) e102 ?_
  refine gc_dup C (dat dt_X11_init 185 rfl) rfl ?_
  refine gc_bipush C (dat dt_X11_init 186 rfl) bp_40 ?_
  refine gc_bipush C (dat dt_X11_init 187 rfl) bp_32 ?_
  obtain ⟨c103, e104, hrun⟩ := bd hrun
  refine gc_ast (t := 1) (j := 40) C (dat dt_X11_init 188 rfl) (Or.inr ⟨rfl, rfl⟩) (fun _ => by decide) (by decide) (by decide) e104 ?_
  refine gc_dup C (dat dt_X11_init 189 rfl) rfl ?_
  refine gc_bipush C (dat dt_X11_init 190 rfl) bp_41 ?_
  refine gc_bipush C (dat dt_X11_init 191 rfl) bp_111 ?_
  obtain ⟨c105, e106, hrun⟩ := bd hrun
  refine gc_ast (t := 1) (j := 41) C (dat dt_X11_init 192 rfl) (Or.inr ⟨rfl, rfl⟩) (fun _ => by decide) (by decide) (by decide) e106 ?_
  refine gc_dup C (dat dt_X11_init 193 rfl) rfl ?_
  refine gc_bipush C (dat dt_X11_init 194 rfl) bp_42 ?_
  refine gc_bipush C (dat dt_X11_init 195 rfl) bp_116 ?_
  obtain ⟨c107, e108, hrun⟩ := bd hrun
  refine gc_ast (t := 1) (j := 42) C (dat dt_X11_init 196 rfl) (Or.inr ⟨rfl, rfl⟩) (fun _ => by decide) (by decide) (by decide) e108 ?_
  refine gc_dup C (dat dt_X11_init 197 rfl) rfl ?_
  refine gc_bipush C (dat dt_X11_init 198 rfl) bp_43 ?_
  refine gc_bipush C (dat dt_X11_init 199 rfl) bp_104 ?_
  obtain ⟨c109, e110, hrun⟩ := bd hrun
  refine gc_ast (t := 1) (j := 43) C (dat dt_X11_init 200 rfl) (Or.inr ⟨rfl, rfl⟩) (fun _ => by decide) (by decide) (by decide) e110 ?_
  refine gc_dup C (dat dt_X11_init 201 rfl) rfl ?_
  refine gc_bipush C (dat dt_X11_init 202 rfl) bp_44 ?_
  refine gc_bipush C (dat dt_X11_init 203 rfl) bp_101 ?_
  obtain ⟨c111, e112, hrun⟩ := bd hrun
  refine gc_ast (t := 1) (j := 44) C (dat dt_X11_init 204 rfl) (Or.inr ⟨rfl, rfl⟩) (fun _ => by decide) (by decide) (by decide) e112 ?_
  refine gc_dup C (dat dt_X11_init 205 rfl) rfl ?_
  refine gc_bipush C (dat dt_X11_init 206 rfl) bp_45 ?_
  refine gc_bipush C (dat dt_X11_init 207 rfl) bp_114 ?_
  obtain ⟨c113, e114, hrun⟩ := bd hrun
  refine gc_ast (t := 1) (j := 45) C (dat dt_X11_init 208 rfl) (Or.inr ⟨rfl, rfl⟩) (fun _ => by decide) (by decide) (by decide) e114 ?_
  refine gc_dup C (dat dt_X11_init 209 rfl) rfl ?_
  refine gc_bipush C (dat dt_X11_init 210 rfl) bp_46 ?_
  refine gc_bipush C (dat dt_X11_init 211 rfl) bp_32 ?_
  obtain ⟨c115, e116, hrun⟩ := bd hrun
  refine gc_ast (t := 1) (j := 46) C (dat dt_X11_init 212 rfl) (Or.inr ⟨rfl, rfl⟩) (fun _ => by decide) (by decide) (by decide) e116 ?_
  refine gc_dup C (dat dt_X11_init 213 rfl) rfl ?_
  refine gc_bipush C (dat dt_X11_init 214 rfl) bp_47 ?_
  refine gc_bipush C (dat dt_X11_init 215 rfl) bp_116 ?_
  obtain ⟨c117, e118, hrun⟩ := bd hrun
  refine gc_ast (t := 1) (j := 47) C (dat dt_X11_init 216 rfl) (Or.inr ⟨rfl, rfl⟩) (fun _ => by decide) (by decide) (by decide) e118 ?_
  refine gc_dup C (dat dt_X11_init 217 rfl) rfl ?_
  refine gc_bipush C (dat dt_X11_init 218 rfl) bp_48 ?_
  refine gc_bipush C (dat dt_X11_init 219 rfl) bp_105 ?_
  obtain ⟨c119, e120, hrun⟩ := bd hrun
  refine gc_ast (t := 1) (j := 48) C (dat dt_X11_init 220 rfl) (Or.inr ⟨rfl, rfl⟩) (fun _ => by decide) (by decide) (by decide) e120 ?_
  refine gc_dup C (dat dt_X11_init 221 rfl) rfl ?_
  refine gc_bipush C (dat dt_X11_init 222 rfl) bp_49 ?_
  refine gc_bipush C (dat dt_X11_init 223 rfl) bp_101 ?_
  obtain ⟨c121, e122, hrun⟩ := bd hrun
  refine gc_ast (t := 1) (j := 49) C (dat dt_X11_init 224 rfl) (Or.inr ⟨rfl, rfl⟩) (fun _ => by decide) (by decide) (by decide) e122 ?_
  refine gc_dup C (dat dt_X11_init 225 rfl) rfl ?_
  refine gc_bipush C (dat dt_X11_init 226 rfl) bp_50 ?_
  refine gc_bipush C (dat dt_X11_init 227 rfl) bp_114 ?_
  obtain ⟨c123, e124, hrun⟩ := bd hrun
  refine gc_ast (t := 1) (j := 50) C (dat dt_X11_init 228 rfl) (Or.inr ⟨rfl, rfl⟩) (fun _ => by decide) (by decide) (by decide) e124 ?_
  refine gc_dup C (dat dt_X11_init 229 rfl) rfl ?_
  refine gc_bipush C (dat dt_X11_init 230 rfl) bp_51 ?_
  refine gc_bipush C (dat dt_X11_init 231 rfl) bp_32 ?_
  obtain ⟨c125, e126, hrun⟩ := bd hrun
  refine gc_ast (t := 1) (j := 51) C (dat dt_X11_init 232 rfl) (Or.inr ⟨rfl, rfl⟩) (fun _ => by decide) (by decide) (by decide) e126 ?_
  refine gc_dup C (dat dt_X11_init 233 rfl) rfl ?_
  refine gc_bipush C (dat dt_X11_init 234 rfl) bp_52 ?_
  refine gc_bipush C (dat dt_X11_init 235 rfl) bp_110 ?_
  obtain ⟨c127, e128, hrun⟩ := bd hrun
  refine gc_ast (t := 1) (j := 52) C (dat dt_X11_init 236 rfl) (Or.inr ⟨rfl, rfl⟩) (fun _ => by decide) (by decide) (by decide) e128 ?_
  refine gc_dup C (dat dt_X11_init 237 rfl) rfl ?_
  refine gc_bipush C (dat dt_X11_init 238 rfl) bp_53 ?_
  refine gc_bipush C (dat dt_X11_init 239 rfl) bp_97 ?_
  obtain ⟨c129, e130, hrun⟩ := bd hrun
  refine gc_ast (t := 1) (j := 53) C (dat dt_X11_init 240 rfl) (Or.inr ⟨rfl, rfl⟩) (fun _ => by decide) (by decide) (by decide) e130 ?_
  refine gc_dup C (dat dt_X11_init 241 rfl) rfl ?_
  refine gc_bipush C (dat dt_X11_init 242 rfl) bp_54 ?_
  refine gc_bipush C (dat dt_X11_init 243 rfl) bp_116 ?_
  obtain ⟨c131, e132, hrun⟩ := bd hrun
  refine gc_ast (t := 1) (j := 54) C (dat dt_X11_init 244 rfl) (Or.inr ⟨rfl, rfl⟩) (fun _ => by decide) (by decide) (by decide) e132 ?_
  refine gc_dup C (dat dt_X11_init 245 rfl) rfl ?_
  refine gc_bipush C (dat dt_X11_init 246 rfl) bp_55 ?_
  refine gc_bipush C (dat dt_X11_init 247 rfl) bp_105 ?_
  obtain ⟨c133, e134, hrun⟩ := bd hrun
  refine gc_ast (t := 1) (j := 55) C (dat dt_X11_init 248 rfl) (Or.inr ⟨rfl, rfl⟩) (fun _ => by decide) (by decide) (by decide) e134 ?_
  refine gc_dup C (dat dt_X11_init 249 rfl) rfl ?_
  refine gc_bipush C (dat dt_X11_init 250 rfl) bp_56 ?_
  refine gc_bipush C (dat dt_X11_init 251 rfl) bp_111 ?_
  obtain ⟨c135, e136, hrun⟩ := bd hrun
  refine gc_ast (t := 1) (j := 56) C (dat dt_X11_init 252 rfl) (Or.inr ⟨rfl, rfl⟩) (fun _ => by decide) (by decide) (by decide) e136 ?_
  refine gc_dup C (dat dt_X11_init 253 rfl) rfl ?_
  refine gc_bipush C (dat dt_X11_init 254 rfl) bp_57 ?_
  refine gc_bipush C (dat dt_X11_init 255 rfl) bp_110 ?_
  obtain ⟨c137, e138, hrun⟩ := bd hrun
  refine gc_ast (t := 1) (j := 57) C (dat dt_X11_init 256 rfl) (Or.inr ⟨rfl, rfl⟩) (fun _ => by decide) (by decide) (by decide) e138 ?_
  refine gc_dup C (dat dt_X11_init 257 rfl) rfl ?_
  refine gc_bipush C (dat dt_X11_init 258 rfl) bp_58 ?_
  refine gc_bipush C (dat dt_X11_init 259 rfl) bp_32 ?_
  obtain ⟨c139, e140, hrun⟩ := bd hrun
  refine gc_ast (t := 1) (j := 58) C (dat dt_X11_init 260 rfl) (Or.inr ⟨rfl, rfl⟩) (fun _ => by decide) (by decide) (by decide) e140 ?_
  refine gc_dup C (dat dt_X11_init 261 rfl) rfl ?_
  refine gc_bipush C (dat dt_X11_init 262 rfl) bp_59 ?_
  refine gc_bipush C (dat dt_X11_init 263 rfl) bp_119 ?_
  obtain ⟨c141, e142, hrun⟩ := bd hrun
  refine gc_ast (t := 1) (j := 59) C (dat dt_X11_init 264 rfl) (Or.inr ⟨rfl, rfl⟩) (fun _ => by decide) (by decide) (by decide) e142 ?_
  refine gc_dup C (dat dt_X11_init 265 rfl) rfl ?_
  refine gc_bipush C (dat dt_X11_init 266 rfl) bp_60 ?_
  refine gc_bipush C (dat dt_X11_init 267 rfl) bp_105 ?_
  obtain ⟨c143, e144, hrun⟩ := bd hrun
  refine gc_ast (t := 1) (j := 60) C (dat dt_X11_init 268 rfl) (Or.inr ⟨rfl, rfl⟩) (fun _ => by decide) (by decide) (by decide) e144 ?_
  refine gc_dup C (dat dt_X11_init 269 rfl) rfl ?_
  refine gc_bipush C (dat dt_X11_init 270 rfl) bp_61 ?_
  refine gc_bipush C (dat dt_X11_init 271 rfl) bp_115 ?_
  obtain ⟨c145, e146, hrun⟩ := bd hrun
  refine gc_ast (t := 1) (j := 61) C (dat dt_X11_init 272 rfl) (Or.inr ⟨rfl, rfl⟩) (fun _ => by decide) (by decide) (by decide) e146 ?_
  refine gc_dup C (dat dt_X11_init 273 rfl) rfl ?_
  refine gc_bipush C (dat dt_X11_init 274 rfl) bp_62 ?_
  refine gc_bipush C (dat dt_X11_init 275 rfl) bp_104 ?_
  obtain ⟨c147, e148, hrun⟩ := bd hrun
  refine gc_ast (t := 1) (j := 62) C (dat dt_X11_init 276 rfl) (Or.inr ⟨rfl, rfl⟩) (fun _ => by decide) (by decide) (by decide) e148 ?_
  refine gc_dup C (dat dt_X11_init 277 rfl) rfl ?_
  refine gc_bipush C (dat dt_X11_init 278 rfl) bp_63 ?_
  refine gc_bipush C (dat dt_X11_init 279 rfl) bp_32 ?_
  obtain ⟨c149, e150, hrun⟩ := bd hrun
  refine gc_ast (t := 1) (j := 63) C (dat dt_X11_init 280 rfl) (Or.inr ⟨rfl, rfl⟩) (fun _ => by decide) (by decide) (by decide) e150 ?_
  refine gc_dup C (dat dt_X11_init 281 rfl) rfl ?_
  refine gc_bipush C (dat dt_X11_init 282 rfl) bp_64 ?_
  refine gc_bipush C (dat dt_X11_init 283 rfl) bp_109 ?_
  obtain ⟨c151, e152, hrun⟩ := bd hrun
  refine gc_ast (t := 1) (j := 64) C (dat dt_X11_init 284 rfl) (Or.inr ⟨rfl, rfl⟩) (fun _ => by decide) (by decide) (by decide) e152 ?_
  refine gc_dup C (dat dt_X11_init 285 rfl) rfl ?_
  refine gc_bipush C (dat dt_X11_init 286 rfl) bp_65 ?_
  refine gc_bipush C (dat dt_X11_init 287 rfl) bp_111 ?_
  obtain ⟨c153, e154, hrun⟩ := bd hrun
  refine gc_ast (t := 1) (j := 65) C (dat dt_X11_init 288 rfl) (Or.inr ⟨rfl, rfl⟩) (fun _ => by decide) (by decide) (by decide) e154 ?_
  refine gc_dup C (dat dt_X11_init 289 rfl) rfl ?_
  refine gc_bipush C (dat dt_X11_init 290 rfl) bp_66 ?_
  refine gc_bipush C (dat dt_X11_init 291 rfl) bp_111 ?_
  obtain ⟨c155, e156, hrun⟩ := bd hrun
  refine gc_ast (t := 1) (j := 66) C (dat dt_X11_init 292 rfl) (Or.inr ⟨rfl, rfl⟩) (fun _ => by decide) (by decide) (by decide) e156 ?_
  refine gc_dup C (dat dt_X11_init 293 rfl) rfl ?_
  refine gc_bipush C (dat dt_X11_init 294 rfl) bp_67 ?_
  refine gc_bipush C (dat dt_X11_init 295 rfl) bp_100 ?_
  obtain ⟨c157, e158, hrun⟩ := bd hrun
  refine gc_ast (t := 1) (j := 67) C (dat dt_X11_init 296 rfl) (Or.inr ⟨rfl, rfl⟩) (fun _ => by decide) (by decide) (by decide) e158 ?_
  refine gc_dup C (dat dt_X11_init 297 rfl) rfl ?_
  refine gc_bipush C (dat dt_X11_init 298 rfl) bp_68 ?_
  refine gc_bipush C (dat dt_X11_init 299 rfl) bp_32 ?_
  obtain ⟨c159, e160, hrun⟩ := bd hrun
  refine gc_ast (t := 1) (j := 68) C (dat dt_X11_init 300 rfl) (Or.inr ⟨rfl, rfl⟩) (fun _ => by decide) (by decide) (by decide) e160 ?_
  refine gc_dup C (dat dt_X11_init 301 rfl) rfl ?_
  refine gc_bipush C (dat dt_X11_init 302 rfl) bp_69 ?_
  refine gc_bipush C (dat dt_X11_init 303 rfl) bp_109 ?_
  obtain ⟨c161, e162, hrun⟩ := bd hrun
  refine gc_ast (t := 1) (j := 69) C (dat dt_X11_init 304 rfl) (Or.inr ⟨rfl, rfl⟩) (fun _ => by decide) (by decide) (by decide) e162 ?_
  refine gc_dup C (dat dt_X11_init 305 rfl) rfl ?_
  refine gc_bipush C (dat dt_X11_init 306 rfl) bp_70 ?_
  refine gc_bipush C (dat dt_X11_init 307 rfl) bp_117 ?_
  obtain ⟨c163, e164, hrun⟩ := bd hrun
  refine gc_ast (t := 1) (j := 70) C (dat dt_X11_init 308 rfl) (Or.inr ⟨rfl, rfl⟩) (fun _ => by decide) (by decide) (by decide) e164 ?_
  refine gc_dup C (dat dt_X11_init 309 rfl) rfl ?_
  refine gc_bipush C (dat dt_X11_init 310 rfl) bp_71 ?_
  refine gc_bipush C (dat dt_X11_init 311 rfl) bp_99 ?_
  obtain ⟨c165, e166, hrun⟩ := bd hrun
  refine gc_ast (t := 1) (j := 71) C (dat dt_X11_init 312 rfl) (Or.inr ⟨rfl, rfl⟩) (fun _ => by decide) (by decide) (by decide) e166 ?_
  refine gc_dup C (dat dt_X11_init 313 rfl) rfl ?_
  refine gc_bipush C (dat dt_X11_init 314 rfl) bp_72 ?_
  refine gc_bipush C (dat dt_X11_init 315 rfl) bp_104 ?_
  obtain ⟨c167, e168, hrun⟩ := bd hrun
  refine gc_ast (t := 1) (j := 72) C (dat dt_X11_init 316 rfl) (Or.inr ⟨rfl, rfl⟩) (fun _ => by decide) (by decide) (by decide) e168 ?_
  refine gc_dup C (dat dt_X11_init 317 rfl) rfl ?_
  refine gc_bipush C (dat dt_X11_init 318 rfl) bp_73 ?_
  refine gc_bipush C (dat dt_X11_init 319 rfl) bp_32 ?_
  obtain ⟨c169, e170, hrun⟩ := bd hrun
  refine gc_ast (t := 1) (j := 73) C (dat dt_X11_init 320 rfl) (Or.inr ⟨rfl, rfl⟩) (fun _ => by decide) (by decide) (by decide) e170 ?_
  refine gc_dup C (dat dt_X11_init 321 rfl) rfl ?_
  refine gc_bipush C (dat dt_X11_init 322 rfl) bp_74 ?_
  refine gc_bipush C (dat dt_X11_init 323 rfl) bp_109 ?_
  obtain ⟨c171, e172, hrun⟩ := bd hrun
  refine gc_ast (t := 1) (j := 74) C (dat dt_X11_init 324 rfl) (Or.inr ⟨rfl, rfl⟩) (fun _ => by decide) (by decide) (by decide) e172 ?_
  refine gc_dup C (dat dt_X11_init 325 rfl) rfl ?_
  refine gc_bipush C (dat dt_X11_init 326 rfl) bp_75 ?_
  refine gc_bipush C (dat dt_X11_init 327 rfl) bp_105 ?_
  obtain ⟨c173, e174, hrun⟩ := bd hrun
  refine gc_ast (t := 1) (j := 75) C (dat dt_X11_init 328 rfl) (Or.inr ⟨rfl, rfl⟩) (fun _ => by decide) (by decide) (by decide) e174 ?_
  refine gc_dup C (dat dt_X11_init 329 rfl) rfl ?_
  refine gc_bipush C (dat dt_X11_init 330 rfl) bp_76 ?_
  refine gc_bipush C (dat dt_X11_init 331 rfl) bp_110 ?_
  obtain ⟨c175, e176, hrun⟩ := bd hrun
  refine gc_ast (t := 1) (j := 76) C (dat dt_X11_init 332 rfl) (Or.inr ⟨rfl, rfl⟩) (fun _ => by decide) (by decide) (by decide) e176 ?_
  refine gc_dup C (dat dt_X11_init 333 rfl) rfl ?_
  refine gc_bipush C (dat dt_X11_init 334 rfl) bp_77 ?_
  refine gc_bipush C (dat dt_X11_init 335 rfl) bp_117 ?_
  obtain ⟨c177, e178, hrun⟩ := bd hrun
  refine gc_ast (t := 1) (j := 77) C (dat dt_X11_init 336 rfl) (Or.inr ⟨rfl, rfl⟩) (fun _ => by decide) (by decide) (by decide) e178 ?_
  refine gc_dup C (dat dt_X11_init 337 rfl) rfl ?_
  refine gc_bipush C (dat dt_X11_init 338 rfl) bp_78 ?_
  refine gc_bipush C (dat dt_X11_init 339 rfl) bp_116 ?_
  obtain ⟨c179, e180, hrun⟩ := bd hrun
  refine gc_ast (t := 1) (j := 78) C (dat dt_X11_init 340 rfl) (Or.inr ⟨rfl, rfl⟩) (fun _ => by decide) (by decide) (by decide) e180 ?_
  refine gc_dup C (dat dt_X11_init 341 rfl) rfl ?_
  refine gc_bipush C (dat dt_X11_init 342 rfl) bp_79 ?_
  refine gc_bipush C (dat dt_X11_init 343 rfl) bp_101 ?_
  obtain ⟨c181, e182, hrun⟩ := bd hrun
  refine gc_ast (t := 1) (j := 79) C (dat dt_X11_init 344 rfl) (Or.inr ⟨rfl, rfl⟩) (fun _ => by decide) (by decide) (by decide) e182 ?_
  refine gc_dup C (dat dt_X11_init 345 rfl) rfl ?_
  refine gc_bipush C (dat dt_X11_init 346 rfl) bp_80 ?_
  refine gc_bipush C (dat dt_X11_init 347 rfl) bp_32 ?_
  obtain ⟨c183, e184, hrun⟩ := bd hrun
  refine gc_ast (t := 1) (j := 80) C (dat dt_X11_init 348 rfl) (Or.inr ⟨rfl, rfl⟩) (fun _ => by decide) (by decide) (by decide) e184 ?_
  refine gc_dup C (dat dt_X11_init 349 rfl) rfl ?_
  refine gc_bipush C (dat dt_X11_init 350 rfl) bp_81 ?_
  refine gc_bipush C (dat dt_X11_init 351 rfl) bp_100 ?_
  obtain ⟨c185, e186, hrun⟩ := bd hrun
  refine gc_ast (t := 1) (j := 81) C (dat dt_X11_init 352 rfl) (Or.inr ⟨rfl, rfl⟩) (fun _ => by decide) (by decide) (by decide) e186 ?_
  refine gc_dup C (dat dt_X11_init 353 rfl) rfl ?_
  refine gc_bipush C (dat dt_X11_init 354 rfl) bp_82 ?_
  refine gc_bipush C (dat dt_X11_init 355 rfl) bp_111 ?_
  obtain ⟨c187, e188, hrun⟩ := bd hrun
  refine gc_ast (t := 1) (j := 82) C (dat dt_X11_init 356 rfl) (Or.inr ⟨rfl, rfl⟩) (fun _ => by decide) (by decide) (by decide) e188 ?_
  refine gc_dup C (dat dt_X11_init 357 rfl) rfl ?_
  refine gc_bipush C (dat dt_X11_init 358 rfl) bp_83 ?_
  refine gc_bipush C (dat dt_X11_init 359 rfl) bp_110 ?_
  obtain ⟨c189, e190, hrun⟩ := bd hrun
  refine gc_ast (t := 1) (j := 83) C (dat dt_X11_init 360 rfl) (Or.inr ⟨rfl, rfl⟩) (fun _ => by decide) (by decide) (by decide) e190 ?_
  refine gc_dup C (dat dt_X11_init 361 rfl) rfl ?_
  refine gc_bipush C (dat dt_X11_init 362 rfl) bp_84 ?_
  refine gc_bipush C (dat dt_X11_init 363 rfl) bp_101 ?_
  obtain ⟨c191, e192, hrun⟩ := bd hrun
  refine gc_ast (t := 1) (j := 84) C (dat dt_X11_init 364 rfl) (Or.inr ⟨rfl, rfl⟩) (fun _ => by decide) (by decide) (by decide) e192 ?_
  refine gc_dup C (dat dt_X11_init 365 rfl) rfl ?_
  refine gc_bipush C (dat dt_X11_init 366 rfl) bp_85 ?_
  refine gc_bipush C (dat dt_X11_init 367 rfl) bp_32 ?_
  obtain ⟨c193, e194, hrun⟩ := bd hrun
  refine gc_ast (t := 1) (j := 85) C (dat dt_X11_init 368 rfl) (Or.inr ⟨rfl, rfl⟩) (fun _ => by decide) (by decide) (by decide) e194 ?_
  refine gc_dup C (dat dt_X11_init 369 rfl) rfl ?_
  refine gc_bipush C (dat dt_X11_init 370 rfl) bp_86 ?_
  refine gc_bipush C (dat dt_X11_init 371 rfl) bp_108 ?_
  obtain ⟨c195, e196, hrun⟩ := bd hrun
  refine gc_ast (t := 1) (j := 86) C (dat dt_X11_init 372 rfl) (Or.inr ⟨rfl, rfl⟩) (fun _ => by decide) (by decide) (by decide) e196 ?_
  refine gc_dup C (dat dt_X11_init 373 rfl) rfl ?_
  refine gc_bipush C (dat dt_X11_init 374 rfl) bp_87 ?_
  refine gc_bipush C (dat dt_X11_init 375 rfl) bp_97 ?_
  obtain ⟨c197, e198, hrun⟩ := bd hrun
  refine gc_ast (t := 1) (j := 87) C (dat dt_X11_init 376 rfl) (Or.inr ⟨rfl, rfl⟩) (fun _ => by decide) (by decide) (by decide) e198 ?_
  refine gc_dup C (dat dt_X11_init 377 rfl) rfl ?_
  refine gc_bipush C (dat dt_X11_init 378 rfl) bp_88 ?_
  refine gc_bipush C (dat dt_X11_init 379 rfl) bp_116 ?_
  obtain ⟨c199, e200, hrun⟩ := bd hrun
  refine gc_ast (t := 1) (j := 88) C (dat dt_X11_init 380 rfl) (Or.inr ⟨rfl, rfl⟩) (fun _ => by decide) (by decide) (by decide) e200 ?_
  refine gc_dup C (dat dt_X11_init 381 rfl) rfl ?_
  refine gc_bipush C (dat dt_X11_init 382 rfl) bp_89 ?_
  refine gc_bipush C (dat dt_X11_init 383 rfl) bp_101 ?_
  obtain ⟨c201, e202, hrun⟩ := bd hrun
  refine gc_ast (t := 1) (j := 89) C (dat dt_X11_init 384 rfl) (Or.inr ⟨rfl, rfl⟩) (fun _ => by decide) (by decide) (by decide) e202 ?_
  refine gc_dup C (dat dt_X11_init 385 rfl) rfl ?_
  refine gc_bipush C (dat dt_X11_init 386 rfl) bp_90 ?_
  refine gc_bipush C (dat dt_X11_init 387 rfl) bp_115 ?_
  obtain ⟨c203, e204, hrun⟩ := bd hrun
  refine gc_ast (t := 1) (j := 90) C (dat dt_X11_init 388 rfl) (Or.inr ⟨rfl, rfl⟩) (fun _ => by decide) (by decide) (by decide) e204 ?_
  refine gc_dup C (dat dt_X11_init 389 rfl) rfl ?_
  refine gc_bipush C (dat dt_X11_init 390 rfl) bp_91 ?_
  refine gc_bipush C (dat dt_X11_init 391 rfl) bp_116 ?_
  obtain ⟨c205, e206, hrun⟩ := bd hrun
  refine gc_ast (t := 1) (j := 91) C (dat dt_X11_init 392 rfl) (Or.inr ⟨rfl, rfl⟩) (fun _ => by decide) (by decide) (by decide) e206 ?_
  refine gc_dup C (dat dt_X11_init 393 rfl) rfl ?_
  refine gc_bipush C (dat dt_X11_init 394 rfl) bp_92 ?_
  refine gc_bipush C (dat dt_X11_init 395 rfl) bp_32 ?_
  obtain ⟨c207, e208, hrun⟩ := bd hrun
  refine gc_ast (t := 1) (j := 92) C (dat dt_X11_init 396 rfl) (Or.inr ⟨rfl, rfl⟩) (fun _ => by decide) (by decide) (by decide) e208 ?_
  refine gc_dup C (dat dt_X11_init 397 rfl) rfl ?_
  refine gc_bipush C (dat dt_X11_init 398 rfl) bp_93 ?_
  refine gc_bipush C (dat dt_X11_init 399 rfl) bp_105 ?_
  obtain ⟨c209, e210, hrun⟩ := bd hrun
  refine gc_ast (t := 1) (j := 93) C (dat dt_X11_init 400 rfl) (Or.inr ⟨rfl, rfl⟩) (fun _ => by decide) (by decide) (by decide) e210 ?_
  refine gc_dup C (dat dt_X11_init 401 rfl) rfl ?_
  refine gc_bipush C (dat dt_X11_init 402 rfl) bp_94 ?_
  refine gc_bipush C (dat dt_X11_init 403 rfl) bp_110 ?_
  obtain ⟨c211, e212, hrun⟩ := bd hrun
  refine gc_ast (t := 1) (j := 94) C (dat dt_X11_init 404 rfl) (Or.inr ⟨rfl, rfl⟩) (fun _ => by decide) (by decide) (by decide) e212 ?_
  refine gc_dup C (dat dt_X11_init 405 rfl) rfl ?_
  refine gc_bipush C (dat dt_X11_init 406 rfl) bp_95 ?_
  refine gc_bipush C (dat dt_X11_init 407 rfl) bp_115 ?_
  obtain ⟨c213, e214, hrun⟩ := bd hrun
  refine gc_ast (t := 1) (j := 95) C (dat dt_X11_init 408 rfl) (Or.inr ⟨rfl, rfl⟩) (fun _ => by decide) (by decide) (by decide) e214 ?_
  refine gc_dup C (dat dt_X11_init 409 rfl) rfl ?_
  refine gc_bipush C (dat dt_X11_init 410 rfl) bp_96 ?_
  refine gc_bipush C (dat dt_X11_init 411 rfl) bp_105 ?_
  obtain ⟨c215, e216, hrun⟩ := bd hrun
  refine gc_ast (t := 1) (j := 96) C (dat dt_X11_init 412 rfl) (Or.inr ⟨rfl, rfl⟩) (fun _ => by decide) (by decide) (by decide) e216 ?_
  refine gc_dup C (dat dt_X11_init 413 rfl) rfl ?_
  refine gc_bipush C (dat dt_X11_init 414 rfl) bp_97 ?_
  refine gc_bipush C (dat dt_X11_init 415 rfl) bp_100 ?_
  obtain ⟨c217, e218, hrun⟩ := bd hrun
  refine gc_ast (t := 1) (j := 97) C (dat dt_X11_init 416 rfl) (Or.inr ⟨rfl, rfl⟩) (fun _ => by decide) (by decide) (by decide) e218 ?_
  refine gc_dup C (dat dt_X11_init 417 rfl) rfl ?_
  refine gc_bipush C (dat dt_X11_init 418 rfl) bp_98 ?_
  refine gc_bipush C (dat dt_X11_init 419 rfl) bp_101 ?_
  obtain ⟨c219, e220, hrun⟩ := bd hrun
  refine gc_ast (t := 1) (j := 98) C (dat dt_X11_init 420 rfl) (Or.inr ⟨rfl, rfl⟩) (fun _ => by decide) (by decide) (by decide) e220 ?_
  refine gc_dup C (dat dt_X11_init 421 rfl) rfl ?_
  refine gc_bipush C (dat dt_X11_init 422 rfl) bp_99 ?_
  refine gc_bipush C (dat dt_X11_init 423 rfl) bp_32 ?_
  obtain ⟨c221, e222, hrun⟩ := bd hrun
  refine gc_ast (t := 1) (j := 99) C (dat dt_X11_init 424 rfl) (Or.inr ⟨rfl, rfl⟩) (fun _ => by decide) (by decide) (by decide) e222 ?_
  refine gc_dup C (dat dt_X11_init 425 rfl) rfl ?_
  refine gc_bipush C (dat dt_X11_init 426 rfl) bp_100 ?_
  refine gc_bipush C (dat dt_X11_init 427 rfl) bp_112 ?_
  obtain ⟨c223, e224, hrun⟩ := bd hrun
  refine gc_ast (t := 1) (j := 100) C (dat dt_X11_init 428 rfl) (Or.inr ⟨rfl, rfl⟩) (fun _ => by decide) (by decide) (by decide) e224 ?_
  refine gc_dup C (dat dt_X11_init 429 rfl) rfl ?_
  refine gc_bipush C (dat dt_X11_init 430 rfl) bp_101 ?_
  refine gc_bipush C (dat dt_X11_init 431 rfl) bp_108 ?_
  obtain ⟨c225, e226, hrun⟩ := bd hrun
  refine gc_ast (t := 1) (j := 101) C (dat dt_X11_init 432 rfl) (Or.inr ⟨rfl, rfl⟩) (fun _ => by decide) (by decide) (by decide) e226 ?_
  refine gc_dup C (dat dt_X11_init 433 rfl) rfl ?_
  refine gc_bipush C (dat dt_X11_init 434 rfl) bp_102 ?_
  refine gc_bipush C (dat dt_X11_init 435 rfl) bp_101 ?_
  obtain ⟨c227, e228, hrun⟩ := bd hrun
  refine gc_ast (t := 1) (j := 102) C (dat dt_X11_init 436 rfl) (Or.inr ⟨rfl, rfl⟩) (fun _ => by decide) (by decide) (by decide) e228 ?_
  refine gc_dup C (dat dt_X11_init 437 rfl) rfl ?_
  refine gc_bipush C (dat dt_X11_init 438 rfl) bp_103 ?_
  refine gc_bipush C (dat dt_X11_init 439 rfl) bp_97 ?_
  obtain ⟨c229, e230, hrun⟩ := bd hrun
  refine gc_ast (t := 1) (j := 103) C (dat dt_X11_init 440 rfl) (Or.inr ⟨rfl, rfl⟩) (fun _ => by decide) (by decide) (by decide) e230 ?_
  refine gc_dup C (dat dt_X11_init 441 rfl) rfl ?_
  refine gc_bipush C (dat dt_X11_init 442 rfl) bp_104 ?_
  refine gc_bipush C (dat dt_X11_init 443 rfl) bp_115 ?_
  obtain ⟨c231, e232, hrun⟩ := bd hrun
  refine gc_ast (t := 1) (j := 104) C (dat dt_X11_init 444 rfl) (Or.inr ⟨rfl, rfl⟩) (fun _ => by decide) (by decide) (by decide) e232 ?_
  refine gc_dup C (dat dt_X11_init 445 rfl) rfl ?_
  refine gc_bipush C (dat dt_X11_init 446 rfl) bp_105 ?_
  refine gc_bipush C (dat dt_X11_init 447 rfl) bp_101 ?_
  obtain ⟨c233, e234, hrun⟩ := bd hrun
  refine gc_ast (t := 1) (j := 105) C (dat dt_X11_init 448 rfl) (Or.inr ⟨rfl, rfl⟩) (fun _ => by decide) (by decide) (by decide) e234 ?_
  refine gc_dup C (dat dt_X11_init 449 rfl) rfl ?_
  refine gc_bipush C (dat dt_X11_init 450 rfl) bp_106 ?_
  refine gc_bipush C (dat dt_X11_init 451 rfl) bp_100 ?_
  obtain ⟨c235, e236, hrun⟩ := bd hrun
  refine gc_ast (t := 1) (j := 106) C (dat dt_X11_init 452 rfl) (Or.inr ⟨rfl, rfl⟩) (fun _ => by decide) (by decide) (by decide) e236 ?_
  refine gc_dup C (dat dt_X11_init 453 rfl) rfl ?_
  refine gc_bipush C (dat dt_X11_init 454 rfl) bp_107 ?_
  refine gc_bipush C (dat dt_X11_init 455 rfl) bp_32 ?_
  obtain ⟨c237, e238, hrun⟩ := bd hrun
  refine gc_ast (t := 1) (j := 107) C (dat dt_X11_init 456 rfl) (Or.inr ⟨rfl, rfl⟩) (fun _ => by decide) (by decide) (by decide) e238 ?_
  refine gc_dup C (dat dt_X11_init 457 rfl) rfl ?_
  refine gc_bipush C (dat dt_X11_init 458 rfl) bp_108 ?_
  refine gc_bipush C (dat dt_X11_init 459 rfl) bp_105 ?_
  obtain ⟨c239, e240, hrun⟩ := bd hrun
  refine gc_ast (t := 1) (j := 108) C (dat dt_X11_init 460 rfl) (Or.inr ⟨rfl, rfl⟩) (fun _ => by decide) (by decide) (by decide) e240 ?_
  refine gc_dup C (dat dt_X11_init 461 rfl) rfl ?_
  refine gc_bipush C (dat dt_X11_init 462 rfl) bp_109 ?_
  refine gc_bipush C (dat dt_X11_init 463 rfl) bp_115 ?_
  obtain ⟨c241, e242, hrun⟩ := bd hrun
  refine gc_ast (t := 1) (j := 109) C (dat dt_X11_init 464 rfl) (Or.inr ⟨rfl, rfl⟩) (fun _ => by decide) (by decide) (by decide) e242 ?_
  refine gc_dup C (dat dt_X11_init 465 rfl) rfl ?_
  refine gc_bipush C (dat dt_X11_init 466 rfl) bp_110 ?_
  refine gc_bipush C (dat dt_X11_init 467 rfl) bp_32 ?_
  obtain ⟨c243, e244, hrun⟩ := bd hrun
  refine gc_ast (t := 1) (j := 110) C (dat dt_X11_init 468 rfl) (Or.inr ⟨rfl, rfl⟩) (fun _ => by decide) (by decide) (by decide) e244 ?_
  refine gc_dup C (dat dt_X11_init 469 rfl) rfl ?_
  refine gc_bipush C (dat dt_X11_init 470 rfl) bp_111 ?_
  refine gc_bipush C (dat dt_X11_init 471 rfl) bp_115 ?_
  obtain ⟨c245, e246, hrun⟩ := bd hrun
  refine gc_ast (t := 1) (j := 111) C (dat dt_X11_init 472 rfl) (Or.inr ⟨rfl, rfl⟩) (fun _ => by decide) (by decide) (by decide) e246 ?_
  refine gc_dup C (dat dt_X11_init 473 rfl) rfl ?_
  refine gc_bipush C (dat dt_X11_init 474 rfl) bp_112 ?_
  refine gc_bipush C (dat dt_X11_init 475 rfl) bp_101 ?_
  obtain ⟨c247, e248, hrun⟩ := bd hrun
  refine gc_ast (t := 1) (j := 112) C (dat dt_X11_init 476 rfl) (Or.inr ⟨rfl, rfl⟩) (fun _ => by decide) (by decide) (by decide) e248 ?_
  refine gc_dup C (dat dt_X11_init 477 rfl) rfl ?_
  refine gc_bipush C (dat dt_X11_init 478 rfl) bp_113 ?_
  refine gc_bipush C (dat dt_X11_init 479 rfl) bp_97 ?_
  obtain ⟨c249, e250, hrun⟩ := bd hrun
  refine gc_ast (t := 1) (j := 113) C (dat dt_X11_init 480 rfl) (Or.inr ⟨rfl, rfl⟩) (fun _ => by decide) (by decide) (by decide) e250 ?_
  refine gc_dup C (dat dt_X11_init 481 rfl) rfl ?_
  refine gc_bipush C (dat dt_X11_init 482 rfl) bp_114 ?_
  refine gc_bipush C (dat dt_X11_init 483 rfl) bp_116 ?_
  obtain ⟨c251, e252, hrun⟩ := bd hrun
  refine gc_ast (t := 1) (j := 114) C (dat dt_X11_init 484 rfl) (Or.inr ⟨rfl, rfl⟩) (fun _ => by decide) (by decide) (by decide) e252 ?_
  refine gc_dup C (dat dt_X11_init 485 rfl) rfl ?_
  refine gc_bipush C (dat dt_X11_init 486 rfl) bp_115 ?_
  refine gc_bipush C (dat dt_X11_init 487 rfl) bp_32 ?_
  obtain ⟨c253, e254, hrun⟩ := bd hrun
  refine gc_ast (t := 1) (j := 115) C (dat dt_X11_init 488 rfl) (Or.inr ⟨rfl, rfl⟩) (fun _ => by decide) (by decide) (by decide) e254 ?_
  refine gc_dup C (dat dt_X11_init 489 rfl) rfl ?_
  refine gc_bipush C (dat dt_X11_init 490 rfl) bp_116 ?_
  refine gc_bipush C (dat dt_X11_init 491 rfl) bp_97 ?_
  obtain ⟨c255, e256, hrun⟩ := bd hrun
  refine gc_ast (t := 1) (j := 116) C (dat dt_X11_init 492 rfl) (Or.inr ⟨rfl, rfl⟩) (fun _ => by decide) (by decide) (by decide) e256 ?_
  refine gc_dup C (dat dt_X11_init 493 rfl) rfl ?_
  refine gc_bipush C (dat dt_X11_init 494 rfl) bp_117 ?_
  refine gc_bipush C (dat dt_X11_init 495 rfl) bp_116 ?_
  obtain ⟨c257, e258, hrun⟩ := bd hrun
  refine gc_ast (t := 1) (j := 117) C (dat dt_X11_init 496 rfl) (Or.inr ⟨rfl, rfl⟩) (fun _ => by decide) (by decide) (by decide) e258 ?_
  refine gc_dup C (dat dt_X11_init 497 rfl) rfl ?_
  refine gc_bipush C (dat dt_X11_init 498 rfl) bp_118 ?_
  refine gc_bipush C (dat dt_X11_init 499 rfl) bp_32 ?_
  obtain ⟨c259, e260, hrun⟩ := bd hrun
  refine gc_ast (t := 1) (j := 118) C (dat dt_X11_init 500 rfl) (Or.inr ⟨rfl, rfl⟩) (fun _ => by decide) (by decide) (by decide) e260 ?_
  refine gc_dup C (dat dt_X11_init 501 rfl) rfl ?_
  refine gc_bipush C (dat dt_X11_init 502 rfl) bp_119 ?_
  refine gc_bipush C (dat dt_X11_init 503 rfl) bp_111 ?_
  obtain ⟨c261, e262, hrun⟩ := bd hrun
  refine gc_ast (t := 1) (j := 119) C (dat dt_X11_init 504 rfl) (Or.inr ⟨rfl, rfl⟩) (fun _ => by decide) (by decide) (by decide) e262 ?_
  refine gc_dup C (dat dt_X11_init 505 rfl) rfl ?_
  refine gc_bipush C (dat dt_X11_init 506 rfl) bp_120 ?_
  refine gc_bipush C (dat dt_X11_init 507 rfl) bp_117 ?_
  obtain ⟨c263, e264, hrun⟩ := bd hrun
  refine gc_ast (t := 1) (j := 120) C (dat dt_X11_init 508 rfl) (Or.inr ⟨rfl, rfl⟩) (fun _ => by decide) (by decide) (by decide) e264 ?_
  refine gc_dup C (dat dt_X11_init 509 rfl) rfl ?_
  refine gc_bipush C (dat dt_X11_init 510 rfl) bp_121 ?_
  refine gc_bipush C (dat dt_X11_init 511 rfl) bp_116 ?_
  obtain ⟨c265, e266, hrun⟩ := bd hrun
  refine gc_ast (t := 1) (j := 121) C (dat dt_X11_init 512 rfl) (Or.inr ⟨rfl, rfl⟩) (fun _ => by decide) (by decide) (by decide) e266 ?_
  refine gc_dup C (dat dt_X11_init 513 rfl) rfl ?_
  refine gc_bipush C (dat dt_X11_init 514 rfl) bp_122 ?_
  refine gc_bipush C (dat dt_X11_init 515 rfl) bp_32 ?_
  obtain ⟨c267, e268, hrun⟩ := bd hrun
  refine gc_ast (t := 1) (j := 122) C (dat dt_X11_init 516 rfl) (Or.inr ⟨rfl, rfl⟩) (fun _ => by decide) (by decide) (by decide) e268 ?_
  refine gc_dup C (dat dt_X11_init 517 rfl) rfl ?_
  refine gc_bipush C (dat dt_X11_init 518 rfl) bp_123 ?_
  refine gc_bipush C (dat dt_X11_init 519 rfl) bp_115 ?_
  obtain ⟨c269, e270, hrun⟩ := bd hrun
  refine gc_ast (t := 1) (j := 123) C (dat dt_X11_init 520 rfl) (Or.inr ⟨rfl, rfl⟩) (fun _ => by decide) (by decide) (by decide) e270 ?_
  refine gc_dup C (dat dt_X11_init 521 rfl) rfl ?_
  refine gc_bipush C (dat dt_X11_init 522 rfl) bp_124 ?_
  refine gc_bipush C (dat dt_X11_init 523 rfl) bp_119 ?_
  obtain ⟨c271, e272, hrun⟩ := bd hrun
  refine gc_ast (t := 1) (j := 124) C (dat dt_X11_init 524 rfl) (Or.inr ⟨rfl, rfl⟩) (fun _ => by decide) (by decide) (by decide) e272 ?_
  refine gc_dup C (dat dt_X11_init 525 rfl) rfl ?_
  refine gc_bipush C (dat dt_X11_init 526 rfl) bp_125 ?_
  refine gc_bipush C (dat dt_X11_init 527 rfl) bp_97 ?_
  obtain ⟨c273, e274, hrun⟩ := bd hrun
  refine gc_ast (t := 1) (j := 125) C (dat dt_X11_init 528 rfl) (Or.inr ⟨rfl, rfl⟩) (fun _ => by decide) (by decide) (by decide) e274 ?_
  refine gc_dup C (dat dt_X11_init 529 rfl) rfl ?_
  refine gc_bipush C (dat dt_X11_init 530 rfl) bp_126 ?_
  refine gc_bipush C (dat dt_X11_init 531 rfl) bp_112 ?_
  obtain ⟨c275, e276, hrun⟩ := bd hrun
  refine gc_ast (t := 1) (j := 126) C (dat dt_X11_init 532 rfl) (Or.inr ⟨rfl, rfl⟩) (fun _ => by decide) (by decide) (by decide) e276 ?_
  refine gc_dup C (dat dt_X11_init 533 rfl) rfl ?_
  refine gc_bipush C (dat dt_X11_init 534 rfl) bp_127 ?_
  refine gc_bipush C (dat dt_X11_init 535 rfl) bp_32 ?_
  obtain ⟨c277, e278, hrun⟩ := bd hrun
  refine gc_ast (t := 1) (j := 127) C (dat dt_X11_init 536 rfl) (Or.inr ⟨rfl, rfl⟩) (fun _ => by decide) (by decide) (by decide) e278 ?_
  refine gc_dup C (dat dt_X11_init 537 rfl) rfl ?_
  refine gc_sipush C (dat dt_X11_init 538 rfl) sp_128 ?_
  refine gc_bipush C (dat dt_X11_init 539 rfl) bp_119 ?_
  obtain ⟨c279, e280, hrun⟩ := bd hrun
  refine gc_ast (t := 1) (j := 128) C (dat dt_X11_init 540 rfl) (Or.inr ⟨rfl, rfl⟩) (fun _ => by decide) (by decide) (by decide) e280 ?_
  refine gc_dup C (dat dt_X11_init 541 rfl) rfl ?_
  refine gc_sipush C (dat dt_X11_init 542 rfl) sp_129 ?_
  refine gc_bipush C (dat dt_X11_init 543 rfl) bp_105 ?_
  obtain ⟨c281, e282, hrun⟩ := bd hrun
  refine gc_ast (t := 1) (j := 129) C (dat dt_X11_init 544 rfl) (Or.inr ⟨rfl, rfl⟩) (fun _ => by decide) (by decide) (by decide) e282 ?_
  refine gc_dup C (dat dt_X11_init 545 rfl) rfl ?_
  refine gc_sipush C (dat dt_X11_init 546 rfl) sp_130 ?_
  refine gc_bipush C (dat dt_X11_init 547 rfl) bp_116 ?_
  obtain ⟨c283, e284, hrun⟩ := bd hrun
  refine gc_ast (t := 1) (j := 130) C (dat dt_X11_init 548 rfl) (Or.inr ⟨rfl, rfl⟩) (fun _ => by decide) (by decide) (by decide) e284 ?_
  refine gc_dup C (dat dt_X11_init 549 rfl) rfl ?_
  refine gc_sipush C (dat dt_X11_init 550 rfl) sp_131 ?_
  refine gc_bipush C (dat dt_X11_init 551 rfl) bp_104 ?_
  obtain ⟨c285, e286, hrun⟩ := bd hrun
  refine gc_ast (t := 1) (j := 131) C (dat dt_X11_init 552 rfl) (Or.inr ⟨rfl, rfl⟩) (fun _ => by decide) (by decide) (by decide) e286 ?_
  refine gc_dup C (dat dt_X11_init 553 rfl) rfl ?_
  refine gc_sipush C (dat dt_X11_init 554 rfl) sp_132 ?_
  refine gc_bipush C (dat dt_X11_init 555 rfl) bp_32 ?_
  obtain ⟨c287, e288, hrun⟩ := bd hrun
  refine gc_ast (t := 1) (j := 132) C (dat dt_X11_init 556 rfl) (Or.inr ⟨rfl, rfl⟩) (fun _ => by decide) (by decide) (by decide) e288 ?_
  refine gc_dup C (dat dt_X11_init 557 rfl) rfl ?_
  refine gc_sipush C (dat dt_X11_init 558 rfl) sp_133 ?_
  refine gc_bipush C (dat dt_X11_init 559 rfl) bp_112 ?_
  obtain ⟨c289, e290, hrun⟩ := bd hrun
  refine gc_ast (t := 1) (j := 133) C (dat dt_X11_init 560 rfl) (Or.inr ⟨rfl, rfl⟩) (fun _ => by decide) (by decide) (by decide) e290 ?_
  refine gc_dup C (dat dt_X11_init 561 rfl) rfl ?_
  refine gc_sipush C (dat dt_X11_init 562 rfl) sp_134 ?_
  refine gc_bipush C (dat dt_X11_init 563 rfl) bp_97 ?_
  obtain ⟨c291, e292, hrun⟩ := bd hrun
  refine gc_ast (t := 1) (j := 134) C (dat dt_X11_init 564 rfl) (Or.inr ⟨rfl, rfl⟩) (fun _ => by decide) (by decide) (by decide) e292 ?_
  refine gc_dup C (dat dt_X11_init 565 rfl) rfl ?_
  refine gc_sipush C (dat dt_X11_init 566 rfl) sp_135 ?_
  refine gc_bipush C (dat dt_X11_init 567 rfl) bp_115 ?_
  obtain ⟨c293, e294, hrun⟩ := bd hrun
  refine gc_ast (t := 1) (j := 135) C (dat dt_X11_init 568 rfl) (Or.inr ⟨rfl, rfl⟩) (fun _ => by decide) (by decide) (by decide) e294 ?_
  refine gc_dup C (dat dt_X11_init 569 rfl) rfl ?_
  refine gc_sipush C (dat dt_X11_init 570 rfl) sp_136 ?_
  refine gc_bipush C (dat dt_X11_init 571 rfl) bp_115 ?_
  obtain ⟨c295, e296, hrun⟩ := bd hrun
  refine gc_ast (t := 1) (j := 136) C (dat dt_X11_init 572 rfl) (Or.inr ⟨rfl, rfl⟩) (fun _ => by decide) (by decide) (by decide) e296 ?_
  refine gc_dup C (dat dt_X11_init 573 rfl) rfl ?_
  refine gc_sipush C (dat dt_X11_init 574 rfl) sp_137 ?_
  refine gc_bipush C (dat dt_X11_init 575 rfl) bp_32 ?_
  obtain ⟨c297, e298, hrun⟩ := bd hrun
  refine gc_ast (t := 1) (j := 137) C (dat dt_X11_init 576 rfl) (Or.inr ⟨rfl, rfl⟩) (fun _ => by decide) (by decide) (by decide) e298 ?_
  refine gc_dup C (dat dt_X11_init 577 rfl) rfl ?_
  refine gc_sipush C (dat dt_X11_init 578 rfl) sp_138 ?_
  refine gc_bipush C (dat dt_X11_init 579 rfl) bp_116 ?_
  obtain ⟨c299, e300, hrun⟩ := bd hrun
  refine gc_ast (t := 1) (j := 138) C (dat dt_X11_init 580 rfl) (Or.inr ⟨rfl, rfl⟩) (fun _ => by decide) (by decide) (by decide) e300 ?_
  refine gc_dup C (dat dt_X11_init 581 rfl) rfl ?_
  refine gc_sipush C (dat dt_X11_init 582 rfl) sp_139 ?_
  refine gc_bipush C (dat dt_X11_init 583 rfl) bp_105 ?_
  obtain ⟨c301, e302, hrun⟩ := bd hrun
  refine gc_ast (t := 1) (j := 139) C (dat dt_X11_init 584 rfl) (Or.inr ⟨rfl, rfl⟩) (fun _ => by decide) (by decide) (by decide) e302 ?_
  refine gc_dup C (dat dt_X11_init 585 rfl) rfl ?_
  refine gc_sipush C (dat dt_X11_init 586 rfl) sp_140 ?_
  refine gc_bipush C (dat dt_X11_init 587 rfl) bp_109 ?_
  obtain ⟨c303, e304, hrun⟩ := bd hrun
  refine gc_ast (t := 1) (j := 140) C (dat dt_X11_init 588 rfl) (Or.inr ⟨rfl, rfl⟩) (fun _ => by decide) (by decide) (by decide) e304 ?_
  refine gc_dup C (dat dt_X11_init 589 rfl) rfl ?_
  refine gc_sipush C (dat dt_X11_init 590 rfl) sp_141 ?_
  refine gc_bipush C (dat dt_X11_init 591 rfl) bp_101 ?_
  obtain ⟨c305, e306, hrun⟩ := bd hrun
  refine gc_ast (t := 1) (j := 141) C (dat dt_X11_init 592 rfl) (Or.inr ⟨rfl, rfl⟩) (fun _ => by decide) (by decide) (by decide) e306 ?_
  refine gc_dup C (dat dt_X11_init 593 rfl) rfl ?_
  refine gc_sipush C (dat dt_X11_init 594 rfl) sp_142 ?_
  refine gc_bipush C (dat dt_X11_init 595 rfl) bp_115 ?_
  obtain ⟨c307, e308, hrun⟩ := bd hrun
  refine gc_ast (t := 1) (j := 142) C (dat dt_X11_init 596 rfl) (Or.inr ⟨rfl, rfl⟩) (fun _ => by decide) (by decide) (by decide) e308 ?_
  refine gc_dup C (dat dt_X11_init 597 rfl) rfl ?_
  refine gc_sipush C (dat dt_X11_init 598 rfl) sp_143 ?_
  refine gc_bipush C (dat dt_X11_init 599 rfl) bp_32 ?_
  obtain ⟨c309, e310, hrun⟩ := bd hrun
  refine gc_ast (t := 1) (j := 143) C (dat dt_X11_init 600 rfl) (Or.inr ⟨rfl, rfl⟩) (fun _ => by decide) (by decide) (by decide) e310 ?_
  obtain ⟨c311, e312, hrun⟩ := bd hrun
  refine gc_putF C Hi (dat dt_X11_init 601 rfl) ff_11_41 (fun E => ⟨rfl, rfl⟩) e312 ?_
  refine gc_aload_n C (dat dt_X11_init 602 rfl) 0 rfl ?_
  refine gc_sipush C (dat dt_X11_init 603 rfl) sp_400 ?_
  obtain ⟨c313, e314, hrun⟩ := bd hrun
  refine gc_newa (t := 1) (N := 400) C (dat dt_X11_init 604 rfl) rfl rfl ac_byte (by decide) (by decide) (by decide) e314 ⟨by decide, by decide⟩ ?_
  obtain ⟨c315, e316, hrun⟩ := bd hrun
  refine gc_putF C Hi (dat dt_X11_init 605 rfl) ff_11_45 (fun E => ⟨rfl, rfl⟩) e316 ?_
  refine gc_aload_n C (dat dt_X11_init 606 rfl) 0 rfl ?_
  refine gc_iconst C (dat dt_X11_init 607 rfl) ic_5 ?_
  obtain ⟨c317, e318, hrun⟩ := bd hrun
  refine gc_newa (t := 0) (N := 5) C (dat dt_X11_init 608 rfl) rfl rfl ac_int (by decide) (by decide) (by decide) e318 ⟨by decide, by decide⟩ ?_
  obtain ⟨c319, e320, hrun⟩ := bd hrun
  refine gc_putF C Hi (dat dt_X11_init 609 rfl) ff_11_48 (fun E => ⟨rfl, rfl⟩) e320 ?_
  refine gc_aload_n C (dat dt_X11_init 610 rfl) 0 rfl ?_
  refine gc_iconst C (dat dt_X11_init 611 rfl) ic_m1 ?_
  obtain ⟨c321, e322, hrun⟩ := bd hrun
  refine gc_putI C (dat dt_X11_init 612 rfl) fl_11_51 (fun E => ⟨rfl, rfl⟩) e322 ?_
  refine gc_aload_n C (dat dt_X11_init 613 rfl) 0 rfl ?_
  refine gc_sipush C (dat dt_X11_init 614 rfl) sp_401 ?_
  obtain ⟨c323, e324, hrun⟩ := bd hrun
  refine gc_newa (t := 0) (N := 401) C (dat dt_X11_init 615 rfl) rfl rfl ac_int (by decide) (by decide) (by decide) e324 ⟨by decide, by decide⟩ ?_
  obtain ⟨c325, e326, hrun⟩ := bd hrun
  refine gc_putF C Hi (dat dt_X11_init 616 rfl) ff_11_54 (fun E => ⟨rfl, rfl⟩) e326 ?_
  refine gc_aload_n C (dat dt_X11_init 617 rfl) 0 rfl ?_
  refine gc_sipush C (dat dt_X11_init 618 rfl) sp_401 ?_
  obtain ⟨c327, e328, hrun⟩ := bd hrun
  refine gc_newa (t := 0) (N := 401) C (dat dt_X11_init 619 rfl) rfl rfl ac_int (by decide) (by decide) (by decide) e328 ⟨by decide, by decide⟩ ?_
  obtain ⟨c329, e330, hrun⟩ := bd hrun
  refine gc_putF C Hi (dat dt_X11_init 620 rfl) ff_11_57 (fun E => ⟨rfl, rfl⟩) e330 ?_
  refine gc_aload_n C (dat dt_X11_init 621 rfl) 0 rfl ?_
  refine gc_sipush C (dat dt_X11_init 622 rfl) sp_401 ?_
  obtain ⟨c331, e332, hrun⟩ := bd hrun
  refine gc_newa (t := 0) (N := 401) C (dat dt_X11_init 623 rfl) rfl rfl ac_int (by decide) (by decide) (by decide) e332 ⟨by decide, by decide⟩ ?_
  obtain ⟨c333, e334, hrun⟩ := bd hrun
  refine gc_putF C Hi (dat dt_X11_init 624 rfl) ff_11_60 (fun E => ⟨rfl, rfl⟩) e334 ?_
  refine gc_aload_n C (dat dt_X11_init 625 rfl) 0 rfl ?_
  refine gc_bipush C (dat dt_X11_init 626 rfl) bp_8 ?_
  obtain ⟨c335, e336, hrun⟩ := bd hrun
  refine gc_newa (t := 0) (N := 8) C (dat dt_X11_init 627 rfl) rfl rfl ac_int (by decide) (by decide) (by decide) e336 ⟨by decide, by decide⟩ ?_
  obtain ⟨c337, e338, hrun⟩ := bd hrun
  refine gc_putF C Hi (dat dt_X11_init 628 rfl) ff_11_63 (fun E => ⟨rfl, rfl⟩) e338 ?_
  refine gc_aload_n C (dat dt_X11_init 629 rfl) 0 rfl ?_
  refine gc_bipush C (dat dt_X11_init 630 rfl) bp_18 ?_
  obtain ⟨c339, e340, hrun⟩ := bd hrun
  refine gc_newa (t := 0) (N := 18) C (dat dt_X11_init 631 rfl) rfl rfl ac_int (by decide) (by decide) (by decide) e340 ⟨by decide, by decide⟩ ?_
  obtain ⟨c341, e342, hrun⟩ := bd hrun
  refine gc_putF C Hi (dat dt_X11_init 632 rfl) ff_11_66 (fun E => ⟨rfl, rfl⟩) e342 ?_
  refine gc_aload_n C (dat dt_X11_init 633 rfl) 0 rfl ?_
  refine gc_sipush C (dat dt_X11_init 634 rfl) sp_416 ?_
  obtain ⟨c343, e344, hrun⟩ := bd hrun
  refine gc_newa (t := 0) (N := 416) C (dat dt_X11_init 635 rfl) rfl rfl ac_int (by decide) (by decide) (by decide) e344 ⟨by decide, by decide⟩ ?_
  obtain ⟨c345, e346, hrun⟩ := bd hrun
  refine gc_putF C Hi (dat dt_X11_init 636 rfl) ff_11_69 (fun E => ⟨rfl, rfl⟩) e346 ?_
  refine gc_aload_n C (dat dt_X11_init 637 rfl) 0 rfl ?_
  refine gc_sipush C (dat dt_X11_init 638 rfl) sp_416 ?_
  obtain ⟨c347, e348, hrun⟩ := bd hrun
  refine gc_newa (t := 0) (N := 416) C (dat dt_X11_init 639 rfl) rfl rfl ac_int (by decide) (by decide) (by decide) e348 ⟨by decide, by decide⟩ ?_
  obtain ⟨c349, e350, hrun⟩ := bd hrun
  refine gc_putF C Hi (dat dt_X11_init 640 rfl) ff_11_72 (fun E => ⟨rfl, rfl⟩) e350 ?_
  refine gc_aload_n C (dat dt_X11_init 641 rfl) 0 rfl ?_
  refine gc_bipush C (dat dt_X11_init 642 rfl) bp_6 ?_
  obtain ⟨c351, e352, hrun⟩ := bd hrun
  refine gc_newa (t := 0) (N := 6) C (dat dt_X11_init 643 rfl) rfl rfl ac_int (by decide) (by decide) (by decide) e352 ⟨by decide, by decide⟩ ?_
  obtain ⟨c353, e354, hrun⟩ := bd hrun
  refine gc_putF C Hi (dat dt_X11_init 644 rfl) ff_11_75 (fun E => ⟨rfl, rfl⟩) e354 ?_
  refine gc_aload_n C (dat dt_X11_init 645 rfl) 0 rfl ?_
  refine gc_bipush C (dat dt_X11_init 646 rfl) bp_6 ?_
  obtain ⟨c355, e356, hrun⟩ := bd hrun
  refine gc_newa (t := 0) (N := 6) C (dat dt_X11_init 647 rfl) rfl rfl ac_int (by decide) (by decide) (by decide) e356 ⟨by decide, by decide⟩ ?_
  obtain ⟨c357, e358, hrun⟩ := bd hrun
  refine gc_putF C Hi (dat dt_X11_init 648 rfl) ff_11_78 (fun E => ⟨rfl, rfl⟩) e358 ?_
  refine gc_aload_n C (dat dt_X11_init 649 rfl) 0 rfl ?_
  refine gc_sipush C (dat dt_X11_init 650 rfl) sp_720 ?_
  obtain ⟨c359, e360, hrun⟩ := bd hrun
  refine gc_newa (t := 0) (N := 720) C (dat dt_X11_init 651 rfl) rfl rfl ac_int (by decide) (by decide) (by decide) e360 ⟨by decide, by decide⟩ ?_
  obtain ⟨c361, e362, hrun⟩ := bd hrun
  refine gc_putF C Hi (dat dt_X11_init 652 rfl) ff_11_81 (fun E => ⟨rfl, rfl⟩) e362 ?_
  refine gc_aload_n C (dat dt_X11_init 653 rfl) 0 rfl ?_
  refine gc_sipush C (dat dt_X11_init 654 rfl) sp_720 ?_
  obtain ⟨c363, e364, hrun⟩ := bd hrun
  refine gc_newa (t := 0) (N := 720) C (dat dt_X11_init 655 rfl) rfl rfl ac_int (by decide) (by decide) (by decide) e364 ⟨by decide, by decide⟩ ?_
  obtain ⟨c365, e366, hrun⟩ := bd hrun
  refine gc_putF C Hi (dat dt_X11_init 656 rfl) ff_11_84 (fun E => ⟨rfl, rfl⟩) e366 ?_
  refine gc_aload_n C (dat dt_X11_init 657 rfl) 0 rfl ?_
  refine gc_sipush C (dat dt_X11_init 658 rfl) sp_720 ?_
  obtain ⟨c367, e368, hrun⟩ := bd hrun
  refine gc_newa (t := 0) (N := 720) C (dat dt_X11_init 659 rfl) rfl rfl ac_int (by decide) (by decide) (by decide) e368 ⟨by decide, by decide⟩ ?_
  obtain ⟨c369, e370, hrun⟩ := bd hrun
  refine gc_putF C Hi (dat dt_X11_init 660 rfl) ff_11_87 (fun E => ⟨rfl, rfl⟩) e370 ?_
  refine gc_aload_n C (dat dt_X11_init 661 rfl) 0 rfl ?_
  refine gc_sipush C (dat dt_X11_init 662 rfl) sp_720 ?_
  obtain ⟨c371, e372, hrun⟩ := bd hrun
  refine gc_newa (t := 2) (N := 720) C (dat dt_X11_init 663 rfl) rfl rfl ac_boolean (by decide) (by decide) (by decide) e372 ⟨by decide, by decide⟩ ?_
  obtain ⟨c373, e374, hrun⟩ := bd hrun
  refine gc_putF C Hi (dat dt_X11_init 664 rfl) ff_11_90 (fun E => ⟨rfl, rfl⟩) e374 ?_
  refine gc_aload_n C (dat dt_X11_init 665 rfl) 0 rfl ?_
  refine gc_sipush C (dat dt_X11_init 666 rfl) sp_4320 ?_
  obtain ⟨c375, e376, hrun⟩ := bd hrun
  refine gc_newa (t := 0) (N := 4320) C (dat dt_X11_init 667 rfl) rfl rfl ac_int (by decide) (by decide) (by decide) e376 ⟨by decide, by decide⟩ ?_
  obtain ⟨c377, e378, hrun⟩ := bd hrun
  refine gc_putF C Hi (dat dt_X11_init 668 rfl) ff_11_93 (fun E => ⟨rfl, rfl⟩) e378 ?_
  refine gc_aload_n C (dat dt_X11_init 669 rfl) 0 rfl ?_
  refine gc_iconst C (dat dt_X11_init 670 rfl) ic_3 ?_
  obtain ⟨c379, e380, hrun⟩ := bd hrun
  refine gc_newa (t := 0) (N := 3) C (dat dt_X11_init 671 rfl) rfl rfl ac_int (by decide) (by decide) (by decide) e380 ⟨by decide, by decide⟩ ?_
  obtain ⟨c381, e382, hrun⟩ := bd hrun
  refine gc_putF C Hi (dat dt_X11_init 672 rfl) ff_11_96 (fun E => ⟨rfl, rfl⟩) e382 ?_
  refine gc_aload_n C (dat dt_X11_init 673 rfl) 0 rfl ?_
  refine gc_bipush C (dat dt_X11_init 674 rfl) bp_6 ?_
  obtain ⟨c383, e384, hrun⟩ := bd hrun
  refine gc_newa (t := 0) (N := 6) C (dat dt_X11_init 675 rfl) rfl rfl ac_int (by decide) (by decide) (by decide) e384 ⟨by decide, by decide⟩ ?_
  obtain ⟨c385, e386, hrun⟩ := bd hrun
  refine gc_putF C Hi (dat dt_X11_init 676 rfl) ff_11_99 (fun E => ⟨rfl, rfl⟩) e386 ?_
  refine gc_aload_n C (dat dt_X11_init 677 rfl) 0 rfl ?_
  refine gc_bipush C (dat dt_X11_init 678 rfl) bp_6 ?_
  obtain ⟨c387, e388, hrun⟩ := bd hrun
  refine gc_newa (t := 0) (N := 6) C (dat dt_X11_init 679 rfl) rfl rfl ac_int (by decide) (by decide) (by decide) e388 ⟨by decide, by decide⟩ ?_
  obtain ⟨c389, e390, hrun⟩ := bd hrun
  refine gc_putF C Hi (dat dt_X11_init 680 rfl) ff_11_102 (fun E => ⟨rfl, rfl⟩) e390 ?_
  refine gc_aload_n C (dat dt_X11_init 681 rfl) 0 rfl ?_
  refine gc_bipush C (dat dt_X11_init 682 rfl) bp_21 ?_
  obtain ⟨c391, e392, hrun⟩ := bd hrun
  refine gc_newa (t := 3) (N := 21) C (dat dt_X11_init 683 rfl) rfl rfl ac_long (by decide) (by decide) (by decide) e392 ⟨by decide, by decide⟩ ?_
  obtain ⟨c393, e394, hrun⟩ := bd hrun
  refine gc_putF C Hi (dat dt_X11_init 684 rfl) ff_11_105 (fun E => ⟨rfl, rfl⟩) e394 ?_
  refine gc_aload_n C (dat dt_X11_init 685 rfl) 0 rfl ?_
  refine gc_iconst C (dat dt_X11_init 686 rfl) ic_m1 ?_
  obtain ⟨c395, e396, hrun⟩ := bd hrun
  refine gc_putI C (dat dt_X11_init 687 rfl) fl_11_109 (fun E => ⟨rfl, rfl⟩) e396 ?_
  refine gc_aload_n C (dat dt_X11_init 688 rfl) 0 rfl ?_
  refine gc_iconst C (dat dt_X11_init 689 rfl) ic_2 ?_
  obtain ⟨c397, e398, hrun⟩ := bd hrun
  refine gc_newa (t := 3) (N := 2) C (dat dt_X11_init 690 rfl) rfl rfl ac_long (by decide) (by decide) (by decide) e398 ⟨by decide, by decide⟩ ?_
  obtain ⟨c399, e400, hrun⟩ := bd hrun
  refine gc_putF C Hi (dat dt_X11_init 691 rfl) ff_11_112 (fun E => ⟨rfl, rfl⟩) e400 ?_
  refine gc_aload_n C (dat dt_X11_init 692 rfl) 0 rfl ?_
  refine gc_bipush C (dat dt_X11_init 693 rfl) bp_25 ?_
  obtain ⟨c401, e402, hrun⟩ := bd hrun
  refine gc_newa (t := 0) (N := 25) C (dat dt_X11_init 694 rfl) rfl rfl ac_int (by decide) (by decide) (by decide) e402 ⟨by decide, by decide⟩ ?_
  obtain ⟨c403, e404, hrun⟩ := bd hrun
  refine gc_putF C Hi (dat dt_X11_init 695 rfl) ff_11_115 (fun E => ⟨rfl, rfl⟩) e404 ?_
  refine gc_aload_n C (dat dt_X11_init 696 rfl) 0 rfl ?_
  refine gc_iconst C (dat dt_X11_init 697 rfl) ic_m1 ?_
  obtain ⟨c405, e406, hrun⟩ := bd hrun
  refine gc_putI C (dat dt_X11_init 698 rfl) fl_11_118 (fun E => ⟨rfl, rfl⟩) e406 ?_
  refine gc_aload_n C (dat dt_X11_init 699 rfl) 0 rfl ?_
  obtain ⟨b407, e408, hrun⟩ := bd hrun
  refine gc_getR C (dat dt_X11_init 700 rfl) fl_11_28 e408 ?_
  refine gc_bipush C (dat dt_X11_init 701 rfl) bp_49 ?_
  refine gc_iconst C (dat dt_X11_init 702 rfl) ic_1 ?_
  obtain ⟨c409, e410, hrun⟩ := bd hrun
  refine gc_ast (t := 0) (j := 49) C (dat dt_X11_init 703 rfl) (Or.inl ⟨rfl, rfl⟩) (fun h => absurd h (by decide)) (by decide) (by decide) e410 ?_
  refine gc_aload_n C (dat dt_X11_init 704 rfl) 0 rfl ?_
  obtain ⟨b411, e412, hrun⟩ := bd hrun
  refine gc_getR C (dat dt_X11_init 705 rfl) fl_11_28 e412 ?_
  refine gc_bipush C (dat dt_X11_init 706 rfl) bp_54 ?_
  refine gc_iconst C (dat dt_X11_init 707 rfl) ic_m1 ?_
  obtain ⟨c413, e414, hrun⟩ := bd hrun
  refine gc_ast (t := 0) (j := 54) C (dat dt_X11_init 708 rfl) (Or.inl ⟨rfl, rfl⟩) (fun h => absurd h (by decide)) (by decide) (by decide) e414 ?_
  cases hrun
  exact gc_vret C K (dat dt_X11_init 709 rfl)
