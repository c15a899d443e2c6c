/-! ===== the tables hold what the instructions need: by class, each link once ===== -/
def snCn : List String := ["RunForItLaw", "RunForIt$Best", "RunForIt$Course", "RunForIt$Log", "RunForIt$Odds", "RunForIt$Parser", "RunForIt$Product", "RunForIt$Queue", "RunForIt$Ride", "RunForIt$Store", "RunForIt$Street", "RunForIt$Text", "RunForIt", "RunForItModel", "java/lang/Character", "java/lang/Integer", "java/lang/Math", "java/lang/String", "java/lang/StringLatin1", "java/lang/StringUTF16", "jdk/internal/util/Preconditions"]
def snCiT : List (List Nat) := [[0, 1, 1, 1, 1, 1, 1, 1, 2, 2, 2, 2, 2, 2, 2, 2], [2, 2, 2, 2, 3, 3, 3, 3, 3, 3, 3, 4, 4, 4, 4, 4], [4, 4, 5, 5, 5, 5, 5, 5, 5, 5, 5, 5, 5, 5, 5, 5], [6, 6, 6, 6, 7, 7, 7, 7, 8, 8, 8, 8, 8, 8, 8, 8], [8, 8, 9, 9, 9, 9, 9, 9, 9, 9, 9, 9, 9, 10, 10, 10], [10, 10, 11, 11, 11, 11, 11, 11, 11, 11, 11, 11, 12, 12, 12, 12], [12, 12, 12, 12, 12, 12, 12, 12, 12, 12, 12, 12, 12, 12, 12, 12], [12, 12, 12, 12, 12, 12, 12, 12, 12, 12, 12, 12, 12, 12, 12, 12], [12, 12, 12, 12, 12, 12, 12, 12, 12, 12, 12, 12, 12, 12, 12, 12], [12, 12, 12, 12, 12, 13, 13, 13, 13, 13, 13, 13, 13, 13, 13, 13], [13, 13, 13, 13, 13, 13, 13, 13, 13, 13, 13, 13, 13, 13, 13, 13], [13, 13, 13, 13, 13, 13, 13, 13, 13, 13, 13, 13, 13, 13, 13, 13], [13, 13, 13, 13, 13, 13, 13, 13, 13, 13, 13, 13, 13, 13, 13, 13], [13, 13, 13, 13, 13, 13, 13, 13, 13, 13, 13, 13, 13, 13, 13, 13], [13, 13, 13, 13, 13, 13, 13, 13, 13, 13, 13, 13, 13, 13, 13, 13], [13, 13, 13, 13, 13, 13, 13, 13, 13, 13, 13, 13, 13, 13, 13, 13], [13, 13, 13, 13, 13, 13, 13, 13, 13, 13, 13, 13, 13, 14, 14, 14], [15, 15, 16, 16, 17, 17, 17, 17, 17, 17, 18, 18, 18, 19, 19, 19], [19, 19, 19, 19, 20]]
def snTF : List (List (Nat × (Nat × Nat × Nat × Nat × Nat))) := [[],
  [(10, (0, 1, 2, 302, 0)), (16, (0, 2, 2, 303, 0)), (20, (0, 3, 0, 304, 0)), (24, (0, 0, 2, 301, 0)), (38, (7, 4, 2, 238, 1)), (50, (7, 6, 0, 244, 1)), (98, (7, 5, 0, 242, 1))],
  [(9, (1, 1, 2, 322, 0)), (15, (1, 2, 2, 323, 0)), (18, (1, 3, 2, 324, 0)), (22, (1, 4, 2, 325, 0)), (25, (1, 5, 2, 326, 0)), (28, (1, 6, 2, 327, 0)), (31, (1, 7, 1, 329, 0)), (35, (1, 8, 0, 331, 0)), (39, (1, 9, 0, 332, 0)), (42, (1, 0, 2, 321, 0)), (68, (7, 6, 0, 245, 1)), (107, (7, 4, 2, 240, 1))],
  [(9, (2, 2, 0, 362, 0)), (15, (2, 3, 0, 364, 0)), (18, (2, 4, 2, 366, 0)), (22, (2, 5, 2, 367, 0)), (25, (2, 0, 2, 360, 0)), (29, (2, 1, 2, 361, 0)), (48, (8, 0, 0, 130, 1))],
  [(9, (3, 1, 1, 388, 0)), (15, (3, 2, 1, 389, 0)), (18, (3, 0, 2, 387, 0))],
  [(9, (4, 0, 2, 274, 0)), (15, (4, 1, 0, 275, 0)), (19, (4, 2, 0, 276, 0)), (22, (4, 3, 0, 277, 0)), (27, (4, 4, 2, 278, 0)), (34, (4, 5, 2, 279, 0)), (61, (10, 0, 0, 203, 1)), (89, (10, 1, 0, 206, 1))],
  [(9, (5, 0, 2, 403, 0))],
  [(7, (6, 0, 0, 174, 0)), (13, (6, 1, 0, 176, 0)), (16, (6, 2, 2, 179, 0))],
  [(9, (7, 3, 2, 236, 0)), (18, (7, 4, 2, 237, 0)), (22, (7, 5, 0, 241, 0)), (26, (7, 6, 0, 243, 0)), (29, (7, 0, 2, 233, 0)), (33, (7, 1, 2, 234, 0)), (37, (7, 2, 2, 235, 0)), (41, (8, 0, 0, 128, 1)), (54, (10, 0, 0, 202, 1)), (57, (10, 4, 2, 210, 1)), (64, (10, 6, 2, 214, 1)), (71, (10, 5, 2, 212, 1)), (106, (6, 2, 2, 180, 1)), (111, (9, 1, 2, 158, 1)), (131, (6, 1, 0, 177, 1))],
  [(9, (8, 0, 0, 127, 0)), (15, (8, 1, 0, 131, 0)), (18, (8, 2, 2, 133, 0)), (22, (8, 3, 2, 134, 0)), (25, (8, 4, 2, 135, 0))],
  [(9, (9, 0, 0, 155, 0)), (15, (9, 1, 2, 157, 0)), (19, (9, 2, 2, 160, 0))],
  [(9, (10, 0, 0, 201, 0)), (15, (10, 1, 0, 205, 0)), (18, (10, 2, 0, 207, 0)), (21, (10, 3, 2, 208, 0)), (25, (10, 4, 2, 209, 0)), (28, (10, 5, 2, 211, 0)), (31, (10, 6, 2, 213, 0)), (34, (10, 7, 2, 215, 0))],
  [(9, (11, 0, 2, 407, 0)), (13, (11, 1, 0, 408, 0)), (20, (11, 2, 2, 409, 0)), (24, (11, 3, 2, 410, 0)), (27, (11, 4, 3, 411, 0)), (34, (11, 5, 2, 412, 0)), (41, (11, 6, 2, 413, 0)), (50, (11, 7, 2, 414, 0)), (56, (11, 8, 2, 415, 0)), (61, (11, 9, 2, 416, 0)), (68, (11, 10, 2, 417, 0)), (77, (11, 11, 2, 418, 0)), (84, (11, 12, 2, 419, 0)), (93, (11, 13, 2, 420, 0)), (100, (11, 14, 2, 421, 0)), (107, (11, 15, 2, 422, 0)), (111, (11, 16, 2, 423, 0)), (118, (8, 0, 0, 129, 1)), (139, (7, 4, 2, 239, 1)), (142, (10, 0, 0, 204, 1)), (220, (1, 7, 1, 330, 1)), (224, (1, 6, 2, 328, 1)), (280, (2, 3, 0, 365, 1)), (286, (2, 2, 0, 363, 1)), (300, (8, 4, 2, 136, 1)), (312, (8, 1, 0, 132, 1)), (325, (9, 1, 2, 159, 1)), (328, (6, 2, 2, 181, 1)), (331, (9, 0, 0, 156, 1)), (334, (6, 1, 0, 178, 1)), (337, (6, 0, 0, 175, 1)), (343, (7, 6, 0, 246, 1))],
  [(7, (12, 7, 2, 1188, 0)), (13, (12, 13, 2, 1194, 0)), (17, (12, 14, 2, 1195, 0)), (20, (12, 15, 2, 1196, 0)), (23, (12, 16, 2, 1197, 0)), (26, (12, 21, 2, 1202, 0)), (29, (12, 22, 2, 1203, 0)), (32, (12, 23, 2, 1204, 0)), (35, (12, 24, 2, 1205, 0)), (38, (12, 25, 2, 1206, 0)), (41, (12, 26, 2, 1207, 0)), (44, (12, 27, 2, 1208, 0)), (47, (12, 28, 2, 1209, 0)), (50, (12, 29, 2, 1210, 0)), (53, (12, 30, 2, 1211, 0)), (56, (12, 31, 2, 1212, 0)), (59, (12, 32, 2, 1213, 0)), (62, (12, 33, 2, 1214, 0)), (65, (12, 34, 2, 1215, 0)), (69, (12, 36, 2, 1217, 0)), (73, (12, 37, 2, 1218, 0)), (77, (12, 38, 2, 1219, 0)), (80, (12, 43, 2, 1224, 0)), (83, (12, 44, 2, 1225, 0)), (86, (12, 45, 2, 1226, 0)), (89, (12, 46, 2, 1227, 0)), (92, (12, 47, 2, 1228, 0)), (95, (12, 48, 2, 1229, 0)), (98, (12, 58, 2, 1239, 0)), (101, (12, 59, 2, 1240, 0)), (104, (12, 60, 2, 1241, 0)), (107, (12, 61, 2, 1242, 0)), (110, (12, 66, 2, 1247, 0)), (113, (12, 67, 2, 1248, 0)), (116, (12, 68, 2, 1249, 0)), (119, (12, 69, 2, 1250, 0)), (122, (12, 70, 2, 1251, 0)), (125, (12, 71, 2, 1252, 0)), (128, (12, 72, 2, 1253, 0)), (131, (12, 75, 2, 1256, 0)), (134, (12, 76, 2, 1257, 0)), (137, (12, 77, 2, 1258, 0)), (140, (12, 78, 2, 1259, 0)), (143, (12, 79, 2, 1260, 0)), (146, (12, 85, 2, 1266, 0)), (149, (12, 86, 2, 1267, 0)), (152, (12, 87, 2, 1268, 0)), (155, (12, 88, 2, 1269, 0)), (158, (12, 89, 2, 1270, 0)), (161, (12, 90, 2, 1271, 0)), (164, (12, 91, 2, 1272, 0)), (167, (12, 92, 2, 1273, 0)), (170, (12, 0, 0, 1181, 0)), (174, (12, 1, 0, 1182, 0)), (177, (12, 74, 0, 1255, 0)), (186, (12, 8, 0, 1189, 0)), (197, (12, 9, 0, 1190, 0)), (208, (12, 6, 0, 1187, 0)), (211, (12, 12, 0, 1193, 0)), (222, (12, 5, 0, 1186, 0)), (225, (12, 10, 0, 1191, 0)), (235, (12, 11, 0, 1192, 0)), (238, (12, 2, 0, 1183, 0)), (244, (12, 4, 0, 1185, 0)), (247, (12, 3, 0, 1184, 0)), (250, (12, 18, 0, 1199, 0)), (254, (12, 17, 0, 1198, 0)), (257, (12, 19, 0, 1200, 0)), (307, (12, 20, 0, 1201, 0)), (369, (12, 35, 0, 1216, 0)), (397, (12, 39, 3, 1220, 0)), (437, (12, 42, 0, 1223, 0)), (443, (12, 51, 1, 1232, 0)), (447, (12, 53, 1, 1234, 0)), (450, (12, 49, 1, 1230, 0)), (453, (12, 50, 1, 1231, 0)), (466, (12, 52, 1, 1233, 0)), (469, (12, 41, 0, 1222, 0)), (472, (12, 40, 0, 1221, 0)), (499, (12, 56, 0, 1237, 0)), (502, (12, 62, 1, 1243, 0)), (505, (12, 57, 0, 1238, 0)), (508, (12, 55, 0, 1236, 0)), (511, (12, 54, 0, 1235, 0)), (523, (12, 63, 1, 1244, 0)), (532, (12, 64, 0, 1245, 0)), (542, (12, 65, 0, 1246, 0)), (556, (12, 73, 0, 1254, 0)), (573, (12, 80, 3, 1261, 0)), (576, (12, 81, 0, 1262, 0)), (579, (12, 82, 0, 1263, 0)), (582, (12, 83, 0, 1264, 0)), (585, (12, 84, 0, 1265, 0))],
  [],
  [],
  [],
  [],
  [],
  [],
  []]
def snTM : List (List (Nat × (Nat × Nat × Nat × Nat × Nat))) := [[(9, (2, 92, 0, 115, 0)), (12, (2, 149, 0, 1176, 0)), (13, (1, 93, 1, 459, 0)), (17, (1, 159, 1, 1470, 0)), (18, (1, 94, 5, 474, 0)), (22, (1, 158, 5, 1462, 0)), (23, (1, 95, 1, 485, 0)), (27, (1, 162, 1, 1477, 0)), (28, (1, 96, 1, 600, 0)), (31, (1, 164, 1, 1504, 0)), (32, (1, 97, 1, 617, 0)), (35, (1, 189, 1, 1511, 0)), (36, (1, 98, 2, 701, 0)), (40, (1, 192, 2, 1585, 0)), (41, (1, 99, 6, 706, 0)), (45, (1, 213, 6, 1592, 0)), (46, (1, 100, 7, 763, 0)), (50, (1, 214, 7, 1652, 0)), (51, (1, 101, 6, 781, 0)), (55, (1, 221, 6, 1677, 0)), (56, (1, 102, 7, 825, 0)), (60, (1, 230, 7, 1728, 0)), (61, (1, 103, 5, 890, 0)), (65, (1, 222, 5, 1720, 0)), (66, (1, 104, 5, 894, 0)), (70, (1, 223, 5, 1724, 0)), (71, (1, 105, 4, 906, 0)), (75, (1, 238, 4, 1783, 0)), (76, (1, 106, 5, 916, 0)), (79, (1, 234, 5, 1772, 0)), (80, (1, 107, 6, 931, 0)), (83, (1, 231, 6, 1761, 0)), (84, (1, 108, 6, 947, 0)), (87, (1, 240, 6, 1799, 0)), (88, (1, 109, 8, 963, 0)), (92, (1, 241, 8, 1807, 0)), (93, (1, 110, 5, 974, 0)), (97, (1, 242, 5, 1811, 0)), (98, (1, 111, 5, 986, 0)), (102, (1, 243, 5, 1816, 0)), (103, (1, 112, 5, 996, 0)), (106, (1, 245, 5, 1821, 0)), (107, (1, 113, 4, 1011, 0)), (111, (1, 246, 4, 1832, 0)), (112, (1, 114, 2, 1019, 0)), (115, (1, 248, 2, 1836, 0)), (116, (1, 115, 4, 1033, 0)), (120, (1, 250, 4, 1845, 0)), (121, (1, 116, 5, 1049, 0)), (125, (1, 253, 5, 1852, 0)), (126, (1, 117, 1, 1080, 0)), (129, (1, 254, 1, 1865, 0)), (130, (1, 118, 2, 1093, 0)), (134, (1, 256, 2, 1869, 0)), (135, (1, 119, 2, 1105, 0)), (139, (1, 257, 2, 1877, 0)), (140, (1, 120, 1, 1117, 0)), (143, (1, 258, 1, 1881, 0)), (144, (1, 121, 4, 1121, 0)), (147, (1, 261, 4, 1885, 0)), (148, (1, 122, 1, 1141, 0)), (151, (1, 262, 1, 1896, 0)), (152, (1, 123, 0, 1146, 0)), (156, (1, 264, 0, 1901, 0)), (157, (1, 124, 0, 1157, 0)), (161, (1, 265, 0, 1908, 0)), (162, (1, 125, 1, 1161, 0)), (165, (1, 267, 1, 1912, 0)), (166, (1, 126, 1, 1170, 0)), (169, (1, 268, 1, 1920, 0))],
  [(28, (1, 57, 0, 790, 0)), (34, (0, 138, 1, 794, 1)), (42, (1, 58, 5, 795, 0)), (46, (0, 142, 1, 796, 1)), (53, (0, 145, 2, 801, 1)), (57, (0, 147, 2, 802, 1)), (61, (1, 4, 3, 805, 0)), (65, (0, 136, 1, 816, 1)), (71, (0, 146, 3, 817, 1)), (75, (0, 148, 3, 818, 1)), (79, (1, 2, 2, 815, 0)), (85, (1, 62, 3, 810, 0)), (89, (1, 63, 3, 812, 0)), (94, (1, 65, 2, 814, 0)), (103, (1, 7, 5, 915, 0))],
  [(46, (0, 147, 2, 866, 1)), (50, (1, 57, 0, 844, 0)), (56, (1, 13, 2, 845, 0)), (60, (1, 16, 3, 868, 0)), (64, (1, 19, 1, 885, 0)), (73, (0, 145, 2, 856, 1)), (77, (1, 9, 2, 862, 0)), (81, (0, 146, 3, 850, 1)), (85, (1, 12, 1, 929, 0)), (88, (0, 148, 3, 849, 1)), (92, (0, 138, 1, 851, 1)), (96, (1, 14, 3, 852, 0)), (100, (0, 142, 1, 857, 1)), (104, (1, 15, 3, 858, 0)), (111, (1, 58, 5, 867, 0)), (115, (1, 61, 3, 872, 0)), (119, (1, 62, 3, 873, 0)), (123, (1, 63, 3, 874, 0)), (126, (1, 17, 3, 875, 0)), (131, (1, 65, 2, 880, 0)), (135, (1, 18, 4, 881, 0))],
  [(33, (0, 145, 2, 1068, 1)), (37, (1, 21, 0, 1057, 0)), (40, (0, 146, 3, 1058, 1)), (44, (0, 138, 1, 1059, 1)), (53, (1, 25, 2, 1060, 0)), (57, (1, 22, 1, 1064, 0)), (60, (1, 61, 3, 1069, 0)), (66, (1, 62, 3, 1070, 0)), (70, (0, 140, 1, 1071, 1)), (74, (1, 68, 0, 1072, 0)), (78, (1, 63, 3, 1077, 0)), (81, (1, 64, 1, 1078, 0)), (84, (1, 65, 2, 1079, 0)), (88, (0, 134, 3, 1088, 1)), (92, (1, 23, 1, 1089, 0))],
  [(22, (0, 30, 2, 940, 0)), (26, (1, 57, 0, 955, 0)), (32, (1, 65, 2, 956, 0)), (36, (0, 143, 1, 957, 1)), (40, (1, 29, 2, 962, 0)), (44, (1, 63, 3, 982, 0)), (48, (1, 62, 3, 983, 0)), (51, (0, 138, 1, 984, 1))],
  [(33, (2, 82, 0, 273, 1)), (38, (1, 83, 0, 626, 0)), (41, (1, 36, 0, 630, 0)), (44, (1, 46, 1, 669, 0)), (48, (1, 45, 0, 634, 0)), (52, (1, 277, 1, 638, 0)), (58, (1, 47, 1, 639, 0)), (64, (1, 85, 1, 644, 0)), (67, (1, 40, 1, 649, 0)), (70, (1, 86, 0, 676, 0)), (73, (1, 37, 1, 681, 0)), (76, (1, 87, 0, 697, 0)), (79, (1, 39, 1, 685, 0)), (82, (1, 38, 2, 689, 0)), (86, (1, 89, 1, 693, 0)), (92, (1, 88, 2, 658, 0)), (96, (1, 41, 1, 653, 0)), (99, (0, 43, 1, 673, 0)), (105, (1, 42, 0, 662, 0)), (108, (0, 44, 1, 666, 0)), (111, (0, 144, 2, 643, 1))],
  [(15, (0, 145, 2, 1129, 1)), (19, (1, 50, 2, 1130, 0)), (23, (0, 272, 2, 1138, 0))],
  [(20, (0, 145, 2, 608, 1)), (26, (0, 55, 1, 609, 0)), (30, (0, 144, 2, 612, 1)), (34, (1, 54, 2, 613, 0))],
  [(17, (2, 82, 0, 197, 1)), (46, (1, 84, 1, 730, 0)), (50, (1, 60, 3, 734, 0)), (60, (0, 145, 2, 744, 1)), (67, (1, 90, 2, 745, 0)), (74, (0, 59, 2, 753, 0)), (80, (1, 277, 1, 757, 0)), (89, (0, 275, 2, 760, 0)), (94, (0, 274, 2, 761, 0)), (97, (0, 138, 1, 738, 1)), (100, (0, 139, 1, 723, 1)), (103, (0, 140, 1, 741, 1)), (116, (1, 58, 5, 726, 0)), (120, (0, 136, 1, 838, 1)), (123, (1, 62, 3, 839, 0)), (127, (0, 137, 4, 762, 1)), (134, (1, 64, 1, 777, 0))],
  [(35, (0, 146, 3, 995, 1)), (39, (0, 134, 3, 1004, 1)), (43, (0, 145, 2, 1005, 1)), (47, (1, 70, 1, 1010, 0)), (51, (1, 73, 1, 1028, 0)), (55, (0, 141, 2, 1032, 1))],
  [(22, (0, 79, 3, 493, 0)), (26, (0, 144, 2, 500, 1)), (30, (0, 145, 2, 496, 1)), (36, (1, 277, 1, 504, 0)), (42, (1, 80, 3, 590, 0)), (46, (1, 81, 1, 595, 0)), (49, (0, 134, 3, 499, 1)), (53, (0, 146, 3, 594, 1)), (57, (0, 274, 2, 599, 0))],
  [(37, (0, 146, 3, 648, 1)), (41, (1, 88, 2, 680, 0)), (45, (0, 145, 2, 749, 1)), (49, (0, 91, 3, 750, 0))],
  [(19, (2, 66, 0, 123, 1)), (33, (2, 77, 0, 151, 1)), (40, (2, 52, 0, 170, 1)), (47, (2, 56, 3, 191, 0)), (60, (2, 82, 0, 264, 1)), (67, (2, 34, 0, 267, 1)), (74, (2, 1, 1, 296, 0)), (83, (2, 8, 1, 317, 0)), (90, (2, 20, 2, 356, 0)), (99, (2, 27, 1, 383, 0)), (106, (2, 48, 0, 399, 1)), (114, (0, 134, 3, 463, 0)), (121, (1, 129, 0, 466, 0)), (124, (1, 127, 1, 478, 0)), (128, (1, 78, 2, 489, 0)), (132, (1, 53, 2, 604, 0)), (135, (1, 35, 4, 622, 0)), (147, (0, 135, 2, 710, 0)), (151, (0, 136, 1, 713, 0)), (155, (0, 137, 4, 716, 0)), (159, (1, 62, 3, 719, 0)), (163, (0, 138, 1, 767, 0)), (167, (0, 139, 1, 768, 0)), (170, (1, 63, 3, 769, 0)), (173, (1, 65, 2, 773, 0)), (179, (1, 2, 2, 786, 1)), (183, (1, 3, 2, 821, 0)), (186, (1, 130, 1, 829, 0)), (192, (1, 61, 3, 834, 0)), (196, (1, 10, 3, 840, 0)), (200, (1, 9, 2, 889, 0)), (203, (1, 5, 1, 898, 0)), (207, (1, 6, 1, 902, 0)), (210, (1, 7, 5, 910, 1)), (214, (1, 11, 1, 920, 0)), (217, (1, 12, 1, 925, 1)), (227, (0, 145, 2, 930, 0)), (232, (1, 29, 2, 936, 0)), (236, (1, 28, 1, 943, 0)), (239, (1, 31, 2, 951, 0)), (243, (0, 141, 2, 967, 0)), (246, (1, 32, 2, 970, 0)), (249, (1, 33, 3, 978, 0)), (253, (1, 69, 5, 991, 0)), (257, (1, 70, 1, 1000, 0)), (260, (1, 71, 4, 1006, 0)), (264, (1, 72, 4, 1015, 0)), (269, (1, 74, 2, 1024, 0)), (272, (0, 132, 4, 1037, 0)), (276, (1, 24, 2, 1053, 0)), (283, (1, 26, 1, 1084, 0)), (289, (1, 131, 1, 1097, 0)), (292, (1, 75, 0, 1109, 0)), (296, (1, 76, 2, 1113, 0)), (303, (1, 49, 3, 1125, 0)), (307, (1, 51, 1, 1134, 0)), (315, (1, 67, 1, 1150, 0)), (319, (1, 128, 1, 1165, 0)), (322, (1, 73, 1, 1169, 0)), (340, (0, 146, 3, 482, 0)), (346, (1, 21, 0, 470, 0)), (349, (1, 22, 1, 1101, 0)), (352, (1, 23, 1, 1102, 0)), (355, (1, 4, 3, 1103, 1)), (359, (0, 142, 1, 1104, 0)), (362, (0, 133, 5, 1040, 0)), (366, (0, 273, 1, 1043, 0))],
  [(182, (0, 155, 2, 1769, 0)), (189, (1, 157, 1, 1466, 0)), (193, (0, 150, 3, 1474, 0)), (200, (1, 168, 0, 1485, 0)), (204, (1, 169, 2, 1493, 0)), (214, (1, 167, 0, 1489, 0)), (218, (0, 160, 1, 1497, 0)), (228, (1, 161, 0, 1481, 0)), (231, (1, 170, 1, 1500, 0)), (241, (0, 163, 1, 1508, 0)), (260, (1, 174, 0, 1557, 0)), (263, (1, 172, 2, 1543, 0)), (267, (1, 173, 1, 1534, 0)), (270, (1, 171, 0, 1539, 0)), (273, (0, 175, 1, 1547, 0)), (276, (1, 178, 0, 1530, 0)), (279, (0, 176, 1, 1550, 0)), (282, (1, 177, 1, 1553, 0)), (286, (1, 179, 1, 1561, 0)), (289, (1, 180, 0, 1526, 0)), (292, (1, 181, 0, 1573, 0)), (295, (1, 184, 0, 1569, 0)), (298, (1, 182, 1, 1577, 0)), (301, (1, 183, 1, 1581, 0)), (304, (0, 186, 2, 1523, 0)), (310, (1, 185, 0, 1565, 0)), (313, (1, 187, 1, 1519, 0)), (316, (1, 188, 2, 1515, 0)), (320, (0, 190, 1, 1589, 0)), (323, (0, 193, 3, 1649, 0)), (327, (1, 194, 2, 1645, 0)), (330, (0, 196, 4, 1606, 0)), (334, (0, 197, 1, 1621, 0)), (337, (0, 198, 1, 1624, 0)), (340, (0, 199, 1, 1627, 0)), (343, (0, 200, 1, 1630, 0)), (346, (1, 166, 1, 1633, 0)), (349, (1, 165, 1, 1637, 0)), (352, (1, 204, 3, 1617, 0)), (356, (1, 195, 2, 1641, 0)), (359, (1, 205, 5, 1613, 0)), (363, (0, 152, 2, 1660, 0)), (366, (0, 151, 2, 1663, 0)), (372, (1, 201, 3, 1596, 0)), (375, (0, 202, 1, 1600, 0)), (378, (0, 203, 4, 1603, 0)), (382, (1, 208, 3, 1609, 0)), (385, (1, 209, 3, 1656, 0)), (388, (1, 210, 3, 1666, 0)), (391, (0, 211, 2, 1670, 0)), (394, (1, 212, 2, 1673, 0)), (401, (1, 215, 2, 1690, 0)), (404, (0, 154, 1, 1702, 0)), (412, (1, 206, 2, 1706, 0)), (415, (1, 207, 2, 1710, 0)), (418, (1, 217, 3, 1714, 0)), (422, (1, 216, 2, 1694, 0)), (425, (1, 218, 2, 1698, 0)), (430, (1, 220, 0, 1682, 0)), (433, (1, 219, 2, 1686, 0)), (440, (1, 224, 3, 1737, 0)), (456, (1, 227, 3, 1749, 0)), (460, (1, 226, 3, 1753, 0)), (463, (1, 225, 2, 1757, 0)), (475, (1, 228, 3, 1745, 0)), (479, (1, 191, 1, 1732, 0)), (484, (1, 229, 2, 1741, 0)), (489, (0, 156, 3, 1766, 0)), (493, (0, 232, 1, 1780, 0)), (496, (1, 233, 1, 1776, 0)), (514, (1, 235, 3, 1791, 0)), (517, (1, 236, 3, 1795, 0)), (520, (1, 237, 2, 1787, 0)), (526, (1, 239, 2, 1803, 0)), (535, (0, 153, 2, 1825, 0)), (538, (1, 244, 4, 1828, 0)), (546, (1, 247, 2, 1841, 0)), (549, (0, 249, 5, 1849, 0)), (553, (1, 251, 0, 1860, 0)), (559, (1, 252, 3, 1856, 0)), (562, (1, 255, 1, 1873, 0)), (565, (0, 259, 3, 1893, 0)), (569, (1, 260, 3, 1889, 0)), (588, (0, 263, 3, 1905, 0)), (592, (1, 266, 1, 1916, 0))],
  [],
  [],
  [],
  [(335, (1, 279, 0, 522, 0)), (492, (1, 280, 0, 512, 0)), (505, (1, 276, 0, 518, 0)), (633, (1, 278, 2, 508, 0)), (637, (0, 283, 4, 526, 0)), (640, (0, 287, 4, 541, 0)), (1062, (0, 292, 4, 561, 0))],
  [(38, (0, 275, 2, 535, 0)), (88, (0, 282, 1, 529, 0)), (92, (0, 274, 2, 532, 0)), (95, (0, 284, 4, 538, 0))],
  [(48, (0, 286, 1, 553, 0)), (71, (0, 285, 2, 567, 0)), (96, (0, 291, 3, 550, 0)), (157, (0, 270, 1, 582, 0)), (161, (0, 271, 1, 586, 0)), (164, (0, 269, 1, 579, 0)), (183, (0, 275, 2, 545, 0)), (224, (0, 274, 2, 544, 0)), (228, (0, 288, 4, 547, 0)), (232, (0, 290, 4, 576, 0)), (241, (0, 281, 3, 556, 0)), (244, (0, 289, 4, 564, 0))],
  []]
def snEq5 (a b : Nat × Nat × Nat × Nat × Nat) : Bool := Nat.beq a.1 b.1 && (Nat.beq a.2.1 b.2.1 && (Nat.beq a.2.2.1 b.2.2.1 && (Nat.beq a.2.2.2.1 b.2.2.2.1 && Nat.beq a.2.2.2.2 b.2.2.2.2)))
theorem snEq5_eq {a b : Nat × Nat × Nat × Nat × Nat} (h : snEq5 a b = true) : a = b := by
  obtain ⟨a1, a2, a3, a4, a5⟩ := a
  obtain ⟨b1, b2, b3, b4, b5⟩ := b
  obtain ⟨h1, h⟩ := snB2 h
  obtain ⟨h2, h⟩ := snB2 h
  obtain ⟨h3, h⟩ := snB2 h
  obtain ⟨h4, h5⟩ := snB2 h
  have e1 : a1 = b1 := Nat.eq_of_beq_eq_true h1
  have e2 : a2 = b2 := Nat.eq_of_beq_eq_true h2
  have e3 : a3 = b3 := Nat.eq_of_beq_eq_true h3
  have e4 : a4 = b4 := Nat.eq_of_beq_eq_true h4
  have e5 : a5 = b5 := Nat.eq_of_beq_eq_true h5
  rw [e1, e2, e3, e4, e5]
def snHas (t : List (Nat × (Nat × Nat × Nat × Nat × Nat))) (k : Nat) (r : Nat × Nat × Nat × Nat × Nat) : Bool := t.any fun q => Nat.beq q.1 k && snEq5 q.2 r
theorem snHas_at {t : List (Nat × (Nat × Nat × Nat × Nat × Nat))} {f : Nat → Nat × Nat × Nat × Nat × Nat → Bool} (ht : t.all (fun q => f q.1 q.2) = true) {k : Nat} {r : Nat × Nat × Nat × Nat × Nat} (h : snHas t k r = true) : f k r = true := by
  obtain ⟨q, hq, h1⟩ := List.any_eq_true.mp h
  obtain ⟨h1, h2⟩ := snB2 h1
  have h3 := List.all_eq_true.mp ht q hq
  rw [Nat.eq_of_beq_eq_true h1, snEq5_eq h2] at h3
  exact h3
theorem snTF0_0 : (((snTF.getD 0 []).drop 0).take 40).all (fun q => snFld "RunForItLaw" q.1 q.2) = true := by decide +kernel
theorem snTM0_0 : (((snTM.getD 0 []).drop 0).take 40).all (fun q => snCall "RunForItLaw" q.1 q.2) = true := by decide +kernel
theorem snTM0_40 : (((snTM.getD 0 []).drop 40).take 40).all (fun q => snCall "RunForItLaw" q.1 q.2) = true := by decide +kernel
theorem snTF1_0 : (((snTF.getD 1 []).drop 0).take 40).all (fun q => snFld "RunForIt$Best" q.1 q.2) = true := by decide +kernel
theorem snTM1_0 : (((snTM.getD 1 []).drop 0).take 40).all (fun q => snCall "RunForIt$Best" q.1 q.2) = true := by decide +kernel
theorem snTF2_0 : (((snTF.getD 2 []).drop 0).take 40).all (fun q => snFld "RunForIt$Course" q.1 q.2) = true := by decide +kernel
theorem snTM2_0 : (((snTM.getD 2 []).drop 0).take 40).all (fun q => snCall "RunForIt$Course" q.1 q.2) = true := by decide +kernel
theorem snTF3_0 : (((snTF.getD 3 []).drop 0).take 40).all (fun q => snFld "RunForIt$Log" q.1 q.2) = true := by decide +kernel
theorem snTM3_0 : (((snTM.getD 3 []).drop 0).take 40).all (fun q => snCall "RunForIt$Log" q.1 q.2) = true := by decide +kernel
theorem snTF4_0 : (((snTF.getD 4 []).drop 0).take 40).all (fun q => snFld "RunForIt$Odds" q.1 q.2) = true := by decide +kernel
theorem snTM4_0 : (((snTM.getD 4 []).drop 0).take 40).all (fun q => snCall "RunForIt$Odds" q.1 q.2) = true := by decide +kernel
theorem snTF5_0 : (((snTF.getD 5 []).drop 0).take 40).all (fun q => snFld "RunForIt$Parser" q.1 q.2) = true := by decide +kernel
theorem snTM5_0 : (((snTM.getD 5 []).drop 0).take 40).all (fun q => snCall "RunForIt$Parser" q.1 q.2) = true := by decide +kernel
theorem snTF6_0 : (((snTF.getD 6 []).drop 0).take 40).all (fun q => snFld "RunForIt$Product" q.1 q.2) = true := by decide +kernel
theorem snTM6_0 : (((snTM.getD 6 []).drop 0).take 40).all (fun q => snCall "RunForIt$Product" q.1 q.2) = true := by decide +kernel
theorem snTF7_0 : (((snTF.getD 7 []).drop 0).take 40).all (fun q => snFld "RunForIt$Queue" q.1 q.2) = true := by decide +kernel
theorem snTM7_0 : (((snTM.getD 7 []).drop 0).take 40).all (fun q => snCall "RunForIt$Queue" q.1 q.2) = true := by decide +kernel
theorem snTF8_0 : (((snTF.getD 8 []).drop 0).take 40).all (fun q => snFld "RunForIt$Ride" q.1 q.2) = true := by decide +kernel
theorem snTM8_0 : (((snTM.getD 8 []).drop 0).take 40).all (fun q => snCall "RunForIt$Ride" q.1 q.2) = true := by decide +kernel
theorem snTF9_0 : (((snTF.getD 9 []).drop 0).take 40).all (fun q => snFld "RunForIt$Store" q.1 q.2) = true := by decide +kernel
theorem snTM9_0 : (((snTM.getD 9 []).drop 0).take 40).all (fun q => snCall "RunForIt$Store" q.1 q.2) = true := by decide +kernel
theorem snTF10_0 : (((snTF.getD 10 []).drop 0).take 40).all (fun q => snFld "RunForIt$Street" q.1 q.2) = true := by decide +kernel
theorem snTM10_0 : (((snTM.getD 10 []).drop 0).take 40).all (fun q => snCall "RunForIt$Street" q.1 q.2) = true := by decide +kernel
theorem snTF11_0 : (((snTF.getD 11 []).drop 0).take 40).all (fun q => snFld "RunForIt$Text" q.1 q.2) = true := by decide +kernel
theorem snTM11_0 : (((snTM.getD 11 []).drop 0).take 40).all (fun q => snCall "RunForIt$Text" q.1 q.2) = true := by decide +kernel
theorem snTF12_0 : (((snTF.getD 12 []).drop 0).take 40).all (fun q => snFld "RunForIt" q.1 q.2) = true := by decide +kernel
theorem snTM12_0 : (((snTM.getD 12 []).drop 0).take 40).all (fun q => snCall "RunForIt" q.1 q.2) = true := by decide +kernel
theorem snTM12_40 : (((snTM.getD 12 []).drop 40).take 40).all (fun q => snCall "RunForIt" q.1 q.2) = true := by decide +kernel
theorem snTF13_0 : (((snTF.getD 13 []).drop 0).take 40).all (fun q => snFld "RunForItModel" q.1 q.2) = true := by decide +kernel
theorem snTF13_40 : (((snTF.getD 13 []).drop 40).take 40).all (fun q => snFld "RunForItModel" q.1 q.2) = true := by decide +kernel
theorem snTF13_80 : (((snTF.getD 13 []).drop 80).take 40).all (fun q => snFld "RunForItModel" q.1 q.2) = true := by decide +kernel
theorem snTM13_0 : (((snTM.getD 13 []).drop 0).take 40).all (fun q => snCall "RunForItModel" q.1 q.2) = true := by decide +kernel
theorem snTM13_40 : (((snTM.getD 13 []).drop 40).take 40).all (fun q => snCall "RunForItModel" q.1 q.2) = true := by decide +kernel
theorem snTM13_80 : (((snTM.getD 13 []).drop 80).take 40).all (fun q => snCall "RunForItModel" q.1 q.2) = true := by decide +kernel
theorem snTF14_0 : (((snTF.getD 14 []).drop 0).take 40).all (fun q => snFld "java/lang/Character" q.1 q.2) = true := by decide +kernel
theorem snTM14_0 : (((snTM.getD 14 []).drop 0).take 40).all (fun q => snCall "java/lang/Character" q.1 q.2) = true := by decide +kernel
theorem snTF15_0 : (((snTF.getD 15 []).drop 0).take 40).all (fun q => snFld "java/lang/Integer" q.1 q.2) = true := by decide +kernel
theorem snTM15_0 : (((snTM.getD 15 []).drop 0).take 40).all (fun q => snCall "java/lang/Integer" q.1 q.2) = true := by decide +kernel
theorem snTF16_0 : (((snTF.getD 16 []).drop 0).take 40).all (fun q => snFld "java/lang/Math" q.1 q.2) = true := by decide +kernel
theorem snTM16_0 : (((snTM.getD 16 []).drop 0).take 40).all (fun q => snCall "java/lang/Math" q.1 q.2) = true := by decide +kernel
theorem snTF17_0 : (((snTF.getD 17 []).drop 0).take 40).all (fun q => snFld "java/lang/String" q.1 q.2) = true := by decide +kernel
theorem snTM17_0 : (((snTM.getD 17 []).drop 0).take 40).all (fun q => snCall "java/lang/String" q.1 q.2) = true := by decide +kernel
theorem snTF18_0 : (((snTF.getD 18 []).drop 0).take 40).all (fun q => snFld "java/lang/StringLatin1" q.1 q.2) = true := by decide +kernel
theorem snTM18_0 : (((snTM.getD 18 []).drop 0).take 40).all (fun q => snCall "java/lang/StringLatin1" q.1 q.2) = true := by decide +kernel
theorem snTF19_0 : (((snTF.getD 19 []).drop 0).take 40).all (fun q => snFld "java/lang/StringUTF16" q.1 q.2) = true := by decide +kernel
theorem snTM19_0 : (((snTM.getD 19 []).drop 0).take 40).all (fun q => snCall "java/lang/StringUTF16" q.1 q.2) = true := by decide +kernel
theorem snTF20_0 : (((snTF.getD 20 []).drop 0).take 40).all (fun q => snFld "jdk/internal/util/Preconditions" q.1 q.2) = true := by decide +kernel
theorem snTM20_0 : (((snTM.getD 20 []).drop 0).take 40).all (fun q => snCall "jdk/internal/util/Preconditions" q.1 q.2) = true := by decide +kernel
theorem snAll40 {α : Type} {t : List α} {f : α → Bool} : ∀ (n : Nat), t.length ≤ 40 * n → (∀ j, j < n → ((t.drop (40 * j)).take 40).all f = true) → t.all f = true := by
  intro n
  induction n generalizing t with
  | zero =>
    intro h _
    have h0 : t = [] := List.eq_nil_of_length_eq_zero (by omega)
    subst h0
    rfl
  | succ n ih =>
    intro h hj
    have h1 := hj 0 (by omega)
    have h2 : (t.drop 40).all f = true := by
      refine ih (by rw [List.length_drop]; omega) (fun j hjn => ?_)
      have h3 := hj (j + 1) (by omega)
      rw [List.drop_drop]
      rw [show 40 * (j + 1) = 40 + 40 * j by omega] at h3
      exact h3
    rw [Nat.mul_zero, List.drop_zero] at h1
    rw [← List.take_append_drop 40 t, List.all_append, h1, h2]
    rfl
theorem snTF0 : ((snTF.getD 0 []).all (fun q => snFld "RunForItLaw" q.1 q.2)) = true := snAll40 1 (by decide) (fun j hj => match j, hj with
  | 0, _ => snTF0_0
  | j + 1, hj => absurd hj (by omega))
theorem snTM0 : ((snTM.getD 0 []).all (fun q => snCall "RunForItLaw" q.1 q.2)) = true := snAll40 2 (by decide) (fun j hj => match j, hj with
  | 0, _ => snTM0_0
  | 1, _ => snTM0_40
  | j + 2, hj => absurd hj (by omega))
theorem snTF1 : ((snTF.getD 1 []).all (fun q => snFld "RunForIt$Best" q.1 q.2)) = true := snAll40 1 (by decide) (fun j hj => match j, hj with
  | 0, _ => snTF1_0
  | j + 1, hj => absurd hj (by omega))
theorem snTM1 : ((snTM.getD 1 []).all (fun q => snCall "RunForIt$Best" q.1 q.2)) = true := snAll40 1 (by decide) (fun j hj => match j, hj with
  | 0, _ => snTM1_0
  | j + 1, hj => absurd hj (by omega))
theorem snTF2 : ((snTF.getD 2 []).all (fun q => snFld "RunForIt$Course" q.1 q.2)) = true := snAll40 1 (by decide) (fun j hj => match j, hj with
  | 0, _ => snTF2_0
  | j + 1, hj => absurd hj (by omega))
theorem snTM2 : ((snTM.getD 2 []).all (fun q => snCall "RunForIt$Course" q.1 q.2)) = true := snAll40 1 (by decide) (fun j hj => match j, hj with
  | 0, _ => snTM2_0
  | j + 1, hj => absurd hj (by omega))
theorem snTF3 : ((snTF.getD 3 []).all (fun q => snFld "RunForIt$Log" q.1 q.2)) = true := snAll40 1 (by decide) (fun j hj => match j, hj with
  | 0, _ => snTF3_0
  | j + 1, hj => absurd hj (by omega))
theorem snTM3 : ((snTM.getD 3 []).all (fun q => snCall "RunForIt$Log" q.1 q.2)) = true := snAll40 1 (by decide) (fun j hj => match j, hj with
  | 0, _ => snTM3_0
  | j + 1, hj => absurd hj (by omega))
theorem snTF4 : ((snTF.getD 4 []).all (fun q => snFld "RunForIt$Odds" q.1 q.2)) = true := snAll40 1 (by decide) (fun j hj => match j, hj with
  | 0, _ => snTF4_0
  | j + 1, hj => absurd hj (by omega))
theorem snTM4 : ((snTM.getD 4 []).all (fun q => snCall "RunForIt$Odds" q.1 q.2)) = true := snAll40 1 (by decide) (fun j hj => match j, hj with
  | 0, _ => snTM4_0
  | j + 1, hj => absurd hj (by omega))
theorem snTF5 : ((snTF.getD 5 []).all (fun q => snFld "RunForIt$Parser" q.1 q.2)) = true := snAll40 1 (by decide) (fun j hj => match j, hj with
  | 0, _ => snTF5_0
  | j + 1, hj => absurd hj (by omega))
theorem snTM5 : ((snTM.getD 5 []).all (fun q => snCall "RunForIt$Parser" q.1 q.2)) = true := snAll40 1 (by decide) (fun j hj => match j, hj with
  | 0, _ => snTM5_0
  | j + 1, hj => absurd hj (by omega))
theorem snTF6 : ((snTF.getD 6 []).all (fun q => snFld "RunForIt$Product" q.1 q.2)) = true := snAll40 1 (by decide) (fun j hj => match j, hj with
  | 0, _ => snTF6_0
  | j + 1, hj => absurd hj (by omega))
theorem snTM6 : ((snTM.getD 6 []).all (fun q => snCall "RunForIt$Product" q.1 q.2)) = true := snAll40 1 (by decide) (fun j hj => match j, hj with
  | 0, _ => snTM6_0
  | j + 1, hj => absurd hj (by omega))
theorem snTF7 : ((snTF.getD 7 []).all (fun q => snFld "RunForIt$Queue" q.1 q.2)) = true := snAll40 1 (by decide) (fun j hj => match j, hj with
  | 0, _ => snTF7_0
  | j + 1, hj => absurd hj (by omega))
theorem snTM7 : ((snTM.getD 7 []).all (fun q => snCall "RunForIt$Queue" q.1 q.2)) = true := snAll40 1 (by decide) (fun j hj => match j, hj with
  | 0, _ => snTM7_0
  | j + 1, hj => absurd hj (by omega))
theorem snTF8 : ((snTF.getD 8 []).all (fun q => snFld "RunForIt$Ride" q.1 q.2)) = true := snAll40 1 (by decide) (fun j hj => match j, hj with
  | 0, _ => snTF8_0
  | j + 1, hj => absurd hj (by omega))
theorem snTM8 : ((snTM.getD 8 []).all (fun q => snCall "RunForIt$Ride" q.1 q.2)) = true := snAll40 1 (by decide) (fun j hj => match j, hj with
  | 0, _ => snTM8_0
  | j + 1, hj => absurd hj (by omega))
theorem snTF9 : ((snTF.getD 9 []).all (fun q => snFld "RunForIt$Store" q.1 q.2)) = true := snAll40 1 (by decide) (fun j hj => match j, hj with
  | 0, _ => snTF9_0
  | j + 1, hj => absurd hj (by omega))
theorem snTM9 : ((snTM.getD 9 []).all (fun q => snCall "RunForIt$Store" q.1 q.2)) = true := snAll40 1 (by decide) (fun j hj => match j, hj with
  | 0, _ => snTM9_0
  | j + 1, hj => absurd hj (by omega))
theorem snTF10 : ((snTF.getD 10 []).all (fun q => snFld "RunForIt$Street" q.1 q.2)) = true := snAll40 1 (by decide) (fun j hj => match j, hj with
  | 0, _ => snTF10_0
  | j + 1, hj => absurd hj (by omega))
theorem snTM10 : ((snTM.getD 10 []).all (fun q => snCall "RunForIt$Street" q.1 q.2)) = true := snAll40 1 (by decide) (fun j hj => match j, hj with
  | 0, _ => snTM10_0
  | j + 1, hj => absurd hj (by omega))
theorem snTF11 : ((snTF.getD 11 []).all (fun q => snFld "RunForIt$Text" q.1 q.2)) = true := snAll40 1 (by decide) (fun j hj => match j, hj with
  | 0, _ => snTF11_0
  | j + 1, hj => absurd hj (by omega))
theorem snTM11 : ((snTM.getD 11 []).all (fun q => snCall "RunForIt$Text" q.1 q.2)) = true := snAll40 1 (by decide) (fun j hj => match j, hj with
  | 0, _ => snTM11_0
  | j + 1, hj => absurd hj (by omega))
theorem snTF12 : ((snTF.getD 12 []).all (fun q => snFld "RunForIt" q.1 q.2)) = true := snAll40 1 (by decide) (fun j hj => match j, hj with
  | 0, _ => snTF12_0
  | j + 1, hj => absurd hj (by omega))
theorem snTM12 : ((snTM.getD 12 []).all (fun q => snCall "RunForIt" q.1 q.2)) = true := snAll40 2 (by decide) (fun j hj => match j, hj with
  | 0, _ => snTM12_0
  | 1, _ => snTM12_40
  | j + 2, hj => absurd hj (by omega))
theorem snTF13 : ((snTF.getD 13 []).all (fun q => snFld "RunForItModel" q.1 q.2)) = true := snAll40 3 (by decide) (fun j hj => match j, hj with
  | 0, _ => snTF13_0
  | 1, _ => snTF13_40
  | 2, _ => snTF13_80
  | j + 3, hj => absurd hj (by omega))
theorem snTM13 : ((snTM.getD 13 []).all (fun q => snCall "RunForItModel" q.1 q.2)) = true := snAll40 3 (by decide) (fun j hj => match j, hj with
  | 0, _ => snTM13_0
  | 1, _ => snTM13_40
  | 2, _ => snTM13_80
  | j + 3, hj => absurd hj (by omega))
theorem snTF14 : ((snTF.getD 14 []).all (fun q => snFld "java/lang/Character" q.1 q.2)) = true := snAll40 1 (by decide) (fun j hj => match j, hj with
  | 0, _ => snTF14_0
  | j + 1, hj => absurd hj (by omega))
theorem snTM14 : ((snTM.getD 14 []).all (fun q => snCall "java/lang/Character" q.1 q.2)) = true := snAll40 1 (by decide) (fun j hj => match j, hj with
  | 0, _ => snTM14_0
  | j + 1, hj => absurd hj (by omega))
theorem snTF15 : ((snTF.getD 15 []).all (fun q => snFld "java/lang/Integer" q.1 q.2)) = true := snAll40 1 (by decide) (fun j hj => match j, hj with
  | 0, _ => snTF15_0
  | j + 1, hj => absurd hj (by omega))
theorem snTM15 : ((snTM.getD 15 []).all (fun q => snCall "java/lang/Integer" q.1 q.2)) = true := snAll40 1 (by decide) (fun j hj => match j, hj with
  | 0, _ => snTM15_0
  | j + 1, hj => absurd hj (by omega))
theorem snTF16 : ((snTF.getD 16 []).all (fun q => snFld "java/lang/Math" q.1 q.2)) = true := snAll40 1 (by decide) (fun j hj => match j, hj with
  | 0, _ => snTF16_0
  | j + 1, hj => absurd hj (by omega))
theorem snTM16 : ((snTM.getD 16 []).all (fun q => snCall "java/lang/Math" q.1 q.2)) = true := snAll40 1 (by decide) (fun j hj => match j, hj with
  | 0, _ => snTM16_0
  | j + 1, hj => absurd hj (by omega))
theorem snTF17 : ((snTF.getD 17 []).all (fun q => snFld "java/lang/String" q.1 q.2)) = true := snAll40 1 (by decide) (fun j hj => match j, hj with
  | 0, _ => snTF17_0
  | j + 1, hj => absurd hj (by omega))
theorem snTM17 : ((snTM.getD 17 []).all (fun q => snCall "java/lang/String" q.1 q.2)) = true := snAll40 1 (by decide) (fun j hj => match j, hj with
  | 0, _ => snTM17_0
  | j + 1, hj => absurd hj (by omega))
theorem snTF18 : ((snTF.getD 18 []).all (fun q => snFld "java/lang/StringLatin1" q.1 q.2)) = true := snAll40 1 (by decide) (fun j hj => match j, hj with
  | 0, _ => snTF18_0
  | j + 1, hj => absurd hj (by omega))
theorem snTM18 : ((snTM.getD 18 []).all (fun q => snCall "java/lang/StringLatin1" q.1 q.2)) = true := snAll40 1 (by decide) (fun j hj => match j, hj with
  | 0, _ => snTM18_0
  | j + 1, hj => absurd hj (by omega))
theorem snTF19 : ((snTF.getD 19 []).all (fun q => snFld "java/lang/StringUTF16" q.1 q.2)) = true := snAll40 1 (by decide) (fun j hj => match j, hj with
  | 0, _ => snTF19_0
  | j + 1, hj => absurd hj (by omega))
theorem snTM19 : ((snTM.getD 19 []).all (fun q => snCall "java/lang/StringUTF16" q.1 q.2)) = true := snAll40 1 (by decide) (fun j hj => match j, hj with
  | 0, _ => snTM19_0
  | j + 1, hj => absurd hj (by omega))
theorem snTF20 : ((snTF.getD 20 []).all (fun q => snFld "jdk/internal/util/Preconditions" q.1 q.2)) = true := snAll40 1 (by decide) (fun j hj => match j, hj with
  | 0, _ => snTF20_0
  | j + 1, hj => absurd hj (by omega))
theorem snTM20 : ((snTM.getD 20 []).all (fun q => snCall "jdk/internal/util/Preconditions" q.1 q.2)) = true := snAll40 1 (by decide) (fun j hj => match j, hj with
  | 0, _ => snTM20_0
  | j + 1, hj => absurd hj (by omega))
/-- the quick check of an instruction -/
def snOkF (ci : Nat) (own : String) (μ pc : Nat) (i : zmI) : Bool := match i.1 with
  | .getfield k => Nat.beq i.2.1 3 && (bif Nat.beq i.2.2.1.1 30 then (match i.2.2.1.2.1 with
      | 0 => snW i.2.2.1.2.2.2.1 (.fieldLink own k "java/lang/String" "value" "[B")
      | 1 => snW i.2.2.1.2.2.2.1 (.fieldLink own k "java/lang/String" "coder" "B")
      | _ => false) else snHas (snTF.getD ci []) k i.2.2.1)
  | .putfield k => Nat.beq i.2.1 3 && (snHas (snTF.getD ci []) k i.2.2.1 && (Nat.beq i.2.2.1.2.2.2.2 0 || !((snC i.2.2.1.1).2.1 i.2.2.1.2.1).2.2.2) && (bif ((snC i.2.2.1.1).2.1 i.2.2.1.2.1).2.2.2 then decide ((snN μ).name = "<init>") && decide (((snC i.2.2.1.1).2.1 i.2.2.1.2.1).1 = own) else true))
  | .invokestatic k => Nat.beq i.2.1 3 && (bif Nat.beq i.2.2.1.1 4 then snW i.2.2.1.2.2.2.1 (.methodLink own k arraycopyName) else Nat.beq i.2.2.1.1 0 && snHas (snTM.getD ci []) k i.2.2.1)
  | .invokevirtual k => Nat.beq i.2.1 3 && (Nat.beq i.2.2.1.1 1 && snHas (snTM.getD ci []) k i.2.2.1)
  | .invokespecial k => Nat.beq i.2.1 3 && (bif Nat.beq i.2.2.1.1 3 then snW i.2.2.1.2.2.2.1 (.methodLink own k objectInit) else Nat.beq i.2.2.1.1 2 && snHas (snTM.getD ci []) k i.2.2.1)
  | _ => snOk2 own μ pc i
theorem snOkF_ok {ci : Nat} {own : String} (hF : ((snTF.getD ci []).all (fun q => snFld own q.1 q.2)) = true) (hM : ((snTM.getD ci []).all (fun q => snCall own q.1 q.2)) = true) {μ pc : Nat} {i : zmI} (h : snOkF ci own μ pc i = true) : snOk2 own μ pc i = true := by
  obtain ⟨ins, len, r5, iv, lv⟩ := i
  cases ins
  case getfield k =>
    have h : (Nat.beq len 3 && (bif Nat.beq r5.1 30 then (match r5.2.1 with
      | 0 => snW r5.2.2.2.1 (.fieldLink own k "java/lang/String" "value" "[B")
      | 1 => snW r5.2.2.2.1 (.fieldLink own k "java/lang/String" "coder" "B")
      | _ => false) else snHas (snTF.getD ci []) k r5)) = true := h
    show (Nat.beq len 3 && (bif Nat.beq r5.1 30 then (match r5.2.1 with
      | 0 => snW r5.2.2.2.1 (.fieldLink own k "java/lang/String" "value" "[B")
      | 1 => snW r5.2.2.2.1 (.fieldLink own k "java/lang/String" "coder" "B")
      | _ => false) else snFld own k r5)) = true
    obtain ⟨h1, h2⟩ := snB2 h
    rw [h1]
    cases hb : Nat.beq r5.1 30 with
    | true => rw [hb] at h2; exact h2
    | false =>
      rw [hb] at h2
      exact snHas_at (f := fun k r => snFld own k r) hF h2
  case putfield k =>
    have h : (Nat.beq len 3 && (snHas (snTF.getD ci []) k r5 && (Nat.beq r5.2.2.2.2 0 || !((snC r5.1).2.1 r5.2.1).2.2.2) && (bif ((snC r5.1).2.1 r5.2.1).2.2.2 then decide ((snN μ).name = "<init>") && decide (((snC r5.1).2.1 r5.2.1).1 = own) else true))) = true := h
    show (Nat.beq len 3 && (snFld own k r5 && (Nat.beq r5.2.2.2.2 0 || !((snC r5.1).2.1 r5.2.1).2.2.2) && (bif ((snC r5.1).2.1 r5.2.1).2.2.2 then decide ((snN μ).name = "<init>") && decide (((snC r5.1).2.1 r5.2.1).1 = own) else true))) = true
    obtain ⟨h1, h2⟩ := snB2 h
    obtain ⟨h2, h3⟩ := snB2 h2
    obtain ⟨h2, h4⟩ := snB2 h2
    rw [h1, h3, h4, snHas_at (f := fun k r => snFld own k r) hF h2]
    rfl
  case invokestatic k =>
    have h : (Nat.beq len 3 && (bif Nat.beq r5.1 4 then snW r5.2.2.2.1 (.methodLink own k arraycopyName) else Nat.beq r5.1 0 && snHas (snTM.getD ci []) k r5)) = true := h
    show (Nat.beq len 3 && (bif Nat.beq r5.1 4 then snW r5.2.2.2.1 (.methodLink own k arraycopyName) else Nat.beq r5.1 0 && snCall own k r5)) = true
    obtain ⟨h1, h2⟩ := snB2 h
    rw [h1]
    cases hb : Nat.beq r5.1 4 with
    | true => rw [hb] at h2; exact h2
    | false =>
      rw [hb] at h2
      obtain ⟨h3, h4⟩ := snB2 h2
      rw [h3]
      exact snHas_at (f := fun k r => snCall own k r) hM h4
  case invokevirtual k =>
    have h : (Nat.beq len 3 && (Nat.beq r5.1 1 && snHas (snTM.getD ci []) k r5)) = true := h
    show (Nat.beq len 3 && (Nat.beq r5.1 1 && snCall own k r5)) = true
    obtain ⟨h1, h2⟩ := snB2 h
    obtain ⟨h3, h4⟩ := snB2 h2
    rw [h1, h3]
    exact snHas_at (f := fun k r => snCall own k r) hM h4
  case invokespecial k =>
    have h : (Nat.beq len 3 && (bif Nat.beq r5.1 3 then snW r5.2.2.2.1 (.methodLink own k objectInit) else Nat.beq r5.1 2 && snHas (snTM.getD ci []) k r5)) = true := h
    show (Nat.beq len 3 && (bif Nat.beq r5.1 3 then snW r5.2.2.2.1 (.methodLink own k objectInit) else Nat.beq r5.1 2 && snCall own k r5)) = true
    obtain ⟨h1, h2⟩ := snB2 h
    rw [h1]
    cases hb : Nat.beq r5.1 3 with
    | true => rw [hb] at h2; exact h2
    | false =>
      rw [hb] at h2
      obtain ⟨h3, h4⟩ := snB2 h2
      rw [h3]
      exact snHas_at (f := fun k r => snCall own k r) hM h4
  all_goals exact h
def snAllF (ci μ : Nat) : Bool := (List.range (16 * (zmAt [] zmCodeT μ).length)).all fun pc => match zmFetch μ pc with
  | none => true
  | some i => decide (decode (snB μ) pc = .ok (i.1, i.2.1)) && snOkF ci (snN μ).cls μ pc i
theorem snAllF_ok {ci μ : Nat} {own : String} (ho : (snN μ).cls = own) (hF : ((snTF.getD ci []).all (fun q => snFld own q.1 q.2)) = true) (hM : ((snTM.getD ci []).all (fun q => snCall own q.1 q.2)) = true) (h : snAllF ci μ = true) : snAll μ = true := by
  refine List.all_eq_true.mpr (fun pc hpc => ?_)
  have h1 := List.all_eq_true.mp h pc hpc
  cases hf : zmFetch μ pc with
  | none => rfl
  | some i =>
    rw [hf] at h1
    obtain ⟨h2, h3⟩ := snB2 h1
    show snOk μ pc i = true
    unfold snOk
    rw [h2]
    rw [ho] at h3 ⊢
    exact snOkF_ok hF hM h3
