def pb_OW : List String := ["PointedBench$County", "PointedBench$Course", "PointedBench$Duels", "PointedBench$Likings", "PointedBench$Lines", "PointedBench$Poll", "PointedBench$Reader", "PointedBench$Told", "PointedBench$Trial", "PointedBench$Wings", "PointedBench", "PointedBenchModel", "PointedBenchLaw", "java/lang/Integer", "java/util/Arrays"]
def pb_own (k : Nat) : String := pb_OW.getD k ""
def pb_T (a b : Nat) : String × String × String × Bool := match pb_cl[a]? with | some q => q.2.1 b | none => ("", "", "", false)
def pb_FLs : List (List (Nat × Nat × Nat × Nat)) := [[(9, 0, 2, 184), (15, 0, 3, 187), (18, 0, 4, 192), (21, 0, 5, 196), (24, 0, 6, 201), (27, 0, 7, 205), (30, 0, 0, 171), (34, 0, 1, 177)], [(12, 1, 0, 440), (21, 1, 1, 441), (25, 1, 2, 442), (29, 1, 3, 443), (36, 1, 4, 444), (40, 1, 5, 445), (43, 1, 6, 446), (46, 1, 7, 447), (53, 4, 1, 243), (58, 4, 2, 246), (61, 4, 3, 249), (64, 4, 4, 251), (101, 0, 3, 189), (107, 0, 6, 203), (110, 0, 7, 206), (122, 0, 5, 199), (125, 0, 1, 181), (128, 0, 4, 194), (143, 5, 0, 362), (146, 1, 8, 448), (159, 0, 0, 176), (162, 4, 0, 240)], [(9, 2, 0, 405), (15, 2, 2, 408), (18, 2, 3, 409), (21, 0, 0, 172), (27, 2, 1, 407), (34, 0, 1, 178)], [(11, 3, 1, 478), (15, 3, 2, 479), (18, 3, 3, 480), (21, 3, 4, 481), (27, 3, 0, 476), (35, 4, 0, 237), (40, 4, 2, 245), (47, 4, 3, 248), (50, 4, 1, 242)], [(15, 4, 1, 241), (21, 4, 2, 244), (24, 4, 3, 247), (27, 4, 4, 250), (30, 4, 5, 252), (34, 4, 0, 236)], [(9, 5, 2, 365), (15, 5, 0, 360), (19, 0, 0, 173), (24, 5, 1, 364)], [(12, 6, 0, 308), (23, 6, 1, 310), (27, 6, 2, 312), (30, 6, 12, 325), (38, 6, 6, 319), (45, 6, 7, 320), (48, 6, 3, 314), (62, 6, 8, 321), (65, 6, 4, 316), (68, 6, 5, 318), (78, 6, 9, 322), (81, 6, 10, 323), (84, 6, 11, 324), (90, 4, 0, 238), (142, 0, 0, 175), (143, 0, 1, 182), (151, 0, 2, 185), (154, 0, 4, 195), (157, 0, 5, 200), (160, 0, 3, 190), (166, 0, 6, 204), (169, 0, 7, 207)], [(12, 7, 0, 266), (23, 7, 1, 267), (27, 7, 2, 268), (30, 7, 3, 269), (34, 7, 4, 271), (38, 7, 7, 277), (42, 7, 5, 274), (58, 7, 6, 275), (65, 6, 0, 309), (71, 6, 1, 311), (75, 6, 2, 313)], [(12, 8, 0, 383), (21, 8, 1, 384), (33, 5, 0, 361), (40, 0, 1, 180), (43, 0, 4, 193), (47, 0, 5, 198), (56, 0, 3, 188), (68, 0, 0, 174), (74, 8, 2, 385), (77, 8, 3, 386), (80, 8, 4, 387)], [(9, 9, 0, 425), (19, 0, 1, 179), (25, 0, 5, 197), (32, 0, 6, 202)], [(10, 10, 0, 493), (16, 10, 1, 494), (20, 10, 2, 495), (27, 10, 3, 496), (34, 10, 4, 497), (41, 10, 5, 498), (48, 10, 6, 499), (55, 10, 7, 500), (62, 10, 8, 501), (69, 10, 9, 502), (73, 7, 5, 273), (81, 7, 6, 276), (84, 7, 7, 278), (91, 7, 4, 272), (99, 6, 3, 315), (100, 6, 4, 317), (127, 4, 0, 239), (161, 5, 0, 363), (184, 0, 2, 186), (238, 0, 1, 183), (245, 0, 3, 191), (263, 2, 0, 406), (277, 9, 0, 426), (311, 3, 0, 477), (320, 7, 3, 270)], [(7, 11, 1, 1264), (13, 11, 2, 1265), (17, 11, 3, 1266), (20, 11, 4, 1267), (23, 11, 5, 1268), (26, 11, 6, 1269), (29, 11, 7, 1270), (32, 11, 8, 1271), (35, 11, 18, 1281), (38, 11, 19, 1282), (41, 11, 30, 1293), (44, 11, 31, 1294), (47, 11, 32, 1295), (50, 11, 33, 1296), (53, 11, 34, 1297), (56, 11, 35, 1298), (59, 11, 37, 1300), (62, 11, 40, 1303), (65, 11, 43, 1306), (68, 11, 44, 1307), (71, 11, 45, 1308), (74, 11, 46, 1309), (77, 11, 51, 1314), (81, 11, 0, 1263), (101, 11, 9, 1272), (104, 11, 10, 1273), (111, 11, 11, 1274), (114, 11, 14, 1277), (118, 11, 12, 1275), (121, 11, 13, 1276), (124, 11, 15, 1278), (127, 11, 16, 1279), (130, 11, 17, 1280), (141, 11, 22, 1285), (172, 11, 20, 1283), (179, 11, 21, 1284), (230, 11, 23, 1286), (237, 11, 24, 1287), (240, 11, 25, 1288), (243, 11, 26, 1289), (246, 11, 27, 1290), (249, 11, 28, 1291), (252, 11, 29, 1292), (285, 11, 36, 1299), (369, 11, 38, 1301), (381, 11, 39, 1302), (402, 11, 41, 1304), (421, 11, 42, 1305), (498, 11, 47, 1310), (501, 11, 48, 1311), (504, 11, 49, 1312), (507, 11, 50, 1313)], [], [], []]
def pb_MKs : List (List (Nat × Nat × Nat)) := [[(3, 1001, 170), (37, 306, 563), (43, 1000, 676), (49, 6, 701), (53, 3, 709), (57, 4, 705), (60, 9, 781), (64, 14, 1008), (68, 15, 1016), (71, 16, 1020), (74, 17, 1024), (81, 19, 1034), (84, 10, 1012), (87, 18, 1028), (90, 305, 1032), (95, 1003, 1038), (100, 11, 1063), (103, 1005, 1091), (106, 24, 1102), (109, 7, 1106), (112, 26, 1144)], [(3, 1001, 435), (11, 0, 437), (20, 75, 439), (32, 2, 733), (49, 30, 738), (67, 31, 742), (71, 32, 746), (75, 33, 751), (79, 34, 756), (83, 35, 761), (87, 76, 769), (90, 77, 785), (94, 36, 789), (98, 3, 750), (104, 4, 755), (113, 1004, 760), (119, 12, 765), (131, 1003, 793), (134, 6, 802), (137, 38, 803), (140, 11, 807), (149, 41, 961), (156, 40, 967), (165, 306, 1201), (171, 46, 1202), (175, 48, 1214), (178, 305, 1218)], [(3, 1001, 404), (28, 306, 980), (37, 7, 981), (41, 51, 982), (45, 9, 986), (49, 52, 999), (52, 56, 1115), (56, 57, 1119), (60, 58, 1123)], [(3, 1001, 473), (31, 61, 926), (43, 62, 930), (53, 305, 934), (59, 65, 939), (63, 64, 949), (66, 66, 943), (69, 1003, 948), (74, 306, 947), (80, 1004, 1239)], [(3, 1001, 232), (9, 1003, 233), (37, 71, 666), (41, 1000, 683)], [(3, 1001, 359), (25, 7, 773), (29, 11, 777), (33, 78, 848), (37, 77, 852), (41, 305, 853), (46, 9, 1135)], [(3, 1001, 303), (11, 0, 305), (20, 70, 307), (34, 86, 552), (42, 88, 566), (51, 98, 576), (55, 87, 580), (58, 91, 584), (72, 1004, 556), (87, 1, 559), (93, 89, 570), (97, 90, 573), (100, 92, 588), (104, 94, 639), (107, 306, 647), (116, 95, 650), (120, 96, 654), (124, 97, 658), (131, 93, 594), (136, 1002, 599), (144, 71, 643), (147, 72, 662), (163, 1003, 667)], [(3, 1001, 163), (11, 0, 167), (20, 70, 229), (45, 2, 672), (49, 73, 679), (52, 1000, 1252), (61, 103, 544), (78, 1003, 684)], [(3, 1001, 378), (11, 0, 380), (20, 75, 382), (25, 76, 834), (29, 77, 835), (37, 2, 823), (50, 1003, 896), (59, 305, 824), (64, 109, 830), (71, 11, 875), (83, 117, 884), (87, 116, 888), (91, 118, 892), (95, 1004, 897)], [(3, 1001, 424), (15, 121, 1156), (28, 122, 1160)], [(1, 1001, 155), (9, 99, 160), (26, 84, 300), (33, 75, 356), (40, 108, 375), (47, 49, 401), (54, 119, 421), (61, 27, 432), (68, 59, 470), (77, 100, 528), (87, 102, 540), (95, 85, 548), (101, 104, 668), (105, 105, 693), (109, 5, 697), (115, 106, 717), (119, 74, 721), (123, 28, 729), (130, 29, 734), (134, 37, 798), (135, 76, 812), (138, 77, 813), (141, 3, 818), (145, 112, 819), (149, 164, 836), (153, 79, 844), (156, 7, 858), (164, 82, 860), (167, 305, 839), (172, 165, 864), (176, 113, 871), (180, 115, 880), (190, 166, 903), (194, 8, 906), (198, 107, 914), (201, 60, 922), (205, 63, 935), (206, 39, 957), (210, 50, 976), (213, 52, 987), (216, 53, 995), (219, 54, 1000), (222, 13, 1004), (225, 81, 1043), (228, 114, 1051), (232, 20, 1059), (235, 21, 1068), (241, 12, 1076), (248, 10, 1081), (251, 4, 1086), (254, 22, 1087), (257, 23, 1098), (260, 55, 1111), (266, 83, 1131), (269, 25, 1140), (273, 120, 1152), (280, 111, 1168), (284, 109, 1172), (287, 110, 1173), (289, 80, 1181), (292, 42, 1189), (296, 43, 1193), (299, 44, 1197), (302, 45, 1206), (305, 47, 1210), (308, 67, 1223), (314, 69, 1231), (317, 68, 1235), (323, 101, 1248)], [(1, 1001, 1262), (85, 169, 1623), (89, 173, 1966), (93, 168, 1432), (97, 177, 1424), (107, 179, 1451), (133, 181, 1480), (137, 182, 1472), (145, 180, 1447), (148, 184, 1468), (152, 183, 1476), (157, 185, 1464), (163, 186, 1485), (175, 170, 1492), (196, 189, 1499), (200, 188, 1510), (207, 187, 1459), (211, 190, 1495), (214, 191, 1514), (217, 192, 1455), (220, 175, 1439), (223, 193, 1443), (226, 194, 1520), (233, 197, 1536), (255, 199, 1540), (258, 202, 1634), (261, 204, 1619), (264, 205, 1626), (267, 206, 1615), (270, 207, 1611), (273, 208, 1607), (276, 209, 1630), (279, 198, 1532), (282, 201, 1544), (288, 214, 1552), (291, 212, 1556), (294, 213, 1560), (297, 171, 1600), (300, 200, 1588), (303, 216, 1596), (306, 218, 1584), (309, 219, 1592), (313, 210, 1603), (316, 217, 1638), (319, 220, 1580), (322, 221, 1576), (325, 223, 1568), (328, 222, 1572), (331, 203, 1650), (334, 225, 1654), (337, 226, 1646), (340, 172, 1666), (343, 230, 1673), (347, 232, 1689), (355, 234, 1683), (359, 233, 1686), (363, 236, 1696), (366, 238, 1704), (372, 239, 1707), (376, 240, 1711), (384, 245, 1724), (387, 244, 1728), (390, 243, 1732), (393, 247, 1754), (396, 248, 1751), (399, 249, 1748), (405, 250, 1744), (409, 252, 1766), (412, 251, 1740), (415, 254, 1757), (418, 253, 1761), (425, 256, 1778), (428, 257, 1774), (431, 259, 1791), (434, 260, 1787), (437, 267, 1823), (440, 263, 1799), (443, 262, 1803), (446, 264, 1807), (449, 265, 1811), (452, 266, 1815), (455, 268, 1819), (458, 269, 1827), (461, 273, 1843), (464, 279, 1867), (467, 281, 1883), (470, 283, 1875), (473, 282, 1879), (476, 286, 1895), (480, 289, 1911), (483, 290, 1915), (486, 288, 1903), (489, 291, 1907), (492, 295, 1935), (495, 296, 1939), (510, 297, 1931), (513, 298, 1943), (517, 174, 1962)], [(9, 123, 152), (12, 167, 1259), (13, 124, 524), (17, 176, 1420), (18, 125, 532), (22, 178, 1428), (23, 126, 536), (27, 195, 1435), (28, 127, 685), (31, 196, 1524), (32, 128, 689), (35, 211, 1528), (36, 129, 713), (40, 215, 1548), (41, 130, 725), (44, 224, 1564), (45, 131, 794), (49, 227, 1642), (50, 132, 808), (53, 228, 1658), (54, 133, 814), (58, 229, 1662), (59, 134, 840), (62, 231, 1669), (63, 135, 854), (67, 235, 1677), (68, 136, 867), (72, 237, 1692), (73, 137, 876), (77, 241, 1700), (78, 138, 898), (82, 242, 1715), (83, 139, 910), (86, 246, 1720), (87, 140, 918), (90, 255, 1736), (91, 141, 953), (94, 258, 1770), (95, 142, 972), (98, 261, 1783), (99, 143, 991), (102, 270, 1795), (103, 144, 1039), (106, 271, 1831), (107, 145, 1047), (110, 272, 1835), (111, 146, 1055), (114, 274, 1839), (115, 147, 1064), (118, 275, 1847), (119, 148, 1072), (122, 276, 1851), (123, 149, 1077), (126, 277, 1855), (127, 150, 1082), (130, 278, 1859), (131, 151, 1094), (134, 280, 1863), (135, 152, 1107), (138, 284, 1871), (139, 153, 1127), (142, 285, 1887), (143, 154, 1136), (147, 287, 1891), (148, 155, 1148), (151, 292, 1899), (152, 156, 1164), (155, 293, 1919), (156, 157, 1177), (159, 294, 1923), (160, 158, 1185), (163, 299, 1927), (164, 159, 1219), (168, 300, 1946), (169, 160, 1227), (172, 301, 1950), (173, 161, 1240), (176, 302, 1954), (177, 162, 1244), (181, 303, 1958), (182, 163, 1253), (185, 304, 1969)], [], []]
def pb_CLs : List (List (Nat × Nat × Nat)) := [[], [(9, 0, 436), (18, 5, 438)], [], [], [], [], [(9, 0, 304), (18, 4, 306)], [(9, 0, 164), (18, 4, 226)], [(9, 0, 379), (18, 5, 381)], [], [(7, 7, 158), (24, 6, 298), (31, 5, 354), (38, 8, 373), (45, 2, 399), (52, 9, 419), (59, 1, 430), (66, 3, 468)], [], [(7, 10, 150), (10, 11, 1257)], [], []]
def pb_ALs : List (List (Nat × Nat × Nat)) := [[], [], [], [], [], [], [], [(9, 15, 164), (18, 16, 226)], [], [], [(7, 17, 158)], [], [], [], []]
def pb_ICs : List (List (Nat × Nat × Nat)) := [[], [(152, 0, 971)], [], [], [], [], [], [], [], [], [], [(408, 1, 1765), (424, 0, 1782)], [], [(265, 2, 827), (266, 3, 828), (267, 4, 829)], []]
def pb_LCs : List (List (Nat × Nat × Nat)) := [[], [], [], [], [], [], [], [], [], [], [(159, 0, 859), (188, 1, 902)], [(155, 2, 1463), (161, 3, 1484), (166, 4, 1489), (168, 5, 1490), (170, 6, 1491), (182, 7, 1503), (184, 8, 1504), (186, 9, 1505), (188, 10, 1506), (190, 11, 1507), (192, 12, 1508), (194, 13, 1509), (203, 14, 1518), (205, 15, 1519), (351, 0, 1681), (353, 16, 1682), (379, 1, 1719)], [], [], []]
def pb_GSs : List (List (Nat × Nat × Nat)) := [[], [(153, 1, 965)], [], [(24, 2, 474)], [], [], [(113, 3, 648), (128, 4, 592)], [], [], [], [], [], [], [], []]
def pb_MT : List (MethodName × ByteArray × Option FieldType × Nat) := [(({ cls := "PointedBench$County", name := "<init>", desc := "()V" } : Jvm.MethodName), prog_2_method_1_code, (Option.none : Option Jvm.ClassFile.FieldType), 0), (({ cls := "PointedBench$County", name := "clear", desc := "()V" } : Jvm.MethodName), prog_2_method_2_code, (Option.none : Option Jvm.ClassFile.FieldType), 0), (({ cls := "PointedBench$County", name := "take", desc := "(LPointedBench$County;)V" } : Jvm.MethodName), prog_2_method_3_code, (Option.none : Option Jvm.ClassFile.FieldType), 0), (({ cls := "PointedBench$County", name := "hasMan", desc := "(I)Z" } : Jvm.MethodName), prog_2_method_4_code, (Option.some Jvm.ClassFile.FieldType.boolean), 0), (({ cls := "PointedBench$County", name := "hasChild", desc := "(I)Z" } : Jvm.MethodName), prog_2_method_5_code, (Option.some Jvm.ClassFile.FieldType.boolean), 0), (({ cls := "PointedBench$County", name := "told", desc := "(I)I" } : Jvm.MethodName), prog_2_method_6_code, (Option.some Jvm.ClassFile.FieldType.int), 0), (({ cls := "PointedBench$County", name := "likesTold", desc := "(I)I" } : Jvm.MethodName), prog_2_method_7_code, (Option.some Jvm.ClassFile.FieldType.int), 0), (({ cls := "PointedBench$County", name := "votes", desc := "(I)Z" } : Jvm.MethodName), prog_2_method_8_code, (Option.some Jvm.ClassFile.FieldType.boolean), 0), (({ cls := "PointedBench$County", name := "fathersIn", desc := "()I" } : Jvm.MethodName), prog_2_method_9_code, (Option.some Jvm.ClassFile.FieldType.int), 0), (({ cls := "PointedBench$County", name := "regard", desc := "(II)I" } : Jvm.MethodName), prog_2_method_10_code, (Option.some Jvm.ClassFile.FieldType.int), 0), (({ cls := "PointedBench$County", name := "sweetness", desc := "(I)I" } : Jvm.MethodName), prog_2_method_11_code, (Option.some Jvm.ClassFile.FieldType.int), 0), (({ cls := "PointedBench$County", name := "pointOf", desc := "(II)I" } : Jvm.MethodName), prog_2_method_12_code, (Option.some Jvm.ClassFile.FieldType.int), 0), (({ cls := "PointedBench$County", name := "wouldFree", desc := "(II)Z" } : Jvm.MethodName), prog_2_method_13_code, (Option.some Jvm.ClassFile.FieldType.boolean), 0), (({ cls := "PointedBench$County", name := "outstanding", desc := "(I)I" } : Jvm.MethodName), prog_2_method_14_code, (Option.some Jvm.ClassFile.FieldType.int), 0), (({ cls := "PointedBench$County", name := "sweetest", desc := "()I" } : Jvm.MethodName), prog_2_method_15_code, (Option.some Jvm.ClassFile.FieldType.int), 0), (({ cls := "PointedBench$County", name := "rarest", desc := "()I" } : Jvm.MethodName), prog_2_method_16_code, (Option.some Jvm.ClassFile.FieldType.int), 0), (({ cls := "PointedBench$County", name := "twins", desc := "()I" } : Jvm.MethodName), prog_2_method_17_code, (Option.some Jvm.ClassFile.FieldType.int), 0), (({ cls := "PointedBench$County", name := "guards", desc := "()I" } : Jvm.MethodName), prog_2_method_18_code, (Option.some Jvm.ClassFile.FieldType.int), 0), (({ cls := "PointedBench$County", name := "traitsOf", desc := "(I)I" } : Jvm.MethodName), prog_2_method_19_code, (Option.some Jvm.ClassFile.FieldType.int), 0), (({ cls := "PointedBench$County", name := "longest", desc := "()I" } : Jvm.MethodName), prog_2_method_20_code, (Option.some Jvm.ClassFile.FieldType.int), 0), (({ cls := "PointedBench$County", name := "greatestGang", desc := "()I" } : Jvm.MethodName), prog_2_method_21_code, (Option.some Jvm.ClassFile.FieldType.int), 0), (({ cls := "PointedBench$County", name := "byKindness", desc := "(I)I" } : Jvm.MethodName), prog_2_method_22_code, (Option.some Jvm.ClassFile.FieldType.int), 0), (({ cls := "PointedBench$County", name := "distance", desc := "(II)I" } : Jvm.MethodName), prog_2_method_23_code, (Option.some Jvm.ClassFile.FieldType.int), 0), (({ cls := "PointedBench$County", name := "goingAt", desc := "(I)I" } : Jvm.MethodName), prog_2_method_24_code, (Option.some Jvm.ClassFile.FieldType.int), 0), (({ cls := "PointedBench$County", name := "weakest", desc := "(I)I" } : Jvm.MethodName), prog_2_method_25_code, (Option.some Jvm.ClassFile.FieldType.int), 0), (({ cls := "PointedBench$County", name := "fewestBuns", desc := "(IIZ)I" } : Jvm.MethodName), prog_2_method_26_code, (Option.some Jvm.ClassFile.FieldType.int), 0), (({ cls := "PointedBench$County", name := "bunsOf", desc := "(III)I" } : Jvm.MethodName), prog_2_method_27_code, (Option.some Jvm.ClassFile.FieldType.int), 0), (({ cls := "PointedBench$Course", name := "<init>", desc := "()V" } : Jvm.MethodName), prog_3_method_1_code, (Option.none : Option Jvm.ClassFile.FieldType), 1), (({ cls := "PointedBench$Course", name := "begin", desc := "(LPointedBench$County;)V" } : Jvm.MethodName), prog_3_method_2_code, (Option.none : Option Jvm.ClassFile.FieldType), 1), (({ cls := "PointedBench$Course", name := "follow", desc := "(LPointedBench$Lines;I)I" } : Jvm.MethodName), prog_3_method_3_code, (Option.some Jvm.ClassFile.FieldType.int), 1), (({ cls := "PointedBench$Course", name := "doDeed", desc := "(LPointedBench$Lines;I)Z" } : Jvm.MethodName), prog_3_method_4_code, (Option.some Jvm.ClassFile.FieldType.boolean), 1), (({ cls := "PointedBench$Course", name := "act", desc := "(IIII)Z" } : Jvm.MethodName), prog_3_method_5_code, (Option.some Jvm.ClassFile.FieldType.boolean), 1), (({ cls := "PointedBench$Course", name := "turnTrait", desc := "(IIZ)Z" } : Jvm.MethodName), prog_3_method_6_code, (Option.some Jvm.ClassFile.FieldType.boolean), 1), (({ cls := "PointedBench$Course", name := "frighten", desc := "(II)Z" } : Jvm.MethodName), prog_3_method_7_code, (Option.some Jvm.ClassFile.FieldType.boolean), 1), (({ cls := "PointedBench$Course", name := "indulge", desc := "(III)Z" } : Jvm.MethodName), prog_3_method_8_code, (Option.some Jvm.ClassFile.FieldType.boolean), 1), (({ cls := "PointedBench$Course", name := "letOut", desc := "(I)Z" } : Jvm.MethodName), prog_3_method_9_code, (Option.some Jvm.ClassFile.FieldType.boolean), 1), (({ cls := "PointedBench$Course", name := "passYear", desc := "()Z" } : Jvm.MethodName), prog_3_method_10_code, (Option.some Jvm.ClassFile.FieldType.boolean), 1), (({ cls := "PointedBench$Course", name := "told", desc := "(I)I" } : Jvm.MethodName), prog_3_method_11_code, (Option.some Jvm.ClassFile.FieldType.int), 1), (({ cls := "PointedBench$Course", name := "toldOfAll", desc := "(I)I" } : Jvm.MethodName), prog_3_method_12_code, (Option.some Jvm.ClassFile.FieldType.int), 1), (({ cls := "PointedBench$Course", name := "draw", desc := "(II)V" } : Jvm.MethodName), prog_3_method_13_code, (Option.none : Option Jvm.ClassFile.FieldType), 1), (({ cls := "PointedBench$Course", name := "below", desc := "(I)I" } : Jvm.MethodName), prog_3_method_14_code, (Option.some Jvm.ClassFile.FieldType.int), 1), (({ cls := "PointedBench$Course", name := "drawDeed", desc := "()V" } : Jvm.MethodName), prog_3_method_15_code, (Option.none : Option Jvm.ClassFile.FieldType), 1), (({ cls := "PointedBench$Course", name := "firstReign", desc := "(LPointedBench$Lines;)I" } : Jvm.MethodName), prog_3_method_16_code, (Option.some Jvm.ClassFile.FieldType.int), 1), (({ cls := "PointedBench$Course", name := "changes", desc := "(LPointedBench$Lines;)I" } : Jvm.MethodName), prog_3_method_17_code, (Option.some Jvm.ClassFile.FieldType.int), 1), (({ cls := "PointedBench$Course", name := "longestReign", desc := "(LPointedBench$Lines;)I" } : Jvm.MethodName), prog_3_method_18_code, (Option.some Jvm.ClassFile.FieldType.int), 1), (({ cls := "PointedBench$Course", name := "mostFickle", desc := "(LPointedBench$Lines;)I" } : Jvm.MethodName), prog_3_method_19_code, (Option.some Jvm.ClassFile.FieldType.int), 1), (({ cls := "PointedBench$Course", name := "mostTimes", desc := "()I" } : Jvm.MethodName), prog_3_method_20_code, (Option.some Jvm.ClassFile.FieldType.int), 1), (({ cls := "PointedBench$Course", name := "gains", desc := "(LPointedBench$Lines;I)I" } : Jvm.MethodName), prog_3_method_21_code, (Option.some Jvm.ClassFile.FieldType.int), 1), (({ cls := "PointedBench$Course", name := "bitsOf", desc := "(I)I" } : Jvm.MethodName), prog_3_method_22_code, (Option.some Jvm.ClassFile.FieldType.int), 1), (({ cls := "PointedBench$Duels", name := "<init>", desc := "()V" } : Jvm.MethodName), prog_4_method_1_code, (Option.none : Option Jvm.ClassFile.FieldType), 2), (({ cls := "PointedBench$Duels", name := "hold", desc := "(LPointedBench$County;)V" } : Jvm.MethodName), prog_4_method_2_code, (Option.none : Option Jvm.ClassFile.FieldType), 2), (({ cls := "PointedBench$Duels", name := "holdBefore", desc := "(LPointedBench$County;I)V" } : Jvm.MethodName), prog_4_method_3_code, (Option.none : Option Jvm.ClassFile.FieldType), 2), (({ cls := "PointedBench$Duels", name := "won", desc := "(II)I" } : Jvm.MethodName), prog_4_method_4_code, (Option.some Jvm.ClassFile.FieldType.int), 2), (({ cls := "PointedBench$Duels", name := "winner", desc := "()I" } : Jvm.MethodName), prog_4_method_5_code, (Option.some Jvm.ClassFile.FieldType.int), 2), (({ cls := "PointedBench$Duels", name := "scoreOf", desc := "(I)I" } : Jvm.MethodName), prog_4_method_6_code, (Option.some Jvm.ClassFile.FieldType.int), 2), (({ cls := "PointedBench$Duels", name := "findRow", desc := "(I)Z" } : Jvm.MethodName), prog_4_method_7_code, (Option.some Jvm.ClassFile.FieldType.boolean), 2), (({ cls := "PointedBench$Duels", name := "staysOfRow", desc := "()I" } : Jvm.MethodName), prog_4_method_8_code, (Option.some Jvm.ClassFile.FieldType.int), 2), (({ cls := "PointedBench$Duels", name := "nextRow", desc := "()Z" } : Jvm.MethodName), prog_4_method_9_code, (Option.some Jvm.ClassFile.FieldType.boolean), 2), (({ cls := "PointedBench$Duels", name := "swap", desc := "(II)V" } : Jvm.MethodName), prog_4_method_10_code, (Option.none : Option Jvm.ClassFile.FieldType), 2), (({ cls := "PointedBench$Likings", name := "<init>", desc := "()V" } : Jvm.MethodName), prog_5_method_1_code, (Option.none : Option Jvm.ClassFile.FieldType), 3), (({ cls := "PointedBench$Likings", name := "gather", desc := "(LPointedBench$Lines;)V" } : Jvm.MethodName), prog_5_method_2_code, (Option.none : Option Jvm.ClassFile.FieldType), 3), (({ cls := "PointedBench$Likings", name := "fitsAll", desc := "(LPointedBench$Lines;I)Z" } : Jvm.MethodName), prog_5_method_3_code, (Option.some Jvm.ClassFile.FieldType.boolean), 3), (({ cls := "PointedBench$Likings", name := "sumOf", desc := "(II)I" } : Jvm.MethodName), prog_5_method_4_code, (Option.some Jvm.ClassFile.FieldType.int), 3), (({ cls := "PointedBench$Likings", name := "told", desc := "(I)I" } : Jvm.MethodName), prog_5_method_5_code, (Option.some Jvm.ClassFile.FieldType.int), 3), (({ cls := "PointedBench$Likings", name := "sureOf", desc := "(I)I" } : Jvm.MethodName), prog_5_method_6_code, (Option.some Jvm.ClassFile.FieldType.int), 3), (({ cls := "PointedBench$Likings", name := "bestQuestion", desc := "()I" } : Jvm.MethodName), prog_5_method_7_code, (Option.some Jvm.ClassFile.FieldType.int), 3), (({ cls := "PointedBench$Likings", name := "compareAll", desc := "()V" } : Jvm.MethodName), prog_5_method_8_code, (Option.none : Option Jvm.ClassFile.FieldType), 3), (({ cls := "PointedBench$Likings", name := "preferring", desc := "(II)I" } : Jvm.MethodName), prog_5_method_9_code, (Option.some Jvm.ClassFile.FieldType.int), 3), (({ cls := "PointedBench$Likings", name := "leastSum", desc := "()I" } : Jvm.MethodName), prog_5_method_10_code, (Option.some Jvm.ClassFile.FieldType.int), 3), (({ cls := "PointedBench$Likings", name := "greatestSum", desc := "()I" } : Jvm.MethodName), prog_5_method_11_code, (Option.some Jvm.ClassFile.FieldType.int), 3), (({ cls := "PointedBench$Lines", name := "<init>", desc := "(II)V" } : Jvm.MethodName), prog_6_method_1_code, (Option.none : Option Jvm.ClassFile.FieldType), 4), (({ cls := "PointedBench$Lines", name := "isFull", desc := "()Z" } : Jvm.MethodName), prog_6_method_2_code, (Option.some Jvm.ClassFile.FieldType.boolean), 4), (({ cls := "PointedBench$Lines", name := "add", desc := "(IIII)V" } : Jvm.MethodName), prog_6_method_3_code, (Option.none : Option Jvm.ClassFile.FieldType), 4), (({ cls := "PointedBench$Lines", name := "take", desc := "(LPointedBench$Lines;)V" } : Jvm.MethodName), prog_6_method_4_code, (Option.none : Option Jvm.ClassFile.FieldType), 4), (({ cls := "PointedBench$Lines", name := "told", desc := "(II)I" } : Jvm.MethodName), prog_6_method_5_code, (Option.some Jvm.ClassFile.FieldType.int), 4), (({ cls := "PointedBench$Poll", name := "<init>", desc := "()V" } : Jvm.MethodName), prog_7_method_1_code, (Option.none : Option Jvm.ClassFile.FieldType), 5), (({ cls := "PointedBench$Poll", name := "ask", desc := "(LPointedBench$County;)V" } : Jvm.MethodName), prog_7_method_2_code, (Option.none : Option Jvm.ClassFile.FieldType), 5), (({ cls := "PointedBench$Poll", name := "chosenBy", desc := "(I)I" } : Jvm.MethodName), prog_7_method_3_code, (Option.some Jvm.ClassFile.FieldType.int), 5), (({ cls := "PointedBench$Poll", name := "isBenchOf", desc := "(II)Z" } : Jvm.MethodName), prog_7_method_4_code, (Option.some Jvm.ClassFile.FieldType.boolean), 5), (({ cls := "PointedBench$Poll", name := "greatestBench", desc := "(I)I" } : Jvm.MethodName), prog_7_method_5_code, (Option.some Jvm.ClassFile.FieldType.int), 5), (({ cls := "PointedBench$Poll", name := "smallestBench", desc := "(I)I" } : Jvm.MethodName), prog_7_method_6_code, (Option.some Jvm.ClassFile.FieldType.int), 5), (({ cls := "PointedBench$Poll", name := "benchesFor", desc := "(I)I" } : Jvm.MethodName), prog_7_method_7_code, (Option.some Jvm.ClassFile.FieldType.int), 5), (({ cls := "PointedBench$Poll", name := "decided", desc := "(I)I" } : Jvm.MethodName), prog_7_method_8_code, (Option.some Jvm.ClassFile.FieldType.int), 5), (({ cls := "PointedBench$Poll", name := "bestLie", desc := "(LPointedBench$County;I)I" } : Jvm.MethodName), prog_7_method_9_code, (Option.some Jvm.ClassFile.FieldType.int), 5), (({ cls := "PointedBench$Reader", name := "<init>", desc := "()V" } : Jvm.MethodName), prog_8_method_1_code, (Option.none : Option Jvm.ClassFile.FieldType), 6), (({ cls := "PointedBench$Reader", name := "read", desc := "(I[BI)V" } : Jvm.MethodName), prog_8_method_2_code, (Option.none : Option Jvm.ClassFile.FieldType), 6), (({ cls := "PointedBench$Reader", name := "begin", desc := "([BI)V" } : Jvm.MethodName), prog_8_method_3_code, (Option.none : Option Jvm.ClassFile.FieldType), 6), (({ cls := "PointedBench$Reader", name := "blame", desc := "(II)V" } : Jvm.MethodName), prog_8_method_4_code, (Option.none : Option Jvm.ClassFile.FieldType), 6), (({ cls := "PointedBench$Reader", name := "next", desc := "()V" } : Jvm.MethodName), prog_8_method_5_code, (Option.none : Option Jvm.ClassFile.FieldType), 6), (({ cls := "PointedBench$Reader", name := "isLetter", desc := "(B)Z" } : Jvm.MethodName), prog_8_method_6_code, (Option.some Jvm.ClassFile.FieldType.boolean), 6), (({ cls := "PointedBench$Reader", name := "isDigit", desc := "(B)Z" } : Jvm.MethodName), prog_8_method_7_code, (Option.some Jvm.ClassFile.FieldType.boolean), 6), (({ cls := "PointedBench$Reader", name := "readLine", desc := "(I)Z" } : Jvm.MethodName), prog_8_method_8_code, (Option.some Jvm.ClassFile.FieldType.boolean), 6), (({ cls := "PointedBench$Reader", name := "lineOf", desc := "(I)I" } : Jvm.MethodName), prog_8_method_9_code, (Option.some Jvm.ClassFile.FieldType.int), 6), (({ cls := "PointedBench$Reader", name := "isWordOf", desc := "(I)Z" } : Jvm.MethodName), prog_8_method_10_code, (Option.some Jvm.ClassFile.FieldType.boolean), 6), (({ cls := "PointedBench$Reader", name := "isFullFor", desc := "(I)Z" } : Jvm.MethodName), prog_8_method_11_code, (Option.some Jvm.ClassFile.FieldType.boolean), 6), (({ cls := "PointedBench$Reader", name := "value", desc := "()I" } : Jvm.MethodName), prog_8_method_12_code, (Option.some Jvm.ClassFile.FieldType.int), 6), (({ cls := "PointedBench$Reader", name := "canBe", desc := "(II)Z" } : Jvm.MethodName), prog_8_method_13_code, (Option.some Jvm.ClassFile.FieldType.boolean), 6), (({ cls := "PointedBench$Reader", name := "store", desc := "(I)V" } : Jvm.MethodName), prog_8_method_14_code, (Option.none : Option Jvm.ClassFile.FieldType), 6), (({ cls := "PointedBench$Reader", name := "toldOfMissing", desc := "()Z" } : Jvm.MethodName), prog_8_method_15_code, (Option.some Jvm.ClassFile.FieldType.boolean), 6), (({ cls := "PointedBench$Told", name := "<init>", desc := "()V" } : Jvm.MethodName), prog_9_method_1_code, (Option.none : Option Jvm.ClassFile.FieldType), 7), (({ cls := "PointedBench$Told", name := "append", desc := "(I)V" } : Jvm.MethodName), prog_9_method_2_code, (Option.none : Option Jvm.ClassFile.FieldType), 7), (({ cls := "PointedBench$Told", name := "take", desc := "(LPointedBench$Told;)V" } : Jvm.MethodName), prog_9_method_3_code, (Option.none : Option Jvm.ClassFile.FieldType), 7), (({ cls := "PointedBench$Told", name := "placeFor", desc := "(II)I" } : Jvm.MethodName), prog_9_method_4_code, (Option.some Jvm.ClassFile.FieldType.int), 7), (({ cls := "PointedBench$Told", name := "has", desc := "(II)Z" } : Jvm.MethodName), prog_9_method_5_code, (Option.some Jvm.ClassFile.FieldType.boolean), 7), (({ cls := "PointedBench$Told", name := "keep", desc := "(IILPointedBench$Reader;)V" } : Jvm.MethodName), prog_9_method_6_code, (Option.none : Option Jvm.ClassFile.FieldType), 7), (({ cls := "PointedBench$Told", name := "countyAt", desc := "(I)LPointedBench$County;" } : Jvm.MethodName), prog_9_method_7_code, (Option.some (Jvm.ClassFile.FieldType.object "PointedBench$County")), 7), (({ cls := "PointedBench$Told", name := "yearAt", desc := "(I)LPointedBench$Lines;" } : Jvm.MethodName), prog_9_method_8_code, (Option.some (Jvm.ClassFile.FieldType.object "PointedBench$Lines")), 7), (({ cls := "PointedBench$Told", name := "logAt", desc := "(I)LPointedBench$Lines;" } : Jvm.MethodName), prog_9_method_9_code, (Option.some (Jvm.ClassFile.FieldType.object "PointedBench$Lines")), 7), (({ cls := "PointedBench$Trial", name := "<init>", desc := "()V" } : Jvm.MethodName), prog_10_method_1_code, (Option.none : Option Jvm.ClassFile.FieldType), 8), (({ cls := "PointedBench$Trial", name := "chosen", desc := "()I" } : Jvm.MethodName), prog_10_method_2_code, (Option.some Jvm.ClassFile.FieldType.int), 8), (({ cls := "PointedBench$Trial", name := "voters", desc := "()I" } : Jvm.MethodName), prog_10_method_3_code, (Option.some Jvm.ClassFile.FieldType.int), 8), (({ cls := "PointedBench$Trial", name := "ageBy", desc := "(LPointedBench$County;I)V" } : Jvm.MethodName), prog_10_method_4_code, (Option.none : Option Jvm.ClassFile.FieldType), 8), (({ cls := "PointedBench$Trial", name := "fewestShown", desc := "(LPointedBench$County;I)I" } : Jvm.MethodName), prog_10_method_5_code, (Option.some Jvm.ClassFile.FieldType.int), 8), (({ cls := "PointedBench$Trial", name := "banned", desc := "(LPointedBench$County;Z)I" } : Jvm.MethodName), prog_10_method_6_code, (Option.some Jvm.ClassFile.FieldType.int), 8), (({ cls := "PointedBench$Trial", name := "traded", desc := "(LPointedBench$County;II)I" } : Jvm.MethodName), prog_10_method_7_code, (Option.some Jvm.ClassFile.FieldType.int), 8), (({ cls := "PointedBench$Trial", name := "contest", desc := "(LPointedBench$County;IIIZ)I" } : Jvm.MethodName), prog_10_method_8_code, (Option.some Jvm.ClassFile.FieldType.int), 8), (({ cls := "PointedBench$Trial", name := "canShow", desc := "(II)Z" } : Jvm.MethodName), prog_10_method_9_code, (Option.some Jvm.ClassFile.FieldType.boolean), 8), (({ cls := "PointedBench$Trial", name := "outcome", desc := "(III)I" } : Jvm.MethodName), prog_10_method_10_code, (Option.some Jvm.ClassFile.FieldType.int), 8), (({ cls := "PointedBench$Trial", name := "outcomeBehind", desc := "(IIII)I" } : Jvm.MethodName), prog_10_method_11_code, (Option.some Jvm.ClassFile.FieldType.int), 8), (({ cls := "PointedBench$Wings", name := "<init>", desc := "()V" } : Jvm.MethodName), prog_11_method_1_code, (Option.none : Option Jvm.ClassFile.FieldType), 9), (({ cls := "PointedBench$Wings", name := "divide", desc := "(LPointedBench$County;)I" } : Jvm.MethodName), prog_11_method_2_code, (Option.some Jvm.ClassFile.FieldType.int), 9), (({ cls := "PointedBench$Wings", name := "place", desc := "(LPointedBench$County;II)Z" } : Jvm.MethodName), prog_11_method_3_code, (Option.some Jvm.ClassFile.FieldType.boolean), 9), (({ cls := "PointedBench$Wings", name := "goesWithThoseAhead", desc := "(LPointedBench$County;I)Z" } : Jvm.MethodName), prog_11_method_4_code, (Option.some Jvm.ClassFile.FieldType.boolean), 9), (({ cls := "PointedBench", name := "<init>", desc := "()V" } : Jvm.MethodName), prog_1_method_1_code, (Option.none : Option Jvm.ClassFile.FieldType), 10), (({ cls := "PointedBench", name := "feed", desc := "(IIIII)I" } : Jvm.MethodName), prog_1_method_2_code, (Option.some Jvm.ClassFile.FieldType.int), 10), (({ cls := "PointedBench", name := "end", desc := "(I)I" } : Jvm.MethodName), prog_1_method_3_code, (Option.some Jvm.ClassFile.FieldType.int), 10), (({ cls := "PointedBench", name := "text", desc := "(II)I" } : Jvm.MethodName), prog_1_method_4_code, (Option.some Jvm.ClassFile.FieldType.int), 10), (({ cls := "PointedBench", name := "fault", desc := "(I)I" } : Jvm.MethodName), prog_1_method_5_code, (Option.some Jvm.ClassFile.FieldType.int), 10), (({ cls := "PointedBench", name := "county", desc := "(II)I" } : Jvm.MethodName), prog_1_method_6_code, (Option.some Jvm.ClassFile.FieldType.int), 10), (({ cls := "PointedBench", name := "deed", desc := "(III)I" } : Jvm.MethodName), prog_1_method_7_code, (Option.some Jvm.ClassFile.FieldType.int), 10), (({ cls := "PointedBench", name := "till", desc := "(II)I" } : Jvm.MethodName), prog_1_method_8_code, (Option.some Jvm.ClassFile.FieldType.int), 10), (({ cls := "PointedBench", name := "state", desc := "(IIII)I" } : Jvm.MethodName), prog_1_method_9_code, (Option.some Jvm.ClassFile.FieldType.int), 10), (({ cls := "PointedBench", name := "picked", desc := "(II)I" } : Jvm.MethodName), prog_1_method_10_code, (Option.some Jvm.ClassFile.FieldType.int), 10), (({ cls := "PointedBench", name := "show", desc := "(IIZ)I" } : Jvm.MethodName), prog_1_method_11_code, (Option.some Jvm.ClassFile.FieldType.int), 10), (({ cls := "PointedBench", name := "bench", desc := "(IIZ)I" } : Jvm.MethodName), prog_1_method_12_code, (Option.some Jvm.ClassFile.FieldType.int), 10), (({ cls := "PointedBench", name := "power", desc := "(IIZ)J" } : Jvm.MethodName), prog_1_method_13_code, (Option.some Jvm.ClassFile.FieldType.long), 10), (({ cls := "PointedBench", name := "ban", desc := "(IZ)I" } : Jvm.MethodName), prog_1_method_14_code, (Option.some Jvm.ClassFile.FieldType.int), 10), (({ cls := "PointedBench", name := "rivals", desc := "(IIIIZ)I" } : Jvm.MethodName), prog_1_method_15_code, (Option.some Jvm.ClassFile.FieldType.int), 10), (({ cls := "PointedBench", name := "quiet", desc := "(IIIZZ)J" } : Jvm.MethodName), prog_1_method_16_code, (Option.some Jvm.ClassFile.FieldType.long), 10), (({ cls := "PointedBench", name := "fact", desc := "(III)I" } : Jvm.MethodName), prog_1_method_17_code, (Option.some Jvm.ClassFile.FieldType.int), 10), (({ cls := "PointedBench", name := "fits", desc := "(II)I" } : Jvm.MethodName), prog_1_method_18_code, (Option.some Jvm.ClassFile.FieldType.int), 10), (({ cls := "PointedBench", name := "drawn", desc := "(IIII)I" } : Jvm.MethodName), prog_1_method_19_code, (Option.some Jvm.ClassFile.FieldType.int), 10), (({ cls := "PointedBench", name := "duel", desc := "(III)I" } : Jvm.MethodName), prog_1_method_20_code, (Option.some Jvm.ClassFile.FieldType.int), 10), (({ cls := "PointedBench", name := "best", desc := "(II)I" } : Jvm.MethodName), prog_1_method_21_code, (Option.some Jvm.ClassFile.FieldType.int), 10), (({ cls := "PointedBench", name := "benches", desc := "(II)I" } : Jvm.MethodName), prog_1_method_22_code, (Option.some Jvm.ClassFile.FieldType.int), 10), (({ cls := "PointedBench", name := "trade", desc := "(III)I" } : Jvm.MethodName), prog_1_method_23_code, (Option.some Jvm.ClassFile.FieldType.int), 10), (({ cls := "PointedBench", name := "gang", desc := "(IZ)I" } : Jvm.MethodName), prog_1_method_24_code, (Option.some Jvm.ClassFile.FieldType.int), 10), (({ cls := "PointedBench", name := "kindest", desc := "(II)I" } : Jvm.MethodName), prog_1_method_25_code, (Option.some Jvm.ClassFile.FieldType.int), 10), (({ cls := "PointedBench", name := "freed", desc := "(II)I" } : Jvm.MethodName), prog_1_method_26_code, (Option.some Jvm.ClassFile.FieldType.int), 10), (({ cls := "PointedBench", name := "liked", desc := "(IIZ)J" } : Jvm.MethodName), prog_1_method_27_code, (Option.some Jvm.ClassFile.FieldType.long), 10), (({ cls := "PointedBench", name := "unlike", desc := "(III)I" } : Jvm.MethodName), prog_1_method_28_code, (Option.some Jvm.ClassFile.FieldType.int), 10), (({ cls := "PointedBench", name := "runoff", desc := "(II)I" } : Jvm.MethodName), prog_1_method_29_code, (Option.some Jvm.ClassFile.FieldType.int), 10), (({ cls := "PointedBench", name := "agenda", desc := "(III)I" } : Jvm.MethodName), prog_1_method_30_code, (Option.some Jvm.ClassFile.FieldType.int), 10), (({ cls := "PointedBench", name := "lies", desc := "(II)I" } : Jvm.MethodName), prog_1_method_31_code, (Option.some Jvm.ClassFile.FieldType.int), 10), (({ cls := "PointedBench", name := "bun", desc := "(IIIZ)I" } : Jvm.MethodName), prog_1_method_32_code, (Option.some Jvm.ClassFile.FieldType.int), 10), (({ cls := "PointedBench", name := "wings", desc := "(II)I" } : Jvm.MethodName), prog_1_method_33_code, (Option.some Jvm.ClassFile.FieldType.int), 10), (({ cls := "PointedBench", name := "later", desc := "(IIZ)I" } : Jvm.MethodName), prog_1_method_34_code, (Option.some Jvm.ClassFile.FieldType.int), 10), (({ cls := "PointedBench", name := "fewest", desc := "(IIZ)I" } : Jvm.MethodName), prog_1_method_35_code, (Option.some Jvm.ClassFile.FieldType.int), 10), (({ cls := "PointedBench", name := "after", desc := "(III)I" } : Jvm.MethodName), prog_1_method_36_code, (Option.some Jvm.ClassFile.FieldType.int), 10), (({ cls := "PointedBench", name := "odds", desc := "(IIIZ)J" } : Jvm.MethodName), prog_1_method_37_code, (Option.some Jvm.ClassFile.FieldType.long), 10), (({ cls := "PointedBench", name := "low", desc := "(IZ)I" } : Jvm.MethodName), prog_1_method_38_code, (Option.some Jvm.ClassFile.FieldType.int), 10), (({ cls := "PointedBench", name := "count", desc := "(I)I" } : Jvm.MethodName), prog_1_method_39_code, (Option.some Jvm.ClassFile.FieldType.int), 10), (({ cls := "PointedBench", name := "image", desc := "(I)Z" } : Jvm.MethodName), prog_1_method_40_code, (Option.some Jvm.ClassFile.FieldType.boolean), 10), (({ cls := "PointedBench", name := "again", desc := "(I)Z" } : Jvm.MethodName), prog_1_method_41_code, (Option.some Jvm.ClassFile.FieldType.boolean), 10), (({ cls := "PointedBench", name := "manyOrWhich", desc := "(IZ)I" } : Jvm.MethodName), prog_1_method_42_code, (Option.some Jvm.ClassFile.FieldType.int), 10), (({ cls := "PointedBench", name := "leastTerms", desc := "(JJZ)J" } : Jvm.MethodName), prog_1_method_43_code, (Option.some Jvm.ClassFile.FieldType.long), 10), (({ cls := "PointedBench", name := "raised", desc := "(JI)J" } : Jvm.MethodName), prog_1_method_44_code, (Option.some Jvm.ClassFile.FieldType.long), 10), (({ cls := "PointedBenchModel", name := "<init>", desc := "()V" } : Jvm.MethodName), prog_13_method_1_code, (Option.none : Option Jvm.ClassFile.FieldType), 11), (({ cls := "PointedBenchModel", name := "in", desc := "(III)Z" } : Jvm.MethodName), prog_13_method_3_code, (Option.some Jvm.ClassFile.FieldType.boolean), 11), (({ cls := "PointedBenchModel", name := "has", desc := "(II)Z" } : Jvm.MethodName), prog_13_method_4_code, (Option.some Jvm.ClassFile.FieldType.boolean), 11), (({ cls := "PointedBenchModel", name := "greater", desc := "(II)I" } : Jvm.MethodName), prog_13_method_5_code, (Option.some Jvm.ClassFile.FieldType.int), 11), (({ cls := "PointedBenchModel", name := "lesser", desc := "(II)I" } : Jvm.MethodName), prog_13_method_6_code, (Option.some Jvm.ClassFile.FieldType.int), 11), (({ cls := "PointedBenchModel", name := "ones", desc := "(I)I" } : Jvm.MethodName), prog_13_method_7_code, (Option.some Jvm.ClassFile.FieldType.int), 11), (({ cls := "PointedBenchModel", name := "copyRow", desc := "([IIII)V" } : Jvm.MethodName), prog_13_method_8_code, (Option.none : Option Jvm.ClassFile.FieldType), 11), (({ cls := "PointedBenchModel", name := "copyAll", desc := "(II)V" } : Jvm.MethodName), prog_13_method_9_code, (Option.none : Option Jvm.ClassFile.FieldType), 11), (({ cls := "PointedBenchModel", name := "is", desc := "(II)Z" } : Jvm.MethodName), prog_13_method_10_code, (Option.some Jvm.ClassFile.FieldType.boolean), 11), (({ cls := "PointedBenchModel", name := "feed", desc := "(IIIII)I" } : Jvm.MethodName), prog_13_method_11_code, (Option.some Jvm.ClassFile.FieldType.int), 11), (({ cls := "PointedBenchModel", name := "four", desc := "(I)V" } : Jvm.MethodName), prog_13_method_12_code, (Option.none : Option Jvm.ClassFile.FieldType), 11), (({ cls := "PointedBenchModel", name := "end", desc := "(I)I" } : Jvm.MethodName), prog_13_method_13_code, (Option.some Jvm.ClassFile.FieldType.int), 11), (({ cls := "PointedBenchModel", name := "see", desc := "()I" } : Jvm.MethodName), prog_13_method_14_code, (Option.some Jvm.ClassFile.FieldType.int), 11), (({ cls := "PointedBenchModel", name := "token", desc := "()V" } : Jvm.MethodName), prog_13_method_15_code, (Option.none : Option Jvm.ClassFile.FieldType), 11), (({ cls := "PointedBenchModel", name := "fails", desc := "()Z" } : Jvm.MethodName), prog_13_method_16_code, (Option.some Jvm.ClassFile.FieldType.boolean), 11), (({ cls := "PointedBenchModel", name := "addsFault", desc := "(II)V" } : Jvm.MethodName), prog_13_method_17_code, (Option.none : Option Jvm.ClassFile.FieldType), 11), (({ cls := "PointedBenchModel", name := "take", desc := "(III)Z" } : Jvm.MethodName), prog_13_method_18_code, (Option.some Jvm.ClassFile.FieldType.boolean), 11), (({ cls := "PointedBenchModel", name := "full", desc := "(III)V" } : Jvm.MethodName), prog_13_method_19_code, (Option.none : Option Jvm.ClassFile.FieldType), 11), (({ cls := "PointedBenchModel", name := "manLine", desc := "(I)Z" } : Jvm.MethodName), prog_13_method_20_code, (Option.some Jvm.ClassFile.FieldType.boolean), 11), (({ cls := "PointedBenchModel", name := "childLine", desc := "(I)Z" } : Jvm.MethodName), prog_13_method_21_code, (Option.some Jvm.ClassFile.FieldType.boolean), 11), (({ cls := "PointedBenchModel", name := "countyLine", desc := "(JI)Z" } : Jvm.MethodName), prog_13_method_22_code, (Option.some Jvm.ClassFile.FieldType.boolean), 11), (({ cls := "PointedBenchModel", name := "keepRow", desc := "(II)V" } : Jvm.MethodName), prog_13_method_23_code, (Option.none : Option Jvm.ClassFile.FieldType), 11), (({ cls := "PointedBenchModel", name := "deedBy", desc := "(J)I" } : Jvm.MethodName), prog_13_method_24_code, (Option.some Jvm.ClassFile.FieldType.int), 11), (({ cls := "PointedBenchModel", name := "yearLine", desc := "(JI)Z" } : Jvm.MethodName), prog_13_method_25_code, (Option.some Jvm.ClassFile.FieldType.boolean), 11), (({ cls := "PointedBenchModel", name := "logLine", desc := "(JI)Z" } : Jvm.MethodName), prog_13_method_26_code, (Option.some Jvm.ClassFile.FieldType.boolean), 11), (({ cls := "PointedBenchModel", name := "allLines", desc := "(I)Z" } : Jvm.MethodName), prog_13_method_27_code, (Option.some Jvm.ClassFile.FieldType.boolean), 11), (({ cls := "PointedBenchModel", name := "readText", desc := "(I)Z" } : Jvm.MethodName), prog_13_method_28_code, (Option.some Jvm.ClassFile.FieldType.boolean), 11), (({ cls := "PointedBenchModel", name := "store", desc := "([III)V" } : Jvm.MethodName), prog_13_method_29_code, (Option.none : Option Jvm.ClassFile.FieldType), 11), (({ cls := "PointedBenchModel", name := "text", desc := "(II)I" } : Jvm.MethodName), prog_13_method_30_code, (Option.some Jvm.ClassFile.FieldType.int), 11), (({ cls := "PointedBenchModel", name := "fault", desc := "(I)I" } : Jvm.MethodName), prog_13_method_31_code, (Option.some Jvm.ClassFile.FieldType.int), 11), (({ cls := "PointedBenchModel", name := "of", desc := "(I)I" } : Jvm.MethodName), prog_13_method_32_code, (Option.some Jvm.ClassFile.FieldType.int), 11), (({ cls := "PointedBenchModel", name := "hand", desc := "(I)Z" } : Jvm.MethodName), prog_13_method_33_code, (Option.some Jvm.ClassFile.FieldType.boolean), 11), (({ cls := "PointedBenchModel", name := "asTold", desc := "()V" } : Jvm.MethodName), prog_13_method_34_code, (Option.none : Option Jvm.ClassFile.FieldType), 11), (({ cls := "PointedBenchModel", name := "isMan", desc := "(I)Z" } : Jvm.MethodName), prog_13_method_35_code, (Option.some Jvm.ClassFile.FieldType.boolean), 11), (({ cls := "PointedBenchModel", name := "isChild", desc := "(I)Z" } : Jvm.MethodName), prog_13_method_36_code, (Option.some Jvm.ClassFile.FieldType.boolean), 11), (({ cls := "PointedBenchModel", name := "votes", desc := "(I)Z" } : Jvm.MethodName), prog_13_method_37_code, (Option.some Jvm.ClassFile.FieldType.boolean), 11), (({ cls := "PointedBenchModel", name := "voters", desc := "()I" } : Jvm.MethodName), prog_13_method_38_code, (Option.some Jvm.ClassFile.FieldType.int), 11), (({ cls := "PointedBenchModel", name := "likesOf", desc := "(II)I" } : Jvm.MethodName), prog_13_method_39_code, (Option.some Jvm.ClassFile.FieldType.int), 11), (({ cls := "PointedBenchModel", name := "dreads", desc := "(II)Z" } : Jvm.MethodName), prog_13_method_40_code, (Option.some Jvm.ClassFile.FieldType.boolean), 11), (({ cls := "PointedBenchModel", name := "pointsOf", desc := "(II)I" } : Jvm.MethodName), prog_13_method_41_code, (Option.some Jvm.ClassFile.FieldType.int), 11), (({ cls := "PointedBenchModel", name := "points", desc := "(I)I" } : Jvm.MethodName), prog_13_method_42_code, (Option.some Jvm.ClassFile.FieldType.int), 11), (({ cls := "PointedBenchModel", name := "layPoints", desc := "()V" } : Jvm.MethodName), prog_13_method_43_code, (Option.none : Option Jvm.ClassFile.FieldType), 11), (({ cls := "PointedBenchModel", name := "pickOf", desc := "(I)I" } : Jvm.MethodName), prog_13_method_44_code, (Option.some Jvm.ClassFile.FieldType.int), 11), (({ cls := "PointedBenchModel", name := "pickNow", desc := "()I" } : Jvm.MethodName), prog_13_method_45_code, (Option.some Jvm.ClassFile.FieldType.int), 11), (({ cls := "PointedBenchModel", name := "county", desc := "(II)I" } : Jvm.MethodName), prog_13_method_46_code, (Option.some Jvm.ClassFile.FieldType.int), 11), (({ cls := "PointedBenchModel", name := "deeds", desc := "()I" } : Jvm.MethodName), prog_13_method_47_code, (Option.some Jvm.ClassFile.FieldType.int), 11), (({ cls := "PointedBenchModel", name := "deedOf", desc := "(II)I" } : Jvm.MethodName), prog_13_method_48_code, (Option.some Jvm.ClassFile.FieldType.int), 11), (({ cls := "PointedBenchModel", name := "hasYear", desc := "(I)Z" } : Jvm.MethodName), prog_13_method_49_code, (Option.some Jvm.ClassFile.FieldType.boolean), 11), (({ cls := "PointedBenchModel", name := "deed", desc := "(III)I" } : Jvm.MethodName), prog_13_method_50_code, (Option.some Jvm.ClassFile.FieldType.int), 11), (({ cls := "PointedBenchModel", name := "getsOut", desc := "(I)Z" } : Jvm.MethodName), prog_13_method_51_code, (Option.some Jvm.ClassFile.FieldType.boolean), 11), (({ cls := "PointedBenchModel", name := "goesOn", desc := "()Z" } : Jvm.MethodName), prog_13_method_52_code, (Option.some Jvm.ClassFile.FieldType.boolean), 11), (({ cls := "PointedBenchModel", name := "doesMan", desc := "(III)Z" } : Jvm.MethodName), prog_13_method_53_code, (Option.some Jvm.ClassFile.FieldType.boolean), 11), (({ cls := "PointedBenchModel", name := "doesChild", desc := "(IIII)Z" } : Jvm.MethodName), prog_13_method_54_code, (Option.some Jvm.ClassFile.FieldType.boolean), 11), (({ cls := "PointedBenchModel", name := "does", desc := "(IIII)Z" } : Jvm.MethodName), prog_13_method_55_code, (Option.some Jvm.ClassFile.FieldType.boolean), 11), (({ cls := "PointedBenchModel", name := "doesDeed", desc := "(I)Z" } : Jvm.MethodName), prog_13_method_56_code, (Option.some Jvm.ClassFile.FieldType.boolean), 11), (({ cls := "PointedBenchModel", name := "play", desc := "(I)I" } : Jvm.MethodName), prog_13_method_57_code, (Option.some Jvm.ClassFile.FieldType.int), 11), (({ cls := "PointedBenchModel", name := "layAll", desc := "(II)Z" } : Jvm.MethodName), prog_13_method_58_code, (Option.some Jvm.ClassFile.FieldType.boolean), 11), (({ cls := "PointedBenchModel", name := "till", desc := "(II)I" } : Jvm.MethodName), prog_13_method_59_code, (Option.some Jvm.ClassFile.FieldType.int), 11), (({ cls := "PointedBenchModel", name := "ofOne", desc := "(I)I" } : Jvm.MethodName), prog_13_method_60_code, (Option.some Jvm.ClassFile.FieldType.int), 11), (({ cls := "PointedBenchModel", name := "ofState", desc := "(I)I" } : Jvm.MethodName), prog_13_method_61_code, (Option.some Jvm.ClassFile.FieldType.int), 11), (({ cls := "PointedBenchModel", name := "state", desc := "(IIII)I" } : Jvm.MethodName), prog_13_method_62_code, (Option.some Jvm.ClassFile.FieldType.int), 11), (({ cls := "PointedBenchModel", name := "picked", desc := "(II)I" } : Jvm.MethodName), prog_13_method_63_code, (Option.some Jvm.ClassFile.FieldType.int), 11), (({ cls := "PointedBenchModel", name := "show", desc := "(IIZ)I" } : Jvm.MethodName), prog_13_method_64_code, (Option.some Jvm.ClassFile.FieldType.int), 11), (({ cls := "PointedBenchModel", name := "benchOf", desc := "(IZ)I" } : Jvm.MethodName), prog_13_method_65_code, (Option.some Jvm.ClassFile.FieldType.int), 11), (({ cls := "PointedBenchModel", name := "bench", desc := "(IIZ)I" } : Jvm.MethodName), prog_13_method_66_code, (Option.some Jvm.ClassFile.FieldType.int), 11), (({ cls := "PointedBenchModel", name := "common", desc := "(JJ)J" } : Jvm.MethodName), prog_13_method_67_code, (Option.some Jvm.ClassFile.FieldType.long), 11), (({ cls := "PointedBenchModel", name := "part", desc := "(JJZ)J" } : Jvm.MethodName), prog_13_method_68_code, (Option.some Jvm.ClassFile.FieldType.long), 11), (({ cls := "PointedBenchModel", name := "times", desc := "(JI)J" } : Jvm.MethodName), prog_13_method_69_code, (Option.some Jvm.ClassFile.FieldType.long), 11), (({ cls := "PointedBenchModel", name := "power", desc := "(IIZ)J" } : Jvm.MethodName), prog_13_method_70_code, (Option.some Jvm.ClassFile.FieldType.long), 11), (({ cls := "PointedBenchModel", name := "changedBy", desc := "(I)I" } : Jvm.MethodName), prog_13_method_71_code, (Option.some Jvm.ClassFile.FieldType.int), 11), (({ cls := "PointedBenchModel", name := "ban", desc := "(IZ)I" } : Jvm.MethodName), prog_13_method_72_code, (Option.some Jvm.ClassFile.FieldType.int), 11), (({ cls := "PointedBenchModel", name := "sevens", desc := "(I)I" } : Jvm.MethodName), prog_13_method_73_code, (Option.some Jvm.ClassFile.FieldType.int), 11), (({ cls := "PointedBenchModel", name := "endOf", desc := "(IIII)I" } : Jvm.MethodName), prog_13_method_74_code, (Option.some Jvm.ClassFile.FieldType.int), 11), (({ cls := "PointedBenchModel", name := "fold", desc := "(IZ)I" } : Jvm.MethodName), prog_13_method_75_code, (Option.some Jvm.ClassFile.FieldType.int), 11), (({ cls := "PointedBenchModel", name := "rivals", desc := "(IIIIZ)I" } : Jvm.MethodName), prog_13_method_76_code, (Option.some Jvm.ClassFile.FieldType.int), 11), (({ cls := "PointedBenchModel", name := "quiet", desc := "(IIIZZ)J" } : Jvm.MethodName), prog_13_method_77_code, (Option.some Jvm.ClassFile.FieldType.long), 11), (({ cls := "PointedBenchModel", name := "factOf", desc := "(II)I" } : Jvm.MethodName), prog_13_method_78_code, (Option.some Jvm.ClassFile.FieldType.int), 11), (({ cls := "PointedBenchModel", name := "facts", desc := "()I" } : Jvm.MethodName), prog_13_method_79_code, (Option.some Jvm.ClassFile.FieldType.int), 11), (({ cls := "PointedBenchModel", name := "hasLog", desc := "(I)Z" } : Jvm.MethodName), prog_13_method_80_code, (Option.some Jvm.ClassFile.FieldType.boolean), 11), (({ cls := "PointedBenchModel", name := "fact", desc := "(III)I" } : Jvm.MethodName), prog_13_method_81_code, (Option.some Jvm.ClassFile.FieldType.int), 11), (({ cls := "PointedBenchModel", name := "likingOf", desc := "(II)I" } : Jvm.MethodName), prog_13_method_82_code, (Option.some Jvm.ClassFile.FieldType.int), 11), (({ cls := "PointedBenchModel", name := "likingsOf", desc := "(II)I" } : Jvm.MethodName), prog_13_method_83_code, (Option.some Jvm.ClassFile.FieldType.int), 11), (({ cls := "PointedBenchModel", name := "prefers", desc := "(III)Z" } : Jvm.MethodName), prog_13_method_84_code, (Option.some Jvm.ClassFile.FieldType.boolean), 11), (({ cls := "PointedBenchModel", name := "isFit", desc := "(I)Z" } : Jvm.MethodName), prog_13_method_85_code, (Option.some Jvm.ClassFile.FieldType.boolean), 11), (({ cls := "PointedBenchModel", name := "layLog", desc := "(I)Z" } : Jvm.MethodName), prog_13_method_86_code, (Option.some Jvm.ClassFile.FieldType.boolean), 11), (({ cls := "PointedBenchModel", name := "manyPrefer", desc := "(II)I" } : Jvm.MethodName), prog_13_method_87_code, (Option.some Jvm.ClassFile.FieldType.int), 11), (({ cls := "PointedBenchModel", name := "ask", desc := "()I" } : Jvm.MethodName), prog_13_method_88_code, (Option.some Jvm.ClassFile.FieldType.int), 11), (({ cls := "PointedBenchModel", name := "sure", desc := "(I)I" } : Jvm.MethodName), prog_13_method_89_code, (Option.some Jvm.ClassFile.FieldType.int), 11), (({ cls := "PointedBenchModel", name := "fits", desc := "(II)I" } : Jvm.MethodName), prog_13_method_90_code, (Option.some Jvm.ClassFile.FieldType.int), 11), (({ cls := "PointedBenchModel", name := "draw", desc := "(I)I" } : Jvm.MethodName), prog_13_method_91_code, (Option.some Jvm.ClassFile.FieldType.int), 11), (({ cls := "PointedBenchModel", name := "drawDeed", desc := "()V" } : Jvm.MethodName), prog_13_method_92_code, (Option.none : Option Jvm.ClassFile.FieldType), 11), (({ cls := "PointedBenchModel", name := "drawn", desc := "(IIII)I" } : Jvm.MethodName), prog_13_method_93_code, (Option.some Jvm.ClassFile.FieldType.int), 11), (({ cls := "PointedBenchModel", name := "puts", desc := "(III)Z" } : Jvm.MethodName), prog_13_method_94_code, (Option.some Jvm.ClassFile.FieldType.boolean), 11), (({ cls := "PointedBenchModel", name := "duelOf", desc := "(II)I" } : Jvm.MethodName), prog_13_method_95_code, (Option.some Jvm.ClassFile.FieldType.int), 11), (({ cls := "PointedBenchModel", name := "duel", desc := "(III)I" } : Jvm.MethodName), prog_13_method_96_code, (Option.some Jvm.ClassFile.FieldType.int), 11), (({ cls := "PointedBenchModel", name := "bestMan", desc := "()I" } : Jvm.MethodName), prog_13_method_97_code, (Option.some Jvm.ClassFile.FieldType.int), 11), (({ cls := "PointedBenchModel", name := "scoreOf", desc := "(I)I" } : Jvm.MethodName), prog_13_method_98_code, (Option.some Jvm.ClassFile.FieldType.int), 11), (({ cls := "PointedBenchModel", name := "sweetest", desc := "()I" } : Jvm.MethodName), prog_13_method_99_code, (Option.some Jvm.ClassFile.FieldType.int), 11), (({ cls := "PointedBenchModel", name := "rarest", desc := "()I" } : Jvm.MethodName), prog_13_method_100_code, (Option.some Jvm.ClassFile.FieldType.int), 11), (({ cls := "PointedBenchModel", name := "twins", desc := "()I" } : Jvm.MethodName), prog_13_method_101_code, (Option.some Jvm.ClassFile.FieldType.int), 11), (({ cls := "PointedBenchModel", name := "traitsOf", desc := "(I)I" } : Jvm.MethodName), prog_13_method_102_code, (Option.some Jvm.ClassFile.FieldType.int), 11), (({ cls := "PointedBenchModel", name := "guards", desc := "()I" } : Jvm.MethodName), prog_13_method_103_code, (Option.some Jvm.ClassFile.FieldType.int), 11), (({ cls := "PointedBenchModel", name := "longest", desc := "()I" } : Jvm.MethodName), prog_13_method_104_code, (Option.some Jvm.ClassFile.FieldType.int), 11), (({ cls := "PointedBenchModel", name := "best", desc := "(II)I" } : Jvm.MethodName), prog_13_method_105_code, (Option.some Jvm.ClassFile.FieldType.int), 11), (({ cls := "PointedBenchModel", name := "benches", desc := "(II)I" } : Jvm.MethodName), prog_13_method_106_code, (Option.some Jvm.ClassFile.FieldType.int), 11), (({ cls := "PointedBenchModel", name := "trade", desc := "(III)I" } : Jvm.MethodName), prog_13_method_107_code, (Option.some Jvm.ClassFile.FieldType.int), 11), (({ cls := "PointedBenchModel", name := "gangOf", desc := "(I)I" } : Jvm.MethodName), prog_13_method_108_code, (Option.some Jvm.ClassFile.FieldType.int), 11), (({ cls := "PointedBenchModel", name := "gang", desc := "(IZ)I" } : Jvm.MethodName), prog_13_method_109_code, (Option.some Jvm.ClassFile.FieldType.int), 11), (({ cls := "PointedBenchModel", name := "kindest", desc := "(II)I" } : Jvm.MethodName), prog_13_method_110_code, (Option.some Jvm.ClassFile.FieldType.int), 11), (({ cls := "PointedBenchModel", name := "freed", desc := "(II)I" } : Jvm.MethodName), prog_13_method_111_code, (Option.some Jvm.ClassFile.FieldType.int), 11), (({ cls := "PointedBenchModel", name := "liked", desc := "(IIZ)J" } : Jvm.MethodName), prog_13_method_112_code, (Option.some Jvm.ClassFile.FieldType.long), 11), (({ cls := "PointedBenchModel", name := "unlike", desc := "(III)I" } : Jvm.MethodName), prog_13_method_113_code, (Option.some Jvm.ClassFile.FieldType.int), 11), (({ cls := "PointedBenchModel", name := "pointed", desc := "(II)I" } : Jvm.MethodName), prog_13_method_114_code, (Option.some Jvm.ClassFile.FieldType.int), 11), (({ cls := "PointedBenchModel", name := "runoff", desc := "(II)I" } : Jvm.MethodName), prog_13_method_115_code, (Option.some Jvm.ClassFile.FieldType.int), 11), (({ cls := "PointedBenchModel", name := "swapRow", desc := "(II)V" } : Jvm.MethodName), prog_13_method_116_code, (Option.none : Option Jvm.ClassFile.FieldType), 11), (({ cls := "PointedBenchModel", name := "nextRow", desc := "()Z" } : Jvm.MethodName), prog_13_method_117_code, (Option.some Jvm.ClassFile.FieldType.boolean), 11), (({ cls := "PointedBenchModel", name := "stays", desc := "()I" } : Jvm.MethodName), prog_13_method_118_code, (Option.some Jvm.ClassFile.FieldType.int), 11), (({ cls := "PointedBenchModel", name := "agenda", desc := "(III)I" } : Jvm.MethodName), prog_13_method_119_code, (Option.some Jvm.ClassFile.FieldType.int), 11), (({ cls := "PointedBenchModel", name := "lies", desc := "(II)I" } : Jvm.MethodName), prog_13_method_120_code, (Option.some Jvm.ClassFile.FieldType.int), 11), (({ cls := "PointedBenchModel", name := "bunOf", desc := "(III)I" } : Jvm.MethodName), prog_13_method_121_code, (Option.some Jvm.ClassFile.FieldType.int), 11), (({ cls := "PointedBenchModel", name := "bun", desc := "(IIIZ)I" } : Jvm.MethodName), prog_13_method_122_code, (Option.some Jvm.ClassFile.FieldType.int), 11), (({ cls := "PointedBenchModel", name := "insiders", desc := "()I" } : Jvm.MethodName), prog_13_method_123_code, (Option.some Jvm.ClassFile.FieldType.int), 11), (({ cls := "PointedBenchModel", name := "layWings", desc := "(III)V" } : Jvm.MethodName), prog_13_method_124_code, (Option.none : Option Jvm.ClassFile.FieldType), 11), (({ cls := "PointedBenchModel", name := "isCalm", desc := "()Z" } : Jvm.MethodName), prog_13_method_125_code, (Option.some Jvm.ClassFile.FieldType.boolean), 11), (({ cls := "PointedBenchModel", name := "fewestWings", desc := "(I)I" } : Jvm.MethodName), prog_13_method_126_code, (Option.some Jvm.ClassFile.FieldType.int), 11), (({ cls := "PointedBenchModel", name := "wings", desc := "(II)I" } : Jvm.MethodName), prog_13_method_127_code, (Option.some Jvm.ClassFile.FieldType.int), 11), (({ cls := "PointedBenchModel", name := "later", desc := "(IIZ)I" } : Jvm.MethodName), prog_13_method_128_code, (Option.some Jvm.ClassFile.FieldType.int), 11), (({ cls := "PointedBenchModel", name := "fewest", desc := "(IIZ)I" } : Jvm.MethodName), prog_13_method_129_code, (Option.some Jvm.ClassFile.FieldType.int), 11), (({ cls := "PointedBenchModel", name := "allTraits", desc := "()I" } : Jvm.MethodName), prog_13_method_130_code, (Option.some Jvm.ClassFile.FieldType.int), 11), (({ cls := "PointedBenchModel", name := "allFears", desc := "()I" } : Jvm.MethodName), prog_13_method_131_code, (Option.some Jvm.ClassFile.FieldType.int), 11), (({ cls := "PointedBenchModel", name := "looks", desc := "(I)Z" } : Jvm.MethodName), prog_13_method_132_code, (Option.some Jvm.ClassFile.FieldType.boolean), 11), (({ cls := "PointedBenchModel", name := "mostOf", desc := "([I)I" } : Jvm.MethodName), prog_13_method_133_code, (Option.some Jvm.ClassFile.FieldType.int), 11), (({ cls := "PointedBenchModel", name := "after", desc := "(III)I" } : Jvm.MethodName), prog_13_method_134_code, (Option.some Jvm.ClassFile.FieldType.int), 11), (({ cls := "PointedBenchModel", name := "odds", desc := "(IIIZ)J" } : Jvm.MethodName), prog_13_method_135_code, (Option.some Jvm.ClassFile.FieldType.long), 11), (({ cls := "PointedBenchModel", name := "low", desc := "(IZ)I" } : Jvm.MethodName), prog_13_method_136_code, (Option.some Jvm.ClassFile.FieldType.int), 11), (({ cls := "PointedBenchModel", name := "count", desc := "(I)I" } : Jvm.MethodName), prog_13_method_137_code, (Option.some Jvm.ClassFile.FieldType.int), 11), (({ cls := "PointedBenchModel", name := "image", desc := "(I)Z" } : Jvm.MethodName), prog_13_method_138_code, (Option.some Jvm.ClassFile.FieldType.boolean), 11), (({ cls := "PointedBenchModel", name := "again", desc := "(I)Z" } : Jvm.MethodName), prog_13_method_139_code, (Option.some Jvm.ClassFile.FieldType.boolean), 11), (({ cls := "java/lang/Integer", name := "bitCount", desc := "(I)I" } : Jvm.MethodName), prog_14_method_49_code, (Option.some Jvm.ClassFile.FieldType.int), 13), (({ cls := "java/util/Arrays", name := "fill", desc := "([II)V" } : Jvm.MethodName), prog_20_method_103_code, (Option.none : Option Jvm.ClassFile.FieldType), 14), (x, code, ret, 12)]
def pb_y (mi : Nat) : MethodName := (pb_MT.getD mi (x, code, none, 12)).1
def pb_cc (mi : Nat) : ByteArray := (pb_MT.getD mi (x, code, none, 12)).2.1
def pb_rt (mi : Nat) : Option FieldType := (pb_MT.getD mi (x, code, none, 12)).2.2.1
def pb_ow (mi : Nat) : Nat := (pb_MT.getD mi (x, code, none, 12)).2.2.2
/-- of each method the places of its words: code; static or of an object; what is picked; begun; kind (0 static, 1 of an object, 2 a maker); how many arguments -/
def pb_MH : List (Nat × Nat × Nat × Nat × Nat × Nat) := [(169, 168, 0, 132, 2, 0), (562, 560, 561, 132, 1, 0), (675, 673, 674, 132, 1, 1), (712, 710, 711, 132, 1, 1), (708, 706, 707, 132, 1, 1), (700, 698, 699, 132, 1, 1), (704, 702, 703, 132, 1, 1), (776, 774, 775, 132, 1, 1), (909, 907, 908, 132, 1, 0), (784, 782, 783, 132, 1, 2), (1015, 1013, 1014, 132, 1, 1), (780, 778, 779, 132, 1, 2), (768, 766, 767, 132, 1, 2), (1007, 1005, 1006, 132, 1, 1), (1011, 1010, 31, 132, 1, 0), (1019, 1018, 32, 132, 1, 0), (1023, 1022, 33, 132, 1, 0), (1027, 1026, 34, 132, 1, 0), (1031, 1030, 35, 132, 1, 1), (1037, 1036, 36, 132, 1, 0), (1062, 1060, 1061, 132, 1, 0), (1071, 1069, 1070, 132, 1, 1), (1090, 1088, 1089, 132, 1, 2), (1101, 1099, 1100, 132, 1, 1), (1105, 1104, 37, 132, 1, 1), (1143, 1141, 1142, 132, 1, 3), (1147, 1146, 41, 132, 1, 3), (434, 433, 0, 140, 2, 0), (732, 730, 731, 140, 1, 1), (737, 735, 736, 140, 1, 2), (741, 740, 11, 140, 1, 2), (745, 744, 12, 140, 1, 4), (749, 748, 13, 140, 1, 3), (754, 753, 14, 140, 1, 2), (759, 758, 15, 140, 1, 3), (764, 763, 16, 140, 1, 1), (792, 791, 17, 140, 1, 0), (801, 799, 800, 140, 1, 1), (806, 805, 18, 140, 1, 1), (960, 958, 959, 140, 1, 2), (970, 969, 29, 140, 1, 1), (964, 963, 28, 140, 1, 0), (1192, 1190, 1191, 140, 1, 1), (1196, 1194, 1195, 140, 1, 1), (1200, 1198, 1199, 140, 1, 1), (1209, 1207, 1208, 140, 1, 1), (1205, 1204, 44, 140, 1, 0), (1213, 1211, 1212, 140, 1, 2), (1217, 1216, 45, 140, 1, 1), (403, 402, 0, 138, 2, 0), (979, 977, 978, 138, 1, 1), (985, 984, 30, 138, 1, 2), (990, 988, 989, 138, 1, 2), (998, 996, 997, 138, 1, 0), (1003, 1001, 1002, 138, 1, 1), (1114, 1112, 1113, 138, 1, 1), (1118, 1117, 38, 138, 1, 0), (1122, 1121, 39, 138, 1, 0), (1126, 1125, 40, 138, 1, 2), (472, 471, 0, 141, 2, 0), (925, 923, 924, 141, 1, 1), (929, 928, 23, 141, 1, 2), (933, 932, 24, 141, 1, 2), (938, 936, 937, 141, 1, 1), (952, 951, 27, 141, 1, 1), (942, 941, 25, 141, 1, 0), (946, 945, 26, 141, 1, 0), (1226, 1224, 1225, 141, 1, 2), (1238, 1236, 1237, 141, 1, 0), (1234, 1232, 1233, 141, 1, 0), (231, 230, 0, 133, 2, 2), (646, 644, 645, 133, 1, 0), (665, 663, 664, 133, 1, 4), (682, 680, 681, 133, 1, 1), (724, 722, 723, 133, 1, 2), (358, 357, 0, 136, 2, 0), (772, 770, 771, 136, 1, 1), (788, 786, 787, 136, 1, 1), (851, 850, 19, 136, 1, 2), (847, 845, 846, 136, 1, 1), (1184, 1182, 1183, 136, 1, 1), (1046, 1044, 1045, 136, 1, 1), (863, 861, 862, 136, 1, 1), (1134, 1132, 1133, 136, 1, 2), (302, 301, 0, 135, 2, 0), (551, 549, 550, 135, 1, 3), (555, 554, 0, 135, 1, 2), (583, 582, 3, 135, 1, 2), (569, 568, 1, 135, 1, 0), (572, 571, 0, 135, 0, 1), (575, 574, 0, 135, 0, 1), (587, 586, 4, 135, 1, 1), (591, 590, 5, 135, 1, 1), (597, 596, 6, 135, 1, 1), (642, 641, 7, 135, 1, 1), (653, 652, 8, 135, 1, 0), (657, 656, 9, 135, 1, 2), (661, 660, 10, 135, 1, 1), (579, 578, 2, 135, 1, 0), (162, 161, 0, 131, 2, 0), (531, 529, 530, 131, 1, 1), (1251, 1249, 1250, 131, 1, 1), (543, 541, 542, 131, 1, 2), (547, 545, 546, 131, 1, 2), (671, 669, 670, 131, 1, 3), (696, 694, 695, 131, 1, 1), (720, 718, 719, 131, 1, 1), (917, 915, 916, 131, 1, 1), (377, 376, 0, 137, 2, 0), (833, 831, 832, 137, 1, 0), (1176, 1174, 1175, 137, 1, 0), (1171, 1169, 1170, 137, 1, 2), (822, 820, 821, 137, 1, 2), (874, 872, 873, 137, 1, 2), (1054, 1052, 1053, 137, 1, 3), (883, 881, 882, 137, 1, 5), (891, 890, 21, 137, 1, 2), (887, 886, 20, 137, 1, 3), (895, 894, 22, 137, 1, 4), (423, 422, 0, 139, 2, 0), (1155, 1153, 1154, 139, 1, 1), (1159, 1158, 42, 139, 1, 3), (1163, 1162, 43, 139, 1, 2), (154, 153, 0, 130, 2, 0), (527, 525, 526, 130, 1, 5), (535, 533, 534, 130, 1, 1), (539, 537, 538, 130, 1, 2), (688, 686, 687, 130, 1, 1), (692, 690, 691, 130, 1, 2), (716, 714, 715, 130, 1, 3), (728, 726, 727, 130, 1, 2), (797, 795, 796, 130, 1, 4), (811, 809, 810, 130, 1, 2), (817, 815, 816, 130, 1, 3), (843, 841, 842, 130, 1, 3), (857, 855, 856, 130, 1, 3), (870, 868, 869, 130, 1, 2), (879, 877, 878, 130, 1, 5), (901, 899, 900, 130, 1, 5), (913, 911, 912, 130, 1, 3), (921, 919, 920, 130, 1, 2), (956, 954, 955, 130, 1, 4), (975, 973, 974, 130, 1, 3), (994, 992, 993, 130, 1, 2), (1042, 1040, 1041, 130, 1, 2), (1050, 1048, 1049, 130, 1, 3), (1058, 1056, 1057, 130, 1, 2), (1067, 1065, 1066, 130, 1, 2), (1075, 1073, 1074, 130, 1, 2), (1080, 1078, 1079, 130, 1, 3), (1085, 1083, 1084, 130, 1, 3), (1097, 1095, 1096, 130, 1, 2), (1110, 1108, 1109, 130, 1, 3), (1130, 1128, 1129, 130, 1, 2), (1139, 1137, 1138, 130, 1, 4), (1151, 1149, 1150, 130, 1, 2), (1167, 1165, 1166, 130, 1, 3), (1180, 1178, 1179, 130, 1, 3), (1188, 1186, 1187, 130, 1, 3), (1222, 1220, 1221, 130, 1, 4), (1230, 1228, 1229, 130, 1, 2), (1243, 1241, 1242, 130, 1, 1), (1247, 1245, 1246, 130, 1, 1), (1256, 1254, 1255, 130, 1, 1), (838, 837, 0, 130, 0, 2), (866, 865, 0, 130, 0, 3), (905, 904, 0, 130, 0, 2), (1261, 1260, 0, 142, 2, 0), (1434, 1433, 0, 142, 0, 3), (1625, 1624, 0, 142, 0, 2), (1494, 1493, 0, 142, 0, 2), (1602, 1601, 0, 142, 0, 2), (1668, 1667, 0, 142, 0, 1), (1968, 1967, 0, 142, 0, 4), (1965, 1964, 128, 142, 1, 2), (1442, 1441, 47, 142, 1, 2), (1423, 1421, 1422, 142, 1, 5), (1427, 1426, 46, 142, 1, 1), (1431, 1429, 1430, 142, 1, 1), (1454, 1453, 50, 142, 1, 0), (1450, 1449, 49, 142, 1, 0), (1483, 1482, 57, 142, 1, 0), (1475, 1474, 55, 142, 1, 2), (1479, 1478, 56, 142, 1, 3), (1471, 1470, 54, 142, 1, 3), (1467, 1466, 53, 142, 1, 1), (1488, 1487, 58, 142, 1, 1), (1462, 1461, 52, 142, 1, 2), (1513, 1512, 61, 142, 1, 2), (1502, 1501, 60, 142, 1, 1), (1498, 1497, 59, 142, 1, 2), (1517, 1516, 62, 142, 1, 2), (1458, 1457, 51, 142, 1, 1), (1446, 1445, 48, 142, 1, 1), (1523, 1522, 63, 142, 1, 3), (1438, 1436, 1437, 142, 1, 2), (1527, 1525, 1526, 142, 1, 1), (1539, 1538, 65, 142, 1, 1), (1535, 1534, 64, 142, 1, 1), (1543, 1542, 66, 142, 1, 0), (1591, 1590, 76, 142, 1, 1), (1547, 1546, 67, 142, 1, 1), (1637, 1636, 86, 142, 1, 1), (1653, 1652, 89, 142, 1, 0), (1622, 1621, 83, 142, 1, 2), (1629, 1628, 84, 142, 1, 2), (1618, 1617, 82, 142, 1, 2), (1614, 1613, 81, 142, 1, 1), (1610, 1609, 80, 142, 1, 0), (1633, 1632, 85, 142, 1, 1), (1606, 1605, 79, 142, 1, 0), (1531, 1529, 1530, 142, 1, 2), (1559, 1558, 69, 142, 1, 0), (1563, 1562, 70, 142, 1, 2), (1555, 1554, 68, 142, 1, 1), (1551, 1549, 1550, 142, 1, 3), (1599, 1598, 78, 142, 1, 1), (1641, 1640, 87, 142, 1, 0), (1587, 1586, 75, 142, 1, 3), (1595, 1594, 77, 142, 1, 4), (1583, 1582, 74, 142, 1, 4), (1579, 1578, 73, 142, 1, 1), (1575, 1574, 72, 142, 1, 1), (1571, 1570, 71, 142, 1, 2), (1567, 1565, 1566, 142, 1, 2), (1657, 1656, 90, 142, 1, 1), (1649, 1648, 88, 142, 1, 1), (1645, 1643, 1644, 142, 1, 4), (1661, 1659, 1660, 142, 1, 2), (1665, 1663, 1664, 142, 1, 3), (1676, 1675, 91, 142, 1, 2), (1672, 1670, 1671, 142, 1, 3), (1691, 1690, 0, 142, 0, 2), (1688, 1687, 0, 142, 0, 3), (1685, 1684, 0, 142, 0, 2), (1680, 1678, 1679, 142, 1, 3), (1699, 1698, 92, 142, 1, 1), (1695, 1693, 1694, 142, 1, 2), (1706, 1705, 0, 142, 0, 1), (1710, 1709, 93, 142, 1, 4), (1714, 1713, 94, 142, 1, 2), (1703, 1701, 1702, 142, 1, 5), (1718, 1716, 1717, 142, 1, 5), (1735, 1734, 97, 142, 1, 2), (1731, 1730, 96, 142, 1, 0), (1727, 1726, 95, 142, 1, 1), (1723, 1721, 1722, 142, 1, 3), (1756, 1755, 0, 142, 0, 2), (1753, 1752, 0, 142, 0, 2), (1750, 1749, 0, 142, 0, 3), (1747, 1746, 99, 142, 1, 1), (1743, 1742, 98, 142, 1, 1), (1769, 1768, 102, 142, 1, 2), (1764, 1763, 101, 142, 1, 0), (1760, 1759, 100, 142, 1, 1), (1739, 1737, 1738, 142, 1, 2), (1781, 1780, 104, 142, 1, 1), (1777, 1776, 103, 142, 1, 0), (1773, 1771, 1772, 142, 1, 4), (1794, 1793, 106, 142, 1, 3), (1790, 1789, 105, 142, 1, 2), (1786, 1784, 1785, 142, 1, 3), (1806, 1805, 108, 142, 1, 0), (1802, 1801, 107, 142, 1, 1), (1810, 1809, 109, 142, 1, 0), (1814, 1813, 110, 142, 1, 0), (1818, 1817, 111, 142, 1, 0), (1826, 1825, 113, 142, 1, 1), (1822, 1821, 112, 142, 1, 0), (1830, 1829, 114, 142, 1, 0), (1798, 1796, 1797, 142, 1, 2), (1834, 1832, 1833, 142, 1, 2), (1838, 1836, 1837, 142, 1, 3), (1846, 1845, 115, 142, 1, 1), (1842, 1840, 1841, 142, 1, 2), (1850, 1848, 1849, 142, 1, 2), (1854, 1852, 1853, 142, 1, 2), (1858, 1856, 1857, 142, 1, 3), (1862, 1860, 1861, 142, 1, 3), (1870, 1869, 116, 142, 1, 2), (1866, 1864, 1865, 142, 1, 2), (1886, 1885, 119, 142, 1, 2), (1882, 1881, 118, 142, 1, 0), (1878, 1877, 117, 142, 1, 0), (1874, 1872, 1873, 142, 1, 3), (1890, 1888, 1889, 142, 1, 2), (1898, 1897, 120, 142, 1, 3), (1894, 1892, 1893, 142, 1, 4), (1906, 1905, 121, 142, 1, 0), (1914, 1913, 123, 142, 1, 3), (1918, 1917, 124, 142, 1, 0), (1910, 1909, 122, 142, 1, 1), (1902, 1900, 1901, 142, 1, 2), (1922, 1920, 1921, 142, 1, 3), (1926, 1924, 1925, 142, 1, 3), (1938, 1937, 126, 142, 1, 0), (1942, 1941, 127, 142, 1, 0), (1934, 1933, 125, 142, 1, 1), (1945, 1944, 0, 142, 0, 1), (1930, 1928, 1929, 142, 1, 3), (1949, 1947, 1948, 142, 1, 4), (1953, 1951, 1952, 142, 1, 2), (1957, 1955, 1956, 142, 1, 1), (1961, 1959, 1960, 142, 1, 1), (1972, 1970, 1971, 142, 1, 1), (826, 825, 0, 149, 0, 1), (565, 564, 0, 143, 0, 2), (0, 0, 0, 0, 9, 1)]
def pb_mh (mi : Nat) : Nat × Nat × Nat × Nat × Nat × Nat := pb_MH.getD mi (0, 0, 0, 0, 9, 0)
def pb_lu (t : List (List (Nat × Nat × Nat))) (ow idx a : Nat) : Bool := (t.getD ow []).any (fun q => Nat.beq q.1 idx && Nat.beq q.2.1 a)
def pb_fok (ow idx a b : Nat) : Bool := (pb_FLs.getD ow []).any (fun q => Nat.beq q.1 idx && (Nat.beq q.2.1 a && Nat.beq q.2.2.1 b))
theorem pb_lu_at {t : List (List (Nat × Nat × Nat))} {ow idx a : Nat} {f : Nat → Nat × Nat × Nat → Bool} (hall : (List.range 16).all (fun o => (t.getD o []).all (f o)) = true) (ho : ow < 16) (h : pb_lu t ow idx a = true) : ∃ w, f ow (idx, a, w) = true := by
  obtain ⟨q, hq, he⟩ := List.any_eq_true.mp h
  have h1 := List.all_eq_true.mp (List.all_eq_true.mp hall ow (List.mem_range.mpr ho)) q hq
  obtain ⟨e1, e2⟩ := (Bool.and_eq_true _ _).mp he
  have e1 := Nat.eq_of_beq_eq_true e1
  have e2 := Nat.eq_of_beq_eq_true e2
  obtain ⟨x, y, z⟩ := q
  cases e1
  cases e2
  exact ⟨z, h1⟩
def pb_wd (w : Nat) (c : Jvm.Cond) : Bool := decide (lw_tbl[w]? = some c)
theorem pb_wd_mem {w : Nat} {c : Jvm.Cond} (h : pb_wd w c = true) : c ∈ lw_tbl := List.mem_of_getElem? (of_decide_eq_true h)
theorem pb_FLs_ok : (List.range 16).all (fun o => (pb_FLs.getD o []).all (fun q => pb_wd q.2.2.2 (.fieldLink (pb_own o) q.1 (pb_T q.2.1 q.2.2.1).1 (pb_T q.2.1 q.2.2.1).2.1 (pb_T q.2.1 q.2.2.1).2.2.1))) = true := by decide +kernel
theorem pb_fok_mem {ow idx a b : Nat} (ho : ow < 16) (h : pb_fok ow idx a b = true) : Jvm.Cond.fieldLink (pb_own ow) idx (pb_T a b).1 (pb_T a b).2.1 (pb_T a b).2.2.1 ∈ lw_tbl := by
  obtain ⟨q, hq, he⟩ := List.any_eq_true.mp h
  have h1 := List.all_eq_true.mp (List.all_eq_true.mp pb_FLs_ok ow (List.mem_range.mpr ho)) q hq
  obtain ⟨e1, e2⟩ := (Bool.and_eq_true _ _).mp he
  obtain ⟨e2, e3⟩ := (Bool.and_eq_true _ _).mp e2
  have e1 := Nat.eq_of_beq_eq_true e1
  have e2 := Nat.eq_of_beq_eq_true e2
  have e3 := Nat.eq_of_beq_eq_true e3
  obtain ⟨x, y, z, w⟩ := q
  cases e1
  cases e2
  cases e3
  exact pb_wd_mem h1
/-- which method a number names; 1000: arraycopy, 1001: Object() -/
def pb_yy (a : Nat) : MethodName := if a = 1000 then arraycopyName else if a = 1001 then Lib.objectInit else if a = 1003 then Lib.Math.max.name else if a = 1004 then Lib.Math.min.name else if a = 1005 then Lib.Math.abs.name else pb_y a
theorem pb_MKs_ok : (List.range 16).all (fun o => (pb_MKs.getD o []).all (fun q => Nat.beq q.2.1 1002 || pb_wd q.2.2 (.methodLink (pb_own o) q.1 (pb_yy q.2.1)))) = true := by decide +kernel
theorem pb_mk_mem {ow idx a : Nat} (ho : ow < 16) (h2 : ¬ a = 1002) (h : pb_lu pb_MKs ow idx a = true) : Jvm.Cond.methodLink (pb_own ow) idx (pb_yy a) ∈ lw_tbl := by
  obtain ⟨w, hw⟩ := pb_lu_at (f := fun o q => Nat.beq q.2.1 1002 || pb_wd q.2.2 (.methodLink (pb_own o) q.1 (pb_yy q.2.1))) pb_MKs_ok ho h
  rcases (Bool.or_eq_true _ _).mp hw with q | q
  · exact absurd (Nat.eq_of_beq_eq_true q) h2
  · exact pb_wd_mem q
def pb_cn (a : Nat) : String := match pb_cl[a]? with | some q => q.1 | none => ""
theorem pb_CLs_ok : (List.range 16).all (fun o => (pb_CLs.getD o []).all (fun q => pb_wd q.2.2 (.classLink (pb_own o) q.1 (pb_cn q.2.1)))) = true := by decide +kernel
theorem pb_cl_mem {ow idx a : Nat} (ho : ow < 16) (h : pb_lu pb_CLs ow idx a = true) : Jvm.Cond.classLink (pb_own ow) idx (pb_cn a) ∈ lw_tbl := by
  obtain ⟨w, hw⟩ := pb_lu_at (f := fun o q => pb_wd q.2.2 (.classLink (pb_own o) q.1 (pb_cn q.2.1))) pb_CLs_ok ho h
  exact pb_wd_mem hw
/-- the class of a row's members -/
def pb_ec (a : Nat) : Nat := if a = 15 then 0 else if a = 16 then 4 else 7
theorem pb_ALs_ok : (List.range 16).all (fun o => (pb_ALs.getD o []).all (fun q => pb_wd q.2.2 (.classLink (pb_own o) q.1 (pb_cn (pb_ec q.2.1))))) = true := by decide +kernel
theorem pb_al_mem {ow idx a : Nat} (ho : ow < 16) (h : pb_lu pb_ALs ow idx a = true) : Jvm.Cond.classLink (pb_own ow) idx (pb_cn (pb_ec a)) ∈ lw_tbl := by
  obtain ⟨w, hw⟩ := pb_lu_at (f := fun o q => pb_wd q.2.2 (.classLink (pb_own o) q.1 (pb_cn (pb_ec q.2.1)))) pb_ALs_ok ho h
  exact pb_wd_mem hw
theorem pb_ICs_ok : (List.range 16).all (fun o => (pb_ICs.getD o []).all (fun q => pb_wd q.2.2 (.constant (pb_own o) q.1 (pb_IC.getD q.2.1 0)))) = true := by decide +kernel
theorem pb_ic_mem {ow idx a : Nat} (ho : ow < 16) (h : pb_lu pb_ICs ow idx a = true) : Jvm.Cond.constant (pb_own ow) idx (pb_IC.getD a 0) ∈ lw_tbl := by
  obtain ⟨w, hw⟩ := pb_lu_at (f := fun o q => pb_wd q.2.2 (.constant (pb_own o) q.1 (pb_IC.getD q.2.1 0))) pb_ICs_ok ho h
  exact pb_wd_mem hw
theorem pb_LCs_ok : (List.range 16).all (fun o => (pb_LCs.getD o []).all (fun q => pb_wd q.2.2 (.constantLong (pb_own o) q.1 (pb_LC.getD q.2.1 0)))) = true := by decide +kernel
theorem pb_lc_mem {ow idx a : Nat} (ho : ow < 16) (h : pb_lu pb_LCs ow idx a = true) : Jvm.Cond.constantLong (pb_own ow) idx (pb_LC.getD a 0) ∈ lw_tbl := by
  obtain ⟨w, hw⟩ := pb_lu_at (f := fun o q => pb_wd q.2.2 (.constantLong (pb_own o) q.1 (pb_LC.getD q.2.1 0))) pb_LCs_ok ho h
  exact pb_wd_mem hw
/-- the rows that stand outside: their names -/
def pb_GN (k : Nat) : String × String := if k = 1 then ("PointedBench$Course", "LOTS") else if k = 2 then ("PointedBench$Likings", "LAST_TRAIT") else if k = 3 then ("PointedBench$Reader", "GREATEST") else ("PointedBench$Reader", "FIRST_LINE")
theorem pb_GSs_ok : (List.range 16).all (fun o => (pb_GSs.getD o []).all (fun q => (Nat.blt 0 q.2.1 && Nat.blt q.2.1 5) && pb_wd q.2.2 (.fieldLink (pb_own o) q.1 (pb_GN q.2.1).1 (pb_GN q.2.1).2 "[I"))) = true := by decide +kernel
theorem pb_gs_mem {ow idx a : Nat} (ho : ow < 16) (h : pb_lu pb_GSs ow idx a = true) : (1 ≤ a ∧ a ≤ 4) ∧ Jvm.Cond.fieldLink (pb_own ow) idx (pb_GN a).1 (pb_GN a).2 "[I" ∈ lw_tbl := by
  obtain ⟨w, hw⟩ := pb_lu_at (f := fun o q => (Nat.blt 0 q.2.1 && Nat.blt q.2.1 5) && pb_wd q.2.2 (.fieldLink (pb_own o) q.1 (pb_GN q.2.1).1 (pb_GN q.2.1).2 "[I")) pb_GSs_ok ho h
  obtain ⟨h1, h2⟩ := (Bool.and_eq_true _ _).mp hw
  obtain ⟨h3, h4⟩ := (Bool.and_eq_true _ _).mp h1
  have h3 : 0 < a := Nat.le_of_ble_eq_true h3
  have h4 : a < 5 := Nat.le_of_ble_eq_true h4
  exact ⟨⟨h3, by omega⟩, pb_wd_mem h2⟩
/-- the words of a method -/
def pb_mw (mi : Nat) : Bool := (pb_wd (pb_mh mi).2.2.2.1 (.initialized (pb_y mi).cls) && (decide (pb_ow mi < 16 ∧ pb_own (pb_ow mi) = (pb_y mi).cls ∧ (pb_y mi).cls ≠ "java/lang/invoke/MethodHandle" ∧ (pb_y mi).cls ≠ "java/lang/invoke/VarHandle" ∧ (parseMethodDescriptor (pb_y mi).desc).map (fun d => d.parameters.length) = some (pb_mh mi).2.2.2.2.2 ∧ plainName (pb_y mi).cls = true ∧ pb_mL mi ≤ 40 ∧ (pb_rz mi = if pb_rt mi = some .boolean then 1 else 0) ∧ (pb_rt mi = none ∨ pb_rt mi = some .int ∨ pb_rt mi = some .long ∨ pb_rt mi = some .boolean ∨ pb_rt mi = some (.object "PointedBench$County") ∨ pb_rt mi = some (.object "PointedBench$Lines"))) &&
  (match (pb_mh mi).2.2.2.2.1 with
    | 0 => pb_wd (pb_mh mi).2.1 (.static (pb_y mi))
    | 1 => pb_wd (pb_mh mi).2.1 (.instanceMethod (pb_y mi)) && (pb_wd (pb_mh mi).2.2.1 (.selects (pb_y mi).cls (pb_y mi) (pb_y mi)) && decide (pb_cn (pb_mc mi) = (pb_y mi).cls ∧ pb_mc mi < 12))
    | 2 => pb_wd (pb_mh mi).2.1 (.instanceMethod (pb_y mi)) && decide ((pb_y mi).name = "<init>" ∧ pb_rt mi = none)
    | _ => false)))
theorem pb_mw_0 : (List.range 10).all (fun k => pb_mw (0 + k)) = true := by decide +kernel
theorem pb_mw_10 : (List.range 10).all (fun k => pb_mw (10 + k)) = true := by decide +kernel
theorem pb_mw_20 : (List.range 10).all (fun k => pb_mw (20 + k)) = true := by decide +kernel
theorem pb_mw_30 : (List.range 10).all (fun k => pb_mw (30 + k)) = true := by decide +kernel
theorem pb_mw_40 : (List.range 10).all (fun k => pb_mw (40 + k)) = true := by decide +kernel
theorem pb_mw_50 : (List.range 10).all (fun k => pb_mw (50 + k)) = true := by decide +kernel
theorem pb_mw_60 : (List.range 10).all (fun k => pb_mw (60 + k)) = true := by decide +kernel
theorem pb_mw_70 : (List.range 10).all (fun k => pb_mw (70 + k)) = true := by decide +kernel
theorem pb_mw_80 : (List.range 10).all (fun k => pb_mw (80 + k)) = true := by decide +kernel
theorem pb_mw_90 : (List.range 10).all (fun k => pb_mw (90 + k)) = true := by decide +kernel
theorem pb_mw_100 : (List.range 10).all (fun k => pb_mw (100 + k)) = true := by decide +kernel
theorem pb_mw_110 : (List.range 10).all (fun k => pb_mw (110 + k)) = true := by decide +kernel
theorem pb_mw_120 : (List.range 10).all (fun k => pb_mw (120 + k)) = true := by decide +kernel
theorem pb_mw_130 : (List.range 10).all (fun k => pb_mw (130 + k)) = true := by decide +kernel
theorem pb_mw_140 : (List.range 10).all (fun k => pb_mw (140 + k)) = true := by decide +kernel
theorem pb_mw_150 : (List.range 10).all (fun k => pb_mw (150 + k)) = true := by decide +kernel
theorem pb_mw_160 : (List.range 10).all (fun k => pb_mw (160 + k)) = true := by decide +kernel
theorem pb_mw_170 : (List.range 10).all (fun k => pb_mw (170 + k)) = true := by decide +kernel
theorem pb_mw_180 : (List.range 10).all (fun k => pb_mw (180 + k)) = true := by decide +kernel
theorem pb_mw_190 : (List.range 10).all (fun k => pb_mw (190 + k)) = true := by decide +kernel
theorem pb_mw_200 : (List.range 10).all (fun k => pb_mw (200 + k)) = true := by decide +kernel
theorem pb_mw_210 : (List.range 10).all (fun k => pb_mw (210 + k)) = true := by decide +kernel
theorem pb_mw_220 : (List.range 10).all (fun k => pb_mw (220 + k)) = true := by decide +kernel
theorem pb_mw_230 : (List.range 10).all (fun k => pb_mw (230 + k)) = true := by decide +kernel
theorem pb_mw_240 : (List.range 10).all (fun k => pb_mw (240 + k)) = true := by decide +kernel
theorem pb_mw_250 : (List.range 10).all (fun k => pb_mw (250 + k)) = true := by decide +kernel
theorem pb_mw_260 : (List.range 10).all (fun k => pb_mw (260 + k)) = true := by decide +kernel
theorem pb_mw_270 : (List.range 10).all (fun k => pb_mw (270 + k)) = true := by decide +kernel
theorem pb_mw_280 : (List.range 10).all (fun k => pb_mw (280 + k)) = true := by decide +kernel
theorem pb_mw_290 : (List.range 10).all (fun k => pb_mw (290 + k)) = true := by decide +kernel
theorem pb_mw_300 : (List.range 7).all (fun k => pb_mw (300 + k)) = true := by decide +kernel
theorem pb_mw_all {mi : Nat} (h : mi < 307) : pb_mw mi = true := by
  rcases Nat.lt_or_ge mi 10 with q | q
  · have h1 := List.all_eq_true.mp pb_mw_0 (mi - 0) (List.mem_range.mpr (by omega))
    rwa [show 0 + (mi - 0) = mi by omega] at h1
  rcases Nat.lt_or_ge mi 20 with q | q
  · have h1 := List.all_eq_true.mp pb_mw_10 (mi - 10) (List.mem_range.mpr (by omega))
    rwa [show 10 + (mi - 10) = mi by omega] at h1
  rcases Nat.lt_or_ge mi 30 with q | q
  · have h1 := List.all_eq_true.mp pb_mw_20 (mi - 20) (List.mem_range.mpr (by omega))
    rwa [show 20 + (mi - 20) = mi by omega] at h1
  rcases Nat.lt_or_ge mi 40 with q | q
  · have h1 := List.all_eq_true.mp pb_mw_30 (mi - 30) (List.mem_range.mpr (by omega))
    rwa [show 30 + (mi - 30) = mi by omega] at h1
  rcases Nat.lt_or_ge mi 50 with q | q
  · have h1 := List.all_eq_true.mp pb_mw_40 (mi - 40) (List.mem_range.mpr (by omega))
    rwa [show 40 + (mi - 40) = mi by omega] at h1
  rcases Nat.lt_or_ge mi 60 with q | q
  · have h1 := List.all_eq_true.mp pb_mw_50 (mi - 50) (List.mem_range.mpr (by omega))
    rwa [show 50 + (mi - 50) = mi by omega] at h1
  rcases Nat.lt_or_ge mi 70 with q | q
  · have h1 := List.all_eq_true.mp pb_mw_60 (mi - 60) (List.mem_range.mpr (by omega))
    rwa [show 60 + (mi - 60) = mi by omega] at h1
  rcases Nat.lt_or_ge mi 80 with q | q
  · have h1 := List.all_eq_true.mp pb_mw_70 (mi - 70) (List.mem_range.mpr (by omega))
    rwa [show 70 + (mi - 70) = mi by omega] at h1
  rcases Nat.lt_or_ge mi 90 with q | q
  · have h1 := List.all_eq_true.mp pb_mw_80 (mi - 80) (List.mem_range.mpr (by omega))
    rwa [show 80 + (mi - 80) = mi by omega] at h1
  rcases Nat.lt_or_ge mi 100 with q | q
  · have h1 := List.all_eq_true.mp pb_mw_90 (mi - 90) (List.mem_range.mpr (by omega))
    rwa [show 90 + (mi - 90) = mi by omega] at h1
  rcases Nat.lt_or_ge mi 110 with q | q
  · have h1 := List.all_eq_true.mp pb_mw_100 (mi - 100) (List.mem_range.mpr (by omega))
    rwa [show 100 + (mi - 100) = mi by omega] at h1
  rcases Nat.lt_or_ge mi 120 with q | q
  · have h1 := List.all_eq_true.mp pb_mw_110 (mi - 110) (List.mem_range.mpr (by omega))
    rwa [show 110 + (mi - 110) = mi by omega] at h1
  rcases Nat.lt_or_ge mi 130 with q | q
  · have h1 := List.all_eq_true.mp pb_mw_120 (mi - 120) (List.mem_range.mpr (by omega))
    rwa [show 120 + (mi - 120) = mi by omega] at h1
  rcases Nat.lt_or_ge mi 140 with q | q
  · have h1 := List.all_eq_true.mp pb_mw_130 (mi - 130) (List.mem_range.mpr (by omega))
    rwa [show 130 + (mi - 130) = mi by omega] at h1
  rcases Nat.lt_or_ge mi 150 with q | q
  · have h1 := List.all_eq_true.mp pb_mw_140 (mi - 140) (List.mem_range.mpr (by omega))
    rwa [show 140 + (mi - 140) = mi by omega] at h1
  rcases Nat.lt_or_ge mi 160 with q | q
  · have h1 := List.all_eq_true.mp pb_mw_150 (mi - 150) (List.mem_range.mpr (by omega))
    rwa [show 150 + (mi - 150) = mi by omega] at h1
  rcases Nat.lt_or_ge mi 170 with q | q
  · have h1 := List.all_eq_true.mp pb_mw_160 (mi - 160) (List.mem_range.mpr (by omega))
    rwa [show 160 + (mi - 160) = mi by omega] at h1
  rcases Nat.lt_or_ge mi 180 with q | q
  · have h1 := List.all_eq_true.mp pb_mw_170 (mi - 170) (List.mem_range.mpr (by omega))
    rwa [show 170 + (mi - 170) = mi by omega] at h1
  rcases Nat.lt_or_ge mi 190 with q | q
  · have h1 := List.all_eq_true.mp pb_mw_180 (mi - 180) (List.mem_range.mpr (by omega))
    rwa [show 180 + (mi - 180) = mi by omega] at h1
  rcases Nat.lt_or_ge mi 200 with q | q
  · have h1 := List.all_eq_true.mp pb_mw_190 (mi - 190) (List.mem_range.mpr (by omega))
    rwa [show 190 + (mi - 190) = mi by omega] at h1
  rcases Nat.lt_or_ge mi 210 with q | q
  · have h1 := List.all_eq_true.mp pb_mw_200 (mi - 200) (List.mem_range.mpr (by omega))
    rwa [show 200 + (mi - 200) = mi by omega] at h1
  rcases Nat.lt_or_ge mi 220 with q | q
  · have h1 := List.all_eq_true.mp pb_mw_210 (mi - 210) (List.mem_range.mpr (by omega))
    rwa [show 210 + (mi - 210) = mi by omega] at h1
  rcases Nat.lt_or_ge mi 230 with q | q
  · have h1 := List.all_eq_true.mp pb_mw_220 (mi - 220) (List.mem_range.mpr (by omega))
    rwa [show 220 + (mi - 220) = mi by omega] at h1
  rcases Nat.lt_or_ge mi 240 with q | q
  · have h1 := List.all_eq_true.mp pb_mw_230 (mi - 230) (List.mem_range.mpr (by omega))
    rwa [show 230 + (mi - 230) = mi by omega] at h1
  rcases Nat.lt_or_ge mi 250 with q | q
  · have h1 := List.all_eq_true.mp pb_mw_240 (mi - 240) (List.mem_range.mpr (by omega))
    rwa [show 240 + (mi - 240) = mi by omega] at h1
  rcases Nat.lt_or_ge mi 260 with q | q
  · have h1 := List.all_eq_true.mp pb_mw_250 (mi - 250) (List.mem_range.mpr (by omega))
    rwa [show 250 + (mi - 250) = mi by omega] at h1
  rcases Nat.lt_or_ge mi 270 with q | q
  · have h1 := List.all_eq_true.mp pb_mw_260 (mi - 260) (List.mem_range.mpr (by omega))
    rwa [show 260 + (mi - 260) = mi by omega] at h1
  rcases Nat.lt_or_ge mi 280 with q | q
  · have h1 := List.all_eq_true.mp pb_mw_270 (mi - 270) (List.mem_range.mpr (by omega))
    rwa [show 270 + (mi - 270) = mi by omega] at h1
  rcases Nat.lt_or_ge mi 290 with q | q
  · have h1 := List.all_eq_true.mp pb_mw_280 (mi - 280) (List.mem_range.mpr (by omega))
    rwa [show 280 + (mi - 280) = mi by omega] at h1
  rcases Nat.lt_or_ge mi 300 with q | q
  · have h1 := List.all_eq_true.mp pb_mw_290 (mi - 290) (List.mem_range.mpr (by omega))
    rwa [show 290 + (mi - 290) = mi by omega] at h1
  have h1 := List.all_eq_true.mp pb_mw_300 (mi - 300) (List.mem_range.mpr (by omega))
  rwa [show 300 + (mi - 300) = mi by omega] at h1
/-- the words that stay as they are while the machine warms -/
def pb_tbl : List Jvm.Cond := lw_tbl.filter goodWord
theorem pb_tbl_in {c : Jvm.Cond} (h : c ∈ lw_tbl) (hg : goodWord c = true) : c ∈ pb_tbl := List.mem_filter.mpr ⟨h, hg⟩
theorem pb_in_1 {c : Jvm.Cond} (h : c ∈ tables_1_1) : c ∈ lw_tbl := List.mem_append_right _ (List.mem_append_left _ h)
theorem pb_in_2 {c : Jvm.Cond} (h : c ∈ tables_1_2) : c ∈ lw_tbl := List.mem_append_right _ (List.mem_append_right _ (List.mem_append_left _ h))
theorem pb_in_3 {c : Jvm.Cond} (h : c ∈ tables_1_3) : c ∈ lw_tbl := List.mem_append_right _ (List.mem_append_right _ (List.mem_append_right _ (List.mem_append_left _ h)))
theorem pb_in_4 {c : Jvm.Cond} (h : c ∈ tables_1_4) : c ∈ lw_tbl := List.mem_append_right _ (List.mem_append_right _ (List.mem_append_right _ (List.mem_append_right _ (List.mem_append_left _ h))))
theorem pb_in_5 {c : Jvm.Cond} (h : c ∈ tables_1_5) : c ∈ lw_tbl := List.mem_append_right _ (List.mem_append_right _ (List.mem_append_right _ (List.mem_append_right _ (List.mem_append_right _ (List.mem_append_left _ h)))))
theorem pb_in_6 {c : Jvm.Cond} (h : c ∈ tables_1_6) : c ∈ lw_tbl := List.mem_append_right _ (List.mem_append_right _ (List.mem_append_right _ (List.mem_append_right _ (List.mem_append_right _ (List.mem_append_right _ (List.mem_append_left _ h))))))
theorem pb_in_7 {c : Jvm.Cond} (h : c ∈ tables_1_7) : c ∈ lw_tbl := List.mem_append_right _ (List.mem_append_right _ (List.mem_append_right _ (List.mem_append_right _ (List.mem_append_right _ (List.mem_append_right _ (List.mem_append_right _ (List.mem_append_left _ h)))))))
theorem pb_in_8 {c : Jvm.Cond} (h : c ∈ tables_1_8) : c ∈ lw_tbl := List.mem_append_right _ (List.mem_append_right _ (List.mem_append_right _ (List.mem_append_right _ (List.mem_append_right _ (List.mem_append_right _ (List.mem_append_right _ (List.mem_append_right _ (h))))))))
set_option maxRecDepth 8000 in
theorem pb_cd_0 : Jvm.Cond.code (pb_y 0) (pb_cc 0) (pb_mL 0) (pb_rt 0) ∈ lw_tbl := pb_in_1 (List.mem_of_getElem? (i := 40) rfl)
set_option maxRecDepth 8000 in
theorem pb_cd_1 : Jvm.Cond.code (pb_y 1) (pb_cc 1) (pb_mL 1) (pb_rt 1) ∈ lw_tbl := pb_in_2 (List.mem_of_getElem? (i := 193) rfl)
set_option maxRecDepth 8000 in
theorem pb_cd_2 : Jvm.Cond.code (pb_y 2) (pb_cc 2) (pb_mL 2) (pb_rt 2) ∈ lw_tbl := pb_in_3 (List.mem_of_getElem? (i := 66) rfl)
set_option maxRecDepth 8000 in
theorem pb_cd_3 : Jvm.Cond.code (pb_y 3) (pb_cc 3) (pb_mL 3) (pb_rt 3) ∈ lw_tbl := pb_in_3 (List.mem_of_getElem? (i := 103) rfl)
set_option maxRecDepth 8000 in
theorem pb_cd_4 : Jvm.Cond.code (pb_y 4) (pb_cc 4) (pb_mL 4) (pb_rt 4) ∈ lw_tbl := pb_in_3 (List.mem_of_getElem? (i := 99) rfl)
set_option maxRecDepth 8000 in
theorem pb_cd_5 : Jvm.Cond.code (pb_y 5) (pb_cc 5) (pb_mL 5) (pb_rt 5) ∈ lw_tbl := pb_in_3 (List.mem_of_getElem? (i := 91) rfl)
set_option maxRecDepth 8000 in
theorem pb_cd_6 : Jvm.Cond.code (pb_y 6) (pb_cc 6) (pb_mL 6) (pb_rt 6) ∈ lw_tbl := pb_in_3 (List.mem_of_getElem? (i := 95) rfl)
set_option maxRecDepth 8000 in
theorem pb_cd_7 : Jvm.Cond.code (pb_y 7) (pb_cc 7) (pb_mL 7) (pb_rt 7) ∈ lw_tbl := pb_in_3 (List.mem_of_getElem? (i := 167) rfl)
set_option maxRecDepth 8000 in
theorem pb_cd_8 : Jvm.Cond.code (pb_y 8) (pb_cc 8) (pb_mL 8) (pb_rt 8) ∈ lw_tbl := pb_in_4 (List.mem_of_getElem? (i := 60) rfl)
set_option maxRecDepth 8000 in
theorem pb_cd_9 : Jvm.Cond.code (pb_y 9) (pb_cc 9) (pb_mL 9) (pb_rt 9) ∈ lw_tbl := pb_in_3 (List.mem_of_getElem? (i := 175) rfl)
set_option maxRecDepth 8000 in
theorem pb_cd_10 : Jvm.Cond.code (pb_y 10) (pb_cc 10) (pb_mL 10) (pb_rt 10) ∈ lw_tbl := pb_in_4 (List.mem_of_getElem? (i := 166) rfl)
set_option maxRecDepth 8000 in
theorem pb_cd_11 : Jvm.Cond.code (pb_y 11) (pb_cc 11) (pb_mL 11) (pb_rt 11) ∈ lw_tbl := pb_in_3 (List.mem_of_getElem? (i := 171) rfl)
set_option maxRecDepth 8000 in
theorem pb_cd_12 : Jvm.Cond.code (pb_y 12) (pb_cc 12) (pb_mL 12) (pb_rt 12) ∈ lw_tbl := pb_in_3 (List.mem_of_getElem? (i := 159) rfl)
set_option maxRecDepth 8000 in
theorem pb_cd_13 : Jvm.Cond.code (pb_y 13) (pb_cc 13) (pb_mL 13) (pb_rt 13) ∈ lw_tbl := pb_in_4 (List.mem_of_getElem? (i := 158) rfl)
set_option maxRecDepth 8000 in
theorem pb_cd_14 : Jvm.Cond.code (pb_y 14) (pb_cc 14) (pb_mL 14) (pb_rt 14) ∈ lw_tbl := pb_in_4 (List.mem_of_getElem? (i := 162) rfl)
set_option maxRecDepth 8000 in
theorem pb_cd_15 : Jvm.Cond.code (pb_y 15) (pb_cc 15) (pb_mL 15) (pb_rt 15) ∈ lw_tbl := pb_in_4 (List.mem_of_getElem? (i := 170) rfl)
set_option maxRecDepth 8000 in
theorem pb_cd_16 : Jvm.Cond.code (pb_y 16) (pb_cc 16) (pb_mL 16) (pb_rt 16) ∈ lw_tbl := pb_in_4 (List.mem_of_getElem? (i := 174) rfl)
set_option maxRecDepth 8000 in
theorem pb_cd_17 : Jvm.Cond.code (pb_y 17) (pb_cc 17) (pb_mL 17) (pb_rt 17) ∈ lw_tbl := pb_in_4 (List.mem_of_getElem? (i := 178) rfl)
set_option maxRecDepth 8000 in
theorem pb_cd_18 : Jvm.Cond.code (pb_y 18) (pb_cc 18) (pb_mL 18) (pb_rt 18) ∈ lw_tbl := pb_in_4 (List.mem_of_getElem? (i := 182) rfl)
set_option maxRecDepth 8000 in
theorem pb_cd_19 : Jvm.Cond.code (pb_y 19) (pb_cc 19) (pb_mL 19) (pb_rt 19) ∈ lw_tbl := pb_in_4 (List.mem_of_getElem? (i := 188) rfl)
set_option maxRecDepth 8000 in
theorem pb_cd_20 : Jvm.Cond.code (pb_y 20) (pb_cc 20) (pb_mL 20) (pb_rt 20) ∈ lw_tbl := pb_in_4 (List.mem_of_getElem? (i := 213) rfl)
set_option maxRecDepth 8000 in
theorem pb_cd_21 : Jvm.Cond.code (pb_y 21) (pb_cc 21) (pb_mL 21) (pb_rt 21) ∈ lw_tbl := pb_in_4 (List.mem_of_getElem? (i := 222) rfl)
set_option maxRecDepth 8000 in
theorem pb_cd_22 : Jvm.Cond.code (pb_y 22) (pb_cc 22) (pb_mL 22) (pb_rt 22) ∈ lw_tbl := pb_in_5 (List.mem_of_getElem? (i := 1) rfl)
set_option maxRecDepth 8000 in
theorem pb_cd_23 : Jvm.Cond.code (pb_y 23) (pb_cc 23) (pb_mL 23) (pb_rt 23) ∈ lw_tbl := pb_in_5 (List.mem_of_getElem? (i := 12) rfl)
set_option maxRecDepth 8000 in
theorem pb_cd_24 : Jvm.Cond.code (pb_y 24) (pb_cc 24) (pb_mL 24) (pb_rt 24) ∈ lw_tbl := pb_in_5 (List.mem_of_getElem? (i := 16) rfl)
set_option maxRecDepth 8000 in
theorem pb_cd_25 : Jvm.Cond.code (pb_y 25) (pb_cc 25) (pb_mL 25) (pb_rt 25) ∈ lw_tbl := pb_in_5 (List.mem_of_getElem? (i := 54) rfl)
set_option maxRecDepth 8000 in
theorem pb_cd_26 : Jvm.Cond.code (pb_y 26) (pb_cc 26) (pb_mL 26) (pb_rt 26) ∈ lw_tbl := pb_in_5 (List.mem_of_getElem? (i := 58) rfl)
set_option maxRecDepth 8000 in
theorem pb_cd_27 : Jvm.Cond.code (pb_y 27) (pb_cc 27) (pb_mL 27) (pb_rt 27) ∈ lw_tbl := pb_in_2 (List.mem_of_getElem? (i := 65) rfl)
set_option maxRecDepth 8000 in
theorem pb_cd_28 : Jvm.Cond.code (pb_y 28) (pb_cc 28) (pb_mL 28) (pb_rt 28) ∈ lw_tbl := pb_in_3 (List.mem_of_getElem? (i := 123) rfl)
set_option maxRecDepth 8000 in
theorem pb_cd_29 : Jvm.Cond.code (pb_y 29) (pb_cc 29) (pb_mL 29) (pb_rt 29) ∈ lw_tbl := pb_in_3 (List.mem_of_getElem? (i := 128) rfl)
set_option maxRecDepth 8000 in
theorem pb_cd_30 : Jvm.Cond.code (pb_y 30) (pb_cc 30) (pb_mL 30) (pb_rt 30) ∈ lw_tbl := pb_in_3 (List.mem_of_getElem? (i := 132) rfl)
set_option maxRecDepth 8000 in
theorem pb_cd_31 : Jvm.Cond.code (pb_y 31) (pb_cc 31) (pb_mL 31) (pb_rt 31) ∈ lw_tbl := pb_in_3 (List.mem_of_getElem? (i := 136) rfl)
set_option maxRecDepth 8000 in
theorem pb_cd_32 : Jvm.Cond.code (pb_y 32) (pb_cc 32) (pb_mL 32) (pb_rt 32) ∈ lw_tbl := pb_in_3 (List.mem_of_getElem? (i := 140) rfl)
set_option maxRecDepth 8000 in
theorem pb_cd_33 : Jvm.Cond.code (pb_y 33) (pb_cc 33) (pb_mL 33) (pb_rt 33) ∈ lw_tbl := pb_in_3 (List.mem_of_getElem? (i := 145) rfl)
set_option maxRecDepth 8000 in
theorem pb_cd_34 : Jvm.Cond.code (pb_y 34) (pb_cc 34) (pb_mL 34) (pb_rt 34) ∈ lw_tbl := pb_in_3 (List.mem_of_getElem? (i := 150) rfl)
set_option maxRecDepth 8000 in
theorem pb_cd_35 : Jvm.Cond.code (pb_y 35) (pb_cc 35) (pb_mL 35) (pb_rt 35) ∈ lw_tbl := pb_in_3 (List.mem_of_getElem? (i := 155) rfl)
set_option maxRecDepth 8000 in
theorem pb_cd_36 : Jvm.Cond.code (pb_y 36) (pb_cc 36) (pb_mL 36) (pb_rt 36) ∈ lw_tbl := pb_in_3 (List.mem_of_getElem? (i := 183) rfl)
set_option maxRecDepth 8000 in
theorem pb_cd_37 : Jvm.Cond.code (pb_y 37) (pb_cc 37) (pb_mL 37) (pb_rt 37) ∈ lw_tbl := pb_in_3 (List.mem_of_getElem? (i := 192) rfl)
set_option maxRecDepth 8000 in
theorem pb_cd_38 : Jvm.Cond.code (pb_y 38) (pb_cc 38) (pb_mL 38) (pb_rt 38) ∈ lw_tbl := pb_in_3 (List.mem_of_getElem? (i := 197) rfl)
set_option maxRecDepth 8000 in
theorem pb_cd_39 : Jvm.Cond.code (pb_y 39) (pb_cc 39) (pb_mL 39) (pb_rt 39) ∈ lw_tbl := pb_in_4 (List.mem_of_getElem? (i := 111) rfl)
set_option maxRecDepth 8000 in
theorem pb_cd_40 : Jvm.Cond.code (pb_y 40) (pb_cc 40) (pb_mL 40) (pb_rt 40) ∈ lw_tbl := pb_in_4 (List.mem_of_getElem? (i := 121) rfl)
set_option maxRecDepth 8000 in
theorem pb_cd_41 : Jvm.Cond.code (pb_y 41) (pb_cc 41) (pb_mL 41) (pb_rt 41) ∈ lw_tbl := pb_in_4 (List.mem_of_getElem? (i := 115) rfl)
set_option maxRecDepth 8000 in
theorem pb_cd_42 : Jvm.Cond.code (pb_y 42) (pb_cc 42) (pb_mL 42) (pb_rt 42) ∈ lw_tbl := pb_in_5 (List.mem_of_getElem? (i := 103) rfl)
set_option maxRecDepth 8000 in
theorem pb_cd_43 : Jvm.Cond.code (pb_y 43) (pb_cc 43) (pb_mL 43) (pb_rt 43) ∈ lw_tbl := pb_in_5 (List.mem_of_getElem? (i := 107) rfl)
set_option maxRecDepth 8000 in
theorem pb_cd_44 : Jvm.Cond.code (pb_y 44) (pb_cc 44) (pb_mL 44) (pb_rt 44) ∈ lw_tbl := pb_in_5 (List.mem_of_getElem? (i := 111) rfl)
set_option maxRecDepth 8000 in
theorem pb_cd_45 : Jvm.Cond.code (pb_y 45) (pb_cc 45) (pb_mL 45) (pb_rt 45) ∈ lw_tbl := pb_in_5 (List.mem_of_getElem? (i := 120) rfl)
set_option maxRecDepth 8000 in
theorem pb_cd_46 : Jvm.Cond.code (pb_y 46) (pb_cc 46) (pb_mL 46) (pb_rt 46) ∈ lw_tbl := pb_in_5 (List.mem_of_getElem? (i := 116) rfl)
set_option maxRecDepth 8000 in
theorem pb_cd_47 : Jvm.Cond.code (pb_y 47) (pb_cc 47) (pb_mL 47) (pb_rt 47) ∈ lw_tbl := pb_in_5 (List.mem_of_getElem? (i := 124) rfl)
set_option maxRecDepth 8000 in
theorem pb_cd_48 : Jvm.Cond.code (pb_y 48) (pb_cc 48) (pb_mL 48) (pb_rt 48) ∈ lw_tbl := pb_in_5 (List.mem_of_getElem? (i := 128) rfl)
set_option maxRecDepth 8000 in
theorem pb_cd_49 : Jvm.Cond.code (pb_y 49) (pb_cc 49) (pb_mL 49) (pb_rt 49) ∈ lw_tbl := pb_in_2 (List.mem_of_getElem? (i := 34) rfl)
set_option maxRecDepth 8000 in
theorem pb_cd_50 : Jvm.Cond.code (pb_y 50) (pb_cc 50) (pb_mL 50) (pb_rt 50) ∈ lw_tbl := pb_in_4 (List.mem_of_getElem? (i := 130) rfl)
set_option maxRecDepth 8000 in
theorem pb_cd_51 : Jvm.Cond.code (pb_y 51) (pb_cc 51) (pb_mL 51) (pb_rt 51) ∈ lw_tbl := pb_in_4 (List.mem_of_getElem? (i := 136) rfl)
set_option maxRecDepth 8000 in
theorem pb_cd_52 : Jvm.Cond.code (pb_y 52) (pb_cc 52) (pb_mL 52) (pb_rt 52) ∈ lw_tbl := pb_in_4 (List.mem_of_getElem? (i := 141) rfl)
set_option maxRecDepth 8000 in
theorem pb_cd_53 : Jvm.Cond.code (pb_y 53) (pb_cc 53) (pb_mL 53) (pb_rt 53) ∈ lw_tbl := pb_in_4 (List.mem_of_getElem? (i := 149) rfl)
set_option maxRecDepth 8000 in
theorem pb_cd_54 : Jvm.Cond.code (pb_y 54) (pb_cc 54) (pb_mL 54) (pb_rt 54) ∈ lw_tbl := pb_in_4 (List.mem_of_getElem? (i := 154) rfl)
set_option maxRecDepth 8000 in
theorem pb_cd_55 : Jvm.Cond.code (pb_y 55) (pb_cc 55) (pb_mL 55) (pb_rt 55) ∈ lw_tbl := pb_in_5 (List.mem_of_getElem? (i := 25) rfl)
set_option maxRecDepth 8000 in
theorem pb_cd_56 : Jvm.Cond.code (pb_y 56) (pb_cc 56) (pb_mL 56) (pb_rt 56) ∈ lw_tbl := pb_in_5 (List.mem_of_getElem? (i := 29) rfl)
set_option maxRecDepth 8000 in
theorem pb_cd_57 : Jvm.Cond.code (pb_y 57) (pb_cc 57) (pb_mL 57) (pb_rt 57) ∈ lw_tbl := pb_in_5 (List.mem_of_getElem? (i := 33) rfl)
set_option maxRecDepth 8000 in
theorem pb_cd_58 : Jvm.Cond.code (pb_y 58) (pb_cc 58) (pb_mL 58) (pb_rt 58) ∈ lw_tbl := pb_in_5 (List.mem_of_getElem? (i := 37) rfl)
set_option maxRecDepth 8000 in
theorem pb_cd_59 : Jvm.Cond.code (pb_y 59) (pb_cc 59) (pb_mL 59) (pb_rt 59) ∈ lw_tbl := pb_in_2 (List.mem_of_getElem? (i := 103) rfl)
set_option maxRecDepth 8000 in
theorem pb_cd_60 : Jvm.Cond.code (pb_y 60) (pb_cc 60) (pb_mL 60) (pb_rt 60) ∈ lw_tbl := pb_in_4 (List.mem_of_getElem? (i := 76) rfl)
set_option maxRecDepth 8000 in
theorem pb_cd_61 : Jvm.Cond.code (pb_y 61) (pb_cc 61) (pb_mL 61) (pb_rt 61) ∈ lw_tbl := pb_in_4 (List.mem_of_getElem? (i := 80) rfl)
set_option maxRecDepth 8000 in
theorem pb_cd_62 : Jvm.Cond.code (pb_y 62) (pb_cc 62) (pb_mL 62) (pb_rt 62) ∈ lw_tbl := pb_in_4 (List.mem_of_getElem? (i := 84) rfl)
set_option maxRecDepth 8000 in
theorem pb_cd_63 : Jvm.Cond.code (pb_y 63) (pb_cc 63) (pb_mL 63) (pb_rt 63) ∈ lw_tbl := pb_in_4 (List.mem_of_getElem? (i := 89) rfl)
set_option maxRecDepth 8000 in
theorem pb_cd_64 : Jvm.Cond.code (pb_y 64) (pb_cc 64) (pb_mL 64) (pb_rt 64) ∈ lw_tbl := pb_in_4 (List.mem_of_getElem? (i := 103) rfl)
set_option maxRecDepth 8000 in
theorem pb_cd_65 : Jvm.Cond.code (pb_y 65) (pb_cc 65) (pb_mL 65) (pb_rt 65) ∈ lw_tbl := pb_in_4 (List.mem_of_getElem? (i := 93) rfl)
set_option maxRecDepth 8000 in
theorem pb_cd_66 : Jvm.Cond.code (pb_y 66) (pb_cc 66) (pb_mL 66) (pb_rt 66) ∈ lw_tbl := pb_in_4 (List.mem_of_getElem? (i := 97) rfl)
set_option maxRecDepth 8000 in
theorem pb_cd_67 : Jvm.Cond.code (pb_y 67) (pb_cc 67) (pb_mL 67) (pb_rt 67) ∈ lw_tbl := pb_in_5 (List.mem_of_getElem? (i := 137) rfl)
set_option maxRecDepth 8000 in
theorem pb_cd_68 : Jvm.Cond.code (pb_y 68) (pb_cc 68) (pb_mL 68) (pb_rt 68) ∈ lw_tbl := pb_in_5 (List.mem_of_getElem? (i := 149) rfl)
set_option maxRecDepth 8000 in
theorem pb_cd_69 : Jvm.Cond.code (pb_y 69) (pb_cc 69) (pb_mL 69) (pb_rt 69) ∈ lw_tbl := pb_in_5 (List.mem_of_getElem? (i := 145) rfl)
set_option maxRecDepth 8000 in
theorem pb_cd_70 : Jvm.Cond.code (pb_y 70) (pb_cc 70) (pb_mL 70) (pb_rt 70) ∈ lw_tbl := pb_in_1 (List.mem_of_getElem? (i := 102) rfl)
set_option maxRecDepth 8000 in
theorem pb_cd_71 : Jvm.Cond.code (pb_y 71) (pb_cc 71) (pb_mL 71) (pb_rt 71) ∈ lw_tbl := pb_in_3 (List.mem_of_getElem? (i := 37) rfl)
set_option maxRecDepth 8000 in
theorem pb_cd_72 : Jvm.Cond.code (pb_y 72) (pb_cc 72) (pb_mL 72) (pb_rt 72) ∈ lw_tbl := pb_in_3 (List.mem_of_getElem? (i := 56) rfl)
set_option maxRecDepth 8000 in
theorem pb_cd_73 : Jvm.Cond.code (pb_y 73) (pb_cc 73) (pb_mL 73) (pb_rt 73) ∈ lw_tbl := pb_in_3 (List.mem_of_getElem? (i := 73) rfl)
set_option maxRecDepth 8000 in
theorem pb_cd_74 : Jvm.Cond.code (pb_y 74) (pb_cc 74) (pb_mL 74) (pb_rt 74) ∈ lw_tbl := pb_in_3 (List.mem_of_getElem? (i := 115) rfl)
set_option maxRecDepth 8000 in
theorem pb_cd_75 : Jvm.Cond.code (pb_y 75) (pb_cc 75) (pb_mL 75) (pb_rt 75) ∈ lw_tbl := pb_in_1 (List.mem_of_getElem? (i := 229) rfl)
set_option maxRecDepth 8000 in
theorem pb_cd_76 : Jvm.Cond.code (pb_y 76) (pb_cc 76) (pb_mL 76) (pb_rt 76) ∈ lw_tbl := pb_in_3 (List.mem_of_getElem? (i := 163) rfl)
set_option maxRecDepth 8000 in
theorem pb_cd_77 : Jvm.Cond.code (pb_y 77) (pb_cc 77) (pb_mL 77) (pb_rt 77) ∈ lw_tbl := pb_in_3 (List.mem_of_getElem? (i := 179) rfl)
set_option maxRecDepth 8000 in
theorem pb_cd_78 : Jvm.Cond.code (pb_y 78) (pb_cc 78) (pb_mL 78) (pb_rt 78) ∈ lw_tbl := pb_in_4 (List.mem_of_getElem? (i := 2) rfl)
set_option maxRecDepth 8000 in
theorem pb_cd_79 : Jvm.Cond.code (pb_y 79) (pb_cc 79) (pb_mL 79) (pb_rt 79) ∈ lw_tbl := pb_in_3 (List.mem_of_getElem? (i := 238) rfl)
set_option maxRecDepth 8000 in
theorem pb_cd_80 : Jvm.Cond.code (pb_y 80) (pb_cc 80) (pb_mL 80) (pb_rt 80) ∈ lw_tbl := pb_in_5 (List.mem_of_getElem? (i := 95) rfl)
set_option maxRecDepth 8000 in
theorem pb_cd_81 : Jvm.Cond.code (pb_y 81) (pb_cc 81) (pb_mL 81) (pb_rt 81) ∈ lw_tbl := pb_in_4 (List.mem_of_getElem? (i := 197) rfl)
set_option maxRecDepth 8000 in
theorem pb_cd_82 : Jvm.Cond.code (pb_y 82) (pb_cc 82) (pb_mL 82) (pb_rt 82) ∈ lw_tbl := pb_in_4 (List.mem_of_getElem? (i := 14) rfl)
set_option maxRecDepth 8000 in
theorem pb_cd_83 : Jvm.Cond.code (pb_y 83) (pb_cc 83) (pb_mL 83) (pb_rt 83) ∈ lw_tbl := pb_in_5 (List.mem_of_getElem? (i := 45) rfl)
set_option maxRecDepth 8000 in
theorem pb_cd_84 : Jvm.Cond.code (pb_y 84) (pb_cc 84) (pb_mL 84) (pb_rt 84) ∈ lw_tbl := pb_in_1 (List.mem_of_getElem? (i := 173) rfl)
set_option maxRecDepth 8000 in
theorem pb_cd_85 : Jvm.Cond.code (pb_y 85) (pb_cc 85) (pb_mL 85) (pb_rt 85) ∈ lw_tbl := pb_in_2 (List.mem_of_getElem? (i := 182) rfl)
set_option maxRecDepth 8000 in
theorem pb_cd_86 : Jvm.Cond.code (pb_y 86) (pb_cc 86) (pb_mL 86) (pb_rt 86) ∈ lw_tbl := pb_in_2 (List.mem_of_getElem? (i := 186) rfl)
set_option maxRecDepth 8000 in
theorem pb_cd_87 : Jvm.Cond.code (pb_y 87) (pb_cc 87) (pb_mL 87) (pb_rt 87) ∈ lw_tbl := pb_in_2 (List.mem_of_getElem? (i := 214) rfl)
set_option maxRecDepth 8000 in
theorem pb_cd_88 : Jvm.Cond.code (pb_y 88) (pb_cc 88) (pb_mL 88) (pb_rt 88) ∈ lw_tbl := pb_in_2 (List.mem_of_getElem? (i := 200) rfl)
set_option maxRecDepth 8000 in
theorem pb_cd_89 : Jvm.Cond.code (pb_y 89) (pb_cc 89) (pb_mL 89) (pb_rt 89) ∈ lw_tbl := pb_in_2 (List.mem_of_getElem? (i := 203) rfl)
set_option maxRecDepth 8000 in
theorem pb_cd_90 : Jvm.Cond.code (pb_y 90) (pb_cc 90) (pb_mL 90) (pb_rt 90) ∈ lw_tbl := pb_in_2 (List.mem_of_getElem? (i := 206) rfl)
set_option maxRecDepth 8000 in
theorem pb_cd_91 : Jvm.Cond.code (pb_y 91) (pb_cc 91) (pb_mL 91) (pb_rt 91) ∈ lw_tbl := pb_in_2 (List.mem_of_getElem? (i := 218) rfl)
set_option maxRecDepth 8000 in
theorem pb_cd_92 : Jvm.Cond.code (pb_y 92) (pb_cc 92) (pb_mL 92) (pb_rt 92) ∈ lw_tbl := pb_in_2 (List.mem_of_getElem? (i := 222) rfl)
set_option maxRecDepth 8000 in
theorem pb_cd_93 : Jvm.Cond.code (pb_y 93) (pb_cc 93) (pb_mL 93) (pb_rt 93) ∈ lw_tbl := pb_in_2 (List.mem_of_getElem? (i := 228) rfl)
set_option maxRecDepth 8000 in
theorem pb_cd_94 : Jvm.Cond.code (pb_y 94) (pb_cc 94) (pb_mL 94) (pb_rt 94) ∈ lw_tbl := pb_in_3 (List.mem_of_getElem? (i := 33) rfl)
set_option maxRecDepth 8000 in
theorem pb_cd_95 : Jvm.Cond.code (pb_y 95) (pb_cc 95) (pb_mL 95) (pb_rt 95) ∈ lw_tbl := pb_in_3 (List.mem_of_getElem? (i := 44) rfl)
set_option maxRecDepth 8000 in
theorem pb_cd_96 : Jvm.Cond.code (pb_y 96) (pb_cc 96) (pb_mL 96) (pb_rt 96) ∈ lw_tbl := pb_in_3 (List.mem_of_getElem? (i := 48) rfl)
set_option maxRecDepth 8000 in
theorem pb_cd_97 : Jvm.Cond.code (pb_y 97) (pb_cc 97) (pb_mL 97) (pb_rt 97) ∈ lw_tbl := pb_in_3 (List.mem_of_getElem? (i := 52) rfl)
set_option maxRecDepth 8000 in
theorem pb_cd_98 : Jvm.Cond.code (pb_y 98) (pb_cc 98) (pb_mL 98) (pb_rt 98) ∈ lw_tbl := pb_in_2 (List.mem_of_getElem? (i := 210) rfl)
set_option maxRecDepth 8000 in
theorem pb_cd_99 : Jvm.Cond.code (pb_y 99) (pb_cc 99) (pb_mL 99) (pb_rt 99) ∈ lw_tbl := pb_in_1 (List.mem_of_getElem? (i := 33) rfl)
set_option maxRecDepth 8000 in
theorem pb_cd_100 : Jvm.Cond.code (pb_y 100) (pb_cc 100) (pb_mL 100) (pb_rt 100) ∈ lw_tbl := pb_in_2 (List.mem_of_getElem? (i := 162) rfl)
set_option maxRecDepth 8000 in
theorem pb_cd_101 : Jvm.Cond.code (pb_y 101) (pb_cc 101) (pb_mL 101) (pb_rt 101) ∈ lw_tbl := pb_in_5 (List.mem_of_getElem? (i := 162) rfl)
set_option maxRecDepth 8000 in
theorem pb_cd_102 : Jvm.Cond.code (pb_y 102) (pb_cc 102) (pb_mL 102) (pb_rt 102) ∈ lw_tbl := pb_in_2 (List.mem_of_getElem? (i := 174) rfl)
set_option maxRecDepth 8000 in
theorem pb_cd_103 : Jvm.Cond.code (pb_y 103) (pb_cc 103) (pb_mL 103) (pb_rt 103) ∈ lw_tbl := pb_in_2 (List.mem_of_getElem? (i := 178) rfl)
set_option maxRecDepth 8000 in
theorem pb_cd_104 : Jvm.Cond.code (pb_y 104) (pb_cc 104) (pb_mL 104) (pb_rt 104) ∈ lw_tbl := pb_in_3 (List.mem_of_getElem? (i := 62) rfl)
set_option maxRecDepth 8000 in
theorem pb_cd_105 : Jvm.Cond.code (pb_y 105) (pb_cc 105) (pb_mL 105) (pb_rt 105) ∈ lw_tbl := pb_in_3 (List.mem_of_getElem? (i := 87) rfl)
set_option maxRecDepth 8000 in
theorem pb_cd_106 : Jvm.Cond.code (pb_y 106) (pb_cc 106) (pb_mL 106) (pb_rt 106) ∈ lw_tbl := pb_in_3 (List.mem_of_getElem? (i := 111) rfl)
set_option maxRecDepth 8000 in
theorem pb_cd_107 : Jvm.Cond.code (pb_y 107) (pb_cc 107) (pb_mL 107) (pb_rt 107) ∈ lw_tbl := pb_in_4 (List.mem_of_getElem? (i := 68) rfl)
set_option maxRecDepth 8000 in
theorem pb_cd_108 : Jvm.Cond.code (pb_y 108) (pb_cc 108) (pb_mL 108) (pb_rt 108) ∈ lw_tbl := pb_in_2 (List.mem_of_getElem? (i := 8) rfl)
set_option maxRecDepth 8000 in
theorem pb_cd_109 : Jvm.Cond.code (pb_y 109) (pb_cc 109) (pb_mL 109) (pb_rt 109) ∈ lw_tbl := pb_in_3 (List.mem_of_getElem? (i := 224) rfl)
set_option maxRecDepth 8000 in
theorem pb_cd_110 : Jvm.Cond.code (pb_y 110) (pb_cc 110) (pb_mL 110) (pb_rt 110) ∈ lw_tbl := pb_in_5 (List.mem_of_getElem? (i := 87) rfl)
set_option maxRecDepth 8000 in
theorem pb_cd_111 : Jvm.Cond.code (pb_y 111) (pb_cc 111) (pb_mL 111) (pb_rt 111) ∈ lw_tbl := pb_in_5 (List.mem_of_getElem? (i := 82) rfl)
set_option maxRecDepth 8000 in
theorem pb_cd_112 : Jvm.Cond.code (pb_y 112) (pb_cc 112) (pb_mL 112) (pb_rt 112) ∈ lw_tbl := pb_in_3 (List.mem_of_getElem? (i := 213) rfl)
set_option maxRecDepth 8000 in
theorem pb_cd_113 : Jvm.Cond.code (pb_y 113) (pb_cc 113) (pb_mL 113) (pb_rt 113) ∈ lw_tbl := pb_in_4 (List.mem_of_getElem? (i := 25) rfl)
set_option maxRecDepth 8000 in
theorem pb_cd_114 : Jvm.Cond.code (pb_y 114) (pb_cc 114) (pb_mL 114) (pb_rt 114) ∈ lw_tbl := pb_in_4 (List.mem_of_getElem? (i := 205) rfl)
set_option maxRecDepth 8000 in
theorem pb_cd_115 : Jvm.Cond.code (pb_y 115) (pb_cc 115) (pb_mL 115) (pb_rt 115) ∈ lw_tbl := pb_in_4 (List.mem_of_getElem? (i := 34) rfl)
set_option maxRecDepth 8000 in
theorem pb_cd_116 : Jvm.Cond.code (pb_y 116) (pb_cc 116) (pb_mL 116) (pb_rt 116) ∈ lw_tbl := pb_in_4 (List.mem_of_getElem? (i := 42) rfl)
set_option maxRecDepth 8000 in
theorem pb_cd_117 : Jvm.Cond.code (pb_y 117) (pb_cc 117) (pb_mL 117) (pb_rt 117) ∈ lw_tbl := pb_in_4 (List.mem_of_getElem? (i := 38) rfl)
set_option maxRecDepth 8000 in
theorem pb_cd_118 : Jvm.Cond.code (pb_y 118) (pb_cc 118) (pb_mL 118) (pb_rt 118) ∈ lw_tbl := pb_in_4 (List.mem_of_getElem? (i := 46) rfl)
set_option maxRecDepth 8000 in
theorem pb_cd_119 : Jvm.Cond.code (pb_y 119) (pb_cc 119) (pb_mL 119) (pb_rt 119) ∈ lw_tbl := pb_in_2 (List.mem_of_getElem? (i := 54) rfl)
set_option maxRecDepth 8000 in
theorem pb_cd_120 : Jvm.Cond.code (pb_y 120) (pb_cc 120) (pb_mL 120) (pb_rt 120) ∈ lw_tbl := pb_in_5 (List.mem_of_getElem? (i := 66) rfl)
set_option maxRecDepth 8000 in
theorem pb_cd_121 : Jvm.Cond.code (pb_y 121) (pb_cc 121) (pb_mL 121) (pb_rt 121) ∈ lw_tbl := pb_in_5 (List.mem_of_getElem? (i := 70) rfl)
set_option maxRecDepth 8000 in
theorem pb_cd_122 : Jvm.Cond.code (pb_y 122) (pb_cc 122) (pb_mL 122) (pb_rt 122) ∈ lw_tbl := pb_in_5 (List.mem_of_getElem? (i := 74) rfl)
set_option maxRecDepth 8000 in
theorem pb_cd_123 : Jvm.Cond.code (pb_y 123) (pb_cc 123) (pb_mL 123) (pb_rt 123) ∈ lw_tbl := pb_in_1 (List.mem_of_getElem? (i := 25) rfl)
set_option maxRecDepth 8000 in
theorem pb_cd_124 : Jvm.Cond.code (pb_y 124) (pb_cc 124) (pb_mL 124) (pb_rt 124) ∈ lw_tbl := pb_in_2 (List.mem_of_getElem? (i := 158) rfl)
set_option maxRecDepth 8000 in
theorem pb_cd_125 : Jvm.Cond.code (pb_y 125) (pb_cc 125) (pb_mL 125) (pb_rt 125) ∈ lw_tbl := pb_in_2 (List.mem_of_getElem? (i := 166) rfl)
set_option maxRecDepth 8000 in
theorem pb_cd_126 : Jvm.Cond.code (pb_y 126) (pb_cc 126) (pb_mL 126) (pb_rt 126) ∈ lw_tbl := pb_in_2 (List.mem_of_getElem? (i := 170) rfl)
set_option maxRecDepth 8000 in
theorem pb_cd_127 : Jvm.Cond.code (pb_y 127) (pb_cc 127) (pb_mL 127) (pb_rt 127) ∈ lw_tbl := pb_in_3 (List.mem_of_getElem? (i := 79) rfl)
set_option maxRecDepth 8000 in
theorem pb_cd_128 : Jvm.Cond.code (pb_y 128) (pb_cc 128) (pb_mL 128) (pb_rt 128) ∈ lw_tbl := pb_in_3 (List.mem_of_getElem? (i := 83) rfl)
set_option maxRecDepth 8000 in
theorem pb_cd_129 : Jvm.Cond.code (pb_y 129) (pb_cc 129) (pb_mL 129) (pb_rt 129) ∈ lw_tbl := pb_in_3 (List.mem_of_getElem? (i := 107) rfl)
set_option maxRecDepth 8000 in
theorem pb_cd_130 : Jvm.Cond.code (pb_y 130) (pb_cc 130) (pb_mL 130) (pb_rt 130) ∈ lw_tbl := pb_in_3 (List.mem_of_getElem? (i := 119) rfl)
set_option maxRecDepth 8000 in
theorem pb_cd_131 : Jvm.Cond.code (pb_y 131) (pb_cc 131) (pb_mL 131) (pb_rt 131) ∈ lw_tbl := pb_in_3 (List.mem_of_getElem? (i := 188) rfl)
set_option maxRecDepth 8000 in
theorem pb_cd_132 : Jvm.Cond.code (pb_y 132) (pb_cc 132) (pb_mL 132) (pb_rt 132) ∈ lw_tbl := pb_in_3 (List.mem_of_getElem? (i := 202) rfl)
set_option maxRecDepth 8000 in
theorem pb_cd_133 : Jvm.Cond.code (pb_y 133) (pb_cc 133) (pb_mL 133) (pb_rt 133) ∈ lw_tbl := pb_in_3 (List.mem_of_getElem? (i := 208) rfl)
set_option maxRecDepth 8000 in
theorem pb_cd_134 : Jvm.Cond.code (pb_y 134) (pb_cc 134) (pb_mL 134) (pb_rt 134) ∈ lw_tbl := pb_in_3 (List.mem_of_getElem? (i := 234) rfl)
set_option maxRecDepth 8000 in
theorem pb_cd_135 : Jvm.Cond.code (pb_y 135) (pb_cc 135) (pb_mL 135) (pb_rt 135) ∈ lw_tbl := pb_in_4 (List.mem_of_getElem? (i := 8) rfl)
set_option maxRecDepth 8000 in
theorem pb_cd_136 : Jvm.Cond.code (pb_y 136) (pb_cc 136) (pb_mL 136) (pb_rt 136) ∈ lw_tbl := pb_in_4 (List.mem_of_getElem? (i := 21) rfl)
set_option maxRecDepth 8000 in
theorem pb_cd_137 : Jvm.Cond.code (pb_y 137) (pb_cc 137) (pb_mL 137) (pb_rt 137) ∈ lw_tbl := pb_in_4 (List.mem_of_getElem? (i := 30) rfl)
set_option maxRecDepth 8000 in
theorem pb_cd_138 : Jvm.Cond.code (pb_y 138) (pb_cc 138) (pb_mL 138) (pb_rt 138) ∈ lw_tbl := pb_in_4 (List.mem_of_getElem? (i := 52) rfl)
set_option maxRecDepth 8000 in
theorem pb_cd_139 : Jvm.Cond.code (pb_y 139) (pb_cc 139) (pb_mL 139) (pb_rt 139) ∈ lw_tbl := pb_in_4 (List.mem_of_getElem? (i := 64) rfl)
set_option maxRecDepth 8000 in
theorem pb_cd_140 : Jvm.Cond.code (pb_y 140) (pb_cc 140) (pb_mL 140) (pb_rt 140) ∈ lw_tbl := pb_in_4 (List.mem_of_getElem? (i := 72) rfl)
set_option maxRecDepth 8000 in
theorem pb_cd_141 : Jvm.Cond.code (pb_y 141) (pb_cc 141) (pb_mL 141) (pb_rt 141) ∈ lw_tbl := pb_in_4 (List.mem_of_getElem? (i := 107) rfl)
set_option maxRecDepth 8000 in
theorem pb_cd_142 : Jvm.Cond.code (pb_y 142) (pb_cc 142) (pb_mL 142) (pb_rt 142) ∈ lw_tbl := pb_in_4 (List.mem_of_getElem? (i := 126) rfl)
set_option maxRecDepth 8000 in
theorem pb_cd_143 : Jvm.Cond.code (pb_y 143) (pb_cc 143) (pb_mL 143) (pb_rt 143) ∈ lw_tbl := pb_in_4 (List.mem_of_getElem? (i := 145) rfl)
set_option maxRecDepth 8000 in
theorem pb_cd_144 : Jvm.Cond.code (pb_y 144) (pb_cc 144) (pb_mL 144) (pb_rt 144) ∈ lw_tbl := pb_in_4 (List.mem_of_getElem? (i := 193) rfl)
set_option maxRecDepth 8000 in
theorem pb_cd_145 : Jvm.Cond.code (pb_y 145) (pb_cc 145) (pb_mL 145) (pb_rt 145) ∈ lw_tbl := pb_in_4 (List.mem_of_getElem? (i := 201) rfl)
set_option maxRecDepth 8000 in
theorem pb_cd_146 : Jvm.Cond.code (pb_y 146) (pb_cc 146) (pb_mL 146) (pb_rt 146) ∈ lw_tbl := pb_in_4 (List.mem_of_getElem? (i := 209) rfl)
set_option maxRecDepth 8000 in
theorem pb_cd_147 : Jvm.Cond.code (pb_y 147) (pb_cc 147) (pb_mL 147) (pb_rt 147) ∈ lw_tbl := pb_in_4 (List.mem_of_getElem? (i := 218) rfl)
set_option maxRecDepth 8000 in
theorem pb_cd_148 : Jvm.Cond.code (pb_y 148) (pb_cc 148) (pb_mL 148) (pb_rt 148) ∈ lw_tbl := pb_in_4 (List.mem_of_getElem? (i := 226) rfl)
set_option maxRecDepth 8000 in
theorem pb_cd_149 : Jvm.Cond.code (pb_y 149) (pb_cc 149) (pb_mL 149) (pb_rt 149) ∈ lw_tbl := pb_in_4 (List.mem_of_getElem? (i := 231) rfl)
set_option maxRecDepth 8000 in
theorem pb_cd_150 : Jvm.Cond.code (pb_y 150) (pb_cc 150) (pb_mL 150) (pb_rt 150) ∈ lw_tbl := pb_in_4 (List.mem_of_getElem? (i := 236) rfl)
set_option maxRecDepth 8000 in
theorem pb_cd_151 : Jvm.Cond.code (pb_y 151) (pb_cc 151) (pb_mL 151) (pb_rt 151) ∈ lw_tbl := pb_in_5 (List.mem_of_getElem? (i := 8) rfl)
set_option maxRecDepth 8000 in
theorem pb_cd_152 : Jvm.Cond.code (pb_y 152) (pb_cc 152) (pb_mL 152) (pb_rt 152) ∈ lw_tbl := pb_in_5 (List.mem_of_getElem? (i := 21) rfl)
set_option maxRecDepth 8000 in
theorem pb_cd_153 : Jvm.Cond.code (pb_y 153) (pb_cc 153) (pb_mL 153) (pb_rt 153) ∈ lw_tbl := pb_in_5 (List.mem_of_getElem? (i := 41) rfl)
set_option maxRecDepth 8000 in
theorem pb_cd_154 : Jvm.Cond.code (pb_y 154) (pb_cc 154) (pb_mL 154) (pb_rt 154) ∈ lw_tbl := pb_in_5 (List.mem_of_getElem? (i := 50) rfl)
set_option maxRecDepth 8000 in
theorem pb_cd_155 : Jvm.Cond.code (pb_y 155) (pb_cc 155) (pb_mL 155) (pb_rt 155) ∈ lw_tbl := pb_in_5 (List.mem_of_getElem? (i := 62) rfl)
set_option maxRecDepth 8000 in
theorem pb_cd_156 : Jvm.Cond.code (pb_y 156) (pb_cc 156) (pb_mL 156) (pb_rt 156) ∈ lw_tbl := pb_in_5 (List.mem_of_getElem? (i := 78) rfl)
set_option maxRecDepth 8000 in
theorem pb_cd_157 : Jvm.Cond.code (pb_y 157) (pb_cc 157) (pb_mL 157) (pb_rt 157) ∈ lw_tbl := pb_in_5 (List.mem_of_getElem? (i := 91) rfl)
set_option maxRecDepth 8000 in
theorem pb_cd_158 : Jvm.Cond.code (pb_y 158) (pb_cc 158) (pb_mL 158) (pb_rt 158) ∈ lw_tbl := pb_in_5 (List.mem_of_getElem? (i := 99) rfl)
set_option maxRecDepth 8000 in
theorem pb_cd_159 : Jvm.Cond.code (pb_y 159) (pb_cc 159) (pb_mL 159) (pb_rt 159) ∈ lw_tbl := pb_in_5 (List.mem_of_getElem? (i := 133) rfl)
set_option maxRecDepth 8000 in
theorem pb_cd_160 : Jvm.Cond.code (pb_y 160) (pb_cc 160) (pb_mL 160) (pb_rt 160) ∈ lw_tbl := pb_in_5 (List.mem_of_getElem? (i := 141) rfl)
set_option maxRecDepth 8000 in
theorem pb_cd_161 : Jvm.Cond.code (pb_y 161) (pb_cc 161) (pb_mL 161) (pb_rt 161) ∈ lw_tbl := pb_in_5 (List.mem_of_getElem? (i := 154) rfl)
set_option maxRecDepth 8000 in
theorem pb_cd_162 : Jvm.Cond.code (pb_y 162) (pb_cc 162) (pb_mL 162) (pb_rt 162) ∈ lw_tbl := pb_in_5 (List.mem_of_getElem? (i := 158) rfl)
set_option maxRecDepth 8000 in
theorem pb_cd_163 : Jvm.Cond.code (pb_y 163) (pb_cc 163) (pb_mL 163) (pb_rt 163) ∈ lw_tbl := pb_in_5 (List.mem_of_getElem? (i := 167) rfl)
set_option maxRecDepth 8000 in
theorem pb_cd_164 : Jvm.Cond.code (pb_y 164) (pb_cc 164) (pb_mL 164) (pb_rt 164) ∈ lw_tbl := pb_in_3 (List.mem_of_getElem? (i := 229) rfl)
set_option maxRecDepth 8000 in
theorem pb_cd_165 : Jvm.Cond.code (pb_y 165) (pb_cc 165) (pb_mL 165) (pb_rt 165) ∈ lw_tbl := pb_in_4 (List.mem_of_getElem? (i := 17) rfl)
set_option maxRecDepth 8000 in
theorem pb_cd_166 : Jvm.Cond.code (pb_y 166) (pb_cc 166) (pb_mL 166) (pb_rt 166) ∈ lw_tbl := pb_in_4 (List.mem_of_getElem? (i := 56) rfl)
set_option maxRecDepth 8000 in
theorem pb_cd_167 : Jvm.Cond.code (pb_y 167) (pb_cc 167) (pb_mL 167) (pb_rt 167) ∈ lw_tbl := pb_in_5 (List.mem_of_getElem? (i := 172) rfl)
set_option maxRecDepth 8000 in
theorem pb_cd_168 : Jvm.Cond.code (pb_y 168) (pb_cc 168) (pb_mL 168) (pb_rt 168) ∈ lw_tbl := pb_in_6 (List.mem_of_getElem? (i := 105) rfl)
set_option maxRecDepth 8000 in
theorem pb_cd_169 : Jvm.Cond.code (pb_y 169) (pb_cc 169) (pb_mL 169) (pb_rt 169) ∈ lw_tbl := pb_in_7 (List.mem_of_getElem? (i := 56) rfl)
set_option maxRecDepth 8000 in
theorem pb_cd_170 : Jvm.Cond.code (pb_y 170) (pb_cc 170) (pb_mL 170) (pb_rt 170) ∈ lw_tbl := pb_in_6 (List.mem_of_getElem? (i := 165) rfl)
set_option maxRecDepth 8000 in
theorem pb_cd_171 : Jvm.Cond.code (pb_y 171) (pb_cc 171) (pb_mL 171) (pb_rt 171) ∈ lw_tbl := pb_in_7 (List.mem_of_getElem? (i := 33) rfl)
set_option maxRecDepth 8000 in
theorem pb_cd_172 : Jvm.Cond.code (pb_y 172) (pb_cc 172) (pb_mL 172) (pb_rt 172) ∈ lw_tbl := pb_in_7 (List.mem_of_getElem? (i := 99) rfl)
set_option maxRecDepth 8000 in
theorem pb_cd_173 : Jvm.Cond.code (pb_y 173) (pb_cc 173) (pb_mL 173) (pb_rt 173) ∈ lw_tbl := pb_in_8 (List.mem_of_getElem? (i := 159) rfl)
set_option maxRecDepth 8000 in
theorem pb_cd_174 : Jvm.Cond.code (pb_y 174) (pb_cc 174) (pb_mL 174) (pb_rt 174) ∈ lw_tbl := pb_in_8 (List.mem_of_getElem? (i := 156) rfl)
set_option maxRecDepth 8000 in
theorem pb_cd_175 : Jvm.Cond.code (pb_y 175) (pb_cc 175) (pb_mL 175) (pb_rt 175) ∈ lw_tbl := pb_in_6 (List.mem_of_getElem? (i := 113) rfl)
set_option maxRecDepth 8000 in
theorem pb_cd_176 : Jvm.Cond.code (pb_y 176) (pb_cc 176) (pb_mL 176) (pb_rt 176) ∈ lw_tbl := pb_in_6 (List.mem_of_getElem? (i := 94) rfl)
set_option maxRecDepth 8000 in
theorem pb_cd_177 : Jvm.Cond.code (pb_y 177) (pb_cc 177) (pb_mL 177) (pb_rt 177) ∈ lw_tbl := pb_in_6 (List.mem_of_getElem? (i := 98) rfl)
set_option maxRecDepth 8000 in
theorem pb_cd_178 : Jvm.Cond.code (pb_y 178) (pb_cc 178) (pb_mL 178) (pb_rt 178) ∈ lw_tbl := pb_in_6 (List.mem_of_getElem? (i := 102) rfl)
set_option maxRecDepth 8000 in
theorem pb_cd_179 : Jvm.Cond.code (pb_y 179) (pb_cc 179) (pb_mL 179) (pb_rt 179) ∈ lw_tbl := pb_in_6 (List.mem_of_getElem? (i := 125) rfl)
set_option maxRecDepth 8000 in
theorem pb_cd_180 : Jvm.Cond.code (pb_y 180) (pb_cc 180) (pb_mL 180) (pb_rt 180) ∈ lw_tbl := pb_in_6 (List.mem_of_getElem? (i := 121) rfl)
set_option maxRecDepth 8000 in
theorem pb_cd_181 : Jvm.Cond.code (pb_y 181) (pb_cc 181) (pb_mL 181) (pb_rt 181) ∈ lw_tbl := pb_in_6 (List.mem_of_getElem? (i := 154) rfl)
set_option maxRecDepth 8000 in
theorem pb_cd_182 : Jvm.Cond.code (pb_y 182) (pb_cc 182) (pb_mL 182) (pb_rt 182) ∈ lw_tbl := pb_in_6 (List.mem_of_getElem? (i := 146) rfl)
set_option maxRecDepth 8000 in
theorem pb_cd_183 : Jvm.Cond.code (pb_y 183) (pb_cc 183) (pb_mL 183) (pb_rt 183) ∈ lw_tbl := pb_in_6 (List.mem_of_getElem? (i := 150) rfl)
set_option maxRecDepth 8000 in
theorem pb_cd_184 : Jvm.Cond.code (pb_y 184) (pb_cc 184) (pb_mL 184) (pb_rt 184) ∈ lw_tbl := pb_in_6 (List.mem_of_getElem? (i := 142) rfl)
set_option maxRecDepth 8000 in
theorem pb_cd_185 : Jvm.Cond.code (pb_y 185) (pb_cc 185) (pb_mL 185) (pb_rt 185) ∈ lw_tbl := pb_in_6 (List.mem_of_getElem? (i := 138) rfl)
set_option maxRecDepth 8000 in
theorem pb_cd_186 : Jvm.Cond.code (pb_y 186) (pb_cc 186) (pb_mL 186) (pb_rt 186) ∈ lw_tbl := pb_in_6 (List.mem_of_getElem? (i := 159) rfl)
set_option maxRecDepth 8000 in
theorem pb_cd_187 : Jvm.Cond.code (pb_y 187) (pb_cc 187) (pb_mL 187) (pb_rt 187) ∈ lw_tbl := pb_in_6 (List.mem_of_getElem? (i := 133) rfl)
set_option maxRecDepth 8000 in
theorem pb_cd_188 : Jvm.Cond.code (pb_y 188) (pb_cc 188) (pb_mL 188) (pb_rt 188) ∈ lw_tbl := pb_in_6 (List.mem_of_getElem? (i := 184) rfl)
set_option maxRecDepth 8000 in
theorem pb_cd_189 : Jvm.Cond.code (pb_y 189) (pb_cc 189) (pb_mL 189) (pb_rt 189) ∈ lw_tbl := pb_in_6 (List.mem_of_getElem? (i := 173) rfl)
set_option maxRecDepth 8000 in
theorem pb_cd_190 : Jvm.Cond.code (pb_y 190) (pb_cc 190) (pb_mL 190) (pb_rt 190) ∈ lw_tbl := pb_in_6 (List.mem_of_getElem? (i := 169) rfl)
set_option maxRecDepth 8000 in
theorem pb_cd_191 : Jvm.Cond.code (pb_y 191) (pb_cc 191) (pb_mL 191) (pb_rt 191) ∈ lw_tbl := pb_in_6 (List.mem_of_getElem? (i := 188) rfl)
set_option maxRecDepth 8000 in
theorem pb_cd_192 : Jvm.Cond.code (pb_y 192) (pb_cc 192) (pb_mL 192) (pb_rt 192) ∈ lw_tbl := pb_in_6 (List.mem_of_getElem? (i := 129) rfl)
set_option maxRecDepth 8000 in
theorem pb_cd_193 : Jvm.Cond.code (pb_y 193) (pb_cc 193) (pb_mL 193) (pb_rt 193) ∈ lw_tbl := pb_in_6 (List.mem_of_getElem? (i := 117) rfl)
set_option maxRecDepth 8000 in
theorem pb_cd_194 : Jvm.Cond.code (pb_y 194) (pb_cc 194) (pb_mL 194) (pb_rt 194) ∈ lw_tbl := pb_in_6 (List.mem_of_getElem? (i := 194) rfl)
set_option maxRecDepth 8000 in
theorem pb_cd_195 : Jvm.Cond.code (pb_y 195) (pb_cc 195) (pb_mL 195) (pb_rt 195) ∈ lw_tbl := pb_in_6 (List.mem_of_getElem? (i := 109) rfl)
set_option maxRecDepth 8000 in
theorem pb_cd_196 : Jvm.Cond.code (pb_y 196) (pb_cc 196) (pb_mL 196) (pb_rt 196) ∈ lw_tbl := pb_in_6 (List.mem_of_getElem? (i := 198) rfl)
set_option maxRecDepth 8000 in
theorem pb_cd_197 : Jvm.Cond.code (pb_y 197) (pb_cc 197) (pb_mL 197) (pb_rt 197) ∈ lw_tbl := pb_in_6 (List.mem_of_getElem? (i := 210) rfl)
set_option maxRecDepth 8000 in
theorem pb_cd_198 : Jvm.Cond.code (pb_y 198) (pb_cc 198) (pb_mL 198) (pb_rt 198) ∈ lw_tbl := pb_in_6 (List.mem_of_getElem? (i := 206) rfl)
set_option maxRecDepth 8000 in
theorem pb_cd_199 : Jvm.Cond.code (pb_y 199) (pb_cc 199) (pb_mL 199) (pb_rt 199) ∈ lw_tbl := pb_in_6 (List.mem_of_getElem? (i := 214) rfl)
set_option maxRecDepth 8000 in
theorem pb_cd_200 : Jvm.Cond.code (pb_y 200) (pb_cc 200) (pb_mL 200) (pb_rt 200) ∈ lw_tbl := pb_in_7 (List.mem_of_getElem? (i := 22) rfl)
set_option maxRecDepth 8000 in
theorem pb_cd_201 : Jvm.Cond.code (pb_y 201) (pb_cc 201) (pb_mL 201) (pb_rt 201) ∈ lw_tbl := pb_in_6 (List.mem_of_getElem? (i := 218) rfl)
set_option maxRecDepth 8000 in
theorem pb_cd_202 : Jvm.Cond.code (pb_y 202) (pb_cc 202) (pb_mL 202) (pb_rt 202) ∈ lw_tbl := pb_in_7 (List.mem_of_getElem? (i := 68) rfl)
set_option maxRecDepth 8000 in
theorem pb_cd_203 : Jvm.Cond.code (pb_y 203) (pb_cc 203) (pb_mL 203) (pb_rt 203) ∈ lw_tbl := pb_in_7 (List.mem_of_getElem? (i := 84) rfl)
set_option maxRecDepth 8000 in
theorem pb_cd_204 : Jvm.Cond.code (pb_y 204) (pb_cc 204) (pb_mL 204) (pb_rt 204) ∈ lw_tbl := pb_in_7 (List.mem_of_getElem? (i := 53) rfl)
set_option maxRecDepth 8000 in
theorem pb_cd_205 : Jvm.Cond.code (pb_y 205) (pb_cc 205) (pb_mL 205) (pb_rt 205) ∈ lw_tbl := pb_in_7 (List.mem_of_getElem? (i := 60) rfl)
set_option maxRecDepth 8000 in
theorem pb_cd_206 : Jvm.Cond.code (pb_y 206) (pb_cc 206) (pb_mL 206) (pb_rt 206) ∈ lw_tbl := pb_in_7 (List.mem_of_getElem? (i := 49) rfl)
set_option maxRecDepth 8000 in
theorem pb_cd_207 : Jvm.Cond.code (pb_y 207) (pb_cc 207) (pb_mL 207) (pb_rt 207) ∈ lw_tbl := pb_in_7 (List.mem_of_getElem? (i := 45) rfl)
set_option maxRecDepth 8000 in
theorem pb_cd_208 : Jvm.Cond.code (pb_y 208) (pb_cc 208) (pb_mL 208) (pb_rt 208) ∈ lw_tbl := pb_in_7 (List.mem_of_getElem? (i := 41) rfl)
set_option maxRecDepth 8000 in
theorem pb_cd_209 : Jvm.Cond.code (pb_y 209) (pb_cc 209) (pb_mL 209) (pb_rt 209) ∈ lw_tbl := pb_in_7 (List.mem_of_getElem? (i := 64) rfl)
set_option maxRecDepth 8000 in
theorem pb_cd_210 : Jvm.Cond.code (pb_y 210) (pb_cc 210) (pb_mL 210) (pb_rt 210) ∈ lw_tbl := pb_in_7 (List.mem_of_getElem? (i := 37) rfl)
set_option maxRecDepth 8000 in
theorem pb_cd_211 : Jvm.Cond.code (pb_y 211) (pb_cc 211) (pb_mL 211) (pb_rt 211) ∈ lw_tbl := pb_in_6 (List.mem_of_getElem? (i := 202) rfl)
set_option maxRecDepth 8000 in
theorem pb_cd_212 : Jvm.Cond.code (pb_y 212) (pb_cc 212) (pb_mL 212) (pb_rt 212) ∈ lw_tbl := pb_in_6 (List.mem_of_getElem? (i := 230) rfl)
set_option maxRecDepth 8000 in
theorem pb_cd_213 : Jvm.Cond.code (pb_y 213) (pb_cc 213) (pb_mL 213) (pb_rt 213) ∈ lw_tbl := pb_in_6 (List.mem_of_getElem? (i := 234) rfl)
set_option maxRecDepth 8000 in
theorem pb_cd_214 : Jvm.Cond.code (pb_y 214) (pb_cc 214) (pb_mL 214) (pb_rt 214) ∈ lw_tbl := pb_in_6 (List.mem_of_getElem? (i := 226) rfl)
set_option maxRecDepth 8000 in
theorem pb_cd_215 : Jvm.Cond.code (pb_y 215) (pb_cc 215) (pb_mL 215) (pb_rt 215) ∈ lw_tbl := pb_in_6 (List.mem_of_getElem? (i := 222) rfl)
set_option maxRecDepth 8000 in
theorem pb_cd_216 : Jvm.Cond.code (pb_y 216) (pb_cc 216) (pb_mL 216) (pb_rt 216) ∈ lw_tbl := pb_in_7 (List.mem_of_getElem? (i := 30) rfl)
set_option maxRecDepth 8000 in
theorem pb_cd_217 : Jvm.Cond.code (pb_y 217) (pb_cc 217) (pb_mL 217) (pb_rt 217) ∈ lw_tbl := pb_in_7 (List.mem_of_getElem? (i := 72) rfl)
set_option maxRecDepth 8000 in
theorem pb_cd_218 : Jvm.Cond.code (pb_y 218) (pb_cc 218) (pb_mL 218) (pb_rt 218) ∈ lw_tbl := pb_in_7 (List.mem_of_getElem? (i := 18) rfl)
set_option maxRecDepth 8000 in
theorem pb_cd_219 : Jvm.Cond.code (pb_y 219) (pb_cc 219) (pb_mL 219) (pb_rt 219) ∈ lw_tbl := pb_in_7 (List.mem_of_getElem? (i := 26) rfl)
set_option maxRecDepth 8000 in
theorem pb_cd_220 : Jvm.Cond.code (pb_y 220) (pb_cc 220) (pb_mL 220) (pb_rt 220) ∈ lw_tbl := pb_in_7 (List.mem_of_getElem? (i := 14) rfl)
set_option maxRecDepth 8000 in
theorem pb_cd_221 : Jvm.Cond.code (pb_y 221) (pb_cc 221) (pb_mL 221) (pb_rt 221) ∈ lw_tbl := pb_in_7 (List.mem_of_getElem? (i := 10) rfl)
set_option maxRecDepth 8000 in
theorem pb_cd_222 : Jvm.Cond.code (pb_y 222) (pb_cc 222) (pb_mL 222) (pb_rt 222) ∈ lw_tbl := pb_in_7 (List.mem_of_getElem? (i := 6) rfl)
set_option maxRecDepth 8000 in
theorem pb_cd_223 : Jvm.Cond.code (pb_y 223) (pb_cc 223) (pb_mL 223) (pb_rt 223) ∈ lw_tbl := pb_in_7 (List.mem_of_getElem? (i := 2) rfl)
set_option maxRecDepth 8000 in
theorem pb_cd_224 : Jvm.Cond.code (pb_y 224) (pb_cc 224) (pb_mL 224) (pb_rt 224) ∈ lw_tbl := pb_in_6 (List.mem_of_getElem? (i := 238) rfl)
set_option maxRecDepth 8000 in
theorem pb_cd_225 : Jvm.Cond.code (pb_y 225) (pb_cc 225) (pb_mL 225) (pb_rt 225) ∈ lw_tbl := pb_in_7 (List.mem_of_getElem? (i := 88) rfl)
set_option maxRecDepth 8000 in
theorem pb_cd_226 : Jvm.Cond.code (pb_y 226) (pb_cc 226) (pb_mL 226) (pb_rt 226) ∈ lw_tbl := pb_in_7 (List.mem_of_getElem? (i := 80) rfl)
set_option maxRecDepth 8000 in
theorem pb_cd_227 : Jvm.Cond.code (pb_y 227) (pb_cc 227) (pb_mL 227) (pb_rt 227) ∈ lw_tbl := pb_in_7 (List.mem_of_getElem? (i := 76) rfl)
set_option maxRecDepth 8000 in
theorem pb_cd_228 : Jvm.Cond.code (pb_y 228) (pb_cc 228) (pb_mL 228) (pb_rt 228) ∈ lw_tbl := pb_in_7 (List.mem_of_getElem? (i := 92) rfl)
set_option maxRecDepth 8000 in
theorem pb_cd_229 : Jvm.Cond.code (pb_y 229) (pb_cc 229) (pb_mL 229) (pb_rt 229) ∈ lw_tbl := pb_in_7 (List.mem_of_getElem? (i := 96) rfl)
set_option maxRecDepth 8000 in
theorem pb_cd_230 : Jvm.Cond.code (pb_y 230) (pb_cc 230) (pb_mL 230) (pb_rt 230) ∈ lw_tbl := pb_in_7 (List.mem_of_getElem? (i := 107) rfl)
set_option maxRecDepth 8000 in
theorem pb_cd_231 : Jvm.Cond.code (pb_y 231) (pb_cc 231) (pb_mL 231) (pb_rt 231) ∈ lw_tbl := pb_in_7 (List.mem_of_getElem? (i := 103) rfl)
set_option maxRecDepth 8000 in
theorem pb_cd_232 : Jvm.Cond.code (pb_y 232) (pb_cc 232) (pb_mL 232) (pb_rt 232) ∈ lw_tbl := pb_in_7 (List.mem_of_getElem? (i := 122) rfl)
set_option maxRecDepth 8000 in
theorem pb_cd_233 : Jvm.Cond.code (pb_y 233) (pb_cc 233) (pb_mL 233) (pb_rt 233) ∈ lw_tbl := pb_in_7 (List.mem_of_getElem? (i := 119) rfl)
set_option maxRecDepth 8000 in
theorem pb_cd_234 : Jvm.Cond.code (pb_y 234) (pb_cc 234) (pb_mL 234) (pb_rt 234) ∈ lw_tbl := pb_in_7 (List.mem_of_getElem? (i := 116) rfl)
set_option maxRecDepth 8000 in
theorem pb_cd_235 : Jvm.Cond.code (pb_y 235) (pb_cc 235) (pb_mL 235) (pb_rt 235) ∈ lw_tbl := pb_in_7 (List.mem_of_getElem? (i := 111) rfl)
set_option maxRecDepth 8000 in
theorem pb_cd_236 : Jvm.Cond.code (pb_y 236) (pb_cc 236) (pb_mL 236) (pb_rt 236) ∈ lw_tbl := pb_in_7 (List.mem_of_getElem? (i := 130) rfl)
set_option maxRecDepth 8000 in
theorem pb_cd_237 : Jvm.Cond.code (pb_y 237) (pb_cc 237) (pb_mL 237) (pb_rt 237) ∈ lw_tbl := pb_in_7 (List.mem_of_getElem? (i := 126) rfl)
set_option maxRecDepth 8000 in
theorem pb_cd_238 : Jvm.Cond.code (pb_y 238) (pb_cc 238) (pb_mL 238) (pb_rt 238) ∈ lw_tbl := pb_in_7 (List.mem_of_getElem? (i := 137) rfl)
set_option maxRecDepth 8000 in
theorem pb_cd_239 : Jvm.Cond.code (pb_y 239) (pb_cc 239) (pb_mL 239) (pb_rt 239) ∈ lw_tbl := pb_in_7 (List.mem_of_getElem? (i := 141) rfl)
set_option maxRecDepth 8000 in
theorem pb_cd_240 : Jvm.Cond.code (pb_y 240) (pb_cc 240) (pb_mL 240) (pb_rt 240) ∈ lw_tbl := pb_in_7 (List.mem_of_getElem? (i := 145) rfl)
set_option maxRecDepth 8000 in
theorem pb_cd_241 : Jvm.Cond.code (pb_y 241) (pb_cc 241) (pb_mL 241) (pb_rt 241) ∈ lw_tbl := pb_in_7 (List.mem_of_getElem? (i := 134) rfl)
set_option maxRecDepth 8000 in
theorem pb_cd_242 : Jvm.Cond.code (pb_y 242) (pb_cc 242) (pb_mL 242) (pb_rt 242) ∈ lw_tbl := pb_in_7 (List.mem_of_getElem? (i := 149) rfl)
set_option maxRecDepth 8000 in
theorem pb_cd_243 : Jvm.Cond.code (pb_y 243) (pb_cc 243) (pb_mL 243) (pb_rt 243) ∈ lw_tbl := pb_in_7 (List.mem_of_getElem? (i := 166) rfl)
set_option maxRecDepth 8000 in
theorem pb_cd_244 : Jvm.Cond.code (pb_y 244) (pb_cc 244) (pb_mL 244) (pb_rt 244) ∈ lw_tbl := pb_in_7 (List.mem_of_getElem? (i := 162) rfl)
set_option maxRecDepth 8000 in
theorem pb_cd_245 : Jvm.Cond.code (pb_y 245) (pb_cc 245) (pb_mL 245) (pb_rt 245) ∈ lw_tbl := pb_in_7 (List.mem_of_getElem? (i := 158) rfl)
set_option maxRecDepth 8000 in
theorem pb_cd_246 : Jvm.Cond.code (pb_y 246) (pb_cc 246) (pb_mL 246) (pb_rt 246) ∈ lw_tbl := pb_in_7 (List.mem_of_getElem? (i := 154) rfl)
set_option maxRecDepth 8000 in
theorem pb_cd_247 : Jvm.Cond.code (pb_y 247) (pb_cc 247) (pb_mL 247) (pb_rt 247) ∈ lw_tbl := pb_in_7 (List.mem_of_getElem? (i := 187) rfl)
set_option maxRecDepth 8000 in
theorem pb_cd_248 : Jvm.Cond.code (pb_y 248) (pb_cc 248) (pb_mL 248) (pb_rt 248) ∈ lw_tbl := pb_in_7 (List.mem_of_getElem? (i := 184) rfl)
set_option maxRecDepth 8000 in
theorem pb_cd_249 : Jvm.Cond.code (pb_y 249) (pb_cc 249) (pb_mL 249) (pb_rt 249) ∈ lw_tbl := pb_in_7 (List.mem_of_getElem? (i := 181) rfl)
set_option maxRecDepth 8000 in
theorem pb_cd_250 : Jvm.Cond.code (pb_y 250) (pb_cc 250) (pb_mL 250) (pb_rt 250) ∈ lw_tbl := pb_in_7 (List.mem_of_getElem? (i := 178) rfl)
set_option maxRecDepth 8000 in
theorem pb_cd_251 : Jvm.Cond.code (pb_y 251) (pb_cc 251) (pb_mL 251) (pb_rt 251) ∈ lw_tbl := pb_in_7 (List.mem_of_getElem? (i := 174) rfl)
set_option maxRecDepth 8000 in
theorem pb_cd_252 : Jvm.Cond.code (pb_y 252) (pb_cc 252) (pb_mL 252) (pb_rt 252) ∈ lw_tbl := pb_in_7 (List.mem_of_getElem? (i := 200) rfl)
set_option maxRecDepth 8000 in
theorem pb_cd_253 : Jvm.Cond.code (pb_y 253) (pb_cc 253) (pb_mL 253) (pb_rt 253) ∈ lw_tbl := pb_in_7 (List.mem_of_getElem? (i := 195) rfl)
set_option maxRecDepth 8000 in
theorem pb_cd_254 : Jvm.Cond.code (pb_y 254) (pb_cc 254) (pb_mL 254) (pb_rt 254) ∈ lw_tbl := pb_in_7 (List.mem_of_getElem? (i := 191) rfl)
set_option maxRecDepth 8000 in
theorem pb_cd_255 : Jvm.Cond.code (pb_y 255) (pb_cc 255) (pb_mL 255) (pb_rt 255) ∈ lw_tbl := pb_in_7 (List.mem_of_getElem? (i := 170) rfl)
set_option maxRecDepth 8000 in
theorem pb_cd_256 : Jvm.Cond.code (pb_y 256) (pb_cc 256) (pb_mL 256) (pb_rt 256) ∈ lw_tbl := pb_in_7 (List.mem_of_getElem? (i := 212) rfl)
set_option maxRecDepth 8000 in
theorem pb_cd_257 : Jvm.Cond.code (pb_y 257) (pb_cc 257) (pb_mL 257) (pb_rt 257) ∈ lw_tbl := pb_in_7 (List.mem_of_getElem? (i := 208) rfl)
set_option maxRecDepth 8000 in
theorem pb_cd_258 : Jvm.Cond.code (pb_y 258) (pb_cc 258) (pb_mL 258) (pb_rt 258) ∈ lw_tbl := pb_in_7 (List.mem_of_getElem? (i := 204) rfl)
set_option maxRecDepth 8000 in
theorem pb_cd_259 : Jvm.Cond.code (pb_y 259) (pb_cc 259) (pb_mL 259) (pb_rt 259) ∈ lw_tbl := pb_in_7 (List.mem_of_getElem? (i := 225) rfl)
set_option maxRecDepth 8000 in
theorem pb_cd_260 : Jvm.Cond.code (pb_y 260) (pb_cc 260) (pb_mL 260) (pb_rt 260) ∈ lw_tbl := pb_in_7 (List.mem_of_getElem? (i := 221) rfl)
set_option maxRecDepth 8000 in
theorem pb_cd_261 : Jvm.Cond.code (pb_y 261) (pb_cc 261) (pb_mL 261) (pb_rt 261) ∈ lw_tbl := pb_in_7 (List.mem_of_getElem? (i := 217) rfl)
set_option maxRecDepth 8000 in
theorem pb_cd_262 : Jvm.Cond.code (pb_y 262) (pb_cc 262) (pb_mL 262) (pb_rt 262) ∈ lw_tbl := pb_in_7 (List.mem_of_getElem? (i := 237) rfl)
set_option maxRecDepth 8000 in
theorem pb_cd_263 : Jvm.Cond.code (pb_y 263) (pb_cc 263) (pb_mL 263) (pb_rt 263) ∈ lw_tbl := pb_in_7 (List.mem_of_getElem? (i := 233) rfl)
set_option maxRecDepth 8000 in
theorem pb_cd_264 : Jvm.Cond.code (pb_y 264) (pb_cc 264) (pb_mL 264) (pb_rt 264) ∈ lw_tbl := pb_in_8 (List.mem_of_getElem? (i := 1) rfl)
set_option maxRecDepth 8000 in
theorem pb_cd_265 : Jvm.Cond.code (pb_y 265) (pb_cc 265) (pb_mL 265) (pb_rt 265) ∈ lw_tbl := pb_in_8 (List.mem_of_getElem? (i := 5) rfl)
set_option maxRecDepth 8000 in
theorem pb_cd_266 : Jvm.Cond.code (pb_y 266) (pb_cc 266) (pb_mL 266) (pb_rt 266) ∈ lw_tbl := pb_in_8 (List.mem_of_getElem? (i := 9) rfl)
set_option maxRecDepth 8000 in
theorem pb_cd_267 : Jvm.Cond.code (pb_y 267) (pb_cc 267) (pb_mL 267) (pb_rt 267) ∈ lw_tbl := pb_in_8 (List.mem_of_getElem? (i := 17) rfl)
set_option maxRecDepth 8000 in
theorem pb_cd_268 : Jvm.Cond.code (pb_y 268) (pb_cc 268) (pb_mL 268) (pb_rt 268) ∈ lw_tbl := pb_in_8 (List.mem_of_getElem? (i := 13) rfl)
set_option maxRecDepth 8000 in
theorem pb_cd_269 : Jvm.Cond.code (pb_y 269) (pb_cc 269) (pb_mL 269) (pb_rt 269) ∈ lw_tbl := pb_in_8 (List.mem_of_getElem? (i := 21) rfl)
set_option maxRecDepth 8000 in
theorem pb_cd_270 : Jvm.Cond.code (pb_y 270) (pb_cc 270) (pb_mL 270) (pb_rt 270) ∈ lw_tbl := pb_in_7 (List.mem_of_getElem? (i := 229) rfl)
set_option maxRecDepth 8000 in
theorem pb_cd_271 : Jvm.Cond.code (pb_y 271) (pb_cc 271) (pb_mL 271) (pb_rt 271) ∈ lw_tbl := pb_in_8 (List.mem_of_getElem? (i := 25) rfl)
set_option maxRecDepth 8000 in
theorem pb_cd_272 : Jvm.Cond.code (pb_y 272) (pb_cc 272) (pb_mL 272) (pb_rt 272) ∈ lw_tbl := pb_in_8 (List.mem_of_getElem? (i := 29) rfl)
set_option maxRecDepth 8000 in
theorem pb_cd_273 : Jvm.Cond.code (pb_y 273) (pb_cc 273) (pb_mL 273) (pb_rt 273) ∈ lw_tbl := pb_in_8 (List.mem_of_getElem? (i := 37) rfl)
set_option maxRecDepth 8000 in
theorem pb_cd_274 : Jvm.Cond.code (pb_y 274) (pb_cc 274) (pb_mL 274) (pb_rt 274) ∈ lw_tbl := pb_in_8 (List.mem_of_getElem? (i := 33) rfl)
set_option maxRecDepth 8000 in
theorem pb_cd_275 : Jvm.Cond.code (pb_y 275) (pb_cc 275) (pb_mL 275) (pb_rt 275) ∈ lw_tbl := pb_in_8 (List.mem_of_getElem? (i := 41) rfl)
set_option maxRecDepth 8000 in
theorem pb_cd_276 : Jvm.Cond.code (pb_y 276) (pb_cc 276) (pb_mL 276) (pb_rt 276) ∈ lw_tbl := pb_in_8 (List.mem_of_getElem? (i := 45) rfl)
set_option maxRecDepth 8000 in
theorem pb_cd_277 : Jvm.Cond.code (pb_y 277) (pb_cc 277) (pb_mL 277) (pb_rt 277) ∈ lw_tbl := pb_in_8 (List.mem_of_getElem? (i := 49) rfl)
set_option maxRecDepth 8000 in
theorem pb_cd_278 : Jvm.Cond.code (pb_y 278) (pb_cc 278) (pb_mL 278) (pb_rt 278) ∈ lw_tbl := pb_in_8 (List.mem_of_getElem? (i := 53) rfl)
set_option maxRecDepth 8000 in
theorem pb_cd_279 : Jvm.Cond.code (pb_y 279) (pb_cc 279) (pb_mL 279) (pb_rt 279) ∈ lw_tbl := pb_in_8 (List.mem_of_getElem? (i := 61) rfl)
set_option maxRecDepth 8000 in
theorem pb_cd_280 : Jvm.Cond.code (pb_y 280) (pb_cc 280) (pb_mL 280) (pb_rt 280) ∈ lw_tbl := pb_in_8 (List.mem_of_getElem? (i := 57) rfl)
set_option maxRecDepth 8000 in
theorem pb_cd_281 : Jvm.Cond.code (pb_y 281) (pb_cc 281) (pb_mL 281) (pb_rt 281) ∈ lw_tbl := pb_in_8 (List.mem_of_getElem? (i := 77) rfl)
set_option maxRecDepth 8000 in
theorem pb_cd_282 : Jvm.Cond.code (pb_y 282) (pb_cc 282) (pb_mL 282) (pb_rt 282) ∈ lw_tbl := pb_in_8 (List.mem_of_getElem? (i := 73) rfl)
set_option maxRecDepth 8000 in
theorem pb_cd_283 : Jvm.Cond.code (pb_y 283) (pb_cc 283) (pb_mL 283) (pb_rt 283) ∈ lw_tbl := pb_in_8 (List.mem_of_getElem? (i := 69) rfl)
set_option maxRecDepth 8000 in
theorem pb_cd_284 : Jvm.Cond.code (pb_y 284) (pb_cc 284) (pb_mL 284) (pb_rt 284) ∈ lw_tbl := pb_in_8 (List.mem_of_getElem? (i := 65) rfl)
set_option maxRecDepth 8000 in
theorem pb_cd_285 : Jvm.Cond.code (pb_y 285) (pb_cc 285) (pb_mL 285) (pb_rt 285) ∈ lw_tbl := pb_in_8 (List.mem_of_getElem? (i := 81) rfl)
set_option maxRecDepth 8000 in
theorem pb_cd_286 : Jvm.Cond.code (pb_y 286) (pb_cc 286) (pb_mL 286) (pb_rt 286) ∈ lw_tbl := pb_in_8 (List.mem_of_getElem? (i := 89) rfl)
set_option maxRecDepth 8000 in
theorem pb_cd_287 : Jvm.Cond.code (pb_y 287) (pb_cc 287) (pb_mL 287) (pb_rt 287) ∈ lw_tbl := pb_in_8 (List.mem_of_getElem? (i := 85) rfl)
set_option maxRecDepth 8000 in
theorem pb_cd_288 : Jvm.Cond.code (pb_y 288) (pb_cc 288) (pb_mL 288) (pb_rt 288) ∈ lw_tbl := pb_in_8 (List.mem_of_getElem? (i := 97) rfl)
set_option maxRecDepth 8000 in
theorem pb_cd_289 : Jvm.Cond.code (pb_y 289) (pb_cc 289) (pb_mL 289) (pb_rt 289) ∈ lw_tbl := pb_in_8 (List.mem_of_getElem? (i := 105) rfl)
set_option maxRecDepth 8000 in
theorem pb_cd_290 : Jvm.Cond.code (pb_y 290) (pb_cc 290) (pb_mL 290) (pb_rt 290) ∈ lw_tbl := pb_in_8 (List.mem_of_getElem? (i := 109) rfl)
set_option maxRecDepth 8000 in
theorem pb_cd_291 : Jvm.Cond.code (pb_y 291) (pb_cc 291) (pb_mL 291) (pb_rt 291) ∈ lw_tbl := pb_in_8 (List.mem_of_getElem? (i := 101) rfl)
set_option maxRecDepth 8000 in
theorem pb_cd_292 : Jvm.Cond.code (pb_y 292) (pb_cc 292) (pb_mL 292) (pb_rt 292) ∈ lw_tbl := pb_in_8 (List.mem_of_getElem? (i := 93) rfl)
set_option maxRecDepth 8000 in
theorem pb_cd_293 : Jvm.Cond.code (pb_y 293) (pb_cc 293) (pb_mL 293) (pb_rt 293) ∈ lw_tbl := pb_in_8 (List.mem_of_getElem? (i := 113) rfl)
set_option maxRecDepth 8000 in
theorem pb_cd_294 : Jvm.Cond.code (pb_y 294) (pb_cc 294) (pb_mL 294) (pb_rt 294) ∈ lw_tbl := pb_in_8 (List.mem_of_getElem? (i := 117) rfl)
set_option maxRecDepth 8000 in
theorem pb_cd_295 : Jvm.Cond.code (pb_y 295) (pb_cc 295) (pb_mL 295) (pb_rt 295) ∈ lw_tbl := pb_in_8 (List.mem_of_getElem? (i := 129) rfl)
set_option maxRecDepth 8000 in
theorem pb_cd_296 : Jvm.Cond.code (pb_y 296) (pb_cc 296) (pb_mL 296) (pb_rt 296) ∈ lw_tbl := pb_in_8 (List.mem_of_getElem? (i := 133) rfl)
set_option maxRecDepth 8000 in
theorem pb_cd_297 : Jvm.Cond.code (pb_y 297) (pb_cc 297) (pb_mL 297) (pb_rt 297) ∈ lw_tbl := pb_in_8 (List.mem_of_getElem? (i := 125) rfl)
set_option maxRecDepth 8000 in
theorem pb_cd_298 : Jvm.Cond.code (pb_y 298) (pb_cc 298) (pb_mL 298) (pb_rt 298) ∈ lw_tbl := pb_in_8 (List.mem_of_getElem? (i := 136) rfl)
set_option maxRecDepth 8000 in
theorem pb_cd_299 : Jvm.Cond.code (pb_y 299) (pb_cc 299) (pb_mL 299) (pb_rt 299) ∈ lw_tbl := pb_in_8 (List.mem_of_getElem? (i := 121) rfl)
set_option maxRecDepth 8000 in
theorem pb_cd_300 : Jvm.Cond.code (pb_y 300) (pb_cc 300) (pb_mL 300) (pb_rt 300) ∈ lw_tbl := pb_in_8 (List.mem_of_getElem? (i := 140) rfl)
set_option maxRecDepth 8000 in
theorem pb_cd_301 : Jvm.Cond.code (pb_y 301) (pb_cc 301) (pb_mL 301) (pb_rt 301) ∈ lw_tbl := pb_in_8 (List.mem_of_getElem? (i := 144) rfl)
set_option maxRecDepth 8000 in
theorem pb_cd_302 : Jvm.Cond.code (pb_y 302) (pb_cc 302) (pb_mL 302) (pb_rt 302) ∈ lw_tbl := pb_in_8 (List.mem_of_getElem? (i := 148) rfl)
set_option maxRecDepth 8000 in
theorem pb_cd_303 : Jvm.Cond.code (pb_y 303) (pb_cc 303) (pb_mL 303) (pb_rt 303) ∈ lw_tbl := pb_in_8 (List.mem_of_getElem? (i := 152) rfl)
set_option maxRecDepth 8000 in
theorem pb_cd_304 : Jvm.Cond.code (pb_y 304) (pb_cc 304) (pb_mL 304) (pb_rt 304) ∈ lw_tbl := pb_in_8 (List.mem_of_getElem? (i := 163) rfl)
set_option maxRecDepth 8000 in
theorem pb_cd_305 : Jvm.Cond.code (pb_y 305) (pb_cc 305) (pb_mL 305) (pb_rt 305) ∈ lw_tbl := pb_in_3 (List.mem_of_getElem? (i := 217) rfl)
set_option maxRecDepth 8000 in
theorem pb_cd_306 : Jvm.Cond.code (pb_y 306) (pb_cc 306) (pb_mL 306) (pb_rt 306) ∈ lw_tbl := pb_in_2 (List.mem_of_getElem? (i := 196) rfl)
theorem pb_cr_0 : ∀ q ∈ [0, 1, 2, 3, 4, 5, 6, 7, 8, 9, 10, 11, 12, 13, 14, 15, 16, 17, 18, 19], Jvm.Cond.code (pb_y q) (pb_cc q) (pb_mL q) (pb_rt q) ∈ lw_tbl := List.forall_mem_cons.mpr ⟨pb_cd_0, List.forall_mem_cons.mpr ⟨pb_cd_1, List.forall_mem_cons.mpr ⟨pb_cd_2, List.forall_mem_cons.mpr ⟨pb_cd_3, List.forall_mem_cons.mpr ⟨pb_cd_4, List.forall_mem_cons.mpr ⟨pb_cd_5, List.forall_mem_cons.mpr ⟨pb_cd_6, List.forall_mem_cons.mpr ⟨pb_cd_7, List.forall_mem_cons.mpr ⟨pb_cd_8, List.forall_mem_cons.mpr ⟨pb_cd_9, List.forall_mem_cons.mpr ⟨pb_cd_10, List.forall_mem_cons.mpr ⟨pb_cd_11, List.forall_mem_cons.mpr ⟨pb_cd_12, List.forall_mem_cons.mpr ⟨pb_cd_13, List.forall_mem_cons.mpr ⟨pb_cd_14, List.forall_mem_cons.mpr ⟨pb_cd_15, List.forall_mem_cons.mpr ⟨pb_cd_16, List.forall_mem_cons.mpr ⟨pb_cd_17, List.forall_mem_cons.mpr ⟨pb_cd_18, List.forall_mem_cons.mpr ⟨pb_cd_19, fun q h => absurd h List.not_mem_nil⟩⟩⟩⟩⟩⟩⟩⟩⟩⟩⟩⟩⟩⟩⟩⟩⟩⟩⟩⟩
theorem pb_cr_20 : ∀ q ∈ [20, 21, 22, 23, 24, 25, 26, 27, 28, 29, 30, 31, 32, 33, 34, 35, 36, 37, 38, 39], Jvm.Cond.code (pb_y q) (pb_cc q) (pb_mL q) (pb_rt q) ∈ lw_tbl := List.forall_mem_cons.mpr ⟨pb_cd_20, List.forall_mem_cons.mpr ⟨pb_cd_21, List.forall_mem_cons.mpr ⟨pb_cd_22, List.forall_mem_cons.mpr ⟨pb_cd_23, List.forall_mem_cons.mpr ⟨pb_cd_24, List.forall_mem_cons.mpr ⟨pb_cd_25, List.forall_mem_cons.mpr ⟨pb_cd_26, List.forall_mem_cons.mpr ⟨pb_cd_27, List.forall_mem_cons.mpr ⟨pb_cd_28, List.forall_mem_cons.mpr ⟨pb_cd_29, List.forall_mem_cons.mpr ⟨pb_cd_30, List.forall_mem_cons.mpr ⟨pb_cd_31, List.forall_mem_cons.mpr ⟨pb_cd_32, List.forall_mem_cons.mpr ⟨pb_cd_33, List.forall_mem_cons.mpr ⟨pb_cd_34, List.forall_mem_cons.mpr ⟨pb_cd_35, List.forall_mem_cons.mpr ⟨pb_cd_36, List.forall_mem_cons.mpr ⟨pb_cd_37, List.forall_mem_cons.mpr ⟨pb_cd_38, List.forall_mem_cons.mpr ⟨pb_cd_39, fun q h => absurd h List.not_mem_nil⟩⟩⟩⟩⟩⟩⟩⟩⟩⟩⟩⟩⟩⟩⟩⟩⟩⟩⟩⟩
theorem pb_cr_40 : ∀ q ∈ [40, 41, 42, 43, 44, 45, 46, 47, 48, 49, 50, 51, 52, 53, 54, 55, 56, 57, 58, 59], Jvm.Cond.code (pb_y q) (pb_cc q) (pb_mL q) (pb_rt q) ∈ lw_tbl := List.forall_mem_cons.mpr ⟨pb_cd_40, List.forall_mem_cons.mpr ⟨pb_cd_41, List.forall_mem_cons.mpr ⟨pb_cd_42, List.forall_mem_cons.mpr ⟨pb_cd_43, List.forall_mem_cons.mpr ⟨pb_cd_44, List.forall_mem_cons.mpr ⟨pb_cd_45, List.forall_mem_cons.mpr ⟨pb_cd_46, List.forall_mem_cons.mpr ⟨pb_cd_47, List.forall_mem_cons.mpr ⟨pb_cd_48, List.forall_mem_cons.mpr ⟨pb_cd_49, List.forall_mem_cons.mpr ⟨pb_cd_50, List.forall_mem_cons.mpr ⟨pb_cd_51, List.forall_mem_cons.mpr ⟨pb_cd_52, List.forall_mem_cons.mpr ⟨pb_cd_53, List.forall_mem_cons.mpr ⟨pb_cd_54, List.forall_mem_cons.mpr ⟨pb_cd_55, List.forall_mem_cons.mpr ⟨pb_cd_56, List.forall_mem_cons.mpr ⟨pb_cd_57, List.forall_mem_cons.mpr ⟨pb_cd_58, List.forall_mem_cons.mpr ⟨pb_cd_59, fun q h => absurd h List.not_mem_nil⟩⟩⟩⟩⟩⟩⟩⟩⟩⟩⟩⟩⟩⟩⟩⟩⟩⟩⟩⟩
theorem pb_cr_60 : ∀ q ∈ [60, 61, 62, 63, 64, 65, 66, 67, 68, 69, 70, 71, 72, 73, 74, 75, 76, 77, 78, 79], Jvm.Cond.code (pb_y q) (pb_cc q) (pb_mL q) (pb_rt q) ∈ lw_tbl := List.forall_mem_cons.mpr ⟨pb_cd_60, List.forall_mem_cons.mpr ⟨pb_cd_61, List.forall_mem_cons.mpr ⟨pb_cd_62, List.forall_mem_cons.mpr ⟨pb_cd_63, List.forall_mem_cons.mpr ⟨pb_cd_64, List.forall_mem_cons.mpr ⟨pb_cd_65, List.forall_mem_cons.mpr ⟨pb_cd_66, List.forall_mem_cons.mpr ⟨pb_cd_67, List.forall_mem_cons.mpr ⟨pb_cd_68, List.forall_mem_cons.mpr ⟨pb_cd_69, List.forall_mem_cons.mpr ⟨pb_cd_70, List.forall_mem_cons.mpr ⟨pb_cd_71, List.forall_mem_cons.mpr ⟨pb_cd_72, List.forall_mem_cons.mpr ⟨pb_cd_73, List.forall_mem_cons.mpr ⟨pb_cd_74, List.forall_mem_cons.mpr ⟨pb_cd_75, List.forall_mem_cons.mpr ⟨pb_cd_76, List.forall_mem_cons.mpr ⟨pb_cd_77, List.forall_mem_cons.mpr ⟨pb_cd_78, List.forall_mem_cons.mpr ⟨pb_cd_79, fun q h => absurd h List.not_mem_nil⟩⟩⟩⟩⟩⟩⟩⟩⟩⟩⟩⟩⟩⟩⟩⟩⟩⟩⟩⟩
theorem pb_cr_80 : ∀ q ∈ [80, 81, 82, 83, 84, 85, 86, 87, 88, 89, 90, 91, 92, 93, 94, 95, 96, 97, 98, 99], Jvm.Cond.code (pb_y q) (pb_cc q) (pb_mL q) (pb_rt q) ∈ lw_tbl := List.forall_mem_cons.mpr ⟨pb_cd_80, List.forall_mem_cons.mpr ⟨pb_cd_81, List.forall_mem_cons.mpr ⟨pb_cd_82, List.forall_mem_cons.mpr ⟨pb_cd_83, List.forall_mem_cons.mpr ⟨pb_cd_84, List.forall_mem_cons.mpr ⟨pb_cd_85, List.forall_mem_cons.mpr ⟨pb_cd_86, List.forall_mem_cons.mpr ⟨pb_cd_87, List.forall_mem_cons.mpr ⟨pb_cd_88, List.forall_mem_cons.mpr ⟨pb_cd_89, List.forall_mem_cons.mpr ⟨pb_cd_90, List.forall_mem_cons.mpr ⟨pb_cd_91, List.forall_mem_cons.mpr ⟨pb_cd_92, List.forall_mem_cons.mpr ⟨pb_cd_93, List.forall_mem_cons.mpr ⟨pb_cd_94, List.forall_mem_cons.mpr ⟨pb_cd_95, List.forall_mem_cons.mpr ⟨pb_cd_96, List.forall_mem_cons.mpr ⟨pb_cd_97, List.forall_mem_cons.mpr ⟨pb_cd_98, List.forall_mem_cons.mpr ⟨pb_cd_99, fun q h => absurd h List.not_mem_nil⟩⟩⟩⟩⟩⟩⟩⟩⟩⟩⟩⟩⟩⟩⟩⟩⟩⟩⟩⟩
theorem pb_cr_100 : ∀ q ∈ [100, 101, 102, 103, 104, 105, 106, 107, 108, 109, 110, 111, 112, 113, 114, 115, 116, 117, 118, 119], Jvm.Cond.code (pb_y q) (pb_cc q) (pb_mL q) (pb_rt q) ∈ lw_tbl := List.forall_mem_cons.mpr ⟨pb_cd_100, List.forall_mem_cons.mpr ⟨pb_cd_101, List.forall_mem_cons.mpr ⟨pb_cd_102, List.forall_mem_cons.mpr ⟨pb_cd_103, List.forall_mem_cons.mpr ⟨pb_cd_104, List.forall_mem_cons.mpr ⟨pb_cd_105, List.forall_mem_cons.mpr ⟨pb_cd_106, List.forall_mem_cons.mpr ⟨pb_cd_107, List.forall_mem_cons.mpr ⟨pb_cd_108, List.forall_mem_cons.mpr ⟨pb_cd_109, List.forall_mem_cons.mpr ⟨pb_cd_110, List.forall_mem_cons.mpr ⟨pb_cd_111, List.forall_mem_cons.mpr ⟨pb_cd_112, List.forall_mem_cons.mpr ⟨pb_cd_113, List.forall_mem_cons.mpr ⟨pb_cd_114, List.forall_mem_cons.mpr ⟨pb_cd_115, List.forall_mem_cons.mpr ⟨pb_cd_116, List.forall_mem_cons.mpr ⟨pb_cd_117, List.forall_mem_cons.mpr ⟨pb_cd_118, List.forall_mem_cons.mpr ⟨pb_cd_119, fun q h => absurd h List.not_mem_nil⟩⟩⟩⟩⟩⟩⟩⟩⟩⟩⟩⟩⟩⟩⟩⟩⟩⟩⟩⟩
theorem pb_cr_120 : ∀ q ∈ [120, 121, 122, 123, 124, 125, 126, 127, 128, 129, 130, 131, 132, 133, 134, 135, 136, 137, 138, 139], Jvm.Cond.code (pb_y q) (pb_cc q) (pb_mL q) (pb_rt q) ∈ lw_tbl := List.forall_mem_cons.mpr ⟨pb_cd_120, List.forall_mem_cons.mpr ⟨pb_cd_121, List.forall_mem_cons.mpr ⟨pb_cd_122, List.forall_mem_cons.mpr ⟨pb_cd_123, List.forall_mem_cons.mpr ⟨pb_cd_124, List.forall_mem_cons.mpr ⟨pb_cd_125, List.forall_mem_cons.mpr ⟨pb_cd_126, List.forall_mem_cons.mpr ⟨pb_cd_127, List.forall_mem_cons.mpr ⟨pb_cd_128, List.forall_mem_cons.mpr ⟨pb_cd_129, List.forall_mem_cons.mpr ⟨pb_cd_130, List.forall_mem_cons.mpr ⟨pb_cd_131, List.forall_mem_cons.mpr ⟨pb_cd_132, List.forall_mem_cons.mpr ⟨pb_cd_133, List.forall_mem_cons.mpr ⟨pb_cd_134, List.forall_mem_cons.mpr ⟨pb_cd_135, List.forall_mem_cons.mpr ⟨pb_cd_136, List.forall_mem_cons.mpr ⟨pb_cd_137, List.forall_mem_cons.mpr ⟨pb_cd_138, List.forall_mem_cons.mpr ⟨pb_cd_139, fun q h => absurd h List.not_mem_nil⟩⟩⟩⟩⟩⟩⟩⟩⟩⟩⟩⟩⟩⟩⟩⟩⟩⟩⟩⟩
theorem pb_cr_140 : ∀ q ∈ [140, 141, 142, 143, 144, 145, 146, 147, 148, 149, 150, 151, 152, 153, 154, 155, 156, 157, 158, 159], Jvm.Cond.code (pb_y q) (pb_cc q) (pb_mL q) (pb_rt q) ∈ lw_tbl := List.forall_mem_cons.mpr ⟨pb_cd_140, List.forall_mem_cons.mpr ⟨pb_cd_141, List.forall_mem_cons.mpr ⟨pb_cd_142, List.forall_mem_cons.mpr ⟨pb_cd_143, List.forall_mem_cons.mpr ⟨pb_cd_144, List.forall_mem_cons.mpr ⟨pb_cd_145, List.forall_mem_cons.mpr ⟨pb_cd_146, List.forall_mem_cons.mpr ⟨pb_cd_147, List.forall_mem_cons.mpr ⟨pb_cd_148, List.forall_mem_cons.mpr ⟨pb_cd_149, List.forall_mem_cons.mpr ⟨pb_cd_150, List.forall_mem_cons.mpr ⟨pb_cd_151, List.forall_mem_cons.mpr ⟨pb_cd_152, List.forall_mem_cons.mpr ⟨pb_cd_153, List.forall_mem_cons.mpr ⟨pb_cd_154, List.forall_mem_cons.mpr ⟨pb_cd_155, List.forall_mem_cons.mpr ⟨pb_cd_156, List.forall_mem_cons.mpr ⟨pb_cd_157, List.forall_mem_cons.mpr ⟨pb_cd_158, List.forall_mem_cons.mpr ⟨pb_cd_159, fun q h => absurd h List.not_mem_nil⟩⟩⟩⟩⟩⟩⟩⟩⟩⟩⟩⟩⟩⟩⟩⟩⟩⟩⟩⟩
theorem pb_cr_160 : ∀ q ∈ [160, 161, 162, 163, 164, 165, 166, 167, 168, 169, 170, 171, 172, 173, 174, 175, 176, 177, 178, 179], Jvm.Cond.code (pb_y q) (pb_cc q) (pb_mL q) (pb_rt q) ∈ lw_tbl := List.forall_mem_cons.mpr ⟨pb_cd_160, List.forall_mem_cons.mpr ⟨pb_cd_161, List.forall_mem_cons.mpr ⟨pb_cd_162, List.forall_mem_cons.mpr ⟨pb_cd_163, List.forall_mem_cons.mpr ⟨pb_cd_164, List.forall_mem_cons.mpr ⟨pb_cd_165, List.forall_mem_cons.mpr ⟨pb_cd_166, List.forall_mem_cons.mpr ⟨pb_cd_167, List.forall_mem_cons.mpr ⟨pb_cd_168, List.forall_mem_cons.mpr ⟨pb_cd_169, List.forall_mem_cons.mpr ⟨pb_cd_170, List.forall_mem_cons.mpr ⟨pb_cd_171, List.forall_mem_cons.mpr ⟨pb_cd_172, List.forall_mem_cons.mpr ⟨pb_cd_173, List.forall_mem_cons.mpr ⟨pb_cd_174, List.forall_mem_cons.mpr ⟨pb_cd_175, List.forall_mem_cons.mpr ⟨pb_cd_176, List.forall_mem_cons.mpr ⟨pb_cd_177, List.forall_mem_cons.mpr ⟨pb_cd_178, List.forall_mem_cons.mpr ⟨pb_cd_179, fun q h => absurd h List.not_mem_nil⟩⟩⟩⟩⟩⟩⟩⟩⟩⟩⟩⟩⟩⟩⟩⟩⟩⟩⟩⟩
theorem pb_cr_180 : ∀ q ∈ [180, 181, 182, 183, 184, 185, 186, 187, 188, 189, 190, 191, 192, 193, 194, 195, 196, 197, 198, 199], Jvm.Cond.code (pb_y q) (pb_cc q) (pb_mL q) (pb_rt q) ∈ lw_tbl := List.forall_mem_cons.mpr ⟨pb_cd_180, List.forall_mem_cons.mpr ⟨pb_cd_181, List.forall_mem_cons.mpr ⟨pb_cd_182, List.forall_mem_cons.mpr ⟨pb_cd_183, List.forall_mem_cons.mpr ⟨pb_cd_184, List.forall_mem_cons.mpr ⟨pb_cd_185, List.forall_mem_cons.mpr ⟨pb_cd_186, List.forall_mem_cons.mpr ⟨pb_cd_187, List.forall_mem_cons.mpr ⟨pb_cd_188, List.forall_mem_cons.mpr ⟨pb_cd_189, List.forall_mem_cons.mpr ⟨pb_cd_190, List.forall_mem_cons.mpr ⟨pb_cd_191, List.forall_mem_cons.mpr ⟨pb_cd_192, List.forall_mem_cons.mpr ⟨pb_cd_193, List.forall_mem_cons.mpr ⟨pb_cd_194, List.forall_mem_cons.mpr ⟨pb_cd_195, List.forall_mem_cons.mpr ⟨pb_cd_196, List.forall_mem_cons.mpr ⟨pb_cd_197, List.forall_mem_cons.mpr ⟨pb_cd_198, List.forall_mem_cons.mpr ⟨pb_cd_199, fun q h => absurd h List.not_mem_nil⟩⟩⟩⟩⟩⟩⟩⟩⟩⟩⟩⟩⟩⟩⟩⟩⟩⟩⟩⟩
theorem pb_cr_200 : ∀ q ∈ [200, 201, 202, 203, 204, 205, 206, 207, 208, 209, 210, 211, 212, 213, 214, 215, 216, 217, 218, 219], Jvm.Cond.code (pb_y q) (pb_cc q) (pb_mL q) (pb_rt q) ∈ lw_tbl := List.forall_mem_cons.mpr ⟨pb_cd_200, List.forall_mem_cons.mpr ⟨pb_cd_201, List.forall_mem_cons.mpr ⟨pb_cd_202, List.forall_mem_cons.mpr ⟨pb_cd_203, List.forall_mem_cons.mpr ⟨pb_cd_204, List.forall_mem_cons.mpr ⟨pb_cd_205, List.forall_mem_cons.mpr ⟨pb_cd_206, List.forall_mem_cons.mpr ⟨pb_cd_207, List.forall_mem_cons.mpr ⟨pb_cd_208, List.forall_mem_cons.mpr ⟨pb_cd_209, List.forall_mem_cons.mpr ⟨pb_cd_210, List.forall_mem_cons.mpr ⟨pb_cd_211, List.forall_mem_cons.mpr ⟨pb_cd_212, List.forall_mem_cons.mpr ⟨pb_cd_213, List.forall_mem_cons.mpr ⟨pb_cd_214, List.forall_mem_cons.mpr ⟨pb_cd_215, List.forall_mem_cons.mpr ⟨pb_cd_216, List.forall_mem_cons.mpr ⟨pb_cd_217, List.forall_mem_cons.mpr ⟨pb_cd_218, List.forall_mem_cons.mpr ⟨pb_cd_219, fun q h => absurd h List.not_mem_nil⟩⟩⟩⟩⟩⟩⟩⟩⟩⟩⟩⟩⟩⟩⟩⟩⟩⟩⟩⟩
theorem pb_cr_220 : ∀ q ∈ [220, 221, 222, 223, 224, 225, 226, 227, 228, 229, 230, 231, 232, 233, 234, 235, 236, 237, 238, 239], Jvm.Cond.code (pb_y q) (pb_cc q) (pb_mL q) (pb_rt q) ∈ lw_tbl := List.forall_mem_cons.mpr ⟨pb_cd_220, List.forall_mem_cons.mpr ⟨pb_cd_221, List.forall_mem_cons.mpr ⟨pb_cd_222, List.forall_mem_cons.mpr ⟨pb_cd_223, List.forall_mem_cons.mpr ⟨pb_cd_224, List.forall_mem_cons.mpr ⟨pb_cd_225, List.forall_mem_cons.mpr ⟨pb_cd_226, List.forall_mem_cons.mpr ⟨pb_cd_227, List.forall_mem_cons.mpr ⟨pb_cd_228, List.forall_mem_cons.mpr ⟨pb_cd_229, List.forall_mem_cons.mpr ⟨pb_cd_230, List.forall_mem_cons.mpr ⟨pb_cd_231, List.forall_mem_cons.mpr ⟨pb_cd_232, List.forall_mem_cons.mpr ⟨pb_cd_233, List.forall_mem_cons.mpr ⟨pb_cd_234, List.forall_mem_cons.mpr ⟨pb_cd_235, List.forall_mem_cons.mpr ⟨pb_cd_236, List.forall_mem_cons.mpr ⟨pb_cd_237, List.forall_mem_cons.mpr ⟨pb_cd_238, List.forall_mem_cons.mpr ⟨pb_cd_239, fun q h => absurd h List.not_mem_nil⟩⟩⟩⟩⟩⟩⟩⟩⟩⟩⟩⟩⟩⟩⟩⟩⟩⟩⟩⟩
theorem pb_cr_240 : ∀ q ∈ [240, 241, 242, 243, 244, 245, 246, 247, 248, 249, 250, 251, 252, 253, 254, 255, 256, 257, 258, 259], Jvm.Cond.code (pb_y q) (pb_cc q) (pb_mL q) (pb_rt q) ∈ lw_tbl := List.forall_mem_cons.mpr ⟨pb_cd_240, List.forall_mem_cons.mpr ⟨pb_cd_241, List.forall_mem_cons.mpr ⟨pb_cd_242, List.forall_mem_cons.mpr ⟨pb_cd_243, List.forall_mem_cons.mpr ⟨pb_cd_244, List.forall_mem_cons.mpr ⟨pb_cd_245, List.forall_mem_cons.mpr ⟨pb_cd_246, List.forall_mem_cons.mpr ⟨pb_cd_247, List.forall_mem_cons.mpr ⟨pb_cd_248, List.forall_mem_cons.mpr ⟨pb_cd_249, List.forall_mem_cons.mpr ⟨pb_cd_250, List.forall_mem_cons.mpr ⟨pb_cd_251, List.forall_mem_cons.mpr ⟨pb_cd_252, List.forall_mem_cons.mpr ⟨pb_cd_253, List.forall_mem_cons.mpr ⟨pb_cd_254, List.forall_mem_cons.mpr ⟨pb_cd_255, List.forall_mem_cons.mpr ⟨pb_cd_256, List.forall_mem_cons.mpr ⟨pb_cd_257, List.forall_mem_cons.mpr ⟨pb_cd_258, List.forall_mem_cons.mpr ⟨pb_cd_259, fun q h => absurd h List.not_mem_nil⟩⟩⟩⟩⟩⟩⟩⟩⟩⟩⟩⟩⟩⟩⟩⟩⟩⟩⟩⟩
theorem pb_cr_260 : ∀ q ∈ [260, 261, 262, 263, 264, 265, 266, 267, 268, 269, 270, 271, 272, 273, 274, 275, 276, 277, 278, 279], Jvm.Cond.code (pb_y q) (pb_cc q) (pb_mL q) (pb_rt q) ∈ lw_tbl := List.forall_mem_cons.mpr ⟨pb_cd_260, List.forall_mem_cons.mpr ⟨pb_cd_261, List.forall_mem_cons.mpr ⟨pb_cd_262, List.forall_mem_cons.mpr ⟨pb_cd_263, List.forall_mem_cons.mpr ⟨pb_cd_264, List.forall_mem_cons.mpr ⟨pb_cd_265, List.forall_mem_cons.mpr ⟨pb_cd_266, List.forall_mem_cons.mpr ⟨pb_cd_267, List.forall_mem_cons.mpr ⟨pb_cd_268, List.forall_mem_cons.mpr ⟨pb_cd_269, List.forall_mem_cons.mpr ⟨pb_cd_270, List.forall_mem_cons.mpr ⟨pb_cd_271, List.forall_mem_cons.mpr ⟨pb_cd_272, List.forall_mem_cons.mpr ⟨pb_cd_273, List.forall_mem_cons.mpr ⟨pb_cd_274, List.forall_mem_cons.mpr ⟨pb_cd_275, List.forall_mem_cons.mpr ⟨pb_cd_276, List.forall_mem_cons.mpr ⟨pb_cd_277, List.forall_mem_cons.mpr ⟨pb_cd_278, List.forall_mem_cons.mpr ⟨pb_cd_279, fun q h => absurd h List.not_mem_nil⟩⟩⟩⟩⟩⟩⟩⟩⟩⟩⟩⟩⟩⟩⟩⟩⟩⟩⟩⟩
theorem pb_cr_280 : ∀ q ∈ [280, 281, 282, 283, 284, 285, 286, 287, 288, 289, 290, 291, 292, 293, 294, 295, 296, 297, 298, 299], Jvm.Cond.code (pb_y q) (pb_cc q) (pb_mL q) (pb_rt q) ∈ lw_tbl := List.forall_mem_cons.mpr ⟨pb_cd_280, List.forall_mem_cons.mpr ⟨pb_cd_281, List.forall_mem_cons.mpr ⟨pb_cd_282, List.forall_mem_cons.mpr ⟨pb_cd_283, List.forall_mem_cons.mpr ⟨pb_cd_284, List.forall_mem_cons.mpr ⟨pb_cd_285, List.forall_mem_cons.mpr ⟨pb_cd_286, List.forall_mem_cons.mpr ⟨pb_cd_287, List.forall_mem_cons.mpr ⟨pb_cd_288, List.forall_mem_cons.mpr ⟨pb_cd_289, List.forall_mem_cons.mpr ⟨pb_cd_290, List.forall_mem_cons.mpr ⟨pb_cd_291, List.forall_mem_cons.mpr ⟨pb_cd_292, List.forall_mem_cons.mpr ⟨pb_cd_293, List.forall_mem_cons.mpr ⟨pb_cd_294, List.forall_mem_cons.mpr ⟨pb_cd_295, List.forall_mem_cons.mpr ⟨pb_cd_296, List.forall_mem_cons.mpr ⟨pb_cd_297, List.forall_mem_cons.mpr ⟨pb_cd_298, List.forall_mem_cons.mpr ⟨pb_cd_299, fun q h => absurd h List.not_mem_nil⟩⟩⟩⟩⟩⟩⟩⟩⟩⟩⟩⟩⟩⟩⟩⟩⟩⟩⟩⟩
theorem pb_cr_300 : ∀ q ∈ [300, 301, 302, 303, 304, 305, 306], Jvm.Cond.code (pb_y q) (pb_cc q) (pb_mL q) (pb_rt q) ∈ lw_tbl := List.forall_mem_cons.mpr ⟨pb_cd_300, List.forall_mem_cons.mpr ⟨pb_cd_301, List.forall_mem_cons.mpr ⟨pb_cd_302, List.forall_mem_cons.mpr ⟨pb_cd_303, List.forall_mem_cons.mpr ⟨pb_cd_304, List.forall_mem_cons.mpr ⟨pb_cd_305, List.forall_mem_cons.mpr ⟨pb_cd_306, fun q h => absurd h List.not_mem_nil⟩⟩⟩⟩⟩⟩⟩
theorem pb_cd {mi : Nat} (h : mi < 307) : Jvm.Cond.code (pb_y mi) (pb_cc mi) (pb_mL mi) (pb_rt mi) ∈ lw_tbl := by
  rcases Nat.lt_or_ge mi 20 with q | q
  · have e : mi ∈ [0, 1, 2, 3, 4, 5, 6, 7, 8, 9, 10, 11, 12, 13, 14, 15, 16, 17, 18, 19] := by simp only [List.mem_cons, List.not_mem_nil, or_false]; omega
    exact pb_cr_0 mi e
  rcases Nat.lt_or_ge mi 40 with q | q
  · have e : mi ∈ [20, 21, 22, 23, 24, 25, 26, 27, 28, 29, 30, 31, 32, 33, 34, 35, 36, 37, 38, 39] := by simp only [List.mem_cons, List.not_mem_nil, or_false]; omega
    exact pb_cr_20 mi e
  rcases Nat.lt_or_ge mi 60 with q | q
  · have e : mi ∈ [40, 41, 42, 43, 44, 45, 46, 47, 48, 49, 50, 51, 52, 53, 54, 55, 56, 57, 58, 59] := by simp only [List.mem_cons, List.not_mem_nil, or_false]; omega
    exact pb_cr_40 mi e
  rcases Nat.lt_or_ge mi 80 with q | q
  · have e : mi ∈ [60, 61, 62, 63, 64, 65, 66, 67, 68, 69, 70, 71, 72, 73, 74, 75, 76, 77, 78, 79] := by simp only [List.mem_cons, List.not_mem_nil, or_false]; omega
    exact pb_cr_60 mi e
  rcases Nat.lt_or_ge mi 100 with q | q
  · have e : mi ∈ [80, 81, 82, 83, 84, 85, 86, 87, 88, 89, 90, 91, 92, 93, 94, 95, 96, 97, 98, 99] := by simp only [List.mem_cons, List.not_mem_nil, or_false]; omega
    exact pb_cr_80 mi e
  rcases Nat.lt_or_ge mi 120 with q | q
  · have e : mi ∈ [100, 101, 102, 103, 104, 105, 106, 107, 108, 109, 110, 111, 112, 113, 114, 115, 116, 117, 118, 119] := by simp only [List.mem_cons, List.not_mem_nil, or_false]; omega
    exact pb_cr_100 mi e
  rcases Nat.lt_or_ge mi 140 with q | q
  · have e : mi ∈ [120, 121, 122, 123, 124, 125, 126, 127, 128, 129, 130, 131, 132, 133, 134, 135, 136, 137, 138, 139] := by simp only [List.mem_cons, List.not_mem_nil, or_false]; omega
    exact pb_cr_120 mi e
  rcases Nat.lt_or_ge mi 160 with q | q
  · have e : mi ∈ [140, 141, 142, 143, 144, 145, 146, 147, 148, 149, 150, 151, 152, 153, 154, 155, 156, 157, 158, 159] := by simp only [List.mem_cons, List.not_mem_nil, or_false]; omega
    exact pb_cr_140 mi e
  rcases Nat.lt_or_ge mi 180 with q | q
  · have e : mi ∈ [160, 161, 162, 163, 164, 165, 166, 167, 168, 169, 170, 171, 172, 173, 174, 175, 176, 177, 178, 179] := by simp only [List.mem_cons, List.not_mem_nil, or_false]; omega
    exact pb_cr_160 mi e
  rcases Nat.lt_or_ge mi 200 with q | q
  · have e : mi ∈ [180, 181, 182, 183, 184, 185, 186, 187, 188, 189, 190, 191, 192, 193, 194, 195, 196, 197, 198, 199] := by simp only [List.mem_cons, List.not_mem_nil, or_false]; omega
    exact pb_cr_180 mi e
  rcases Nat.lt_or_ge mi 220 with q | q
  · have e : mi ∈ [200, 201, 202, 203, 204, 205, 206, 207, 208, 209, 210, 211, 212, 213, 214, 215, 216, 217, 218, 219] := by simp only [List.mem_cons, List.not_mem_nil, or_false]; omega
    exact pb_cr_200 mi e
  rcases Nat.lt_or_ge mi 240 with q | q
  · have e : mi ∈ [220, 221, 222, 223, 224, 225, 226, 227, 228, 229, 230, 231, 232, 233, 234, 235, 236, 237, 238, 239] := by simp only [List.mem_cons, List.not_mem_nil, or_false]; omega
    exact pb_cr_220 mi e
  rcases Nat.lt_or_ge mi 260 with q | q
  · have e : mi ∈ [240, 241, 242, 243, 244, 245, 246, 247, 248, 249, 250, 251, 252, 253, 254, 255, 256, 257, 258, 259] := by simp only [List.mem_cons, List.not_mem_nil, or_false]; omega
    exact pb_cr_240 mi e
  rcases Nat.lt_or_ge mi 280 with q | q
  · have e : mi ∈ [260, 261, 262, 263, 264, 265, 266, 267, 268, 269, 270, 271, 272, 273, 274, 275, 276, 277, 278, 279] := by simp only [List.mem_cons, List.not_mem_nil, or_false]; omega
    exact pb_cr_260 mi e
  rcases Nat.lt_or_ge mi 300 with q | q
  · have e : mi ∈ [280, 281, 282, 283, 284, 285, 286, 287, 288, 289, 290, 291, 292, 293, 294, 295, 296, 297, 298, 299] := by simp only [List.mem_cons, List.not_mem_nil, or_false]; omega
    exact pb_cr_280 mi e
  have e : mi ∈ [300, 301, 302, 303, 304, 305, 306] := by simp only [List.mem_cons, List.not_mem_nil, or_false]; omega
  exact pb_cr_300 mi e
/-- an instruction's own check: its bytes, its length, what its operands name -/
def pb_len : Instr → Nat
  | .bipush _ => 2 | .sipush _ => 3 | .ldc _ => 2 | .ldc_w _ => 3 | .ldc2_w _ => 3 | .iload _ => 2 | .lload _ => 2 | .aload _ => 2 | .istore _ => 2 | .lstore _ => 2 | .astore _ => 2 | .iinc _ _ => 3
  | .getstatic _ => 3 | .getfield _ => 3 | .putfield _ => 3 | .goto _ => 3 | .ifCond _ _ => 3 | .if_icmp _ _ => 3 | .ifnull _ => 3 | .ifnonnull _ => 3 | .new _ => 3 | .anewarray _ => 3 | .newarray _ => 2
  | .invokevirtual _ => 3 | .invokespecial _ => 3 | .invokestatic _ => 3
  | _ => 1
def pb_tgt (pc : Nat) (off : Int) (a : Nat) : Bool := decide ((pc : Int) + off = (a : Int))
def pb_ek (ow : Nat) (ini : Bool) (pc : Nat) (i : Instr) (n a b : Nat) : Bool := match i with
  | .iconst k => decide (Int32.ofInt k = pb_li a b)
  | .bipush k => decide ((Int8.ofInt k).toInt32 = pb_li a b)
  | .sipush k => decide ((Int16.ofInt k).toInt32 = pb_li a b)
  | .iinc _ k => decide (Int32.ofInt k = pb_li a b)
  | .ldc k => (match b with | 0 => pb_lu pb_ICs ow k a | _ => Nat.beq a 9 && (Nat.beq ow 6 && Nat.beq k 134))
  | .ldc_w k => (match b with | 0 => pb_lu pb_ICs ow k a | _ => false)
  | .ldc2_w k => pb_lu pb_LCs ow k a
  | .getstatic k => pb_lu pb_GSs ow k a
  | .goto o => pb_tgt pc o a
  | .ifCond _ o => pb_tgt pc o a
  | .if_icmp _ o => pb_tgt pc o a
  | .ifnull o => pb_tgt pc o a
  | .ifnonnull o => pb_tgt pc o a
  | .tableswitch d lo hi offs => decide (0 ≤ (pc : Int) + d ∧ lo ≤ hi ∧ offs.size = (hi - lo + 1).toNat) && offs.all (fun o => decide (0 ≤ (pc : Int) + o))
  | .getfield k => decide (a < 12 ∧ b < pb_nF a) && pb_fok ow k a b
  | .putfield k => decide (a < 12 ∧ b < pb_nF a) && (pb_fok ow k a b && (ini || !(pb_T a b).2.2.2) && (!(pb_T a b).2.2.2 || decide ((pb_T a b).1 = pb_own ow)))
  | .new k => decide (a < 12) && pb_lu pb_CLs ow k a
  | .newarray t => decide ((a = 12 ∧ t = .int) ∨ (a = 13 ∧ t = .byte) ∨ (a = 14 ∧ t = .boolean))
  | .anewarray k => decide (15 ≤ a ∧ a < 18) && pb_lu pb_ALs ow k a
  | .aastore => Nat.beq b (pb_ec a)
  | .invokevirtual k => (match a with | 1002 => Nat.beq ow 6 && Nat.beq k 136 | _ => decide (a < 307) && ((Nat.beq (pb_mh a).2.2.2.2.1 1 && Nat.beq b ((pb_mh a).2.2.2.2.2 + 1)) && pb_lu pb_MKs ow k a))
  | .invokespecial k => (match a with | 1001 => pb_lu pb_MKs ow k a | _ => decide (a < 307) && ((Nat.beq (pb_mh a).2.2.2.2.1 2 && Nat.beq b ((pb_mh a).2.2.2.2.2 + 1)) && pb_lu pb_MKs ow k a))
  | .invokestatic k => (match a with | 1000 => pb_lu pb_MKs ow k a | 1003 => pb_lu pb_MKs ow k a | 1004 => pb_lu pb_MKs ow k a | 1005 => pb_lu pb_MKs ow k a | _ => decide (a < 307) && ((Nat.beq (pb_mh a).2.2.2.2.1 0 && Nat.beq b (pb_mh a).2.2.2.2.2) && (pb_lu pb_MKs ow k a || (Nat.beq ow 0 && (Nat.beq k 77 && Nat.beq a 164)))))
  | _ => true
def pb_eok (ow : Nat) (ini : Bool) (cc : ByteArray) (pc : Nat) (el : pb_El) : Bool := (match decode cc pc with | .ok q => decide (q = (el.1, el.2.1)) | .error _ => false) && (((match el.1 with | .tableswitch _ _ _ _ => true | _ => Nat.beq el.2.1 (pb_len el.1))) && pb_ek ow ini pc el.1 el.2.1 el.2.2.1 el.2.2.2)
def pb_bok (ow : Nat) (ini : Bool) (cc : ByteArray) : Nat → List pb_El → Bool
  | _, [] => true
  | pc, el :: r => pb_eok ow ini cc pc el && pb_bok ow ini cc (pc + el.2.1) r
def pb_mok (mi : Nat) : Bool := (pb_CODE mi).all (fun q => pb_bok (pb_ow mi) (Nat.beq (pb_mh mi).2.2.2.2.1 2) (pb_cc mi) q.1 q.2)
