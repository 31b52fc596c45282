/-! THE LAW: its code, and what stays of one object while the other is called -/
theorem DW0 : DAll mL_law [(0, .new 7, 3), (3, .dup, 4), (4, .invokespecial 9, 7), (7, .astore_n 1, 8), (8, .new 10, 11), (11, .dup, 12), (12, .invokespecial 12, 15), (15, .astore_n 2, 16), (16, .iconst 0, 17), (17, .istore_n 3, 18), (18, .iload_n 3, 19), (19, .aload_n 0, 20), (20, .arraylength, 21), (21, .iconst 5, 22), (22, .isub, 23), (23, .if_icmp .gt 903, 26), (26, .aload_n 0, 27), (27, .iload_n 3, 28), (28, .iaload, 29), (29, .bipush 31, 31), (31, .iand, 32), (32, .tableswitch 888 0 29 #[136, 189, 232, 275, 308, 331, 364, 387, 410, 423, 448, 461, 474, 487, 500, 513, 546, 579, 602, 625, 648, 671, 694, 727, 760, 793, 816, 839, 862, 875], 168)] := DAll.of (by decide +kernel)
theorem DW1 : DAll mL_law [(168, .aload_n 1, 169), (169, .aload_n 0, 170), (170, .iload_n 3, 171), (171, .iconst 1, 172), (172, .iadd, 173), (173, .iaload, 174), (174, .aload_n 0, 175), (175, .iload_n 3, 176), (176, .iconst 2, 177), (177, .iadd, 178), (178, .iaload, 179), (179, .aload_n 0, 180), (180, .iload_n 3, 181), (181, .iconst 3, 182), (182, .iadd, 183), (183, .iaload, 184), (184, .aload_n 0, 185), (185, .iload_n 3, 186), (186, .iconst 4, 187), (187, .iadd, 188), (188, .iaload, 189), (189, .invokevirtual 13, 192), (192, .aload_n 2, 193), (193, .aload_n 0, 194), (194, .iload_n 3, 195), (195, .iconst 1, 196), (196, .iadd, 197), (197, .iaload, 198), (198, .aload_n 0, 199), (199, .iload_n 3, 200), (200, .iconst 2, 201), (201, .iadd, 202), (202, .iaload, 203), (203, .aload_n 0, 204), (204, .iload_n 3, 205), (205, .iconst 3, 206), (206, .iadd, 207), (207, .iaload, 208), (208, .aload_n 0, 209), (209, .iload_n 3, 210), (210, .iconst 4, 211), (211, .iadd, 212), (212, .iaload, 213), (213, .invokevirtual 17, 216), (216, .if_icmp .eq 704, 219), (219, .iconst 0, 220), (220, .ireturn, 221)] := DAll.of (by decide +kernel)
theorem DW2 : DAll mL_law [(221, .aload_n 1, 222), (222, .aload_n 0, 223), (223, .iload_n 3, 224), (224, .iconst 1, 225), (225, .iadd, 226), (226, .iaload, 227), (227, .aload_n 0, 228), (228, .iload_n 3, 229), (229, .iconst 2, 230), (230, .iadd, 231), (231, .iaload, 232), (232, .aload_n 0, 233), (233, .iload_n 3, 234), (234, .iconst 3, 235), (235, .iadd, 236), (236, .iaload, 237), (237, .invokevirtual 18, 240), (240, .aload_n 2, 241), (241, .aload_n 0, 242), (242, .iload_n 3, 243), (243, .iconst 1, 244), (244, .iadd, 245), (245, .iaload, 246), (246, .aload_n 0, 247), (247, .iload_n 3, 248), (248, .iconst 2, 249), (249, .iadd, 250), (250, .iaload, 251), (251, .aload_n 0, 252), (252, .iload_n 3, 253), (253, .iconst 3, 254), (254, .iadd, 255), (255, .iaload, 256), (256, .invokevirtual 22, 259), (259, .if_icmp .eq 661, 262), (262, .iconst 0, 263), (263, .ireturn, 264)] := DAll.of (by decide +kernel)
theorem DW3 : DAll mL_law [(264, .aload_n 1, 265), (265, .aload_n 0, 266), (266, .iload_n 3, 267), (267, .iconst 1, 268), (268, .iadd, 269), (269, .iaload, 270), (270, .aload_n 0, 271), (271, .iload_n 3, 272), (272, .iconst 2, 273), (273, .iadd, 274), (274, .iaload, 275), (275, .aload_n 0, 276), (276, .iload_n 3, 277), (277, .iconst 3, 278), (278, .iadd, 279), (279, .iaload, 280), (280, .invokevirtual 23, 283), (283, .aload_n 2, 284), (284, .aload_n 0, 285), (285, .iload_n 3, 286), (286, .iconst 1, 287), (287, .iadd, 288), (288, .iaload, 289), (289, .aload_n 0, 290), (290, .iload_n 3, 291), (291, .iconst 2, 292), (292, .iadd, 293), (293, .iaload, 294), (294, .aload_n 0, 295), (295, .iload_n 3, 296), (296, .iconst 3, 297), (297, .iadd, 298), (298, .iaload, 299), (299, .invokevirtual 26, 302), (302, .if_icmp .eq 618, 305), (305, .iconst 0, 306), (306, .ireturn, 307)] := DAll.of (by decide +kernel)
theorem DW4 : DAll mL_law [(307, .aload_n 1, 308), (308, .aload_n 0, 309), (309, .iload_n 3, 310), (310, .iconst 1, 311), (311, .iadd, 312), (312, .iaload, 313), (313, .aload_n 0, 314), (314, .iload_n 3, 315), (315, .iconst 2, 316), (316, .iadd, 317), (317, .iaload, 318), (318, .invokevirtual 27, 321), (321, .aload_n 2, 322), (322, .aload_n 0, 323), (323, .iload_n 3, 324), (324, .iconst 1, 325), (325, .iadd, 326), (326, .iaload, 327), (327, .aload_n 0, 328), (328, .iload_n 3, 329), (329, .iconst 2, 330), (330, .iadd, 331), (331, .iaload, 332), (332, .invokevirtual 31, 335), (335, .if_icmp .eq 585, 338), (338, .iconst 0, 339), (339, .ireturn, 340)] := DAll.of (by decide +kernel)
theorem DW5 : DAll mL_law [(340, .aload_n 1, 341), (341, .aload_n 0, 342), (342, .iload_n 3, 343), (343, .iconst 1, 344), (344, .iadd, 345), (345, .iaload, 346), (346, .invokevirtual 32, 349), (349, .aload_n 2, 350), (350, .aload_n 0, 351), (351, .iload_n 3, 352), (352, .iconst 1, 353), (353, .iadd, 354), (354, .iaload, 355), (355, .invokevirtual 36, 358), (358, .if_icmp .eq 562, 361), (361, .iconst 0, 362), (362, .ireturn, 363)] := DAll.of (by decide +kernel)
theorem DW6 : DAll mL_law [(363, .aload_n 1, 364), (364, .aload_n 0, 365), (365, .iload_n 3, 366), (366, .iconst 1, 367), (367, .iadd, 368), (368, .iaload, 369), (369, .aload_n 0, 370), (370, .iload_n 3, 371), (371, .iconst 2, 372), (372, .iadd, 373), (373, .iaload, 374), (374, .invokevirtual 37, 377), (377, .aload_n 2, 378), (378, .aload_n 0, 379), (379, .iload_n 3, 380), (380, .iconst 1, 381), (381, .iadd, 382), (382, .iaload, 383), (383, .aload_n 0, 384), (384, .iload_n 3, 385), (385, .iconst 2, 386), (386, .iadd, 387), (387, .iaload, 388), (388, .invokevirtual 40, 391), (391, .if_icmp .eq 529, 394), (394, .iconst 0, 395), (395, .ireturn, 396)] := DAll.of (by decide +kernel)
theorem DW7 : DAll mL_law [(396, .aload_n 1, 397), (397, .aload_n 0, 398), (398, .iload_n 3, 399), (399, .iconst 1, 400), (400, .iadd, 401), (401, .iaload, 402), (402, .invokevirtual 41, 405), (405, .aload_n 2, 406), (406, .aload_n 0, 407), (407, .iload_n 3, 408), (408, .iconst 1, 409), (409, .iadd, 410), (410, .iaload, 411), (411, .invokevirtual 44, 414), (414, .if_icmp .eq 506, 417), (417, .iconst 0, 418), (418, .ireturn, 419)] := DAll.of (by decide +kernel)
theorem DW8 : DAll mL_law [(419, .aload_n 1, 420), (420, .aload_n 0, 421), (421, .iload_n 3, 422), (422, .iconst 1, 423), (423, .iadd, 424), (424, .iaload, 425), (425, .invokevirtual 45, 428), (428, .aload_n 2, 429), (429, .aload_n 0, 430), (430, .iload_n 3, 431), (431, .iconst 1, 432), (432, .iadd, 433), (433, .iaload, 434), (434, .invokevirtual 48, 437), (437, .if_icmp .eq 483, 440), (440, .iconst 0, 441), (441, .ireturn, 442)] := DAll.of (by decide +kernel)
theorem DW9 : DAll mL_law [(442, .aload_n 1, 443), (443, .invokevirtual 49, 446), (446, .aload_n 2, 447), (447, .invokevirtual 53, 450), (450, .if_icmp .eq 470, 453), (453, .iconst 0, 454), (454, .ireturn, 455)] := DAll.of (by decide +kernel)
theorem DW10 : DAll mL_law [(455, .aload_n 1, 456), (456, .aload_n 0, 457), (457, .iload_n 3, 458), (458, .iconst 1, 459), (459, .iadd, 460), (460, .iaload, 461), (461, .i2c, 462), (462, .invokevirtual 54, 465), (465, .aload_n 2, 466), (466, .aload_n 0, 467), (467, .iload_n 3, 468), (468, .iconst 1, 469), (469, .iadd, 470), (470, .iaload, 471), (471, .i2c, 472), (472, .invokevirtual 58, 475), (475, .if_icmp .eq 445, 478), (478, .iconst 0, 479), (479, .ireturn, 480)] := DAll.of (by decide +kernel)
theorem DW11 : DAll mL_law [(480, .aload_n 1, 481), (481, .invokevirtual 59, 484), (484, .aload_n 2, 485), (485, .invokevirtual 62, 488), (488, .if_icmp .eq 432, 491), (491, .iconst 0, 492), (492, .ireturn, 493)] := DAll.of (by decide +kernel)
theorem DW12 : DAll mL_law [(493, .aload_n 1, 494), (494, .invokevirtual 63, 497), (497, .aload_n 2, 498), (498, .invokevirtual 66, 501), (501, .if_icmp .eq 419, 504), (504, .iconst 0, 505), (505, .ireturn, 506)] := DAll.of (by decide +kernel)
theorem DW13 : DAll mL_law [(506, .aload_n 1, 507), (507, .invokevirtual 67, 510), (510, .aload_n 2, 511), (511, .invokevirtual 70, 514), (514, .if_icmp .eq 406, 517), (517, .iconst 0, 518), (518, .ireturn, 519)] := DAll.of (by decide +kernel)
theorem DW14 : DAll mL_law [(519, .aload_n 1, 520), (520, .invokevirtual 71, 523), (523, .aload_n 2, 524), (524, .invokevirtual 74, 527), (527, .if_icmp .eq 393, 530), (530, .iconst 0, 531), (531, .ireturn, 532)] := DAll.of (by decide +kernel)
theorem DW15 : DAll mL_law [(532, .aload_n 1, 533), (533, .invokevirtual 75, 536), (536, .aload_n 2, 537), (537, .invokevirtual 78, 540), (540, .if_icmp .eq 380, 543), (543, .iconst 0, 544), (544, .ireturn, 545)] := DAll.of (by decide +kernel)
theorem DW16 : DAll mL_law [(545, .aload_n 1, 546), (546, .aload_n 0, 547), (547, .iload_n 3, 548), (548, .iconst 1, 549), (549, .iadd, 550), (550, .iaload, 551), (551, .aload_n 0, 552), (552, .iload_n 3, 553), (553, .iconst 2, 554), (554, .iadd, 555), (555, .iaload, 556), (556, .invokevirtual 79, 559), (559, .aload_n 2, 560), (560, .aload_n 0, 561), (561, .iload_n 3, 562), (562, .iconst 1, 563), (563, .iadd, 564), (564, .iaload, 565), (565, .aload_n 0, 566), (566, .iload_n 3, 567), (567, .iconst 2, 568), (568, .iadd, 569), (569, .iaload, 570), (570, .invokevirtual 82, 573), (573, .if_icmp .eq 347, 576), (576, .iconst 0, 577), (577, .ireturn, 578)] := DAll.of (by decide +kernel)
theorem DW17 : DAll mL_law [(578, .aload_n 1, 579), (579, .aload_n 0, 580), (580, .iload_n 3, 581), (581, .iconst 1, 582), (582, .iadd, 583), (583, .iaload, 584), (584, .aload_n 0, 585), (585, .iload_n 3, 586), (586, .iconst 2, 587), (587, .iadd, 588), (588, .iaload, 589), (589, .invokevirtual 83, 592), (592, .aload_n 2, 593), (593, .aload_n 0, 594), (594, .iload_n 3, 595), (595, .iconst 1, 596), (596, .iadd, 597), (597, .iaload, 598), (598, .aload_n 0, 599), (599, .iload_n 3, 600), (600, .iconst 2, 601), (601, .iadd, 602), (602, .iaload, 603), (603, .invokevirtual 86, 606), (606, .if_icmp .eq 314, 609), (609, .iconst 0, 610), (610, .ireturn, 611)] := DAll.of (by decide +kernel)
theorem DW18 : DAll mL_law [(611, .aload_n 1, 612), (612, .aload_n 0, 613), (613, .iload_n 3, 614), (614, .iconst 1, 615), (615, .iadd, 616), (616, .iaload, 617), (617, .invokevirtual 87, 620), (620, .aload_n 2, 621), (621, .aload_n 0, 622), (622, .iload_n 3, 623), (623, .iconst 1, 624), (624, .iadd, 625), (625, .iaload, 626), (626, .invokevirtual 90, 629), (629, .if_icmp .eq 291, 632), (632, .iconst 0, 633), (633, .ireturn, 634)] := DAll.of (by decide +kernel)
theorem DW19 : DAll mL_law [(634, .aload_n 1, 635), (635, .aload_n 0, 636), (636, .iload_n 3, 637), (637, .iconst 1, 638), (638, .iadd, 639), (639, .iaload, 640), (640, .invokevirtual 91, 643), (643, .aload_n 2, 644), (644, .aload_n 0, 645), (645, .iload_n 3, 646), (646, .iconst 1, 647), (647, .iadd, 648), (648, .iaload, 649), (649, .invokevirtual 94, 652), (652, .if_icmp .eq 268, 655), (655, .iconst 0, 656), (656, .ireturn, 657)] := DAll.of (by decide +kernel)
theorem DW20 : DAll mL_law [(657, .aload_n 1, 658), (658, .aload_n 0, 659), (659, .iload_n 3, 660), (660, .iconst 1, 661), (661, .iadd, 662), (662, .iaload, 663), (663, .invokevirtual 95, 666), (666, .aload_n 2, 667), (667, .aload_n 0, 668), (668, .iload_n 3, 669), (669, .iconst 1, 670), (670, .iadd, 671), (671, .iaload, 672), (672, .invokevirtual 98, 675), (675, .if_icmp .eq 245, 678), (678, .iconst 0, 679), (679, .ireturn, 680)] := DAll.of (by decide +kernel)
theorem DW21 : DAll mL_law [(680, .aload_n 1, 681), (681, .aload_n 0, 682), (682, .iload_n 3, 683), (683, .iconst 1, 684), (684, .iadd, 685), (685, .iaload, 686), (686, .invokevirtual 99, 689), (689, .aload_n 2, 690), (690, .aload_n 0, 691), (691, .iload_n 3, 692), (692, .iconst 1, 693), (693, .iadd, 694), (694, .iaload, 695), (695, .invokevirtual 102, 698), (698, .if_icmp .eq 222, 701), (701, .iconst 0, 702), (702, .ireturn, 703)] := DAll.of (by decide +kernel)
theorem DW22 : DAll mL_law [(703, .aload_n 1, 704), (704, .aload_n 0, 705), (705, .iload_n 3, 706), (706, .iconst 1, 707), (707, .iadd, 708), (708, .iaload, 709), (709, .invokevirtual 103, 712), (712, .aload_n 2, 713), (713, .aload_n 0, 714), (714, .iload_n 3, 715), (715, .iconst 1, 716), (716, .iadd, 717), (717, .iaload, 718), (718, .invokevirtual 106, 721), (721, .if_icmp .eq 199, 724), (724, .iconst 0, 725), (725, .ireturn, 726)] := DAll.of (by decide +kernel)
theorem DW23 : DAll mL_law [(726, .aload_n 1, 727), (727, .aload_n 0, 728), (728, .iload_n 3, 729), (729, .iconst 1, 730), (730, .iadd, 731), (731, .iaload, 732), (732, .aload_n 0, 733), (733, .iload_n 3, 734), (734, .iconst 2, 735), (735, .iadd, 736), (736, .iaload, 737), (737, .invokevirtual 107, 740), (740, .aload_n 2, 741), (741, .aload_n 0, 742), (742, .iload_n 3, 743), (743, .iconst 1, 744), (744, .iadd, 745), (745, .iaload, 746), (746, .aload_n 0, 747), (747, .iload_n 3, 748), (748, .iconst 2, 749), (749, .iadd, 750), (750, .iaload, 751), (751, .invokevirtual 110, 754), (754, .if_icmp .eq 166, 757), (757, .iconst 0, 758), (758, .ireturn, 759)] := DAll.of (by decide +kernel)
theorem DW24 : DAll mL_law [(759, .aload_n 1, 760), (760, .aload_n 0, 761), (761, .iload_n 3, 762), (762, .iconst 1, 763), (763, .iadd, 764), (764, .iaload, 765), (765, .aload_n 0, 766), (766, .iload_n 3, 767), (767, .iconst 2, 768), (768, .iadd, 769), (769, .iaload, 770), (770, .invokevirtual 111, 773), (773, .aload_n 2, 774), (774, .aload_n 0, 775), (775, .iload_n 3, 776), (776, .iconst 1, 777), (777, .iadd, 778), (778, .iaload, 779), (779, .aload_n 0, 780), (780, .iload_n 3, 781), (781, .iconst 2, 782), (782, .iadd, 783), (783, .iaload, 784), (784, .invokevirtual 114, 787), (787, .if_icmp .eq 133, 790), (790, .iconst 0, 791), (791, .ireturn, 792)] := DAll.of (by decide +kernel)
theorem DW25 : DAll mL_law [(792, .aload_n 1, 793), (793, .aload_n 0, 794), (794, .iload_n 3, 795), (795, .iconst 1, 796), (796, .iadd, 797), (797, .iaload, 798), (798, .aload_n 0, 799), (799, .iload_n 3, 800), (800, .iconst 2, 801), (801, .iadd, 802), (802, .iaload, 803), (803, .invokevirtual 115, 806), (806, .aload_n 2, 807), (807, .aload_n 0, 808), (808, .iload_n 3, 809), (809, .iconst 1, 810), (810, .iadd, 811), (811, .iaload, 812), (812, .aload_n 0, 813), (813, .iload_n 3, 814), (814, .iconst 2, 815), (815, .iadd, 816), (816, .iaload, 817), (817, .invokevirtual 118, 820), (820, .if_icmp .eq 100, 823), (823, .iconst 0, 824), (824, .ireturn, 825)] := DAll.of (by decide +kernel)
theorem DW26 : DAll mL_law [(825, .aload_n 1, 826), (826, .aload_n 0, 827), (827, .iload_n 3, 828), (828, .iconst 1, 829), (829, .iadd, 830), (830, .iaload, 831), (831, .invokevirtual 119, 834), (834, .aload_n 2, 835), (835, .aload_n 0, 836), (836, .iload_n 3, 837), (837, .iconst 1, 838), (838, .iadd, 839), (839, .iaload, 840), (840, .invokevirtual 122, 843), (843, .if_icmp .eq 77, 846), (846, .iconst 0, 847), (847, .ireturn, 848)] := DAll.of (by decide +kernel)
theorem DW27 : DAll mL_law [(848, .aload_n 1, 849), (849, .aload_n 0, 850), (850, .iload_n 3, 851), (851, .iconst 1, 852), (852, .iadd, 853), (853, .iaload, 854), (854, .invokevirtual 123, 857), (857, .aload_n 2, 858), (858, .aload_n 0, 859), (859, .iload_n 3, 860), (860, .iconst 1, 861), (861, .iadd, 862), (862, .iaload, 863), (863, .invokevirtual 126, 866), (866, .if_icmp .eq 54, 869), (869, .iconst 0, 870), (870, .ireturn, 871)] := DAll.of (by decide +kernel)
theorem DW28 : DAll mL_law [(871, .aload_n 1, 872), (872, .aload_n 0, 873), (873, .iload_n 3, 874), (874, .iconst 1, 875), (875, .iadd, 876), (876, .iaload, 877), (877, .invokevirtual 127, 880), (880, .aload_n 2, 881), (881, .aload_n 0, 882), (882, .iload_n 3, 883), (883, .iconst 1, 884), (884, .iadd, 885), (885, .iaload, 886), (886, .invokevirtual 130, 889), (889, .if_icmp .eq 31, 892), (892, .iconst 0, 893), (893, .ireturn, 894)] := DAll.of (by decide +kernel)
theorem DW29 : DAll mL_law [(894, .aload_n 1, 895), (895, .invokevirtual 131, 898), (898, .aload_n 2, 899), (899, .invokevirtual 134, 902), (902, .if_icmp .eq 18, 905), (905, .iconst 0, 906), (906, .ireturn, 907)] := DAll.of (by decide +kernel)
theorem DW30 : DAll mL_law [(907, .aload_n 1, 908), (908, .invokevirtual 135, 911), (911, .aload_n 2, 912), (912, .invokevirtual 138, 915), (915, .if_icmp .eq 5, 918), (918, .iconst 0, 919), (919, .ireturn, 920)] := DAll.of (by decide +kernel)
theorem DW31 : DAll mL_law [(920, .iinc 3 5, 923), (923, .goto (-905), 926), (926, .iconst 1, 927), (927, .ireturn, 928)] := DAll.of (by decide +kernel)
theorem only_of {h h1 : List va_E} {lo hi : Nat} (e : ∀ j, (j < lo ∨ hi ≤ j) → h1[j]? = h[j]?) (hl : hi ≤ h.length) (hs : hi ≤ h1.length) : Only lo hi h h1 := by
  refine ⟨?_, e⟩
  have a := e h.length (Or.inr hl)
  rw [List.getElem?_eq_none (Nat.le_refl _)] at a
  have a := List.getElem?_eq_none_iff.mp a
  have b := e h1.length (Or.inr hs)
  rw [List.getElem?_eq_none (Nat.le_refl _)] at b
  have b := List.getElem?_eq_none_iff.mp b.symm
  omega
section LW
variable {E : AEnv} {d : Nat} {h h1 h' l : List va_E} {b lo hi : Nat} {G G' : Nat → Option va_E} {Z : Zt} {Ψ : Pst}
theorem CZ.obj (q : CZ G Z h b) : ∃ n t, h[b]? = some (clO b (nI n) (nI t)) := by
  obtain ⟨B, S, o, X, q, -⟩ := q
  exact ⟨_, _, q.1⟩
theorem CZ.len (q : CZ G Z h b) : b + 52 ≤ h.length := by
  obtain ⟨B, S, o, X, q, -⟩ := q
  obtain ⟨F, p, h1, h2, h3, h4, h5⟩ := q.2.2.2.2.2.1
  obtain ⟨σ, s⟩ := h4 3 (by decide)
  have := (List.getElem?_eq_some_iff.mp s.2.2.2.2.2).1
  omega
theorem CZ.re (q : CZ G Z h b) (f : ∀ j, (j < b ∨ b + 52 ≤ j) → h[j]? = G' j) : CZ G' Z h b := by
  obtain ⟨B, S, o, X, ⟨q0, qn, q1, q2, q3, q4, q5, q6, fr, q7⟩, r⟩ := q
  exact ⟨B, S, o, X, ⟨q0, qn, q1, q2, q3, q4, q5, q6, f, q7⟩, r⟩
theorem CZ.keep (q : CZ G Z h b) (hO : Only lo hi h h1) (hd : b + 52 ≤ lo ∨ hi ≤ b) : CZ (fun j => h1[j]?) Z h1 b := by
  obtain ⟨B, S, o, X, ⟨q0, qn, q1, q2, q3, q4, q5, ⟨s, t, q6⟩, fr, w, fd, l, rf, q7⟩, r⟩ := q
  refine ⟨B, S, o, X, ⟨hO.at (by omega) q0, qn, q1.keep hO (by omega), q2.keep hO (by omega), q3.keep hO (by omega), ?_, q5.keep hO (by omega), ⟨s, t, q6.keep hO (by omega)⟩, fun _ _ => rfl, w, fd, l, rf, q7.keep hO (by omega)⟩, r⟩
  obtain ⟨F, p, h1, h2, h3, h4, h5⟩ := q4
  refine ⟨F, p, hO.at (by omega) h1, h2, h3, fun q hq => ?_, fun i hi => (h5 i hi).keep hO (by have := (h2 i (by omega)).1; omega)⟩
  obtain ⟨σ, s⟩ := h4 q hq
  exact ⟨σ, s.keep hO (by omega)⟩
theorem MZ.obj (q : MZ G Z h b) : ∃ i, h[b]? = some (mdO b i) := by
  obtain ⟨i, ρ, q, -⟩ := q
  exact ⟨_, q.1.1⟩
theorem MZ.len (q : MZ G Z h b) : b + 11 ≤ h.length := by
  obtain ⟨i, ρ, q, -⟩ := q
  have := (List.getElem?_eq_some_iff.mp (q.1.2.1 10 (by decide))).1
  omega
theorem MZ.ok (q : MZ G Z h b) : AOK (zA Z) := by
  obtain ⟨i, ρ, q, -⟩ := q
  exact q.2.2.1
theorem MZ.re (q : MZ G Z h b) (f : ∀ j, (j < b ∨ b + 11 ≤ j) → h[j]? = G' j) : MZ G' Z h b := by
  obtain ⟨i, ρ, ⟨⟨m0, m1, m2⟩, r⟩, t⟩ := q
  exact ⟨i, ρ, ⟨⟨m0, m1, f⟩, r⟩, t⟩
theorem MZ.keep (q : MZ G Z h b) (hO : Only lo hi h h1) (hd : b + 11 ≤ lo ∨ hi ≤ b) : MZ (fun j => h1[j]?) Z h1 b := by
  obtain ⟨i, ρ, ⟨⟨m0, m1, m2⟩, r⟩, t⟩ := q
  exact ⟨i, ρ, ⟨⟨hO.at (by omega) m0, fun a ha => hO.at (by omega) (m1 a ha), fun _ _ => rfl⟩, r⟩, t⟩
theorem CZ.frm (q : CZ G Z h b) : ∀ j, (j < b ∨ b + 52 ≤ j) → h[j]? = G j := by
  obtain ⟨B, S, o, X, q, -⟩ := q
  exact q.2.2.2.2.2.2.2.2.1
theorem MZ.frm (q : MZ G Z h b) : ∀ j, (j < b ∨ b + 11 ≤ j) → h[j]? = G j := by
  obtain ⟨i, ρ, q, -⟩ := q
  exact q.1.2.2
/-- both objects, and one store -/
def LI (Z : Zt) (h : List va_E) : Prop := CZ (fun j => h[j]?) Z h 0 ∧ MZ (fun j => h[j]?) Z h 52
theorem LI.cls {Z' : Zt} (q : LI Z h) (q1 : CZ (fun j => h[j]?) Z' h1 0) : MZ (fun j => h1[j]?) Z h1 52 :=
  q.2.keep (lo := 0) (hi := 52) (only_of q1.frm q.1.len q1.len) (by omega)
theorem LI.model {Z' : Zt} (q1 : CZ G Z' h 0) (m : MZ (fun j => h[j]?) Z h 52) (q2 : MZ (fun j => h[j]?) Z' h1 52) : LI Z' h1 :=
  ⟨q1.keep (lo := 52) (hi := 63) (only_of q2.frm m.len q2.len) (by omega), q2.re (fun _ _ => rfl)⟩
theorem and31 (x : Int32) : ∃ k, k < 32 ∧ x &&& nI 31 = nI k := by
  refine ⟨x.toBitVec.toNat % 32, Nat.mod_lt _ (by decide), ?_⟩
  apply Int32.toBitVec_inj.1
  show x.toBitVec &&& BitVec.ofNat 32 31 = BitVec.ofNat 32 (x.toBitVec.toNat % 32)
  apply BitVec.eq_of_toNat_eq
  have h1 := Nat.and_two_pow_sub_one_eq_mod x.toBitVec.toNat 5
  have h2 := x.toBitVec.isLt
  rw [BitVec.toNat_and, BitVec.toNat_ofNat, BitVec.toNat_ofNat, show 31 % 2 ^ 32 = 2 ^ 5 - 1 by decide, h1, Nat.mod_eq_of_lt (show x.toBitVec.toNat % 2 ^ 5 < 2 ^ 32 by omega)]
theorem char_nI (x : Int32) : ∃ v, v < 65536 ∧ (x.toUInt32 % 65536).toInt32 = nI v := by
  refine ⟨x.toBitVec.toNat % 65536, Nat.mod_lt _ (by decide), ?_⟩
  apply Int32.toBitVec_inj.1
  show x.toBitVec % 65536#32 = BitVec.ofNat 32 (x.toBitVec.toNat % 65536)
  apply BitVec.eq_of_toNat_eq
  have h2 := x.toBitVec.isLt
  rw [BitVec.toNat_umod, BitVec.toNat_ofNat, BitVec.toNat_ofNat, show 65536 % 2 ^ 32 = 65536 by decide, Nat.mod_eq_of_lt (show x.toBitVec.toNat % 65536 < 2 ^ 32 by omega)]
theorem w_setLayout {i : Nat} (hI : LI Z h) (hi : i + 5 ≤ (ESc E).1) (hL : (ESc E).1 ≤ 2560) (hd : 11 ≤ d) (K : ∀ h1 Z1, LI Z1 h1 → Go E mL_law d 0 0 920 [some (.ref (BIGN + 2)), some (.ref 0), some (.ref 52), some (.int (nI i))] [] h1 Ψ) : Go E mL_law d 0 0 168 [some (.ref (BIGN + 2)), some (.ref 0), some (.ref 52), some (.int (nI i))] [] h Ψ := by
  obtain ⟨n0, t0, hr⟩ := hI.1.obj
  have hS : ArrR E h (BIGN + 2) (ESc E).1 (ESc E).2 := Or.inr (Or.inr (Or.inr ⟨rfl, rfl, rfl⟩))
  refine go_aload_1 (DW1.at 0 rfl) ?_
  refine go_aload_0 (DW1.at 1 rfl) ?_
  refine go_iload_3 (DW1.at 2 rfl) ?_
  refine go_iconst (v := nI 1) (DW1.at 3 rfl) (by decide) ?_
  refine go_iadd (DW1.at 4 rfl) ?_
  rw [nI_add]
  refine go_iaload (DW1.at 5 rfl) hS (vp_in_nI (show i + 1 < (ESc E).1 by omega) (by omega)) ?_
  refine go_aload_0 (DW1.at 6 rfl) ?_
  refine go_iload_3 (DW1.at 7 rfl) ?_
  refine go_iconst (v := nI 2) (DW1.at 8 rfl) (by decide) ?_
  refine go_iadd (DW1.at 9 rfl) ?_
  rw [nI_add]
  refine go_iaload (DW1.at 10 rfl) hS (vp_in_nI (show i + 2 < (ESc E).1 by omega) (by omega)) ?_
  refine go_aload_0 (DW1.at 11 rfl) ?_
  refine go_iload_3 (DW1.at 12 rfl) ?_
  refine go_iconst (v := nI 3) (DW1.at 13 rfl) (by decide) ?_
  refine go_iadd (DW1.at 14 rfl) ?_
  rw [nI_add]
  refine go_iaload (DW1.at 15 rfl) hS (vp_in_nI (show i + 3 < (ESc E).1 by omega) (by omega)) ?_
  refine go_aload_0 (DW1.at 16 rfl) ?_
  refine go_iload_3 (DW1.at 17 rfl) ?_
  refine go_iconst (v := nI 4) (DW1.at 18 rfl) (by decide) ?_
  refine go_iadd (DW1.at 19 rfl) ?_
  rw [nI_add]
  refine go_iaload (DW1.at 20 rfl) hS (vp_in_nI (show i + 4 < (ESc E).1 by omega) (by omega)) ?_
  refine go_cVi4 (DW1.at 21 rfl) nL_13 vX5_setLayout (by omega) (z_setLayout hI.1 (by omega)) hr rfl (Nat.le_of_ble_eq_true rfl) (fun x1 h1 q1 => ?_)
  obtain ⟨e1, q1⟩ := q1
  have m1 := hI.cls q1
  obtain ⟨ii, hs⟩ := m1.obj
  have hS1 : ArrR E h1 (BIGN + 2) (ESc E).1 (ESc E).2 := Or.inr (Or.inr (Or.inr ⟨rfl, rfl, rfl⟩))
  refine go_aload_2 (DW1.at 22 rfl) ?_
  refine go_aload_0 (DW1.at 23 rfl) ?_
  refine go_iload_3 (DW1.at 24 rfl) ?_
  refine go_iconst (v := nI 1) (DW1.at 25 rfl) (by decide) ?_
  refine go_iadd (DW1.at 26 rfl) ?_
  rw [nI_add]
  refine go_iaload (DW1.at 27 rfl) hS1 (vp_in_nI (show i + 1 < (ESc E).1 by omega) (by omega)) ?_
  refine go_aload_0 (DW1.at 28 rfl) ?_
  refine go_iload_3 (DW1.at 29 rfl) ?_
  refine go_iconst (v := nI 2) (DW1.at 30 rfl) (by decide) ?_
  refine go_iadd (DW1.at 31 rfl) ?_
  rw [nI_add]
  refine go_iaload (DW1.at 32 rfl) hS1 (vp_in_nI (show i + 2 < (ESc E).1 by omega) (by omega)) ?_
  refine go_aload_0 (DW1.at 33 rfl) ?_
  refine go_iload_3 (DW1.at 34 rfl) ?_
  refine go_iconst (v := nI 3) (DW1.at 35 rfl) (by decide) ?_
  refine go_iadd (DW1.at 36 rfl) ?_
  rw [nI_add]
  refine go_iaload (DW1.at 37 rfl) hS1 (vp_in_nI (show i + 3 < (ESc E).1 by omega) (by omega)) ?_
  refine go_aload_0 (DW1.at 38 rfl) ?_
  refine go_iload_3 (DW1.at 39 rfl) ?_
  refine go_iconst (v := nI 4) (DW1.at 40 rfl) (by decide) ?_
  refine go_iadd (DW1.at 41 rfl) ?_
  rw [nI_add]
  refine go_iaload (DW1.at 42 rfl) hS1 (vp_in_nI (show i + 4 < (ESc E).1 by omega) (by omega)) ?_
  refine go_cVi4 (DW1.at 43 rfl) nL_17 vX6_setLayout (by omega) (y_setLayout m1 (by omega)) hs rfl (Nat.le_of_ble_eq_true rfl) (fun x2 h2 q2 => ?_)
  obtain ⟨e2, q2⟩ := q2
  refine go_icmp_eq 920 (DW1.at 44 rfl) (by decide) (fun c216 => ?_) (fun c216 => absurd (e1.trans e2.symm) c216)
  exact K _ _ (LI.model q1 m1 q2)
theorem w_write {i : Nat} (hI : LI Z h) (hi : i + 5 ≤ (ESc E).1) (hL : (ESc E).1 ≤ 2560) (hd : 11 ≤ d) (K : ∀ h1 Z1, LI Z1 h1 → Go E mL_law d 0 0 920 [some (.ref (BIGN + 2)), some (.ref 0), some (.ref 52), some (.int (nI i))] [] h1 Ψ) : Go E mL_law d 0 0 221 [some (.ref (BIGN + 2)), some (.ref 0), some (.ref 52), some (.int (nI i))] [] h Ψ := by
  obtain ⟨n0, t0, hr⟩ := hI.1.obj
  have hS : ArrR E h (BIGN + 2) (ESc E).1 (ESc E).2 := Or.inr (Or.inr (Or.inr ⟨rfl, rfl, rfl⟩))
  refine go_aload_1 (DW2.at 0 rfl) ?_
  refine go_aload_0 (DW2.at 1 rfl) ?_
  refine go_iload_3 (DW2.at 2 rfl) ?_
  refine go_iconst (v := nI 1) (DW2.at 3 rfl) (by decide) ?_
  refine go_iadd (DW2.at 4 rfl) ?_
  rw [nI_add]
  refine go_iaload (DW2.at 5 rfl) hS (vp_in_nI (show i + 1 < (ESc E).1 by omega) (by omega)) ?_
  refine go_aload_0 (DW2.at 6 rfl) ?_
  refine go_iload_3 (DW2.at 7 rfl) ?_
  refine go_iconst (v := nI 2) (DW2.at 8 rfl) (by decide) ?_
  refine go_iadd (DW2.at 9 rfl) ?_
  rw [nI_add]
  refine go_iaload (DW2.at 10 rfl) hS (vp_in_nI (show i + 2 < (ESc E).1 by omega) (by omega)) ?_
  refine go_aload_0 (DW2.at 11 rfl) ?_
  refine go_iload_3 (DW2.at 12 rfl) ?_
  refine go_iconst (v := nI 3) (DW2.at 13 rfl) (by decide) ?_
  refine go_iadd (DW2.at 14 rfl) ?_
  rw [nI_add]
  refine go_iaload (DW2.at 15 rfl) hS (vp_in_nI (show i + 3 < (ESc E).1 by omega) (by omega)) ?_
  refine go_cVi3 (DW2.at 16 rfl) nL_18 vX5_write (by omega) (z_write hI.1 (by omega)) hr rfl (Nat.le_of_ble_eq_true rfl) (fun x1 h1 q1 => ?_)
  obtain ⟨e1, q1⟩ := q1
  have m1 := hI.cls q1
  obtain ⟨ii, hs⟩ := m1.obj
  have hS1 : ArrR E h1 (BIGN + 2) (ESc E).1 (ESc E).2 := Or.inr (Or.inr (Or.inr ⟨rfl, rfl, rfl⟩))
  refine go_aload_2 (DW2.at 17 rfl) ?_
  refine go_aload_0 (DW2.at 18 rfl) ?_
  refine go_iload_3 (DW2.at 19 rfl) ?_
  refine go_iconst (v := nI 1) (DW2.at 20 rfl) (by decide) ?_
  refine go_iadd (DW2.at 21 rfl) ?_
  rw [nI_add]
  refine go_iaload (DW2.at 22 rfl) hS1 (vp_in_nI (show i + 1 < (ESc E).1 by omega) (by omega)) ?_
  refine go_aload_0 (DW2.at 23 rfl) ?_
  refine go_iload_3 (DW2.at 24 rfl) ?_
  refine go_iconst (v := nI 2) (DW2.at 25 rfl) (by decide) ?_
  refine go_iadd (DW2.at 26 rfl) ?_
  rw [nI_add]
  refine go_iaload (DW2.at 27 rfl) hS1 (vp_in_nI (show i + 2 < (ESc E).1 by omega) (by omega)) ?_
  refine go_aload_0 (DW2.at 28 rfl) ?_
  refine go_iload_3 (DW2.at 29 rfl) ?_
  refine go_iconst (v := nI 3) (DW2.at 30 rfl) (by decide) ?_
  refine go_iadd (DW2.at 31 rfl) ?_
  rw [nI_add]
  refine go_iaload (DW2.at 32 rfl) hS1 (vp_in_nI (show i + 3 < (ESc E).1 by omega) (by omega)) ?_
  refine go_cVi3 (DW2.at 33 rfl) nL_22 vX6_write (by omega) (y_write m1 (by omega)) hs rfl (Nat.le_of_ble_eq_true rfl) (fun x2 h2 q2 => ?_)
  obtain ⟨e2, q2⟩ := q2
  refine go_icmp_eq 920 (DW2.at 34 rfl) (by decide) (fun c259 => ?_) (fun c259 => absurd (e1.trans e2.symm) c259)
  exact K _ _ (LI.model q1 m1 q2)
theorem w_alter {i : Nat} (hI : LI Z h) (hi : i + 5 ≤ (ESc E).1) (hL : (ESc E).1 ≤ 2560) (hd : 11 ≤ d) (K : ∀ h1 Z1, LI Z1 h1 → Go E mL_law d 0 0 920 [some (.ref (BIGN + 2)), some (.ref 0), some (.ref 52), some (.int (nI i))] [] h1 Ψ) : Go E mL_law d 0 0 264 [some (.ref (BIGN + 2)), some (.ref 0), some (.ref 52), some (.int (nI i))] [] h Ψ := by
  obtain ⟨n0, t0, hr⟩ := hI.1.obj
  have hS : ArrR E h (BIGN + 2) (ESc E).1 (ESc E).2 := Or.inr (Or.inr (Or.inr ⟨rfl, rfl, rfl⟩))
  refine go_aload_1 (DW3.at 0 rfl) ?_
  refine go_aload_0 (DW3.at 1 rfl) ?_
  refine go_iload_3 (DW3.at 2 rfl) ?_
  refine go_iconst (v := nI 1) (DW3.at 3 rfl) (by decide) ?_
  refine go_iadd (DW3.at 4 rfl) ?_
  rw [nI_add]
  refine go_iaload (DW3.at 5 rfl) hS (vp_in_nI (show i + 1 < (ESc E).1 by omega) (by omega)) ?_
  refine go_aload_0 (DW3.at 6 rfl) ?_
  refine go_iload_3 (DW3.at 7 rfl) ?_
  refine go_iconst (v := nI 2) (DW3.at 8 rfl) (by decide) ?_
  refine go_iadd (DW3.at 9 rfl) ?_
  rw [nI_add]
  refine go_iaload (DW3.at 10 rfl) hS (vp_in_nI (show i + 2 < (ESc E).1 by omega) (by omega)) ?_
  refine go_aload_0 (DW3.at 11 rfl) ?_
  refine go_iload_3 (DW3.at 12 rfl) ?_
  refine go_iconst (v := nI 3) (DW3.at 13 rfl) (by decide) ?_
  refine go_iadd (DW3.at 14 rfl) ?_
  rw [nI_add]
  refine go_iaload (DW3.at 15 rfl) hS (vp_in_nI (show i + 3 < (ESc E).1 by omega) (by omega)) ?_
  refine go_cVi3 (DW3.at 16 rfl) nL_23 vX5_alter (by omega) (z_alter hI.1 (by omega)) hr rfl (Nat.le_of_ble_eq_true rfl) (fun x1 h1 q1 => ?_)
  obtain ⟨e1, q1⟩ := q1
  have m1 := hI.cls q1
  obtain ⟨ii, hs⟩ := m1.obj
  have hS1 : ArrR E h1 (BIGN + 2) (ESc E).1 (ESc E).2 := Or.inr (Or.inr (Or.inr ⟨rfl, rfl, rfl⟩))
  refine go_aload_2 (DW3.at 17 rfl) ?_
  refine go_aload_0 (DW3.at 18 rfl) ?_
  refine go_iload_3 (DW3.at 19 rfl) ?_
  refine go_iconst (v := nI 1) (DW3.at 20 rfl) (by decide) ?_
  refine go_iadd (DW3.at 21 rfl) ?_
  rw [nI_add]
  refine go_iaload (DW3.at 22 rfl) hS1 (vp_in_nI (show i + 1 < (ESc E).1 by omega) (by omega)) ?_
  refine go_aload_0 (DW3.at 23 rfl) ?_
  refine go_iload_3 (DW3.at 24 rfl) ?_
  refine go_iconst (v := nI 2) (DW3.at 25 rfl) (by decide) ?_
  refine go_iadd (DW3.at 26 rfl) ?_
  rw [nI_add]
  refine go_iaload (DW3.at 27 rfl) hS1 (vp_in_nI (show i + 2 < (ESc E).1 by omega) (by omega)) ?_
  refine go_aload_0 (DW3.at 28 rfl) ?_
  refine go_iload_3 (DW3.at 29 rfl) ?_
  refine go_iconst (v := nI 3) (DW3.at 30 rfl) (by decide) ?_
  refine go_iadd (DW3.at 31 rfl) ?_
  rw [nI_add]
  refine go_iaload (DW3.at 32 rfl) hS1 (vp_in_nI (show i + 3 < (ESc E).1 by omega) (by omega)) ?_
  refine go_cVi3 (DW3.at 33 rfl) nL_26 vX6_alter (by omega) (y_alter m1 (by omega)) hs rfl (Nat.le_of_ble_eq_true rfl) (fun x2 h2 q2 => ?_)
  obtain ⟨e2, q2⟩ := q2
  refine go_icmp_eq 920 (DW3.at 34 rfl) (by decide) (fun c302 => ?_) (fun c302 => absurd (e1.trans e2.symm) c302)
  exact K _ _ (LI.model q1 m1 q2)
theorem w_lose {i : Nat} (hI : LI Z h) (hi : i + 5 ≤ (ESc E).1) (hL : (ESc E).1 ≤ 2560) (hd : 11 ≤ d) (K : ∀ h1 Z1, LI Z1 h1 → Go E mL_law d 0 0 920 [some (.ref (BIGN + 2)), some (.ref 0), some (.ref 52), some (.int (nI i))] [] h1 Ψ) : Go E mL_law d 0 0 307 [some (.ref (BIGN + 2)), some (.ref 0), some (.ref 52), some (.int (nI i))] [] h Ψ := by
  obtain ⟨n0, t0, hr⟩ := hI.1.obj
  have hS : ArrR E h (BIGN + 2) (ESc E).1 (ESc E).2 := Or.inr (Or.inr (Or.inr ⟨rfl, rfl, rfl⟩))
  refine go_aload_1 (DW4.at 0 rfl) ?_
  refine go_aload_0 (DW4.at 1 rfl) ?_
  refine go_iload_3 (DW4.at 2 rfl) ?_
  refine go_iconst (v := nI 1) (DW4.at 3 rfl) (by decide) ?_
  refine go_iadd (DW4.at 4 rfl) ?_
  rw [nI_add]
  refine go_iaload (DW4.at 5 rfl) hS (vp_in_nI (show i + 1 < (ESc E).1 by omega) (by omega)) ?_
  refine go_aload_0 (DW4.at 6 rfl) ?_
  refine go_iload_3 (DW4.at 7 rfl) ?_
  refine go_iconst (v := nI 2) (DW4.at 8 rfl) (by decide) ?_
  refine go_iadd (DW4.at 9 rfl) ?_
  rw [nI_add]
  refine go_iaload (DW4.at 10 rfl) hS (vp_in_nI (show i + 2 < (ESc E).1 by omega) (by omega)) ?_
  refine go_cVi2 (DW4.at 11 rfl) nL_27 vX5_lose (by omega) (z_lose hI.1 (by omega)) hr rfl (Nat.le_of_ble_eq_true rfl) (fun x1 h1 q1 => ?_)
  obtain ⟨e1, q1⟩ := q1
  have m1 := hI.cls q1
  obtain ⟨ii, hs⟩ := m1.obj
  have hS1 : ArrR E h1 (BIGN + 2) (ESc E).1 (ESc E).2 := Or.inr (Or.inr (Or.inr ⟨rfl, rfl, rfl⟩))
  refine go_aload_2 (DW4.at 12 rfl) ?_
  refine go_aload_0 (DW4.at 13 rfl) ?_
  refine go_iload_3 (DW4.at 14 rfl) ?_
  refine go_iconst (v := nI 1) (DW4.at 15 rfl) (by decide) ?_
  refine go_iadd (DW4.at 16 rfl) ?_
  rw [nI_add]
  refine go_iaload (DW4.at 17 rfl) hS1 (vp_in_nI (show i + 1 < (ESc E).1 by omega) (by omega)) ?_
  refine go_aload_0 (DW4.at 18 rfl) ?_
  refine go_iload_3 (DW4.at 19 rfl) ?_
  refine go_iconst (v := nI 2) (DW4.at 20 rfl) (by decide) ?_
  refine go_iadd (DW4.at 21 rfl) ?_
  rw [nI_add]
  refine go_iaload (DW4.at 22 rfl) hS1 (vp_in_nI (show i + 2 < (ESc E).1 by omega) (by omega)) ?_
  refine go_cVi2 (DW4.at 23 rfl) nL_31 vX6_lose (by omega) (y_lose m1 (by omega)) hs rfl (Nat.le_of_ble_eq_true rfl) (fun x2 h2 q2 => ?_)
  obtain ⟨e2, q2⟩ := q2
  refine go_icmp_eq 920 (DW4.at 24 rfl) (by decide) (fun c335 => ?_) (fun c335 => absurd (e1.trans e2.symm) c335)
  exact K _ _ (LI.model q1 m1 q2)
theorem w_loseNode {i : Nat} (hI : LI Z h) (hi : i + 5 ≤ (ESc E).1) (hL : (ESc E).1 ≤ 2560) (hd : 11 ≤ d) (K : ∀ h1 Z1, LI Z1 h1 → Go E mL_law d 0 0 920 [some (.ref (BIGN + 2)), some (.ref 0), some (.ref 52), some (.int (nI i))] [] h1 Ψ) : Go E mL_law d 0 0 340 [some (.ref (BIGN + 2)), some (.ref 0), some (.ref 52), some (.int (nI i))] [] h Ψ := by
  obtain ⟨n0, t0, hr⟩ := hI.1.obj
  have hS : ArrR E h (BIGN + 2) (ESc E).1 (ESc E).2 := Or.inr (Or.inr (Or.inr ⟨rfl, rfl, rfl⟩))
  refine go_aload_1 (DW5.at 0 rfl) ?_
  refine go_aload_0 (DW5.at 1 rfl) ?_
  refine go_iload_3 (DW5.at 2 rfl) ?_
  refine go_iconst (v := nI 1) (DW5.at 3 rfl) (by decide) ?_
  refine go_iadd (DW5.at 4 rfl) ?_
  rw [nI_add]
  refine go_iaload (DW5.at 5 rfl) hS (vp_in_nI (show i + 1 < (ESc E).1 by omega) (by omega)) ?_
  refine go_cVi1 (DW5.at 6 rfl) nL_32 vX5_loseNode (by omega) (z_loseNode hI.1 (by omega)) hr rfl (Nat.le_of_ble_eq_true rfl) (fun x1 h1 q1 => ?_)
  obtain ⟨e1, q1⟩ := q1
  have m1 := hI.cls q1
  obtain ⟨ii, hs⟩ := m1.obj
  have hS1 : ArrR E h1 (BIGN + 2) (ESc E).1 (ESc E).2 := Or.inr (Or.inr (Or.inr ⟨rfl, rfl, rfl⟩))
  refine go_aload_2 (DW5.at 7 rfl) ?_
  refine go_aload_0 (DW5.at 8 rfl) ?_
  refine go_iload_3 (DW5.at 9 rfl) ?_
  refine go_iconst (v := nI 1) (DW5.at 10 rfl) (by decide) ?_
  refine go_iadd (DW5.at 11 rfl) ?_
  rw [nI_add]
  refine go_iaload (DW5.at 12 rfl) hS1 (vp_in_nI (show i + 1 < (ESc E).1 by omega) (by omega)) ?_
  refine go_cVi1 (DW5.at 13 rfl) nL_36 vX6_loseNode (by omega) (y_loseNode m1 (by omega)) hs rfl (Nat.le_of_ble_eq_true rfl) (fun x2 h2 q2 => ?_)
  obtain ⟨e2, q2⟩ := q2
  refine go_icmp_eq 920 (DW5.at 14 rfl) (by decide) (fun c358 => ?_) (fun c358 => absurd (e1.trans e2.symm) c358)
  exact K _ _ (LI.model q1 m1 q2)
theorem w_mend {i : Nat} (hI : LI Z h) (hi : i + 5 ≤ (ESc E).1) (hL : (ESc E).1 ≤ 2560) (hd : 11 ≤ d) (K : ∀ h1 Z1, LI Z1 h1 → Go E mL_law d 0 0 920 [some (.ref (BIGN + 2)), some (.ref 0), some (.ref 52), some (.int (nI i))] [] h1 Ψ) : Go E mL_law d 0 0 363 [some (.ref (BIGN + 2)), some (.ref 0), some (.ref 52), some (.int (nI i))] [] h Ψ := by
  obtain ⟨n0, t0, hr⟩ := hI.1.obj
  have hS : ArrR E h (BIGN + 2) (ESc E).1 (ESc E).2 := Or.inr (Or.inr (Or.inr ⟨rfl, rfl, rfl⟩))
  refine go_aload_1 (DW6.at 0 rfl) ?_
  refine go_aload_0 (DW6.at 1 rfl) ?_
  refine go_iload_3 (DW6.at 2 rfl) ?_
  refine go_iconst (v := nI 1) (DW6.at 3 rfl) (by decide) ?_
  refine go_iadd (DW6.at 4 rfl) ?_
  rw [nI_add]
  refine go_iaload (DW6.at 5 rfl) hS (vp_in_nI (show i + 1 < (ESc E).1 by omega) (by omega)) ?_
  refine go_aload_0 (DW6.at 6 rfl) ?_
  refine go_iload_3 (DW6.at 7 rfl) ?_
  refine go_iconst (v := nI 2) (DW6.at 8 rfl) (by decide) ?_
  refine go_iadd (DW6.at 9 rfl) ?_
  rw [nI_add]
  refine go_iaload (DW6.at 10 rfl) hS (vp_in_nI (show i + 2 < (ESc E).1 by omega) (by omega)) ?_
  refine go_cVi2 (DW6.at 11 rfl) nL_37 vX5_mend (by omega) (z_mend hI.1 (by omega)) hr rfl (Nat.le_of_ble_eq_true rfl) (fun x1 h1 q1 => ?_)
  obtain ⟨e1, q1⟩ := q1
  have m1 := hI.cls q1
  obtain ⟨ii, hs⟩ := m1.obj
  have hS1 : ArrR E h1 (BIGN + 2) (ESc E).1 (ESc E).2 := Or.inr (Or.inr (Or.inr ⟨rfl, rfl, rfl⟩))
  refine go_aload_2 (DW6.at 12 rfl) ?_
  refine go_aload_0 (DW6.at 13 rfl) ?_
  refine go_iload_3 (DW6.at 14 rfl) ?_
  refine go_iconst (v := nI 1) (DW6.at 15 rfl) (by decide) ?_
  refine go_iadd (DW6.at 16 rfl) ?_
  rw [nI_add]
  refine go_iaload (DW6.at 17 rfl) hS1 (vp_in_nI (show i + 1 < (ESc E).1 by omega) (by omega)) ?_
  refine go_aload_0 (DW6.at 18 rfl) ?_
  refine go_iload_3 (DW6.at 19 rfl) ?_
  refine go_iconst (v := nI 2) (DW6.at 20 rfl) (by decide) ?_
  refine go_iadd (DW6.at 21 rfl) ?_
  rw [nI_add]
  refine go_iaload (DW6.at 22 rfl) hS1 (vp_in_nI (show i + 2 < (ESc E).1 by omega) (by omega)) ?_
  refine go_cVi2 (DW6.at 23 rfl) nL_40 vX6_mend (by omega) (y_mend m1 (by omega)) hs rfl (Nat.le_of_ble_eq_true rfl) (fun x2 h2 q2 => ?_)
  obtain ⟨e2, q2⟩ := q2
  refine go_icmp_eq 920 (DW6.at 24 rfl) (by decide) (fun c391 => ?_) (fun c391 => absurd (e1.trans e2.symm) c391)
  exact K _ _ (LI.model q1 m1 q2)
theorem w_mendNode {i : Nat} (hI : LI Z h) (hi : i + 5 ≤ (ESc E).1) (hL : (ESc E).1 ≤ 2560) (hd : 11 ≤ d) (K : ∀ h1 Z1, LI Z1 h1 → Go E mL_law d 0 0 920 [some (.ref (BIGN + 2)), some (.ref 0), some (.ref 52), some (.int (nI i))] [] h1 Ψ) : Go E mL_law d 0 0 396 [some (.ref (BIGN + 2)), some (.ref 0), some (.ref 52), some (.int (nI i))] [] h Ψ := by
  obtain ⟨n0, t0, hr⟩ := hI.1.obj
  have hS : ArrR E h (BIGN + 2) (ESc E).1 (ESc E).2 := Or.inr (Or.inr (Or.inr ⟨rfl, rfl, rfl⟩))
  refine go_aload_1 (DW7.at 0 rfl) ?_
  refine go_aload_0 (DW7.at 1 rfl) ?_
  refine go_iload_3 (DW7.at 2 rfl) ?_
  refine go_iconst (v := nI 1) (DW7.at 3 rfl) (by decide) ?_
  refine go_iadd (DW7.at 4 rfl) ?_
  rw [nI_add]
  refine go_iaload (DW7.at 5 rfl) hS (vp_in_nI (show i + 1 < (ESc E).1 by omega) (by omega)) ?_
  refine go_cVi1 (DW7.at 6 rfl) nL_41 vX5_mendNode (by omega) (z_mendNode hI.1 (by omega)) hr rfl (Nat.le_of_ble_eq_true rfl) (fun x1 h1 q1 => ?_)
  obtain ⟨e1, q1⟩ := q1
  have m1 := hI.cls q1
  obtain ⟨ii, hs⟩ := m1.obj
  have hS1 : ArrR E h1 (BIGN + 2) (ESc E).1 (ESc E).2 := Or.inr (Or.inr (Or.inr ⟨rfl, rfl, rfl⟩))
  refine go_aload_2 (DW7.at 7 rfl) ?_
  refine go_aload_0 (DW7.at 8 rfl) ?_
  refine go_iload_3 (DW7.at 9 rfl) ?_
  refine go_iconst (v := nI 1) (DW7.at 10 rfl) (by decide) ?_
  refine go_iadd (DW7.at 11 rfl) ?_
  rw [nI_add]
  refine go_iaload (DW7.at 12 rfl) hS1 (vp_in_nI (show i + 1 < (ESc E).1 by omega) (by omega)) ?_
  refine go_cVi1 (DW7.at 13 rfl) nL_44 vX6_mendNode (by omega) (y_mendNode m1 (by omega)) hs rfl (Nat.le_of_ble_eq_true rfl) (fun x2 h2 q2 => ?_)
  obtain ⟨e2, q2⟩ := q2
  refine go_icmp_eq 920 (DW7.at 14 rfl) (by decide) (fun c414 => ?_) (fun c414 => absurd (e1.trans e2.symm) c414)
  exact K _ _ (LI.model q1 m1 q2)
theorem w_work {i : Nat} (hI : LI Z h) (hi : i + 5 ≤ (ESc E).1) (hL : (ESc E).1 ≤ 2560) (hd : 11 ≤ d) (K : ∀ h1 Z1, LI Z1 h1 → Go E mL_law d 0 0 920 [some (.ref (BIGN + 2)), some (.ref 0), some (.ref 52), some (.int (nI i))] [] h1 Ψ) : Go E mL_law d 0 0 419 [some (.ref (BIGN + 2)), some (.ref 0), some (.ref 52), some (.int (nI i))] [] h Ψ := by
  obtain ⟨n0, t0, hr⟩ := hI.1.obj
  have hS : ArrR E h (BIGN + 2) (ESc E).1 (ESc E).2 := Or.inr (Or.inr (Or.inr ⟨rfl, rfl, rfl⟩))
  refine go_aload_1 (DW8.at 0 rfl) ?_
  refine go_aload_0 (DW8.at 1 rfl) ?_
  refine go_iload_3 (DW8.at 2 rfl) ?_
  refine go_iconst (v := nI 1) (DW8.at 3 rfl) (by decide) ?_
  refine go_iadd (DW8.at 4 rfl) ?_
  rw [nI_add]
  refine go_iaload (DW8.at 5 rfl) hS (vp_in_nI (show i + 1 < (ESc E).1 by omega) (by omega)) ?_
  refine go_cVi1 (DW8.at 6 rfl) nL_45 vX5_work (by omega) (z_work hI.1 (by omega)) hr rfl (Nat.le_of_ble_eq_true rfl) (fun x1 h1 q1 => ?_)
  obtain ⟨e1, q1⟩ := q1
  have m1 := hI.cls q1
  obtain ⟨ii, hs⟩ := m1.obj
  have hS1 : ArrR E h1 (BIGN + 2) (ESc E).1 (ESc E).2 := Or.inr (Or.inr (Or.inr ⟨rfl, rfl, rfl⟩))
  refine go_aload_2 (DW8.at 7 rfl) ?_
  refine go_aload_0 (DW8.at 8 rfl) ?_
  refine go_iload_3 (DW8.at 9 rfl) ?_
  refine go_iconst (v := nI 1) (DW8.at 10 rfl) (by decide) ?_
  refine go_iadd (DW8.at 11 rfl) ?_
  rw [nI_add]
  refine go_iaload (DW8.at 12 rfl) hS1 (vp_in_nI (show i + 1 < (ESc E).1 by omega) (by omega)) ?_
  refine go_cVi1 (DW8.at 13 rfl) nL_48 vX6_work (by omega) (y_work m1 (by omega)) hs rfl (Nat.le_of_ble_eq_true rfl) (fun x2 h2 q2 => ?_)
  obtain ⟨e2, q2⟩ := q2
  refine go_icmp_eq 920 (DW8.at 14 rfl) (by decide) (fun c437 => ?_) (fun c437 => absurd (e1.trans e2.symm) c437)
  exact K _ _ (LI.model q1 m1 q2)
theorem w_scrub {i : Nat} (hI : LI Z h) (hi : i + 5 ≤ (ESc E).1) (hL : (ESc E).1 ≤ 2560) (hd : 11 ≤ d) (K : ∀ h1 Z1, LI Z1 h1 → Go E mL_law d 0 0 920 [some (.ref (BIGN + 2)), some (.ref 0), some (.ref 52), some (.int (nI i))] [] h1 Ψ) : Go E mL_law d 0 0 442 [some (.ref (BIGN + 2)), some (.ref 0), some (.ref 52), some (.int (nI i))] [] h Ψ := by
  obtain ⟨n0, t0, hr⟩ := hI.1.obj
  have hS : ArrR E h (BIGN + 2) (ESc E).1 (ESc E).2 := Or.inr (Or.inr (Or.inr ⟨rfl, rfl, rfl⟩))
  refine go_aload_1 (DW9.at 0 rfl) ?_
  refine go_cVi0 (DW9.at 1 rfl) nL_49 vX5_scrub (by omega) (z_scrub hI.1 (by omega)) hr rfl (Nat.le_of_ble_eq_true rfl) (fun x1 h1 q1 => ?_)
  obtain ⟨e1, q1⟩ := q1
  have m1 := hI.cls q1
  obtain ⟨ii, hs⟩ := m1.obj
  have hS1 : ArrR E h1 (BIGN + 2) (ESc E).1 (ESc E).2 := Or.inr (Or.inr (Or.inr ⟨rfl, rfl, rfl⟩))
  refine go_aload_2 (DW9.at 2 rfl) ?_
  refine go_cVi0 (DW9.at 3 rfl) nL_53 vX6_scrub (by omega) (y_scrub m1 (by omega)) hs rfl (Nat.le_of_ble_eq_true rfl) (fun x2 h2 q2 => ?_)
  obtain ⟨e2, q2⟩ := q2
  refine go_icmp_eq 920 (DW9.at 4 rfl) (by decide) (fun c450 => ?_) (fun c450 => absurd (e1.trans e2.symm) c450)
  exact K _ _ (LI.model q1 m1 q2)
theorem w_type {i : Nat} (hI : LI Z h) (hi : i + 5 ≤ (ESc E).1) (hL : (ESc E).1 ≤ 2560) (hd : 11 ≤ d) (K : ∀ h1 Z1, LI Z1 h1 → Go E mL_law d 0 0 920 [some (.ref (BIGN + 2)), some (.ref 0), some (.ref 52), some (.int (nI i))] [] h1 Ψ) : Go E mL_law d 0 0 455 [some (.ref (BIGN + 2)), some (.ref 0), some (.ref 52), some (.int (nI i))] [] h Ψ := by
  obtain ⟨n0, t0, hr⟩ := hI.1.obj
  have hS : ArrR E h (BIGN + 2) (ESc E).1 (ESc E).2 := Or.inr (Or.inr (Or.inr ⟨rfl, rfl, rfl⟩))
  obtain ⟨v, hv, ev⟩ := char_nI ((ESc E).2 (nI (i + 1)).toNatClampNeg)
  refine go_aload_1 (DW10.at 0 rfl) ?_
  refine go_aload_0 (DW10.at 1 rfl) ?_
  refine go_iload_3 (DW10.at 2 rfl) ?_
  refine go_iconst (v := nI 1) (DW10.at 3 rfl) (by decide) ?_
  refine go_iadd (DW10.at 4 rfl) ?_
  rw [nI_add]
  refine go_iaload (DW10.at 5 rfl) hS (vp_in_nI (show i + 1 < (ESc E).1 by omega) (by omega)) ?_
  refine go_i2c (DW10.at 6 rfl) ?_
  rw [ev]
  refine go_cVi1 (DW10.at 7 rfl) nL_54 vX5_type (by omega) (z_type hv hI.1 (by omega)) hr rfl (Nat.le_of_ble_eq_true rfl) (fun x1 h1 q1 => ?_)
  obtain ⟨e1, q1⟩ := q1
  have m1 := hI.cls q1
  obtain ⟨ii, hs⟩ := m1.obj
  have hS1 : ArrR E h1 (BIGN + 2) (ESc E).1 (ESc E).2 := Or.inr (Or.inr (Or.inr ⟨rfl, rfl, rfl⟩))
  refine go_aload_2 (DW10.at 8 rfl) ?_
  refine go_aload_0 (DW10.at 9 rfl) ?_
  refine go_iload_3 (DW10.at 10 rfl) ?_
  refine go_iconst (v := nI 1) (DW10.at 11 rfl) (by decide) ?_
  refine go_iadd (DW10.at 12 rfl) ?_
  rw [nI_add]
  refine go_iaload (DW10.at 13 rfl) hS1 (vp_in_nI (show i + 1 < (ESc E).1 by omega) (by omega)) ?_
  refine go_i2c (DW10.at 14 rfl) ?_
  rw [ev]
  refine go_cVi1 (DW10.at 15 rfl) nL_58 vX6_type (by omega) (y_type hv m1) hs rfl (Nat.le_of_ble_eq_true rfl) (fun x2 h2 q2 => ?_)
  obtain ⟨e2, q2⟩ := q2
  refine go_icmp_eq 920 (DW10.at 16 rfl) (by decide) (fun c475 => ?_) (fun c475 => absurd (e1.trans e2.symm) c475)
  exact K _ _ (LI.model q1 m1 q2)
theorem w_clearText {i : Nat} (hI : LI Z h) (hi : i + 5 ≤ (ESc E).1) (hL : (ESc E).1 ≤ 2560) (hd : 11 ≤ d) (K : ∀ h1 Z1, LI Z1 h1 → Go E mL_law d 0 0 920 [some (.ref (BIGN + 2)), some (.ref 0), some (.ref 52), some (.int (nI i))] [] h1 Ψ) : Go E mL_law d 0 0 480 [some (.ref (BIGN + 2)), some (.ref 0), some (.ref 52), some (.int (nI i))] [] h Ψ := by
  obtain ⟨n0, t0, hr⟩ := hI.1.obj
  have hS : ArrR E h (BIGN + 2) (ESc E).1 (ESc E).2 := Or.inr (Or.inr (Or.inr ⟨rfl, rfl, rfl⟩))
  refine go_aload_1 (DW11.at 0 rfl) ?_
  refine go_cVi0 (DW11.at 1 rfl) nL_59 vX5_clearText (by omega) (z_clearText hI.1) hr rfl (Nat.le_of_ble_eq_true rfl) (fun x1 h1 q1 => ?_)
  obtain ⟨e1, q1⟩ := q1
  have m1 := hI.cls q1
  obtain ⟨ii, hs⟩ := m1.obj
  have hS1 : ArrR E h1 (BIGN + 2) (ESc E).1 (ESc E).2 := Or.inr (Or.inr (Or.inr ⟨rfl, rfl, rfl⟩))
  refine go_aload_2 (DW11.at 2 rfl) ?_
  refine go_cVi0 (DW11.at 3 rfl) nL_62 vX6_clearText (by omega) (y_clearText m1) hs rfl (Nat.le_of_ble_eq_true rfl) (fun x2 h2 q2 => ?_)
  obtain ⟨e2, q2⟩ := q2
  refine go_icmp_eq 920 (DW11.at 4 rfl) (by decide) (fun c488 => ?_) (fun c488 => absurd (e1.trans e2.symm) c488)
  exact K _ _ (LI.model q1 m1 q2)
theorem w_perform {i : Nat} (hI : LI Z h) (hi : i + 5 ≤ (ESc E).1) (hL : (ESc E).1 ≤ 2560) (hd : 11 ≤ d) (K : ∀ h1 Z1, LI Z1 h1 → Go E mL_law d 0 0 920 [some (.ref (BIGN + 2)), some (.ref 0), some (.ref 52), some (.int (nI i))] [] h1 Ψ) : Go E mL_law d 0 0 493 [some (.ref (BIGN + 2)), some (.ref 0), some (.ref 52), some (.int (nI i))] [] h Ψ := by
  obtain ⟨n0, t0, hr⟩ := hI.1.obj
  have hS : ArrR E h (BIGN + 2) (ESc E).1 (ESc E).2 := Or.inr (Or.inr (Or.inr ⟨rfl, rfl, rfl⟩))
  refine go_aload_1 (DW12.at 0 rfl) ?_
  refine go_cVi0 (DW12.at 1 rfl) nL_63 vX5_perform (by omega) (z_perform hI.1 (by omega)) hr rfl (Nat.le_of_ble_eq_true rfl) (fun x1 h1 q1 => ?_)
  obtain ⟨e1, q1⟩ := q1
  have m1 := hI.cls q1
  obtain ⟨ii, hs⟩ := m1.obj
  have hS1 : ArrR E h1 (BIGN + 2) (ESc E).1 (ESc E).2 := Or.inr (Or.inr (Or.inr ⟨rfl, rfl, rfl⟩))
  refine go_aload_2 (DW12.at 2 rfl) ?_
  refine go_cVi0 (DW12.at 3 rfl) nL_66 vX6_perform (by omega) (y_perform m1 (by omega)) hs rfl (Nat.le_of_ble_eq_true rfl) (fun x2 h2 q2 => ?_)
  obtain ⟨e2, q2⟩ := q2
  refine go_icmp_eq 920 (DW12.at 4 rfl) (by decide) (fun c501 => ?_) (fun c501 => absurd (e1.trans e2.symm) c501)
  exact K _ _ (LI.model q1 m1 q2)
theorem w_undo {i : Nat} (hI : LI Z h) (hi : i + 5 ≤ (ESc E).1) (hL : (ESc E).1 ≤ 2560) (hd : 11 ≤ d) (K : ∀ h1 Z1, LI Z1 h1 → Go E mL_law d 0 0 920 [some (.ref (BIGN + 2)), some (.ref 0), some (.ref 52), some (.int (nI i))] [] h1 Ψ) : Go E mL_law d 0 0 506 [some (.ref (BIGN + 2)), some (.ref 0), some (.ref 52), some (.int (nI i))] [] h Ψ := by
  obtain ⟨n0, t0, hr⟩ := hI.1.obj
  have hS : ArrR E h (BIGN + 2) (ESc E).1 (ESc E).2 := Or.inr (Or.inr (Or.inr ⟨rfl, rfl, rfl⟩))
  refine go_aload_1 (DW13.at 0 rfl) ?_
  refine go_cVi0 (DW13.at 1 rfl) nL_67 vX5_undo (by omega) (z_undo hI.1 (by omega)) hr rfl (Nat.le_of_ble_eq_true rfl) (fun x1 h1 q1 => ?_)
  obtain ⟨e1, q1⟩ := q1
  have m1 := hI.cls q1
  obtain ⟨ii, hs⟩ := m1.obj
  have hS1 : ArrR E h1 (BIGN + 2) (ESc E).1 (ESc E).2 := Or.inr (Or.inr (Or.inr ⟨rfl, rfl, rfl⟩))
  refine go_aload_2 (DW13.at 2 rfl) ?_
  refine go_cVi0 (DW13.at 3 rfl) nL_70 vX6_undo (by omega) (y_undo m1) hs rfl (Nat.le_of_ble_eq_true rfl) (fun x2 h2 q2 => ?_)
  obtain ⟨e2, q2⟩ := q2
  refine go_icmp_eq 920 (DW13.at 4 rfl) (by decide) (fun c514 => ?_) (fun c514 => absurd (e1.trans e2.symm) c514)
  exact K _ _ (LI.model q1 m1 q2)
theorem w_keep {i : Nat} (hI : LI Z h) (hi : i + 5 ≤ (ESc E).1) (hL : (ESc E).1 ≤ 2560) (hd : 11 ≤ d) (K : ∀ h1 Z1, LI Z1 h1 → Go E mL_law d 0 0 920 [some (.ref (BIGN + 2)), some (.ref 0), some (.ref 52), some (.int (nI i))] [] h1 Ψ) : Go E mL_law d 0 0 519 [some (.ref (BIGN + 2)), some (.ref 0), some (.ref 52), some (.int (nI i))] [] h Ψ := by
  obtain ⟨n0, t0, hr⟩ := hI.1.obj
  have hS : ArrR E h (BIGN + 2) (ESc E).1 (ESc E).2 := Or.inr (Or.inr (Or.inr ⟨rfl, rfl, rfl⟩))
  refine go_aload_1 (DW14.at 0 rfl) ?_
  refine go_cVi0 (DW14.at 1 rfl) nL_71 vX5_keep (by omega) (z_keep hI.1 (by omega)) hr rfl (Nat.le_of_ble_eq_true rfl) (fun x1 h1 q1 => ?_)
  obtain ⟨e1, q1⟩ := q1
  have m1 := hI.cls q1
  obtain ⟨ii, hs⟩ := m1.obj
  have hS1 : ArrR E h1 (BIGN + 2) (ESc E).1 (ESc E).2 := Or.inr (Or.inr (Or.inr ⟨rfl, rfl, rfl⟩))
  refine go_aload_2 (DW14.at 2 rfl) ?_
  refine go_cVi0 (DW14.at 3 rfl) nL_74 vX6_keep (by omega) (y_keep m1) hs rfl (Nat.le_of_ble_eq_true rfl) (fun x2 h2 q2 => ?_)
  obtain ⟨e2, q2⟩ := q2
  refine go_icmp_eq 920 (DW14.at 4 rfl) (by decide) (fun c527 => ?_) (fun c527 => absurd (e1.trans e2.symm) c527)
  exact K _ _ (LI.model q1 m1 q2)
theorem w_restore {i : Nat} (hI : LI Z h) (hi : i + 5 ≤ (ESc E).1) (hL : (ESc E).1 ≤ 2560) (hd : 11 ≤ d) (K : ∀ h1 Z1, LI Z1 h1 → Go E mL_law d 0 0 920 [some (.ref (BIGN + 2)), some (.ref 0), some (.ref 52), some (.int (nI i))] [] h1 Ψ) : Go E mL_law d 0 0 532 [some (.ref (BIGN + 2)), some (.ref 0), some (.ref 52), some (.int (nI i))] [] h Ψ := by
  obtain ⟨n0, t0, hr⟩ := hI.1.obj
  have hS : ArrR E h (BIGN + 2) (ESc E).1 (ESc E).2 := Or.inr (Or.inr (Or.inr ⟨rfl, rfl, rfl⟩))
  refine go_aload_1 (DW15.at 0 rfl) ?_
  refine go_cVi0 (DW15.at 1 rfl) nL_75 vX5_restore (by omega) (z_restore hI.1 (by omega)) hr rfl (Nat.le_of_ble_eq_true rfl) (fun x1 h1 q1 => ?_)
  obtain ⟨e1, q1⟩ := q1
  have m1 := hI.cls q1
  obtain ⟨ii, hs⟩ := m1.obj
  have hS1 : ArrR E h1 (BIGN + 2) (ESc E).1 (ESc E).2 := Or.inr (Or.inr (Or.inr ⟨rfl, rfl, rfl⟩))
  refine go_aload_2 (DW15.at 2 rfl) ?_
  refine go_cVi0 (DW15.at 3 rfl) nL_78 vX6_restore (by omega) (y_restore m1 (by omega)) hs rfl (Nat.le_of_ble_eq_true rfl) (fun x2 h2 q2 => ?_)
  obtain ⟨e2, q2⟩ := q2
  refine go_icmp_eq 920 (DW15.at 4 rfl) (by decide) (fun c540 => ?_) (fun c540 => absurd (e1.trans e2.symm) c540)
  exact K _ _ (LI.model q1 m1 q2)
theorem w_value {i : Nat} (hI : LI Z h) (hi : i + 5 ≤ (ESc E).1) (hL : (ESc E).1 ≤ 2560) (hd : 11 ≤ d) (K : ∀ h1 Z1, LI Z1 h1 → Go E mL_law d 0 0 920 [some (.ref (BIGN + 2)), some (.ref 0), some (.ref 52), some (.int (nI i))] [] h1 Ψ) : Go E mL_law d 0 0 545 [some (.ref (BIGN + 2)), some (.ref 0), some (.ref 52), some (.int (nI i))] [] h Ψ := by
  obtain ⟨n0, t0, hr⟩ := hI.1.obj
  have hS : ArrR E h (BIGN + 2) (ESc E).1 (ESc E).2 := Or.inr (Or.inr (Or.inr ⟨rfl, rfl, rfl⟩))
  refine go_aload_1 (DW16.at 0 rfl) ?_
  refine go_aload_0 (DW16.at 1 rfl) ?_
  refine go_iload_3 (DW16.at 2 rfl) ?_
  refine go_iconst (v := nI 1) (DW16.at 3 rfl) (by decide) ?_
  refine go_iadd (DW16.at 4 rfl) ?_
  rw [nI_add]
  refine go_iaload (DW16.at 5 rfl) hS (vp_in_nI (show i + 1 < (ESc E).1 by omega) (by omega)) ?_
  refine go_aload_0 (DW16.at 6 rfl) ?_
  refine go_iload_3 (DW16.at 7 rfl) ?_
  refine go_iconst (v := nI 2) (DW16.at 8 rfl) (by decide) ?_
  refine go_iadd (DW16.at 9 rfl) ?_
  rw [nI_add]
  refine go_iaload (DW16.at 10 rfl) hS (vp_in_nI (show i + 2 < (ESc E).1 by omega) (by omega)) ?_
  refine go_cVi2 (DW16.at 11 rfl) nL_79 vX5_value (by omega) (z_value hI.1 (by omega)) hr rfl (Nat.le_of_ble_eq_true rfl) (fun x1 h1 q1 => ?_)
  obtain ⟨e1, q1⟩ := q1
  have m1 := hI.cls q1
  obtain ⟨ii, hs⟩ := m1.obj
  have hS1 : ArrR E h1 (BIGN + 2) (ESc E).1 (ESc E).2 := Or.inr (Or.inr (Or.inr ⟨rfl, rfl, rfl⟩))
  refine go_aload_2 (DW16.at 12 rfl) ?_
  refine go_aload_0 (DW16.at 13 rfl) ?_
  refine go_iload_3 (DW16.at 14 rfl) ?_
  refine go_iconst (v := nI 1) (DW16.at 15 rfl) (by decide) ?_
  refine go_iadd (DW16.at 16 rfl) ?_
  rw [nI_add]
  refine go_iaload (DW16.at 17 rfl) hS1 (vp_in_nI (show i + 1 < (ESc E).1 by omega) (by omega)) ?_
  refine go_aload_0 (DW16.at 18 rfl) ?_
  refine go_iload_3 (DW16.at 19 rfl) ?_
  refine go_iconst (v := nI 2) (DW16.at 20 rfl) (by decide) ?_
  refine go_iadd (DW16.at 21 rfl) ?_
  rw [nI_add]
  refine go_iaload (DW16.at 22 rfl) hS1 (vp_in_nI (show i + 2 < (ESc E).1 by omega) (by omega)) ?_
  refine go_cVi2 (DW16.at 23 rfl) nL_82 vX6_value (by omega) (y_value m1 (by omega)) hs rfl (Nat.le_of_ble_eq_true rfl) (fun x2 h2 q2 => ?_)
  obtain ⟨e2, q2⟩ := q2
  refine go_icmp_eq 920 (DW16.at 24 rfl) (by decide) (fun c573 => ?_) (fun c573 => absurd (e1.trans e2.symm) c573)
  exact K _ _ (LI.model q1 m1 q2)
theorem w_node {i : Nat} (hI : LI Z h) (hi : i + 5 ≤ (ESc E).1) (hL : (ESc E).1 ≤ 2560) (hd : 11 ≤ d) (K : ∀ h1 Z1, LI Z1 h1 → Go E mL_law d 0 0 920 [some (.ref (BIGN + 2)), some (.ref 0), some (.ref 52), some (.int (nI i))] [] h1 Ψ) : Go E mL_law d 0 0 578 [some (.ref (BIGN + 2)), some (.ref 0), some (.ref 52), some (.int (nI i))] [] h Ψ := by
  obtain ⟨n0, t0, hr⟩ := hI.1.obj
  have hS : ArrR E h (BIGN + 2) (ESc E).1 (ESc E).2 := Or.inr (Or.inr (Or.inr ⟨rfl, rfl, rfl⟩))
  refine go_aload_1 (DW17.at 0 rfl) ?_
  refine go_aload_0 (DW17.at 1 rfl) ?_
  refine go_iload_3 (DW17.at 2 rfl) ?_
  refine go_iconst (v := nI 1) (DW17.at 3 rfl) (by decide) ?_
  refine go_iadd (DW17.at 4 rfl) ?_
  rw [nI_add]
  refine go_iaload (DW17.at 5 rfl) hS (vp_in_nI (show i + 1 < (ESc E).1 by omega) (by omega)) ?_
  refine go_aload_0 (DW17.at 6 rfl) ?_
  refine go_iload_3 (DW17.at 7 rfl) ?_
  refine go_iconst (v := nI 2) (DW17.at 8 rfl) (by decide) ?_
  refine go_iadd (DW17.at 9 rfl) ?_
  rw [nI_add]
  refine go_iaload (DW17.at 10 rfl) hS (vp_in_nI (show i + 2 < (ESc E).1 by omega) (by omega)) ?_
  refine go_cVi2 (DW17.at 11 rfl) nL_83 vX5_node (by omega) (z_node hI.1 (by omega)) hr rfl (Nat.le_of_ble_eq_true rfl) (fun x1 h1 q1 => ?_)
  obtain ⟨e1, q1⟩ := q1
  have m1 := hI.cls q1
  obtain ⟨ii, hs⟩ := m1.obj
  have hS1 : ArrR E h1 (BIGN + 2) (ESc E).1 (ESc E).2 := Or.inr (Or.inr (Or.inr ⟨rfl, rfl, rfl⟩))
  refine go_aload_2 (DW17.at 12 rfl) ?_
  refine go_aload_0 (DW17.at 13 rfl) ?_
  refine go_iload_3 (DW17.at 14 rfl) ?_
  refine go_iconst (v := nI 1) (DW17.at 15 rfl) (by decide) ?_
  refine go_iadd (DW17.at 16 rfl) ?_
  rw [nI_add]
  refine go_iaload (DW17.at 17 rfl) hS1 (vp_in_nI (show i + 1 < (ESc E).1 by omega) (by omega)) ?_
  refine go_aload_0 (DW17.at 18 rfl) ?_
  refine go_iload_3 (DW17.at 19 rfl) ?_
  refine go_iconst (v := nI 2) (DW17.at 20 rfl) (by decide) ?_
  refine go_iadd (DW17.at 21 rfl) ?_
  rw [nI_add]
  refine go_iaload (DW17.at 22 rfl) hS1 (vp_in_nI (show i + 2 < (ESc E).1 by omega) (by omega)) ?_
  refine go_cVi2 (DW17.at 23 rfl) nL_86 vX6_node (by omega) (y_node m1 (by omega)) hs rfl (Nat.le_of_ble_eq_true rfl) (fun x2 h2 q2 => ?_)
  obtain ⟨e2, q2⟩ := q2
  refine go_icmp_eq 920 (DW17.at 24 rfl) (by decide) (fun c606 => ?_) (fun c606 => absurd (e1.trans e2.symm) c606)
  exact K _ _ (LI.model q1 m1 q2)
theorem w_load {i : Nat} (hI : LI Z h) (hi : i + 5 ≤ (ESc E).1) (hL : (ESc E).1 ≤ 2560) (hd : 11 ≤ d) (K : ∀ h1 Z1, LI Z1 h1 → Go E mL_law d 0 0 920 [some (.ref (BIGN + 2)), some (.ref 0), some (.ref 52), some (.int (nI i))] [] h1 Ψ) : Go E mL_law d 0 0 611 [some (.ref (BIGN + 2)), some (.ref 0), some (.ref 52), some (.int (nI i))] [] h Ψ := by
  obtain ⟨n0, t0, hr⟩ := hI.1.obj
  have hS : ArrR E h (BIGN + 2) (ESc E).1 (ESc E).2 := Or.inr (Or.inr (Or.inr ⟨rfl, rfl, rfl⟩))
  refine go_aload_1 (DW18.at 0 rfl) ?_
  refine go_aload_0 (DW18.at 1 rfl) ?_
  refine go_iload_3 (DW18.at 2 rfl) ?_
  refine go_iconst (v := nI 1) (DW18.at 3 rfl) (by decide) ?_
  refine go_iadd (DW18.at 4 rfl) ?_
  rw [nI_add]
  refine go_iaload (DW18.at 5 rfl) hS (vp_in_nI (show i + 1 < (ESc E).1 by omega) (by omega)) ?_
  refine go_cVi1 (DW18.at 6 rfl) nL_87 vX5_load (by omega) (z_load hI.1 (by omega)) hr rfl (Nat.le_of_ble_eq_true rfl) (fun x1 h1 q1 => ?_)
  obtain ⟨e1, q1⟩ := q1
  have m1 := hI.cls q1
  obtain ⟨ii, hs⟩ := m1.obj
  have hS1 : ArrR E h1 (BIGN + 2) (ESc E).1 (ESc E).2 := Or.inr (Or.inr (Or.inr ⟨rfl, rfl, rfl⟩))
  refine go_aload_2 (DW18.at 7 rfl) ?_
  refine go_aload_0 (DW18.at 8 rfl) ?_
  refine go_iload_3 (DW18.at 9 rfl) ?_
  refine go_iconst (v := nI 1) (DW18.at 10 rfl) (by decide) ?_
  refine go_iadd (DW18.at 11 rfl) ?_
  rw [nI_add]
  refine go_iaload (DW18.at 12 rfl) hS1 (vp_in_nI (show i + 1 < (ESc E).1 by omega) (by omega)) ?_
  refine go_cVi1 (DW18.at 13 rfl) nL_90 vX6_load (by omega) (y_load m1 (by omega)) hs rfl (Nat.le_of_ble_eq_true rfl) (fun x2 h2 q2 => ?_)
  obtain ⟨e2, q2⟩ := q2
  refine go_icmp_eq 920 (DW18.at 14 rfl) (by decide) (fun c629 => ?_) (fun c629 => absurd (e1.trans e2.symm) c629)
  exact K _ _ (LI.model q1 m1 q2)
theorem w_lost {i : Nat} (hI : LI Z h) (hi : i + 5 ≤ (ESc E).1) (hL : (ESc E).1 ≤ 2560) (hd : 11 ≤ d) (K : ∀ h1 Z1, LI Z1 h1 → Go E mL_law d 0 0 920 [some (.ref (BIGN + 2)), some (.ref 0), some (.ref 52), some (.int (nI i))] [] h1 Ψ) : Go E mL_law d 0 0 634 [some (.ref (BIGN + 2)), some (.ref 0), some (.ref 52), some (.int (nI i))] [] h Ψ := by
  obtain ⟨n0, t0, hr⟩ := hI.1.obj
  have hS : ArrR E h (BIGN + 2) (ESc E).1 (ESc E).2 := Or.inr (Or.inr (Or.inr ⟨rfl, rfl, rfl⟩))
  refine go_aload_1 (DW19.at 0 rfl) ?_
  refine go_aload_0 (DW19.at 1 rfl) ?_
  refine go_iload_3 (DW19.at 2 rfl) ?_
  refine go_iconst (v := nI 1) (DW19.at 3 rfl) (by decide) ?_
  refine go_iadd (DW19.at 4 rfl) ?_
  rw [nI_add]
  refine go_iaload (DW19.at 5 rfl) hS (vp_in_nI (show i + 1 < (ESc E).1 by omega) (by omega)) ?_
  refine go_cVi1 (DW19.at 6 rfl) nL_91 vX5_lost (by omega) (z_lost hI.1 (by omega)) hr rfl (Nat.le_of_ble_eq_true rfl) (fun x1 h1 q1 => ?_)
  obtain ⟨e1, q1⟩ := q1
  have m1 := hI.cls q1
  obtain ⟨ii, hs⟩ := m1.obj
  have hS1 : ArrR E h1 (BIGN + 2) (ESc E).1 (ESc E).2 := Or.inr (Or.inr (Or.inr ⟨rfl, rfl, rfl⟩))
  refine go_aload_2 (DW19.at 7 rfl) ?_
  refine go_aload_0 (DW19.at 8 rfl) ?_
  refine go_iload_3 (DW19.at 9 rfl) ?_
  refine go_iconst (v := nI 1) (DW19.at 10 rfl) (by decide) ?_
  refine go_iadd (DW19.at 11 rfl) ?_
  rw [nI_add]
  refine go_iaload (DW19.at 12 rfl) hS1 (vp_in_nI (show i + 1 < (ESc E).1 by omega) (by omega)) ?_
  refine go_cVi1 (DW19.at 13 rfl) nL_94 vX6_lost (by omega) (y_lost m1 (by omega)) hs rfl (Nat.le_of_ble_eq_true rfl) (fun x2 h2 q2 => ?_)
  obtain ⟨e2, q2⟩ := q2
  refine go_icmp_eq 920 (DW19.at 14 rfl) (by decide) (fun c652 => ?_) (fun c652 => absurd (e1.trans e2.symm) c652)
  exact K _ _ (LI.model q1 m1 q2)
theorem w_waiting {i : Nat} (hI : LI Z h) (hi : i + 5 ≤ (ESc E).1) (hL : (ESc E).1 ≤ 2560) (hd : 11 ≤ d) (K : ∀ h1 Z1, LI Z1 h1 → Go E mL_law d 0 0 920 [some (.ref (BIGN + 2)), some (.ref 0), some (.ref 52), some (.int (nI i))] [] h1 Ψ) : Go E mL_law d 0 0 657 [some (.ref (BIGN + 2)), some (.ref 0), some (.ref 52), some (.int (nI i))] [] h Ψ := by
  obtain ⟨n0, t0, hr⟩ := hI.1.obj
  have hS : ArrR E h (BIGN + 2) (ESc E).1 (ESc E).2 := Or.inr (Or.inr (Or.inr ⟨rfl, rfl, rfl⟩))
  refine go_aload_1 (DW20.at 0 rfl) ?_
  refine go_aload_0 (DW20.at 1 rfl) ?_
  refine go_iload_3 (DW20.at 2 rfl) ?_
  refine go_iconst (v := nI 1) (DW20.at 3 rfl) (by decide) ?_
  refine go_iadd (DW20.at 4 rfl) ?_
  rw [nI_add]
  refine go_iaload (DW20.at 5 rfl) hS (vp_in_nI (show i + 1 < (ESc E).1 by omega) (by omega)) ?_
  refine go_cVi1 (DW20.at 6 rfl) nL_95 vX5_waiting (by omega) (z_waiting hI.1 (by omega)) hr rfl (Nat.le_of_ble_eq_true rfl) (fun x1 h1 q1 => ?_)
  obtain ⟨e1, q1⟩ := q1
  have m1 := hI.cls q1
  obtain ⟨ii, hs⟩ := m1.obj
  have hS1 : ArrR E h1 (BIGN + 2) (ESc E).1 (ESc E).2 := Or.inr (Or.inr (Or.inr ⟨rfl, rfl, rfl⟩))
  refine go_aload_2 (DW20.at 7 rfl) ?_
  refine go_aload_0 (DW20.at 8 rfl) ?_
  refine go_iload_3 (DW20.at 9 rfl) ?_
  refine go_iconst (v := nI 1) (DW20.at 10 rfl) (by decide) ?_
  refine go_iadd (DW20.at 11 rfl) ?_
  rw [nI_add]
  refine go_iaload (DW20.at 12 rfl) hS1 (vp_in_nI (show i + 1 < (ESc E).1 by omega) (by omega)) ?_
  refine go_cVi1 (DW20.at 13 rfl) nL_98 vX6_waiting (by omega) (y_waiting m1 (by omega)) hs rfl (Nat.le_of_ble_eq_true rfl) (fun x2 h2 q2 => ?_)
  obtain ⟨e2, q2⟩ := q2
  refine go_icmp_eq 920 (DW20.at 14 rfl) (by decide) (fun c675 => ?_) (fun c675 => absurd (e1.trans e2.symm) c675)
  exact K _ _ (LI.model q1 m1 q2)
theorem w_failing {i : Nat} (hI : LI Z h) (hi : i + 5 ≤ (ESc E).1) (hL : (ESc E).1 ≤ 2560) (hd : 11 ≤ d) (K : ∀ h1 Z1, LI Z1 h1 → Go E mL_law d 0 0 920 [some (.ref (BIGN + 2)), some (.ref 0), some (.ref 52), some (.int (nI i))] [] h1 Ψ) : Go E mL_law d 0 0 680 [some (.ref (BIGN + 2)), some (.ref 0), some (.ref 52), some (.int (nI i))] [] h Ψ := by
  obtain ⟨n0, t0, hr⟩ := hI.1.obj
  have hS : ArrR E h (BIGN + 2) (ESc E).1 (ESc E).2 := Or.inr (Or.inr (Or.inr ⟨rfl, rfl, rfl⟩))
  refine go_aload_1 (DW21.at 0 rfl) ?_
  refine go_aload_0 (DW21.at 1 rfl) ?_
  refine go_iload_3 (DW21.at 2 rfl) ?_
  refine go_iconst (v := nI 1) (DW21.at 3 rfl) (by decide) ?_
  refine go_iadd (DW21.at 4 rfl) ?_
  rw [nI_add]
  refine go_iaload (DW21.at 5 rfl) hS (vp_in_nI (show i + 1 < (ESc E).1 by omega) (by omega)) ?_
  refine go_cVi1 (DW21.at 6 rfl) nL_99 vX5_failing (by omega) (z_failing hI.1 (by omega)) hr rfl (Nat.le_of_ble_eq_true rfl) (fun x1 h1 q1 => ?_)
  obtain ⟨e1, q1⟩ := q1
  have m1 := hI.cls q1
  obtain ⟨ii, hs⟩ := m1.obj
  have hS1 : ArrR E h1 (BIGN + 2) (ESc E).1 (ESc E).2 := Or.inr (Or.inr (Or.inr ⟨rfl, rfl, rfl⟩))
  refine go_aload_2 (DW21.at 7 rfl) ?_
  refine go_aload_0 (DW21.at 8 rfl) ?_
  refine go_iload_3 (DW21.at 9 rfl) ?_
  refine go_iconst (v := nI 1) (DW21.at 10 rfl) (by decide) ?_
  refine go_iadd (DW21.at 11 rfl) ?_
  rw [nI_add]
  refine go_iaload (DW21.at 12 rfl) hS1 (vp_in_nI (show i + 1 < (ESc E).1 by omega) (by omega)) ?_
  refine go_cVi1 (DW21.at 13 rfl) nL_102 vX6_failing (by omega) (y_failing m1 (by omega)) hs rfl (Nat.le_of_ble_eq_true rfl) (fun x2 h2 q2 => ?_)
  obtain ⟨e2, q2⟩ := q2
  refine go_icmp_eq 920 (DW21.at 14 rfl) (by decide) (fun c698 => ?_) (fun c698 => absurd (e1.trans e2.symm) c698)
  exact K _ _ (LI.model q1 m1 q2)
theorem w_total {i : Nat} (hI : LI Z h) (hi : i + 5 ≤ (ESc E).1) (hL : (ESc E).1 ≤ 2560) (hd : 11 ≤ d) (K : ∀ h1 Z1, LI Z1 h1 → Go E mL_law d 0 0 920 [some (.ref (BIGN + 2)), some (.ref 0), some (.ref 52), some (.int (nI i))] [] h1 Ψ) : Go E mL_law d 0 0 703 [some (.ref (BIGN + 2)), some (.ref 0), some (.ref 52), some (.int (nI i))] [] h Ψ := by
  obtain ⟨n0, t0, hr⟩ := hI.1.obj
  have hS : ArrR E h (BIGN + 2) (ESc E).1 (ESc E).2 := Or.inr (Or.inr (Or.inr ⟨rfl, rfl, rfl⟩))
  refine go_aload_1 (DW22.at 0 rfl) ?_
  refine go_aload_0 (DW22.at 1 rfl) ?_
  refine go_iload_3 (DW22.at 2 rfl) ?_
  refine go_iconst (v := nI 1) (DW22.at 3 rfl) (by decide) ?_
  refine go_iadd (DW22.at 4 rfl) ?_
  rw [nI_add]
  refine go_iaload (DW22.at 5 rfl) hS (vp_in_nI (show i + 1 < (ESc E).1 by omega) (by omega)) ?_
  refine go_cVi1 (DW22.at 6 rfl) nL_103 vX5_total (by omega) (z_total hI.1 (by omega)) hr rfl (Nat.le_of_ble_eq_true rfl) (fun x1 h1 q1 => ?_)
  obtain ⟨e1, q1⟩ := q1
  have m1 := hI.cls q1
  obtain ⟨ii, hs⟩ := m1.obj
  have hS1 : ArrR E h1 (BIGN + 2) (ESc E).1 (ESc E).2 := Or.inr (Or.inr (Or.inr ⟨rfl, rfl, rfl⟩))
  refine go_aload_2 (DW22.at 7 rfl) ?_
  refine go_aload_0 (DW22.at 8 rfl) ?_
  refine go_iload_3 (DW22.at 9 rfl) ?_
  refine go_iconst (v := nI 1) (DW22.at 10 rfl) (by decide) ?_
  refine go_iadd (DW22.at 11 rfl) ?_
  rw [nI_add]
  refine go_iaload (DW22.at 12 rfl) hS1 (vp_in_nI (show i + 1 < (ESc E).1 by omega) (by omega)) ?_
  refine go_cVi1 (DW22.at 13 rfl) nL_106 vX6_total (by omega) (y_total m1 (by omega)) hs rfl (Nat.le_of_ble_eq_true rfl) (fun x2 h2 q2 => ?_)
  obtain ⟨e2, q2⟩ := q2
  refine go_icmp_eq 920 (DW22.at 14 rfl) (by decide) (fun c721 => ?_) (fun c721 => absurd (e1.trans e2.symm) c721)
  exact K _ _ (LI.model q1 m1 q2)
theorem w_way {i : Nat} (hI : LI Z h) (hi : i + 5 ≤ (ESc E).1) (hL : (ESc E).1 ≤ 2560) (hd : 11 ≤ d) (K : ∀ h1 Z1, LI Z1 h1 → Go E mL_law d 0 0 920 [some (.ref (BIGN + 2)), some (.ref 0), some (.ref 52), some (.int (nI i))] [] h1 Ψ) : Go E mL_law d 0 0 726 [some (.ref (BIGN + 2)), some (.ref 0), some (.ref 52), some (.int (nI i))] [] h Ψ := by
  obtain ⟨n0, t0, hr⟩ := hI.1.obj
  have hS : ArrR E h (BIGN + 2) (ESc E).1 (ESc E).2 := Or.inr (Or.inr (Or.inr ⟨rfl, rfl, rfl⟩))
  refine go_aload_1 (DW23.at 0 rfl) ?_
  refine go_aload_0 (DW23.at 1 rfl) ?_
  refine go_iload_3 (DW23.at 2 rfl) ?_
  refine go_iconst (v := nI 1) (DW23.at 3 rfl) (by decide) ?_
  refine go_iadd (DW23.at 4 rfl) ?_
  rw [nI_add]
  refine go_iaload (DW23.at 5 rfl) hS (vp_in_nI (show i + 1 < (ESc E).1 by omega) (by omega)) ?_
  refine go_aload_0 (DW23.at 6 rfl) ?_
  refine go_iload_3 (DW23.at 7 rfl) ?_
  refine go_iconst (v := nI 2) (DW23.at 8 rfl) (by decide) ?_
  refine go_iadd (DW23.at 9 rfl) ?_
  rw [nI_add]
  refine go_iaload (DW23.at 10 rfl) hS (vp_in_nI (show i + 2 < (ESc E).1 by omega) (by omega)) ?_
  refine go_cVi2 (DW23.at 11 rfl) nL_107 vX5_way (by omega) (z_way hI.1 (by omega)) hr rfl (Nat.le_of_ble_eq_true rfl) (fun x1 h1 q1 => ?_)
  obtain ⟨e1, q1⟩ := q1
  have m1 := hI.cls q1
  obtain ⟨ii, hs⟩ := m1.obj
  have hS1 : ArrR E h1 (BIGN + 2) (ESc E).1 (ESc E).2 := Or.inr (Or.inr (Or.inr ⟨rfl, rfl, rfl⟩))
  refine go_aload_2 (DW23.at 12 rfl) ?_
  refine go_aload_0 (DW23.at 13 rfl) ?_
  refine go_iload_3 (DW23.at 14 rfl) ?_
  refine go_iconst (v := nI 1) (DW23.at 15 rfl) (by decide) ?_
  refine go_iadd (DW23.at 16 rfl) ?_
  rw [nI_add]
  refine go_iaload (DW23.at 17 rfl) hS1 (vp_in_nI (show i + 1 < (ESc E).1 by omega) (by omega)) ?_
  refine go_aload_0 (DW23.at 18 rfl) ?_
  refine go_iload_3 (DW23.at 19 rfl) ?_
  refine go_iconst (v := nI 2) (DW23.at 20 rfl) (by decide) ?_
  refine go_iadd (DW23.at 21 rfl) ?_
  rw [nI_add]
  refine go_iaload (DW23.at 22 rfl) hS1 (vp_in_nI (show i + 2 < (ESc E).1 by omega) (by omega)) ?_
  refine go_cVi2 (DW23.at 23 rfl) nL_110 vX6_way (by omega) (y_way m1 (by omega)) hs rfl (Nat.le_of_ble_eq_true rfl) (fun x2 h2 q2 => ?_)
  obtain ⟨e2, q2⟩ := q2
  refine go_icmp_eq 920 (DW23.at 24 rfl) (by decide) (fun c754 => ?_) (fun c754 => absurd (e1.trans e2.symm) c754)
  exact K _ _ (LI.model q1 m1 q2)
theorem w_reads {i : Nat} (hI : LI Z h) (hi : i + 5 ≤ (ESc E).1) (hL : (ESc E).1 ≤ 2560) (hd : 11 ≤ d) (K : ∀ h1 Z1, LI Z1 h1 → Go E mL_law d 0 0 920 [some (.ref (BIGN + 2)), some (.ref 0), some (.ref 52), some (.int (nI i))] [] h1 Ψ) : Go E mL_law d 0 0 759 [some (.ref (BIGN + 2)), some (.ref 0), some (.ref 52), some (.int (nI i))] [] h Ψ := by
  obtain ⟨n0, t0, hr⟩ := hI.1.obj
  have hS : ArrR E h (BIGN + 2) (ESc E).1 (ESc E).2 := Or.inr (Or.inr (Or.inr ⟨rfl, rfl, rfl⟩))
  refine go_aload_1 (DW24.at 0 rfl) ?_
  refine go_aload_0 (DW24.at 1 rfl) ?_
  refine go_iload_3 (DW24.at 2 rfl) ?_
  refine go_iconst (v := nI 1) (DW24.at 3 rfl) (by decide) ?_
  refine go_iadd (DW24.at 4 rfl) ?_
  rw [nI_add]
  refine go_iaload (DW24.at 5 rfl) hS (vp_in_nI (show i + 1 < (ESc E).1 by omega) (by omega)) ?_
  refine go_aload_0 (DW24.at 6 rfl) ?_
  refine go_iload_3 (DW24.at 7 rfl) ?_
  refine go_iconst (v := nI 2) (DW24.at 8 rfl) (by decide) ?_
  refine go_iadd (DW24.at 9 rfl) ?_
  rw [nI_add]
  refine go_iaload (DW24.at 10 rfl) hS (vp_in_nI (show i + 2 < (ESc E).1 by omega) (by omega)) ?_
  refine go_cVi2 (DW24.at 11 rfl) nL_111 vX5_reads (by omega) (z_reads hI.1 (by omega)) hr rfl (Nat.le_of_ble_eq_true rfl) (fun x1 h1 q1 => ?_)
  obtain ⟨e1, q1⟩ := q1
  have m1 := hI.cls q1
  obtain ⟨ii, hs⟩ := m1.obj
  have hS1 : ArrR E h1 (BIGN + 2) (ESc E).1 (ESc E).2 := Or.inr (Or.inr (Or.inr ⟨rfl, rfl, rfl⟩))
  refine go_aload_2 (DW24.at 12 rfl) ?_
  refine go_aload_0 (DW24.at 13 rfl) ?_
  refine go_iload_3 (DW24.at 14 rfl) ?_
  refine go_iconst (v := nI 1) (DW24.at 15 rfl) (by decide) ?_
  refine go_iadd (DW24.at 16 rfl) ?_
  rw [nI_add]
  refine go_iaload (DW24.at 17 rfl) hS1 (vp_in_nI (show i + 1 < (ESc E).1 by omega) (by omega)) ?_
  refine go_aload_0 (DW24.at 18 rfl) ?_
  refine go_iload_3 (DW24.at 19 rfl) ?_
  refine go_iconst (v := nI 2) (DW24.at 20 rfl) (by decide) ?_
  refine go_iadd (DW24.at 21 rfl) ?_
  rw [nI_add]
  refine go_iaload (DW24.at 22 rfl) hS1 (vp_in_nI (show i + 2 < (ESc E).1 by omega) (by omega)) ?_
  refine go_cVi2 (DW24.at 23 rfl) nL_114 vX6_reads (by omega) (y_reads m1 (by omega)) hs rfl (Nat.le_of_ble_eq_true rfl) (fun x2 h2 q2 => ?_)
  obtain ⟨e2, q2⟩ := q2
  refine go_icmp_eq 920 (DW24.at 24 rfl) (by decide) (fun c787 => ?_) (fun c787 => absurd (e1.trans e2.symm) c787)
  exact K _ _ (LI.model q1 m1 q2)
theorem w_mended {i : Nat} (hI : LI Z h) (hi : i + 5 ≤ (ESc E).1) (hL : (ESc E).1 ≤ 2560) (hd : 11 ≤ d) (K : ∀ h1 Z1, LI Z1 h1 → Go E mL_law d 0 0 920 [some (.ref (BIGN + 2)), some (.ref 0), some (.ref 52), some (.int (nI i))] [] h1 Ψ) : Go E mL_law d 0 0 792 [some (.ref (BIGN + 2)), some (.ref 0), some (.ref 52), some (.int (nI i))] [] h Ψ := by
  obtain ⟨n0, t0, hr⟩ := hI.1.obj
  have hS : ArrR E h (BIGN + 2) (ESc E).1 (ESc E).2 := Or.inr (Or.inr (Or.inr ⟨rfl, rfl, rfl⟩))
  refine go_aload_1 (DW25.at 0 rfl) ?_
  refine go_aload_0 (DW25.at 1 rfl) ?_
  refine go_iload_3 (DW25.at 2 rfl) ?_
  refine go_iconst (v := nI 1) (DW25.at 3 rfl) (by decide) ?_
  refine go_iadd (DW25.at 4 rfl) ?_
  rw [nI_add]
  refine go_iaload (DW25.at 5 rfl) hS (vp_in_nI (show i + 1 < (ESc E).1 by omega) (by omega)) ?_
  refine go_aload_0 (DW25.at 6 rfl) ?_
  refine go_iload_3 (DW25.at 7 rfl) ?_
  refine go_iconst (v := nI 2) (DW25.at 8 rfl) (by decide) ?_
  refine go_iadd (DW25.at 9 rfl) ?_
  rw [nI_add]
  refine go_iaload (DW25.at 10 rfl) hS (vp_in_nI (show i + 2 < (ESc E).1 by omega) (by omega)) ?_
  refine go_cVi2 (DW25.at 11 rfl) nL_115 vX5_mended (by omega) (z_mended hI.1 (by omega)) hr rfl (Nat.le_of_ble_eq_true rfl) (fun x1 h1 q1 => ?_)
  obtain ⟨e1, q1⟩ := q1
  have m1 := hI.cls q1
  obtain ⟨ii, hs⟩ := m1.obj
  have hS1 : ArrR E h1 (BIGN + 2) (ESc E).1 (ESc E).2 := Or.inr (Or.inr (Or.inr ⟨rfl, rfl, rfl⟩))
  refine go_aload_2 (DW25.at 12 rfl) ?_
  refine go_aload_0 (DW25.at 13 rfl) ?_
  refine go_iload_3 (DW25.at 14 rfl) ?_
  refine go_iconst (v := nI 1) (DW25.at 15 rfl) (by decide) ?_
  refine go_iadd (DW25.at 16 rfl) ?_
  rw [nI_add]
  refine go_iaload (DW25.at 17 rfl) hS1 (vp_in_nI (show i + 1 < (ESc E).1 by omega) (by omega)) ?_
  refine go_aload_0 (DW25.at 18 rfl) ?_
  refine go_iload_3 (DW25.at 19 rfl) ?_
  refine go_iconst (v := nI 2) (DW25.at 20 rfl) (by decide) ?_
  refine go_iadd (DW25.at 21 rfl) ?_
  rw [nI_add]
  refine go_iaload (DW25.at 22 rfl) hS1 (vp_in_nI (show i + 2 < (ESc E).1 by omega) (by omega)) ?_
  refine go_cVi2 (DW25.at 23 rfl) nL_118 vX6_mended (by omega) (y_mended m1 (by omega)) hs rfl (Nat.le_of_ble_eq_true rfl) (fun x2 h2 q2 => ?_)
  obtain ⟨e2, q2⟩ := q2
  refine go_icmp_eq 920 (DW25.at 24 rfl) (by decide) (fun c820 => ?_) (fun c820 => absurd (e1.trans e2.symm) c820)
  exact K _ _ (LI.model q1 m1 q2)
theorem w_culprit {i : Nat} (hI : LI Z h) (hi : i + 5 ≤ (ESc E).1) (hL : (ESc E).1 ≤ 2560) (hd : 11 ≤ d) (K : ∀ h1 Z1, LI Z1 h1 → Go E mL_law d 0 0 920 [some (.ref (BIGN + 2)), some (.ref 0), some (.ref 52), some (.int (nI i))] [] h1 Ψ) : Go E mL_law d 0 0 825 [some (.ref (BIGN + 2)), some (.ref 0), some (.ref 52), some (.int (nI i))] [] h Ψ := by
  obtain ⟨n0, t0, hr⟩ := hI.1.obj
  have hS : ArrR E h (BIGN + 2) (ESc E).1 (ESc E).2 := Or.inr (Or.inr (Or.inr ⟨rfl, rfl, rfl⟩))
  refine go_aload_1 (DW26.at 0 rfl) ?_
  refine go_aload_0 (DW26.at 1 rfl) ?_
  refine go_iload_3 (DW26.at 2 rfl) ?_
  refine go_iconst (v := nI 1) (DW26.at 3 rfl) (by decide) ?_
  refine go_iadd (DW26.at 4 rfl) ?_
  rw [nI_add]
  refine go_iaload (DW26.at 5 rfl) hS (vp_in_nI (show i + 1 < (ESc E).1 by omega) (by omega)) ?_
  refine go_cVi1 (DW26.at 6 rfl) nL_119 vX5_culprit (by omega) (z_culprit hI.1 (by omega)) hr rfl (Nat.le_of_ble_eq_true rfl) (fun x1 h1 q1 => ?_)
  obtain ⟨e1, q1⟩ := q1
  have m1 := hI.cls q1
  obtain ⟨ii, hs⟩ := m1.obj
  have hS1 : ArrR E h1 (BIGN + 2) (ESc E).1 (ESc E).2 := Or.inr (Or.inr (Or.inr ⟨rfl, rfl, rfl⟩))
  refine go_aload_2 (DW26.at 7 rfl) ?_
  refine go_aload_0 (DW26.at 8 rfl) ?_
  refine go_iload_3 (DW26.at 9 rfl) ?_
  refine go_iconst (v := nI 1) (DW26.at 10 rfl) (by decide) ?_
  refine go_iadd (DW26.at 11 rfl) ?_
  rw [nI_add]
  refine go_iaload (DW26.at 12 rfl) hS1 (vp_in_nI (show i + 1 < (ESc E).1 by omega) (by omega)) ?_
  refine go_cVi1 (DW26.at 13 rfl) nL_122 vX6_culprit (by omega) (y_culprit m1 (by omega)) hs rfl (Nat.le_of_ble_eq_true rfl) (fun x2 h2 q2 => ?_)
  obtain ⟨e2, q2⟩ := q2
  refine go_icmp_eq 920 (DW26.at 14 rfl) (by decide) (fun c843 => ?_) (fun c843 => absurd (e1.trans e2.symm) c843)
  exact K _ _ (LI.model q1 m1 q2)
theorem w_survives {i : Nat} (hI : LI Z h) (hi : i + 5 ≤ (ESc E).1) (hL : (ESc E).1 ≤ 2560) (hd : 11 ≤ d) (K : ∀ h1 Z1, LI Z1 h1 → Go E mL_law d 0 0 920 [some (.ref (BIGN + 2)), some (.ref 0), some (.ref 52), some (.int (nI i))] [] h1 Ψ) : Go E mL_law d 0 0 848 [some (.ref (BIGN + 2)), some (.ref 0), some (.ref 52), some (.int (nI i))] [] h Ψ := by
  obtain ⟨n0, t0, hr⟩ := hI.1.obj
  have hS : ArrR E h (BIGN + 2) (ESc E).1 (ESc E).2 := Or.inr (Or.inr (Or.inr ⟨rfl, rfl, rfl⟩))
  refine go_aload_1 (DW27.at 0 rfl) ?_
  refine go_aload_0 (DW27.at 1 rfl) ?_
  refine go_iload_3 (DW27.at 2 rfl) ?_
  refine go_iconst (v := nI 1) (DW27.at 3 rfl) (by decide) ?_
  refine go_iadd (DW27.at 4 rfl) ?_
  rw [nI_add]
  refine go_iaload (DW27.at 5 rfl) hS (vp_in_nI (show i + 1 < (ESc E).1 by omega) (by omega)) ?_
  refine go_cVi1 (DW27.at 6 rfl) nL_123 vX5_survives (by omega) (z_survives hI.1 (by omega)) hr rfl (Nat.le_of_ble_eq_true rfl) (fun x1 h1 q1 => ?_)
  obtain ⟨e1, q1⟩ := q1
  have m1 := hI.cls q1
  obtain ⟨ii, hs⟩ := m1.obj
  have hS1 : ArrR E h1 (BIGN + 2) (ESc E).1 (ESc E).2 := Or.inr (Or.inr (Or.inr ⟨rfl, rfl, rfl⟩))
  refine go_aload_2 (DW27.at 7 rfl) ?_
  refine go_aload_0 (DW27.at 8 rfl) ?_
  refine go_iload_3 (DW27.at 9 rfl) ?_
  refine go_iconst (v := nI 1) (DW27.at 10 rfl) (by decide) ?_
  refine go_iadd (DW27.at 11 rfl) ?_
  rw [nI_add]
  refine go_iaload (DW27.at 12 rfl) hS1 (vp_in_nI (show i + 1 < (ESc E).1 by omega) (by omega)) ?_
  refine go_cVi1 (DW27.at 13 rfl) nL_126 vX6_survives (by omega) (y_survives m1 (by omega)) hs rfl (Nat.le_of_ble_eq_true rfl) (fun x2 h2 q2 => ?_)
  obtain ⟨e2, q2⟩ := q2
  refine go_icmp_eq 920 (DW27.at 14 rfl) (by decide) (fun c866 => ?_) (fun c866 => absurd (e1.trans e2.symm) c866)
  exact K _ _ (LI.model q1 m1 q2)
theorem w_fatalSets {i : Nat} (hI : LI Z h) (hi : i + 5 ≤ (ESc E).1) (hL : (ESc E).1 ≤ 2560) (hd : 11 ≤ d) (K : ∀ h1 Z1, LI Z1 h1 → Go E mL_law d 0 0 920 [some (.ref (BIGN + 2)), some (.ref 0), some (.ref 52), some (.int (nI i))] [] h1 Ψ) : Go E mL_law d 0 0 871 [some (.ref (BIGN + 2)), some (.ref 0), some (.ref 52), some (.int (nI i))] [] h Ψ := by
  obtain ⟨n0, t0, hr⟩ := hI.1.obj
  have hS : ArrR E h (BIGN + 2) (ESc E).1 (ESc E).2 := Or.inr (Or.inr (Or.inr ⟨rfl, rfl, rfl⟩))
  refine go_aload_1 (DW28.at 0 rfl) ?_
  refine go_aload_0 (DW28.at 1 rfl) ?_
  refine go_iload_3 (DW28.at 2 rfl) ?_
  refine go_iconst (v := nI 1) (DW28.at 3 rfl) (by decide) ?_
  refine go_iadd (DW28.at 4 rfl) ?_
  rw [nI_add]
  refine go_iaload (DW28.at 5 rfl) hS (vp_in_nI (show i + 1 < (ESc E).1 by omega) (by omega)) ?_
  refine go_cVi1 (DW28.at 6 rfl) nL_127 vX5_fatalSets (by omega) (z_fatalSets hI.1 (by omega)) hr rfl (Nat.le_of_ble_eq_true rfl) (fun x1 h1 q1 => ?_)
  obtain ⟨e1, q1⟩ := q1
  have m1 := hI.cls q1
  obtain ⟨ii, hs⟩ := m1.obj
  have hS1 : ArrR E h1 (BIGN + 2) (ESc E).1 (ESc E).2 := Or.inr (Or.inr (Or.inr ⟨rfl, rfl, rfl⟩))
  refine go_aload_2 (DW28.at 7 rfl) ?_
  refine go_aload_0 (DW28.at 8 rfl) ?_
  refine go_iload_3 (DW28.at 9 rfl) ?_
  refine go_iconst (v := nI 1) (DW28.at 10 rfl) (by decide) ?_
  refine go_iadd (DW28.at 11 rfl) ?_
  rw [nI_add]
  refine go_iaload (DW28.at 12 rfl) hS1 (vp_in_nI (show i + 1 < (ESc E).1 by omega) (by omega)) ?_
  refine go_cVi1 (DW28.at 13 rfl) nL_130 vX6_fatalSets (by omega) (y_fatalSets m1 (by omega)) hs rfl (Nat.le_of_ble_eq_true rfl) (fun x2 h2 q2 => ?_)
  obtain ⟨e2, q2⟩ := q2
  refine go_icmp_eq 920 (DW28.at 14 rfl) (by decide) (fun c889 => ?_) (fun c889 => absurd (e1.trans e2.symm) c889)
  exact K _ _ (LI.model q1 m1 q2)
theorem w_fatalNodes {i : Nat} (hI : LI Z h) (hi : i + 5 ≤ (ESc E).1) (hL : (ESc E).1 ≤ 2560) (hd : 11 ≤ d) (K : ∀ h1 Z1, LI Z1 h1 → Go E mL_law d 0 0 920 [some (.ref (BIGN + 2)), some (.ref 0), some (.ref 52), some (.int (nI i))] [] h1 Ψ) : Go E mL_law d 0 0 894 [some (.ref (BIGN + 2)), some (.ref 0), some (.ref 52), some (.int (nI i))] [] h Ψ := by
  obtain ⟨n0, t0, hr⟩ := hI.1.obj
  have hS : ArrR E h (BIGN + 2) (ESc E).1 (ESc E).2 := Or.inr (Or.inr (Or.inr ⟨rfl, rfl, rfl⟩))
  refine go_aload_1 (DW29.at 0 rfl) ?_
  refine go_cVi0 (DW29.at 1 rfl) nL_131 vX5_fatalNodes (by omega) (z_fatalNodes hI.1 (fun w h1 h4 => aRun_lt hI.2.ok h1 h4) (by omega)) hr rfl (Nat.le_of_ble_eq_true rfl) (fun x1 h1 q1 => ?_)
  obtain ⟨e1, q1⟩ := q1
  have m1 := hI.cls q1
  obtain ⟨ii, hs⟩ := m1.obj
  have hS1 : ArrR E h1 (BIGN + 2) (ESc E).1 (ESc E).2 := Or.inr (Or.inr (Or.inr ⟨rfl, rfl, rfl⟩))
  refine go_aload_2 (DW29.at 2 rfl) ?_
  refine go_cVi0 (DW29.at 3 rfl) nL_134 vX6_fatalNodes (by omega) (y_fatalNodes m1 (by omega)) hs rfl (Nat.le_of_ble_eq_true rfl) (fun x2 h2 q2 => ?_)
  obtain ⟨e2, q2⟩ := q2
  refine go_icmp_eq 920 (DW29.at 4 rfl) (by decide) (fun c902 => ?_) (fun c902 => absurd (e1.trans e2.symm) c902)
  exact K _ _ (LI.model q1 m1 q2)
theorem w_busiest {i : Nat} (hI : LI Z h) (hi : i + 5 ≤ (ESc E).1) (hL : (ESc E).1 ≤ 2560) (hd : 11 ≤ d) (K : ∀ h1 Z1, LI Z1 h1 → Go E mL_law d 0 0 920 [some (.ref (BIGN + 2)), some (.ref 0), some (.ref 52), some (.int (nI i))] [] h1 Ψ) : Go E mL_law d 0 0 907 [some (.ref (BIGN + 2)), some (.ref 0), some (.ref 52), some (.int (nI i))] [] h Ψ := by
  obtain ⟨n0, t0, hr⟩ := hI.1.obj
  have hS : ArrR E h (BIGN + 2) (ESc E).1 (ESc E).2 := Or.inr (Or.inr (Or.inr ⟨rfl, rfl, rfl⟩))
  refine go_aload_1 (DW30.at 0 rfl) ?_
  refine go_cVi0 (DW30.at 1 rfl) nL_135 vX5_busiest (by omega) (z_busiest hI.1 (by omega)) hr rfl (Nat.le_of_ble_eq_true rfl) (fun x1 h1 q1 => ?_)
  obtain ⟨e1, q1⟩ := q1
  have m1 := hI.cls q1
  obtain ⟨ii, hs⟩ := m1.obj
  have hS1 : ArrR E h1 (BIGN + 2) (ESc E).1 (ESc E).2 := Or.inr (Or.inr (Or.inr ⟨rfl, rfl, rfl⟩))
  refine go_aload_2 (DW30.at 2 rfl) ?_
  refine go_cVi0 (DW30.at 3 rfl) nL_138 vX6_busiest (by omega) (y_busiest m1 (by omega)) hs rfl (Nat.le_of_ble_eq_true rfl) (fun x2 h2 q2 => ?_)
  obtain ⟨e2, q2⟩ := q2
  refine go_icmp_eq 920 (DW30.at 4 rfl) (by decide) (fun c915 => ?_) (fun c915 => absurd (e1.trans e2.symm) c915)
  exact K _ _ (LI.model q1 m1 q2)
end LW
