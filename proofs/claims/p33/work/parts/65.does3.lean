/-! THE LAW'S CODE, in pieces; a call and what it does, whatever its kind -/
theorem DW0 : DAll mL_law [(0, .new 32, 3), (3, .dup, 4), (4, .invokespecial 129, 7), (7, .astore_n 1, 8), (8, .bipush 9, 10), (10, .newarray .int, 12), (12, .astore_n 2, 13), (13, .bipush 60, 15), (15, .newarray .int, 17), (17, .astore_n 3, 18), (18, .iconst 3, 19), (19, .newarray .int, 21), (21, .astore 4, 23), (23, .bipush 60, 25), (25, .newarray .int, 27), (27, .astore 5, 29), (29, .bipush 20, 31), (31, .newarray .int, 33), (33, .astore 6, 35), (35, .iconst 3, 36), (36, .newarray .int, 38), (38, .astore 7, 40), (40, .iconst 4, 41), (41, .newarray .int, 43), (43, .astore 8, 45), (45, .aload_n 0, 46), (46, .iconst 0, 47), (47, .invokestatic 130, 50), (50, .istore 9, 52), (52, .aload_n 2, 53), (53, .iconst 0, 54), (54, .iconst 1, 55), (55, .iload 9, 57), (57, .iconst 4, 58), (58, .invokestatic 134, 61), (61, .iadd, 62), (62, .iastore, 63), (63, .aload_n 2, 64), (64, .iconst 1, 65), (65, .iconst 2, 66), (66, .iload 9, 68), (68, .iconst 2, 69), (69, .ishr, 70), (70, .aload_n 2, 71), (71, .iconst 0, 72), (72, .iaload, 73), (73, .iconst 4, 74), (74, .if_icmp .ne 7, 77), (77, .iconst 2, 78), (78, .goto 15, 81)] := DAll.of (by decide +kernel)
theorem DW1 : DAll mL_law [(81, .aload_n 2, 82), (82, .iconst 0, 83), (83, .iaload, 84), (84, .iconst 3, 85), (85, .if_icmp .ne 7, 88), (88, .iconst 4, 89), (89, .goto 4, 92), (92, .iconst 5, 93), (93, .invokestatic 134, 96), (96, .iadd, 97), (97, .iastore, 98), (98, .aload_n 2, 99), (99, .iconst 2, 100), (100, .iconst 1, 101), (101, .iload 9, 103), (103, .iconst 5, 104), (104, .ishr, 105), (105, .iconst 3, 106), (106, .invokestatic 134, 109), (109, .iadd, 110), (110, .iastore, 111), (111, .aload_n 2, 112), (112, .iconst 3, 113), (113, .iload 9, 115), (115, .bipush 8, 117), (117, .ishr, 118), (118, .bipush 6, 120), (120, .invokestatic 134, 123), (123, .iastore, 124), (124, .aload_n 1, 125), (125, .aload_n 2, 126), (126, .iconst 0, 127), (127, .iaload, 128), (128, .aload_n 2, 129), (129, .iconst 1, 130), (130, .iaload, 131), (131, .aload_n 2, 132), (132, .iconst 2, 133), (133, .iaload, 134), (134, .aload_n 2, 135), (135, .iconst 3, 136), (136, .iaload, 137), (137, .invokevirtual 137, 140), (140, .aload_n 2, 141), (141, .invokestatic 16, 144), (144, .if_icmp .ne 18, 147), (147, .aload_n 1, 148), (148, .aload_n 2, 149), (149, .aload_n 3, 150), (150, .aload 4, 152)] := DAll.of (by decide +kernel)
theorem DW2 : DAll mL_law [(152, .aload 5, 154), (154, .aload 6, 156), (156, .invokestatic 141, 159), (159, .ifCond .ne 5, 162), (162, .iconst 0, 163), (163, .ireturn, 164), (164, .iconst 0, 165), (165, .istore 10, 167), (167, .iload 10, 169), (169, .bipush 30, 171), (171, .if_icmp .ge 481, 174), (174, .aload_n 0, 175), (175, .iconst 1, 176), (176, .iconst 2, 177), (177, .iload 10, 179), (179, .imul, 180), (180, .iadd, 181), (181, .invokestatic 130, 184), (184, .istore 11, 186), (186, .aload_n 0, 187), (187, .iconst 2, 188), (188, .iconst 2, 189), (189, .iload 10, 191), (191, .imul, 192), (192, .iadd, 193), (193, .invokestatic 130, 196), (196, .istore 12, 198), (198, .iload 11, 200), (200, .bipush 12, 202), (202, .invokestatic 134, 205), (205, .istore 13, 207), (207, .aload 8, 209), (209, .iconst 0, 210), (210, .iload 13, 212), (212, .iconst 4, 213), (213, .if_icmp .ge 7, 216), (216, .iconst 0, 217), (217, .goto 48, 220), (220, .iload 13, 222), (222, .bipush 7, 224), (224, .if_icmp .ge 7, 227), (227, .iconst 1, 228), (228, .goto 37, 231), (231, .iload 13, 233), (233, .bipush 7, 235), (235, .if_icmp .ne 7, 238), (238, .iconst 2, 239), (239, .goto 26, 242), (242, .iload 13, 244), (244, .bipush 10, 246)] := DAll.of (by decide +kernel)
theorem DW3 : DAll mL_law [(246, .if_icmp .ge 7, 249), (249, .iconst 3, 250), (250, .goto 15, 253), (253, .iload 13, 255), (255, .bipush 10, 257), (257, .if_icmp .ne 7, 260), (260, .iconst 4, 261), (261, .goto 4, 264), (264, .iconst 5, 265), (265, .iastore, 266), (266, .aload 8, 268), (268, .iconst 1, 269), (269, .iload 12, 271), (271, .aload_n 2, 272), (272, .iconst 2, 273), (273, .iaload, 274), (274, .invokestatic 134, 277), (277, .iastore, 278), (278, .aload 8, 280), (280, .iconst 2, 281), (281, .aload 8, 283), (283, .iconst 0, 284), (284, .iaload, 285), (285, .ifCond .ne 19, 288), (288, .iload 12, 290), (290, .iconst 4, 291), (291, .ishr, 292), (292, .aload_n 2, 293), (293, .invokestatic 10, 296), (296, .iconst 1, 297), (297, .iadd, 298), (298, .invokestatic 134, 301), (301, .goto 39, 304), (304, .iload 12, 306), (306, .iconst 4, 307), (307, .ishr, 308), (308, .aload 8, 310), (310, .iconst 0, 311), (311, .iaload, 312), (312, .iconst 2, 313), (313, .if_icmp .eq 11, 316), (316, .aload 8, 318), (318, .iconst 0, 319), (319, .iaload, 320), (320, .iconst 4, 321), (321, .if_icmp .ne 12, 324), (324, .aload_n 2, 325), (325, .invokestatic 16, 328), (328, .iconst 1, 329), (329, .iadd, 330)] := DAll.of (by decide +kernel)
theorem DW4 : DAll mL_law [(330, .goto 7, 333), (333, .aload_n 2, 334), (334, .invokestatic 16, 337), (337, .invokestatic 134, 340), (340, .iastore, 341), (341, .aload 8, 343), (343, .iconst 3, 344), (344, .iload 12, 346), (346, .bipush 9, 348), (348, .ishr, 349), (349, .bipush 16, 351), (351, .invokestatic 134, 354), (354, .iastore, 355), (355, .aload 8, 357), (357, .iconst 0, 358), (358, .iaload, 359), (359, .iconst 5, 360), (360, .if_icmp .ne 31, 363), (363, .aload_n 2, 364), (364, .iconst 4, 365), (365, .iaload, 366), (366, .ifCond .le 25, 369), (369, .aload 8, 371), (371, .iconst 1, 372), (372, .aload 5, 374), (374, .iconst 0, 375), (375, .iaload, 376), (376, .bipush 20, 378), (378, .idiv, 379), (379, .iastore, 380), (380, .aload 8, 382), (382, .iconst 2, 383), (383, .aload 5, 385), (385, .iconst 0, 386), (386, .iaload, 387), (387, .bipush 20, 389), (389, .irem, 390), (390, .iastore, 391), (391, .iconst 0, 392), (392, .istore 14, 394), (394, .iload 14, 396), (396, .aload_n 2, 397), (397, .iconst 2, 398), (398, .iaload, 399), (399, .if_icmp .ge 110, 402), (402, .aload 8, 404), (404, .iconst 0, 405), (405, .iaload, 406), (406, .iconst 4, 407), (407, .if_icmp .ne 16, 410)] := DAll.of (by decide +kernel)
theorem DW5 : DAll mL_law [(410, .aload 8, 412), (412, .iconst 2, 413), (413, .iaload, 414), (414, .iload 14, 416), (416, .aload_n 2, 417), (417, .invokestatic 126, 420), (420, .goto 7, 423), (423, .aload 8, 425), (425, .iconst 2, 426), (426, .iaload, 427), (427, .istore 15, 429), (429, .iload 15, 431), (431, .aload_n 2, 432), (432, .invokestatic 16, 435), (435, .if_icmp .ge 21, 438), (438, .aload 4, 440), (440, .iload 14, 442), (442, .iaload, 443), (443, .iload 15, 445), (445, .ishr, 446), (446, .iconst 1, 447), (447, .iand, 448), (448, .iconst 1, 449), (449, .if_icmp .ne 7, 452), (452, .iconst 1, 453), (453, .goto 4, 456), (456, .iconst 0, 457), (457, .istore 16, 459), (459, .iload 16, 461), (461, .ifCond .eq 20, 464), (464, .aload_n 1, 465), (465, .iload 14, 467), (467, .iload 15, 469), (469, .aload_n 2, 470), (470, .aload_n 3, 471), (471, .aload 4, 473), (473, .invokestatic 145, 476), (476, .ifCond .ne 5, 479), (479, .iconst 0, 480), (480, .ireturn, 481), (481, .aload 7, 483), (483, .iload 14, 485), (485, .iload 16, 487), (487, .ifCond .eq 14, 490), (490, .aload_n 1, 491), (491, .iload 14, 493), (493, .iload 15, 495), (495, .invokevirtual 31, 498), (498, .goto 4, 501), (501, .iconst (-1), 502)] := DAll.of (by decide +kernel)
theorem DW6 : DAll mL_law [(502, .iastore, 503), (503, .iinc 14 1, 506), (506, .goto (-112), 509), (509, .aload_n 1, 510), (510, .invokestatic 149, 513), (513, .lstore 14, 515), (515, .aload_n 1, 516), (516, .aload 8, 518), (518, .iconst 0, 519), (519, .iaload, 520), (520, .aload 8, 522), (522, .iconst 1, 523), (523, .iaload, 524), (524, .aload 8, 526), (526, .iconst 2, 527), (527, .iaload, 528), (528, .aload 8, 530), (530, .iconst 3, 531), (531, .iaload, 532), (532, .invokestatic 153, 535), (535, .istore 16, 537), (537, .iload 16, 539), (539, .ifCond .ge 16, 542), (542, .aload_n 1, 543), (543, .invokestatic 149, 546), (546, .lload 14, 548), (548, .lcmp, 549), (549, .ifCond .eq 60, 552), (552, .goto 55, 555), (555, .iload 11, 557), (557, .bipush 20, 559), (559, .ishr, 560), (560, .iconst 3, 561), (561, .iand, 562), (562, .ifCond .ne 47, 565), (565, .aload_n 1, 566), (566, .invokevirtual 157, 569), (569, .ifCond .lt 38, 572), (572, .aload_n 1, 573), (573, .invokestatic 149, 576), (576, .lload 14, 578), (578, .lcmp, 579), (579, .ifCond .ne 28, 582), (582, .aload_n 1, 583), (583, .aload 8, 585), (585, .iconst 0, 586), (586, .iaload, 587), (587, .aload 8, 589), (589, .iconst 1, 590), (590, .iaload, 591)] := DAll.of (by decide +kernel)
theorem DW7 : DAll mL_law [(591, .aload 8, 593), (593, .iconst 2, 594), (594, .iaload, 595), (595, .aload 8, 597), (597, .iconst 3, 598), (598, .iaload, 599), (599, .invokestatic 153, 602), (602, .iload 16, 604), (604, .if_icmp .eq 5, 607), (607, .iconst 0, 608), (608, .ireturn, 609), (609, .iload 16, 611), (611, .aload 7, 613), (613, .aload 8, 615), (615, .aload_n 2, 616), (616, .aload_n 3, 617), (617, .aload 4, 619), (619, .aload 5, 621), (621, .aload 6, 623), (623, .invokestatic 160, 626), (626, .ifCond .eq 18, 629), (629, .aload_n 1, 630), (630, .aload_n 2, 631), (631, .aload_n 3, 632), (632, .aload 4, 634), (634, .aload 5, 636), (636, .aload 6, 638), (638, .invokestatic 141, 641), (641, .ifCond .ne 5, 644), (644, .iconst 0, 645), (645, .ireturn, 646), (646, .iinc 10 1, 649), (649, .goto (-482), 652), (652, .iconst 0, 653), (653, .istore 10, 655), (655, .iconst 0, 656), (656, .istore 11, 658), (658, .iload 11, 660), (660, .aload_n 2, 661), (661, .iconst 2, 662), (662, .iaload, 663), (663, .if_icmp .ge 35, 666), (666, .iload 10, 668), (668, .aload_n 1, 669), (669, .aload 4, 671), (671, .iload 11, 673), (673, .iaload, 674), (674, .invokevirtual 164, 677), (677, .iconst 1, 678), (678, .if_icmp .ne 10, 681)] := DAll.of (by decide +kernel)
theorem DW8 : DAll mL_law [(681, .iconst 1, 682), (682, .iload 11, 684), (684, .ishl, 685), (685, .goto 4, 688), (688, .iconst 0, 689), (689, .ior, 690), (690, .istore 10, 692), (692, .iinc 11 1, 695), (695, .goto (-37), 698), (698, .iconst 0, 699), (699, .istore 11, 701), (701, .iload 11, 703), (703, .iconst 3, 704), (704, .if_icmp .ge 43, 707), (707, .aload_n 1, 708), (708, .iconst 5, 709), (709, .invokevirtual 63, 712), (712, .ifCond .ne 7, 715), (715, .iconst 1, 716), (716, .goto 4, 719), (719, .iconst 0, 720), (720, .aload_n 1, 721), (721, .bipush 50, 723), (723, .invokevirtual 110, 726), (726, .bipush (-5), 728), (728, .if_icmp .ne 7, 731), (731, .iconst 1, 732), (732, .goto 4, 735), (735, .iconst 0, 736), (736, .if_icmp .eq 5, 739), (739, .iconst 0, 740), (740, .ireturn, 741), (741, .iinc 11 1, 744), (744, .goto (-43), 747), (747, .iconst 0, 748), (748, .istore 11, 750), (750, .iload 11, 752), (752, .aload_n 2, 753), (753, .iconst 2, 754), (754, .iaload, 755), (755, .if_icmp .ge 102, 758), (758, .iconst 1, 759), (759, .istore 12, 761), (761, .iconst 0, 762), (762, .istore 13, 764), (764, .iload 13, 766), (766, .aload_n 2, 767), (767, .invokestatic 16, 770), (770, .if_icmp .ge 58, 773), (773, .aload_n 1, 774)] := DAll.of (by decide +kernel)
theorem DW9 : DAll mL_law [(774, .iload 11, 776), (776, .iload 13, 778), (778, .invokevirtual 71, 781), (781, .istore 14, 783), (783, .iload 12, 785), (785, .ifCond .eq 12, 788), (788, .iload 14, 790), (790, .ifCond .lt 7, 793), (793, .iconst 1, 794), (794, .goto 4, 797), (797, .iconst 0, 798), (798, .istore 12, 800), (800, .iload 14, 802), (802, .ifCond .lt 20, 805), (805, .iload 14, 807), (807, .aload_n 3, 808), (808, .bipush 20, 810), (810, .iload 11, 812), (812, .imul, 813), (813, .iload 13, 815), (815, .iadd, 816), (816, .iaload, 817), (817, .if_icmp .eq 5, 820), (820, .iconst 0, 821), (821, .ireturn, 822), (822, .iinc 13 1, 825), (825, .goto (-61), 828), (828, .iload 12, 830), (830, .iload 10, 832), (832, .iload 11, 834), (834, .ishr, 835), (835, .iconst 1, 836), (836, .iand, 837), (837, .iconst 1, 838), (838, .if_icmp .ne 7, 841), (841, .iconst 1, 842), (842, .goto 4, 845), (845, .iconst 0, 846), (846, .if_icmp .eq 5, 849), (849, .iconst 0, 850), (850, .ireturn, 851), (851, .iinc 11 1, 854), (854, .goto (-104), 857), (857, .iconst 1, 858), (858, .ireturn, 859)] := DAll.of (by decide +kernel)
theorem LR.cg {A : Ab} {ρ ρ' : Nat → Nat → Int32} (hR : LR A ρ) (e : ∀ a, a < 5 → ρ' a = ρ a) : LR A ρ' := by
  obtain ⟨hA, hY, hq, hK, hV, hM, hQ, hD⟩ := hR
  rw [← e 0 (by decide)] at hq
  refine ⟨hA, hY.up (fun k hk => by rw [e 0 (by decide)]), hq, fun k hk => ?_, fun t ht c hc => ?_, fun t ht => ?_, fun i x hx => ?_, fun j hj => ?_⟩
  · rw [e 0 (by decide)]
    exact hK k hk
  · rw [e 1 (by decide)]
    exact hV t ht c hc
  · rw [e 2 (by decide)]
    exact hM t ht
  · rw [e 3 (by decide)]
    exact hQ i x hx
  · rw [e 4 (by decide)]
    exact hD j hj
/-- what the numbers of a call may be -/
def Cnd (A : Ab) (k t c v : Nat) : Prop := k < 6 ∧ t < aT A ∧ v < 16 ∧ (k = 0 → c ≤ aG A * aS A) ∧ (k = 2 ∨ k = 4 → c ≤ nc (aG A) (aS A)) ∧ (k = 1 ∨ k = 3 ∨ k = 5 → c < nc (aG A) (aS A)) ∧ (k = 5 → aQ A = [] ∨ ∃ l, aQ A = (20 * t + c) :: l)
/-- the cell of a stripe that a call is about -/
def ccA (A : Ab) (k c t : Nat) : Nat := if k = 4 then cnA A c t else c
theorem lnG_cw {nd : Nat} : ∀ m t A, Cw A → Cw (lnG nd m t A).2
  | 0, _, _, h => h
  | m + 1, t, A, h => by
    by_cases q : bit (aM A t) (cnA A nd t)
    · rw [lnG_t q]
      exact lnG_cw m (t + 1) A h
    · rw [lnG_f q]
      exact lnG_cw m (t + 1) (aLos A t (cnA A nd t)) h.los
theorem mnG_cw {nd : Nat} : ∀ m t A r F, AOK A → Cw A → t + m = aT A → mnG nd m t A = some (r, F) → Cw F
  | 0, _, A, r, F, _, h, _, e => by
    have e2 : A = F := congrArg Prod.snd (Option.some.inj e)
    rw [← e2]
    exact h
  | m + 1, t, A, r, F, hA, h, hm, e => by
    have hn := hA.1.nc
    have ht : t < aT A := by omega
    have hcn : cnA A nd t < nc (aG A) (aS A) := con_lt (by omega)
    by_cases q : bit (aM A t) (cnA A nd t)
    · rcases way_cases A t (cnA A nd t) with ⟨w, src, X, hw⟩ | hw
      · rw [mnG_s q hw] at e
        have hA1 : AOK (aMnd A t (cnA A nd t) w src X) := aMnd_ok hA ht hcn (hw.lt hA hcn)
        have hK1 : Cw (aMnd A t (cnA A nd t) w src X) := (wk_mnd hA h ht hcn q hw).cw h
        cases e2 : mnG nd m (t + 1) (aMnd A t (cnA A nd t) w src X) with
        | none =>
          rw [e2] at e
          cases e
        | some r2 =>
          rw [e2] at e
          have e3 := Option.some.inj e
          have e4 : r2.2 = F := congrArg Prod.snd e3
          rw [← e4]
          exact mnG_cw m (t + 1) _ r2.1 r2.2 hA1 hK1 (show t + 1 + m = aT A by omega) e2
      · rw [mnG_0 q hw] at e
        cases e
    · rw [mnG_f q] at e
      exact mnG_cw m (t + 1) A r F hA h (by omega) e
theorem stp_or {A : Ab} {R : Int32 × Ab} (h1 : Cw A) (h2 : Cw R.2) : Cw (stp A R) := by
  by_cases q : R.1 < 0
  · rw [show stp A R = A from cI_t q]
    exact h1
  · rw [show stp A R = R.2 from cI_f q]
    exact h2
theorem op_cw {A : Ab} {k t c v : Nat} (hA : AOK A) (hK : Cw A) (hC : Cnd A k t c v) : Cw (stp A (opR A k t c v)) := by
  obtain ⟨h6, ht, hv, h0, h24, h135, h5⟩ := hC
  have hn := hA.1.nc
  have en : nc (aG A) (aS A) = aG A * aS A + aG A + 2 := rfl
  refine stp_or hK ?_
  rcases (show k = 0 ∨ k = 1 ∨ k = 2 ∨ k = 3 ∨ k = 4 ∨ k = 5 by omega) with rfl | rfl | rfl | rfl | rfl | rfl
  · rw [opR_0]
    have hc := h0 rfl
    by_cases q : c = aG A * aS A
    · rw [q, wr_1 hA]
      exact hK
    have hc2 : c < aG A * aS A := by omega
    by_cases q2 : aM A t = 0
    · by_cases q3 : aV A t c = v
      · rw [wr_5 hA ht hc2 hv q2 q3]
        exact hK
      · rw [wr_ok hA ht hc2 hv q2 q3]
        exact Cw.wrt hA hK hc2 hv
    · rw [wr_4 hA ht hc2 hv q2]
      exact hK
  · rw [opR_1]
    have hc := h135 (Or.inl rfl)
    by_cases q : bit (aM A t) c
    · rw [lo_b hA ht hc q]
      exact hK
    · rw [lo_n hA ht hc q]
      exact hK.los
  · rw [opR_2]
    have hc := h24 (Or.inl rfl)
    by_cases q : c = nc (aG A) (aS A)
    · rw [q, ls_out hA]
      exact hK
    · rw [ls_in hA (by omega)]
      exact lnG_cw _ _ _ hK
  · rw [opR_3]
    have hc := h135 (Or.inr (Or.inl rfl))
    by_cases q : bit (aM A t) c
    · rcases way_cases A t c with ⟨w, src, X, hw⟩ | hw
      · rw [md_s hA ht hc q hw]
        exact (wk_mnd hA hK ht hc q hw).cw hK
      · rw [md_0 hA ht hc q hw]
        exact hK
    · rw [md_n hA ht hc q]
      exact hK
  · rw [opR_4]
    have hc := h24 (Or.inr rfl)
    by_cases q : c = nc (aG A) (aS A)
    · rw [q, mn_out hA]
      exact hK
    · have hcn : c < nc (aG A) (aS A) := by omega
      cases e : mnC A c (aT A) 0 with
      | none =>
        rw [mn_n hA hK hcn e]
        exact hK
      | some s =>
        obtain ⟨F, eF, e0⟩ := mn_s hA hK hcn e
        rw [e0]
        exact mnG_cw (aT A) 0 A s F hA hK (by omega) eF
  · rw [opR_5]
    have hc := h135 (Or.inr (Or.inr rfl))
    rcases h5 rfl with hQ | ⟨l, hQ⟩
    · rw [wk_e hQ]
      exact hK
    · have hb : bit (aM A t) c := (hA.qin ht hc).mp (by rw [hQ]; exact List.mem_cons_self)
      have e1 : (20 * t + c) / 20 = t := by omega
      have e2 : (20 * t + c) % 20 = c := by omega
      rcases way_cases A t c with ⟨w, src, X, hw⟩ | hw
      · have eR := wk_s hQ (w := w) (src := src) (X := X) (by rw [e1, e2]; exact hw)
        rw [e1, e2] at eR
        rw [eR]
        exact (wk_mnd hA hK ht hc hb hw).cw hK
      · rw [wk_0 hQ (by rw [e1, e2]; exact hw)]
        exact wk_rot.cw hK
theorem wkG_add : ∀ n m A, (wkG m (wkG n A).2).2 = (wkG (n + m) A).2
  | 0, m, A => by
    rw [Nat.zero_add]
    rfl
  | n + 1, m, A => by
    cases hQ : aQ A with
    | nil => rw [wkG_e hQ, wkG_e hQ, wkG_e hQ]
    | cons x l =>
      rw [show n + 1 + m = (n + m) + 1 by omega]
      rcases way_cases A (x / 20) (x % 20) with ⟨w, src, X, hw⟩ | hw
      · rw [wkG_s hQ hw, wkG_s hQ hw]
        exact wkG_add n m _
      · rw [wkG_n hQ hw, wkG_n hQ hw]
        exact wkG_add n m _
section LM
variable {E : AEnv} {d : Nat} {h h' h0 : List va_E} {ρ ρ' : Nat → Nat → Int32} {A : Ab} {Z : Zt} {G : Nat → Option va_E}
theorem c_does {k t c v : Nat} {tl : Int32} (hC : Cnd A k t c v) (hW : ∀ t', t' < aT A → ρ 5 t' = wnF A t' (ccA A k c t')) (htl : tl = (opR A k t c v).1) (h60 : ρ 6 0 = nI k) (h61 : ρ 6 1 = nI t) (h62 : ρ 6 2 = nI c) (h63 : ρ 6 3 = nI v) (hK : Cw A) (hL : LA h ρ) (hR : LR A ρ) (hd : 5 ≤ d) : Calls E mL_does d 0 0 [.int tl, .ref 57, .ref 58, .ref 52, .ref 53, .ref 54, .ref 55, .ref 56] h (RI (DP A h (opR A k t c v))) := by
  obtain ⟨h6, ht, hv, h0, h24, h135, h5⟩ := hC
  rcases (show k = 0 ∨ k = 1 ∨ k = 2 ∨ k = 3 ∨ k = 4 ∨ k = 5 by omega) with rfl | rfl | rfl | rfl | rfl | rfl
  · exact c_does0 ht (h0 rfl) hv htl h60 h61 h62 h63 hK hL hR (by omega)
  · exact c_does1 ht (h135 (Or.inl rfl)) htl h60 h61 h62 h63 hK hL hR (by omega)
  · exact c_does2 ht (h24 (Or.inl rfl)) htl h60 h61 h62 h63 hK hL hR hd
  · exact c_does3 ht (h135 (Or.inr (Or.inl rfl))) (hW t ht) htl h60 h61 h62 h63 hK hL hR (by omega)
  · exact c_does4 ht (h24 (Or.inr rfl)) (fun _ t' ht' => hW t' ht') htl h60 h61 h62 h63 hK hL hR hd
  · exact c_does5 ht (h135 (Or.inr (Or.inr rfl))) (h5 rfl) (hW t ht) htl h60 h61 h62 h63 hK hL hR (by omega)
end LM
