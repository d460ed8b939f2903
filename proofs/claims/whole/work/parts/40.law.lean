/-! the law's loop as a light walk: written by wip/whole/gen40.py -/
def R_L : String := "ReplayDeskLaw"
def k_L : List (Nat × lm_R) := [(16, .iconst 0, 17, 0, 0), (17, .istore_n 3, 18, 0, 0), (18, .iload_n 3, 19, 0, 0), (19, .aload_n 0, 20, 0, 0), (20, .arraylength, 21, 0, 0), (21, .iconst 3, 22, 3, 0), (22, .isub, 23, 0, 0), (23, .if_icmp .gt (485), 26, 0, 508), (26, .aload_n 0, 27, 0, 0), (27, .iload_n 3, 28, 0, 0), (28, .iaload, 29, 0, 0), (29, .bipush (15), 31, 15, 0), (31, .iand, 32, 0, 0), (32, .tableswitch (470) 0 15 #[80, 113, 146, 169, 192, 215, 228, 241, 254, 303, 352, 375, 398, 411, 424, 447], 112, 0, 0), (112, .aload_n 1, 113, 0, 0), (113, .aload_n 0, 114, 0, 0), (114, .iload_n 3, 115, 0, 0), (115, .iconst 1, 116, 1, 0), (116, .iadd, 117, 0, 0), (117, .iaload, 118, 0, 0), (118, .aload_n 0, 119, 0, 0), (119, .iload_n 3, 120, 0, 0), (120, .iconst 2, 121, 2, 0), (121, .iadd, 122, 0, 0), (122, .iaload, 123, 0, 0), (123, .invokevirtual 13, 126, 0, 0), (126, .aload_n 2, 127, 0, 0), (127, .aload_n 0, 128, 0, 0), (128, .iload_n 3, 129, 0, 0), (129, .iconst 1, 130, 1, 0), (130, .iadd, 131, 0, 0), (131, .iaload, 132, 0, 0), (132, .aload_n 0, 133, 0, 0), (133, .iload_n 3, 134, 0, 0), (134, .iconst 2, 135, 2, 0), (135, .iadd, 136, 0, 0), (136, .iaload, 137, 0, 0), (137, .invokevirtual 17, 140, 0, 0), (140, .if_icmp .eq (362), 143, 0, 502), (143, .iconst 0, 144, 0, 0), (144, .ireturn, 145, 0, 0), (145, .aload_n 1, 146, 0, 0), (146, .aload_n 0, 147, 0, 0), (147, .iload_n 3, 148, 0, 0), (148, .iconst 1, 149, 1, 0), (149, .iadd, 150, 0, 0), (150, .iaload, 151, 0, 0), (151, .aload_n 0, 152, 0, 0), (152, .iload_n 3, 153, 0, 0), (153, .iconst 2, 154, 2, 0), (154, .iadd, 155, 0, 0), (155, .iaload, 156, 0, 0), (156, .invokevirtual 18, 159, 0, 0), (159, .aload_n 2, 160, 0, 0), (160, .aload_n 0, 161, 0, 0), (161, .iload_n 3, 162, 0, 0), (162, .iconst 1, 163, 1, 0), (163, .iadd, 164, 0, 0), (164, .iaload, 165, 0, 0), (165, .aload_n 0, 166, 0, 0), (166, .iload_n 3, 167, 0, 0), (167, .iconst 2, 168, 2, 0), (168, .iadd, 169, 0, 0), (169, .iaload, 170, 0, 0), (170, .invokevirtual 21, 173, 0, 0), (173, .if_icmp .eq (329), 176, 0, 502), (176, .iconst 0, 177, 0, 0), (177, .ireturn, 178, 0, 0), (178, .aload_n 1, 179, 0, 0), (179, .aload_n 0, 180, 0, 0), (180, .iload_n 3, 181, 0, 0), (181, .iconst 1, 182, 1, 0), (182, .iadd, 183, 0, 0), (183, .iaload, 184, 0, 0), (184, .invokevirtual 22, 187, 0, 0), (187, .aload_n 2, 188, 0, 0), (188, .aload_n 0, 189, 0, 0), (189, .iload_n 3, 190, 0, 0), (190, .iconst 1, 191, 1, 0), (191, .iadd, 192, 0, 0), (192, .iaload, 193, 0, 0), (193, .invokevirtual 26, 196, 0, 0), (196, .if_icmp .eq (306), 199, 0, 502), (199, .iconst 0, 200, 0, 0), (200, .ireturn, 201, 0, 0), (201, .aload_n 1, 202, 0, 0), (202, .aload_n 0, 203, 0, 0), (203, .iload_n 3, 204, 0, 0), (204, .iconst 1, 205, 1, 0), (205, .iadd, 206, 0, 0), (206, .iaload, 207, 0, 0), (207, .invokevirtual 27, 210, 0, 0), (210, .aload_n 2, 211, 0, 0), (211, .aload_n 0, 212, 0, 0), (212, .iload_n 3, 213, 0, 0), (213, .iconst 1, 214, 1, 0), (214, .iadd, 215, 0, 0), (215, .iaload, 216, 0, 0), (216, .invokevirtual 31, 219, 0, 0), (219, .if_icmp .eq (283), 222, 0, 502), (222, .iconst 0, 223, 0, 0), (223, .ireturn, 224, 0, 0), (224, .aload_n 1, 225, 0, 0), (225, .aload_n 0, 226, 0, 0), (226, .iload_n 3, 227, 0, 0), (227, .iconst 1, 228, 1, 0), (228, .iadd, 229, 0, 0), (229, .iaload, 230, 0, 0), (230, .invokevirtual 32, 233, 0, 0), (233, .aload_n 2, 234, 0, 0), (234, .aload_n 0, 235, 0, 0), (235, .iload_n 3, 236, 0, 0), (236, .iconst 1, 237, 1, 0), (237, .iadd, 238, 0, 0), (238, .iaload, 239, 0, 0), (239, .invokevirtual 35, 242, 0, 0), (242, .if_icmp .eq (260), 245, 0, 502), (245, .iconst 0, 246, 0, 0), (246, .ireturn, 247, 0, 0), (247, .aload_n 1, 248, 0, 0), (248, .invokevirtual 36, 251, 0, 0), (251, .aload_n 2, 252, 0, 0), (252, .invokevirtual 40, 255, 0, 0), (255, .if_icmp .eq (247), 258, 0, 502), (258, .iconst 0, 259, 0, 0), (259, .ireturn, 260, 0, 0), (260, .aload_n 1, 261, 0, 0), (261, .invokevirtual 41, 264, 0, 0), (264, .aload_n 2, 265, 0, 0), (265, .invokevirtual 44, 268, 0, 0), (268, .if_icmp .eq (234), 271, 0, 502), (271, .iconst 0, 272, 0, 0), (272, .ireturn, 273, 0, 0), (273, .aload_n 1, 274, 0, 0), (274, .invokevirtual 45, 277, 0, 0), (277, .aload_n 2, 278, 0, 0), (278, .invokevirtual 48, 281, 0, 0), (281, .if_icmp .eq (221), 284, 0, 502), (284, .iconst 0, 285, 0, 0), (285, .ireturn, 286, 0, 0), (286, .aload_n 1, 287, 0, 0), (287, .aload_n 0, 288, 0, 0), (288, .iload_n 3, 289, 0, 0), (289, .iconst 1, 290, 1, 0), (290, .iadd, 291, 0, 0), (291, .iaload, 292, 0, 0), (292, .aload_n 0, 293, 0, 0), (293, .iload_n 3, 294, 0, 0), (294, .iconst 2, 295, 2, 0), (295, .iadd, 296, 0, 0), (296, .iaload, 297, 0, 0), (297, .ifCond .eq (7), 300, 0, 304), (300, .iconst 1, 301, 1, 0), (301, .goto (4), 304, 0, 305), (304, .iconst 0, 305, 0, 0), (305, .invokevirtual 49, 308, 0, 0), (308, .aload_n 2, 309, 0, 0), (309, .aload_n 0, 310, 0, 0), (310, .iload_n 3, 311, 0, 0), (311, .iconst 1, 312, 1, 0), (312, .iadd, 313, 0, 0), (313, .iaload, 314, 0, 0), (314, .aload_n 0, 315, 0, 0), (315, .iload_n 3, 316, 0, 0), (316, .iconst 2, 317, 2, 0), (317, .iadd, 318, 0, 0), (318, .iaload, 319, 0, 0), (319, .ifCond .eq (7), 322, 0, 326), (322, .iconst 1, 323, 1, 0), (323, .goto (4), 326, 0, 327), (326, .iconst 0, 327, 0, 0), (327, .invokevirtual 53, 330, 0, 0), (330, .if_icmp .eq (172), 333, 0, 502), (333, .iconst 0, 334, 0, 0), (334, .ireturn, 335, 0, 0), (335, .aload_n 1, 336, 0, 0), (336, .aload_n 0, 337, 0, 0), (337, .iload_n 3, 338, 0, 0), (338, .iconst 1, 339, 1, 0), (339, .iadd, 340, 0, 0), (340, .iaload, 341, 0, 0), (341, .aload_n 0, 342, 0, 0), (342, .iload_n 3, 343, 0, 0), (343, .iconst 2, 344, 2, 0), (344, .iadd, 345, 0, 0), (345, .iaload, 346, 0, 0), (346, .ifCond .eq (7), 349, 0, 353), (349, .iconst 1, 350, 1, 0), (350, .goto (4), 353, 0, 354), (353, .iconst 0, 354, 0, 0), (354, .invokevirtual 54, 357, 0, 0), (357, .aload_n 2, 358, 0, 0), (358, .aload_n 0, 359, 0, 0), (359, .iload_n 3, 360, 0, 0), (360, .iconst 1, 361, 1, 0), (361, .iadd, 362, 0, 0), (362, .iaload, 363, 0, 0), (363, .aload_n 0, 364, 0, 0), (364, .iload_n 3, 365, 0, 0), (365, .iconst 2, 366, 2, 0), (366, .iadd, 367, 0, 0), (367, .iaload, 368, 0, 0), (368, .ifCond .eq (7), 371, 0, 375), (371, .iconst 1, 372, 1, 0), (372, .goto (4), 375, 0, 376), (375, .iconst 0, 376, 0, 0), (376, .invokevirtual 57, 379, 0, 0), (379, .if_icmp .eq (123), 382, 0, 502), (382, .iconst 0, 383, 0, 0), (383, .ireturn, 384, 0, 0), (384, .aload_n 1, 385, 0, 0), (385, .aload_n 0, 386, 0, 0), (386, .iload_n 3, 387, 0, 0), (387, .iconst 1, 388, 1, 0), (388, .iadd, 389, 0, 0), (389, .iaload, 390, 0, 0), (390, .invokevirtual 58, 393, 0, 0), (393, .aload_n 2, 394, 0, 0), (394, .aload_n 0, 395, 0, 0), (395, .iload_n 3, 396, 0, 0), (396, .iconst 1, 397, 1, 0), (397, .iadd, 398, 0, 0), (398, .iaload, 399, 0, 0), (399, .invokevirtual 61, 402, 0, 0), (402, .if_icmp .eq (100), 405, 0, 502), (405, .iconst 0, 406, 0, 0), (406, .ireturn, 407, 0, 0), (407, .aload_n 1, 408, 0, 0), (408, .aload_n 0, 409, 0, 0), (409, .iload_n 3, 410, 0, 0), (410, .iconst 1, 411, 1, 0), (411, .iadd, 412, 0, 0), (412, .iaload, 413, 0, 0), (413, .invokevirtual 62, 416, 0, 0), (416, .aload_n 2, 417, 0, 0), (417, .aload_n 0, 418, 0, 0), (418, .iload_n 3, 419, 0, 0), (419, .iconst 1, 420, 1, 0), (420, .iadd, 421, 0, 0), (421, .iaload, 422, 0, 0), (422, .invokevirtual 65, 425, 0, 0), (425, .if_icmp .eq (77), 428, 0, 502), (428, .iconst 0, 429, 0, 0), (429, .ireturn, 430, 0, 0), (430, .aload_n 1, 431, 0, 0), (431, .invokevirtual 66, 434, 0, 0), (434, .aload_n 2, 435, 0, 0), (435, .invokevirtual 69, 438, 0, 0), (438, .if_icmp .eq (64), 441, 0, 502), (441, .iconst 0, 442, 0, 0), (442, .ireturn, 443, 0, 0), (443, .aload_n 1, 444, 0, 0), (444, .invokevirtual 70, 447, 0, 0), (447, .aload_n 2, 448, 0, 0), (448, .invokevirtual 73, 451, 0, 0), (451, .if_icmp .eq (51), 454, 0, 502), (454, .iconst 0, 455, 0, 0), (455, .ireturn, 456, 0, 0), (456, .aload_n 1, 457, 0, 0), (457, .aload_n 0, 458, 0, 0), (458, .iload_n 3, 459, 0, 0), (459, .iconst 1, 460, 1, 0), (460, .iadd, 461, 0, 0), (461, .iaload, 462, 0, 0), (462, .invokevirtual 74, 465, 0, 0), (465, .aload_n 2, 466, 0, 0), (466, .aload_n 0, 467, 0, 0), (467, .iload_n 3, 468, 0, 0), (468, .iconst 1, 469, 1, 0), (469, .iadd, 470, 0, 0), (470, .iaload, 471, 0, 0), (471, .invokevirtual 77, 474, 0, 0), (474, .if_icmp .eq (28), 477, 0, 502), (477, .iconst 0, 478, 0, 0), (478, .ireturn, 479, 0, 0), (479, .aload_n 1, 480, 0, 0), (480, .aload_n 0, 481, 0, 0), (481, .iload_n 3, 482, 0, 0), (482, .iconst 1, 483, 1, 0), (483, .iadd, 484, 0, 0), (484, .iaload, 485, 0, 0), (485, .invokevirtual 78, 488, 0, 0), (488, .aload_n 2, 489, 0, 0), (489, .aload_n 0, 490, 0, 0), (490, .iload_n 3, 491, 0, 0), (491, .iconst 1, 492, 1, 0), (492, .iadd, 493, 0, 0), (493, .iaload, 494, 0, 0), (494, .invokevirtual 81, 497, 0, 0), (497, .if_icmp .eq (5), 500, 0, 502), (500, .iconst 0, 501, 0, 0), (501, .ireturn, 502, 0, 0), (502, .iinc 3 (3), 505, 3, 0), (505, .goto (-487), 508, 0, 18), (508, .iconst 1, 509, 1, 0), (509, .ireturn, 510, 0, 0)]
abbrev g_L (n : Nat) (xs : Nat → Int32) : lm_G := (k_L, [], [], 0, 2, some (n, xs))
set_option maxRecDepth 20000 in
theorem ck_L : ∀ pc r, k_L.lookup pc = some r → lm_ck code 4 pc r = true := kk_ck (by decide +kernel)
theorem li_L_13 : kk_li R_L 13 y_D_poke := Or.inl (kk_tm 119 (by decide +kernel) (by decide +kernel))
theorem li_L_17 : kk_li R_L 17 y_R_poke := Or.inl (kk_tm 407 (by decide +kernel) (by decide +kernel))
theorem li_L_18 : kk_li R_L 18 y_D_set := Or.inl (kk_tm 134 (by decide +kernel) (by decide +kernel))
theorem li_L_21 : kk_li R_L 21 y_R_set := Or.inl (kk_tm 414 (by decide +kernel) (by decide +kernel))
theorem li_L_22 : kk_li R_L 22 y_D_feed := Or.inl (kk_tm 143 (by decide +kernel) (by decide +kernel))
theorem li_L_26 : kk_li R_L 26 y_R_feed := Or.inl (kk_tm 418 (by decide +kernel) (by decide +kernel))
theorem li_L_27 : kk_li R_L 27 y_D_run := Or.inl (kk_tm 156 (by decide +kernel) (by decide +kernel))
theorem li_L_31 : kk_li R_L 31 y_R_run := Or.inl (kk_tm 422 (by decide +kernel) (by decide +kernel))
theorem li_L_32 : kk_li R_L 32 y_D_go := Or.inl (kk_tm 293 (by decide +kernel) (by decide +kernel))
theorem li_L_35 : kk_li R_L 35 y_R_go := Or.inl (kk_tm 492 (by decide +kernel) (by decide +kernel))
theorem li_L_36 : kk_li R_L 36 y_D_seek := Or.inl (kk_tm 297 (by decide +kernel) (by decide +kernel))
theorem li_L_40 : kk_li R_L 40 y_R_seek := Or.inl (kk_tm 500 (by decide +kernel) (by decide +kernel))
theorem li_L_41 : kk_li R_L 41 y_D_time := Or.inl (kk_tm 313 (by decide +kernel) (by decide +kernel))
theorem li_L_44 : kk_li R_L 44 y_R_time := Or.inl (kk_tm 504 (by decide +kernel) (by decide +kernel))
theorem li_L_45 : kk_li R_L 45 y_D_last := Or.inl (kk_tm 317 (by decide +kernel) (by decide +kernel))
theorem li_L_48 : kk_li R_L 48 y_R_last := Or.inl (kk_tm 508 (by decide +kernel) (by decide +kernel))
theorem li_L_49 : kk_li R_L 49 y_D_stop := Or.inl (kk_tm 321 (by decide +kernel) (by decide +kernel))
theorem li_L_53 : kk_li R_L 53 y_R_stop := Or.inl (kk_tm 512 (by decide +kernel) (by decide +kernel))
theorem li_L_54 : kk_li R_L 54 y_D_watch := Or.inl (kk_tm 329 (by decide +kernel) (by decide +kernel))
theorem li_L_57 : kk_li R_L 57 y_R_watch := Or.inl (kk_tm 519 (by decide +kernel) (by decide +kernel))
theorem li_L_58 : kk_li R_L 58 y_D_cell := Or.inl (kk_tm 333 (by decide +kernel) (by decide +kernel))
theorem li_L_61 : kk_li R_L 61 y_R_cell := Or.inl (kk_tm 523 (by decide +kernel) (by decide +kernel))
theorem li_L_62 : kk_li R_L 62 y_D_register := Or.inl (kk_tm 337 (by decide +kernel) (by decide +kernel))
theorem li_L_65 : kk_li R_L 65 y_R_register := Or.inl (kk_tm 527 (by decide +kernel) (by decide +kernel))
theorem li_L_66 : kk_li R_L 66 y_D_waiting := Or.inl (kk_tm 341 (by decide +kernel) (by decide +kernel))
theorem li_L_69 : kk_li R_L 69 y_R_waiting := Or.inl (kk_tm 531 (by decide +kernel) (by decide +kernel))
theorem li_L_70 : kk_li R_L 70 y_D_puts := Or.inl (kk_tm 345 (by decide +kernel) (by decide +kernel))
theorem li_L_73 : kk_li R_L 73 y_R_puts := Or.inl (kk_tm 535 (by decide +kernel) (by decide +kernel))
theorem li_L_74 : kk_li R_L 74 y_D_output := Or.inl (kk_tm 349 (by decide +kernel) (by decide +kernel))
theorem li_L_77 : kk_li R_L 77 y_R_output := Or.inl (kk_tm 539 (by decide +kernel) (by decide +kernel))
theorem li_L_78 : kk_li R_L 78 y_D_wrote := Or.inl (kk_tm 357 (by decide +kernel) (by decide +kernel))
theorem li_L_81 : kk_li R_L 81 y_R_wrote := Or.inl (kk_tm 543 (by decide +kernel) (by decide +kernel))
abbrev ca_V (sp : Nat → lm_Sp) : lm_Ca := [(13, 2, (some 0), sp 13), (17, 2, (some 4), sp 17), (18, 2, (some 0), sp 18), (21, 2, (some 4), sp 21), (22, 1, (some 0), sp 22), (26, 1, (some 4), sp 26), (27, 1, (some 0), sp 27), (31, 1, (some 4), sp 31), (32, 1, (some 0), sp 32), (35, 1, (some 4), sp 35), (36, 0, (some 0), sp 36), (40, 0, (some 4), sp 40), (41, 0, (some 0), sp 41), (44, 0, (some 4), sp 44), (45, 0, (some 0), sp 45), (48, 0, (some 4), sp 48), (49, 2, (some 0), sp 49), (53, 2, (some 4), sp 53), (54, 2, (some 0), sp 54), (57, 2, (some 4), sp 57), (58, 1, (some 0), sp 58), (61, 1, (some 4), sp 61), (62, 1, (some 0), sp 62), (65, 1, (some 4), sp 65), (66, 0, (some 0), sp 66), (69, 0, (some 4), sp 69), (70, 0, (some 0), sp 70), (73, 0, (some 4), sp 73), (74, 1, (some 0), sp 74), (77, 1, (some 4), sp 77), (78, 1, (some 0), sp 78), (81, 1, (some 4), sp 81)]
def sp_L : Nat → lm_Sp := fun k => match k with
  | 13 => s_D_poke
  | 17 => s_R_poke
  | 18 => s_D_set
  | 21 => s_R_set
  | 22 => s_D_feed
  | 26 => s_R_feed
  | 27 => s_D_run
  | 31 => s_R_run
  | 32 => s_D_go
  | 35 => s_R_go
  | 36 => s_D_seek
  | 40 => s_R_seek
  | 41 => s_D_time
  | 44 => s_R_time
  | 45 => s_D_last
  | 48 => s_R_last
  | 49 => s_D_stop
  | 53 => s_R_stop
  | 54 => s_D_watch
  | 57 => s_R_watch
  | 58 => s_D_cell
  | 61 => s_R_cell
  | 62 => s_D_register
  | 65 => s_R_register
  | 66 => s_D_waiting
  | 69 => s_R_waiting
  | 70 => s_D_puts
  | 73 => s_R_puts
  | 74 => s_D_output
  | 77 => s_R_output
  | 78 => s_D_wrote
  | _ => s_R_wrote
abbrev ca_L : lm_Ca := ca_V sp_L
theorem cok_L (l : Launch) : lm_cok l (kk_Y kk_shF) R_L 9 326 ca_L := kk_cok (kk_cons ⟨y_D_poke, b_D_poke, 3, some .boolean, 4, 88, I_D_poke l, ⟨by decide, by decide⟩, yw_D_poke, li_L_13⟩ <| kk_cons ⟨y_R_poke, b_R_poke, 3, some .boolean, 1, 21, I_R_poke l, ⟨by decide, by decide⟩, yw_R_poke, li_L_17⟩ <| kk_cons ⟨y_D_set, b_D_set, 3, some .boolean, 4, 88, I_D_set l, ⟨by decide, by decide⟩, yw_D_set, li_L_18⟩ <| kk_cons ⟨y_R_set, b_R_set, 3, some .boolean, 1, 21, I_R_set l, ⟨by decide, by decide⟩, yw_R_set, li_L_21⟩ <| kk_cons ⟨y_D_feed, b_D_feed, 2, some .boolean, 4, 88, I_D_feed l, ⟨by decide, by decide⟩, yw_D_feed, li_L_22⟩ <| kk_cons ⟨y_R_feed, b_R_feed, 2, some .boolean, 1, 21, I_R_feed l, ⟨by decide, by decide⟩, yw_R_feed, li_L_26⟩ <| kk_cons ⟨y_D_run, b_D_run, 4, some .int, 6, 137, I_D_run l, ⟨by decide, by decide⟩, yw_D_run, li_L_27⟩ <| kk_cons ⟨y_R_run, b_R_run, 5, some .int, 5, 117, I_R_run l, ⟨by decide, by decide⟩, yw_R_run, li_L_31⟩ <| kk_cons ⟨y_D_go, b_D_go, 2, some .boolean, 3, 67, I_D_go l, ⟨by decide, by decide⟩, yw_D_go, li_L_32⟩ <| kk_cons ⟨y_R_go, b_R_go, 2, some .boolean, 6, 139, I_R_go l, ⟨by decide, by decide⟩, yw_R_go, li_L_35⟩ <| kk_cons ⟨y_D_seek, b_D_seek, 2, some .int, 3, 67, I_D_seek l, ⟨by decide, by decide⟩, yw_D_seek, li_L_36⟩ <| kk_cons ⟨y_R_seek, b_R_seek, 5, some .int, 6, 139, I_R_seek l, ⟨by decide, by decide⟩, yw_R_seek, li_L_40⟩ <| kk_cons ⟨y_D_time, b_D_time, 1, some .int, 0, 0, I_D_time l, ⟨by decide, by decide⟩, yw_D_time, li_L_41⟩ <| kk_cons ⟨y_R_time, b_R_time, 1, some .int, 0, 0, I_R_time l, ⟨by decide, by decide⟩, yw_R_time, li_L_44⟩ <| kk_cons ⟨y_D_last, b_D_last, 1, some .int, 0, 0, I_D_last l, ⟨by decide, by decide⟩, yw_D_last, li_L_45⟩ <| kk_cons ⟨y_R_last, b_R_last, 1, some .int, 0, 0, I_R_last l, ⟨by decide, by decide⟩, yw_R_last, li_L_48⟩ <| kk_cons ⟨y_D_stop, b_D_stop, 3, some .boolean, 2, 42, I_D_stop l, ⟨by decide, by decide⟩, yw_D_stop, li_L_49⟩ <| kk_cons ⟨y_R_stop, b_R_stop, 4, some .boolean, 2, 49, I_R_stop l, ⟨by decide, by decide⟩, yw_R_stop, li_L_53⟩ <| kk_cons ⟨y_D_watch, b_D_watch, 3, some .boolean, 2, 42, I_D_watch l, ⟨by decide, by decide⟩, yw_D_watch, li_L_54⟩ <| kk_cons ⟨y_R_watch, b_R_watch, 4, some .boolean, 2, 49, I_R_watch l, ⟨by decide, by decide⟩, yw_R_watch, li_L_57⟩ <| kk_cons ⟨y_D_cell, b_D_cell, 2, some .int, 1, 20, I_D_cell l, ⟨by decide, by decide⟩, yw_D_cell, li_L_58⟩ <| kk_cons ⟨y_R_cell, b_R_cell, 2, some .int, 1, 21, I_R_cell l, ⟨by decide, by decide⟩, yw_R_cell, li_L_61⟩ <| kk_cons ⟨y_D_register, b_D_register, 2, some .int, 1, 20, I_D_register l, ⟨by decide, by decide⟩, yw_D_register, li_L_62⟩ <| kk_cons ⟨y_R_register, b_R_register, 2, some .int, 1, 21, I_R_register l, ⟨by decide, by decide⟩, yw_R_register, li_L_65⟩ <| kk_cons ⟨y_D_waiting, b_D_waiting, 1, some .int, 1, 20, I_D_waiting l, ⟨by decide, by decide⟩, yw_D_waiting, li_L_66⟩ <| kk_cons ⟨y_R_waiting, b_R_waiting, 1, some .int, 0, 0, I_R_waiting l, ⟨by decide, by decide⟩, yw_R_waiting, li_L_69⟩ <| kk_cons ⟨y_D_puts, b_D_puts, 1, some .int, 0, 0, I_D_puts l, ⟨by decide, by decide⟩, yw_D_puts, li_L_70⟩ <| kk_cons ⟨y_R_puts, b_R_puts, 1, some .int, 0, 0, I_R_puts l, ⟨by decide, by decide⟩, yw_R_puts, li_L_73⟩ <| kk_cons ⟨y_D_output, b_D_output, 2, some .int, 1, 21, I_D_output l, ⟨by decide, by decide⟩, yw_D_output, li_L_74⟩ <| kk_cons ⟨y_R_output, b_R_output, 2, some .int, 1, 21, I_R_output l, ⟨by decide, by decide⟩, yw_R_output, li_L_77⟩ <| kk_cons ⟨y_D_wrote, b_D_wrote, 2, some .int, 2, 44, I_D_wrote l, ⟨by decide, by decide⟩, yw_D_wrote, li_L_78⟩ <| kk_cons ⟨y_R_wrote, b_R_wrote, 4, some .int, 6, 139, I_R_wrote l, ⟨by decide, by decide⟩, yw_R_wrote, li_L_81⟩ <| kk_nil)
abbrev L_L (i : Nat) : lm_L := [(0, .ref 999), (1, .ref 0), (2, .ref 16), (3, .int (nI i))]
abbrev po_L : Option Value → lm_S → Prop := fun r _ => r = some (.int 1)
set_option maxHeartbeats 1000000 in
set_option maxRecDepth 20000 in
theorem lc_poke {L : Nat} {xs : Nat → Int32} {q i : Nat} {S : lm_S} {sp : Nat → lm_Sp} (h : jc (sp 13) (sp 17) [.ref 0, .int (xs (nI i + 1).toNatClampNeg), .int (xs (nI i + 2).toNatClampNeg)] [.ref 16, .int (xs (nI i + 1).toNatClampNeg), .int (xs (nI i + 2).toNatClampNeg)] q S) (hv1 : vp_in (nI i + 1) L) (hv2 : vp_in (nI i + 2) L) (hk : ∀ F, IV (q + 1) F → lm_Go YF (g_L L xs) (ca_V sp) po_L 502 (L_L i) [] F) : lm_Go YF (g_L L xs) (ca_V sp) po_L 112 (L_L i) [] S := by
  obtain ⟨x, D, F, g1, g2, g3, -, -⟩ := h
  refine lm_to 502 60 ?_
  conv => whnf
  refine And.intro hv1 ?_
  conv => whnf
  refine And.intro hv2 ?_
  conv => whnf
  refine g1 _ ?_
  conv => whnf
  refine And.intro hv1 ?_
  conv => whnf
  refine And.intro hv2 ?_
  conv => whnf
  refine g2 _ ?_
  conv => whnf
  refine ⟨fun _ => ?_, fun z => absurd rfl z⟩
  exact lm_Go.sub (hk F g3) (kk_cons rfl (kk_cons rfl (kk_cons rfl (kk_cons rfl kk_nil))))
set_option maxHeartbeats 1000000 in
set_option maxRecDepth 20000 in
theorem lc_set {L : Nat} {xs : Nat → Int32} {q i : Nat} {S : lm_S} {sp : Nat → lm_Sp} (h : jc (sp 18) (sp 21) [.ref 0, .int (xs (nI i + 1).toNatClampNeg), .int (xs (nI i + 2).toNatClampNeg)] [.ref 16, .int (xs (nI i + 1).toNatClampNeg), .int (xs (nI i + 2).toNatClampNeg)] q S) (hv1 : vp_in (nI i + 1) L) (hv2 : vp_in (nI i + 2) L) (hk : ∀ F, IV (q + 1) F → lm_Go YF (g_L L xs) (ca_V sp) po_L 502 (L_L i) [] F) : lm_Go YF (g_L L xs) (ca_V sp) po_L 145 (L_L i) [] S := by
  obtain ⟨x, D, F, g1, g2, g3, -, -⟩ := h
  refine lm_to 502 60 ?_
  conv => whnf
  refine And.intro hv1 ?_
  conv => whnf
  refine And.intro hv2 ?_
  conv => whnf
  refine g1 _ ?_
  conv => whnf
  refine And.intro hv1 ?_
  conv => whnf
  refine And.intro hv2 ?_
  conv => whnf
  refine g2 _ ?_
  conv => whnf
  refine ⟨fun _ => ?_, fun z => absurd rfl z⟩
  exact lm_Go.sub (hk F g3) (kk_cons rfl (kk_cons rfl (kk_cons rfl (kk_cons rfl kk_nil))))
set_option maxHeartbeats 1000000 in
set_option maxRecDepth 20000 in
theorem lc_feed {L : Nat} {xs : Nat → Int32} {q i : Nat} {S : lm_S} {sp : Nat → lm_Sp} (h : jc (sp 22) (sp 26) [.ref 0, .int (xs (nI i + 1).toNatClampNeg)] [.ref 16, .int (xs (nI i + 1).toNatClampNeg)] q S) (hv1 : vp_in (nI i + 1) L) (hv2 : vp_in (nI i + 2) L) (hk : ∀ F, IV (q + 1) F → lm_Go YF (g_L L xs) (ca_V sp) po_L 502 (L_L i) [] F) : lm_Go YF (g_L L xs) (ca_V sp) po_L 178 (L_L i) [] S := by
  obtain ⟨x, D, F, g1, g2, g3, -, -⟩ := h
  refine lm_to 502 60 ?_
  conv => whnf
  refine And.intro hv1 ?_
  conv => whnf
  refine g1 _ ?_
  conv => whnf
  refine And.intro hv1 ?_
  conv => whnf
  refine g2 _ ?_
  conv => whnf
  refine ⟨fun _ => ?_, fun z => absurd rfl z⟩
  exact lm_Go.sub (hk F g3) (kk_cons rfl (kk_cons rfl (kk_cons rfl (kk_cons rfl kk_nil))))
set_option maxHeartbeats 1000000 in
set_option maxRecDepth 20000 in
theorem lc_run {L : Nat} {xs : Nat → Int32} {q i : Nat} {S : lm_S} {sp : Nat → lm_Sp} (h : jc (sp 27) (sp 31) [.ref 0, .int (xs (nI i + 1).toNatClampNeg)] [.ref 16, .int (xs (nI i + 1).toNatClampNeg)] q S) (hv1 : vp_in (nI i + 1) L) (hv2 : vp_in (nI i + 2) L) (hk : ∀ F, IV (q + 1) F → lm_Go YF (g_L L xs) (ca_V sp) po_L 502 (L_L i) [] F) : lm_Go YF (g_L L xs) (ca_V sp) po_L 201 (L_L i) [] S := by
  obtain ⟨x, D, F, g1, g2, g3, -, -⟩ := h
  refine lm_to 502 60 ?_
  conv => whnf
  refine And.intro hv1 ?_
  conv => whnf
  refine g1 _ ?_
  conv => whnf
  refine And.intro hv1 ?_
  conv => whnf
  refine g2 _ ?_
  conv => whnf
  refine ⟨fun _ => ?_, fun z => absurd rfl z⟩
  exact lm_Go.sub (hk F g3) (kk_cons rfl (kk_cons rfl (kk_cons rfl (kk_cons rfl kk_nil))))
set_option maxHeartbeats 1000000 in
set_option maxRecDepth 20000 in
theorem lc_go {L : Nat} {xs : Nat → Int32} {q i : Nat} {S : lm_S} {sp : Nat → lm_Sp} (h : jc (sp 32) (sp 35) [.ref 0, .int (xs (nI i + 1).toNatClampNeg)] [.ref 16, .int (xs (nI i + 1).toNatClampNeg)] q S) (hv1 : vp_in (nI i + 1) L) (hv2 : vp_in (nI i + 2) L) (hk : ∀ F, IV (q + 1) F → lm_Go YF (g_L L xs) (ca_V sp) po_L 502 (L_L i) [] F) : lm_Go YF (g_L L xs) (ca_V sp) po_L 224 (L_L i) [] S := by
  obtain ⟨x, D, F, g1, g2, g3, -, -⟩ := h
  refine lm_to 502 60 ?_
  conv => whnf
  refine And.intro hv1 ?_
  conv => whnf
  refine g1 _ ?_
  conv => whnf
  refine And.intro hv1 ?_
  conv => whnf
  refine g2 _ ?_
  conv => whnf
  refine ⟨fun _ => ?_, fun z => absurd rfl z⟩
  exact lm_Go.sub (hk F g3) (kk_cons rfl (kk_cons rfl (kk_cons rfl (kk_cons rfl kk_nil))))
set_option maxHeartbeats 1000000 in
set_option maxRecDepth 20000 in
theorem lc_seek {L : Nat} {xs : Nat → Int32} {q i : Nat} {S : lm_S} {sp : Nat → lm_Sp} (h : jc (sp 36) (sp 40) [.ref 0] [.ref 16] q S) (hv1 : vp_in (nI i + 1) L) (hv2 : vp_in (nI i + 2) L) (hk : ∀ F, IV (q + 1) F → lm_Go YF (g_L L xs) (ca_V sp) po_L 502 (L_L i) [] F) : lm_Go YF (g_L L xs) (ca_V sp) po_L 247 (L_L i) [] S := by
  obtain ⟨x, D, F, g1, g2, g3, -, -⟩ := h
  refine lm_to 502 60 ?_
  conv => whnf
  refine g1 _ ?_
  conv => whnf
  refine g2 _ ?_
  conv => whnf
  refine ⟨fun _ => ?_, fun z => absurd rfl z⟩
  exact lm_Go.sub (hk F g3) (kk_cons rfl (kk_cons rfl (kk_cons rfl (kk_cons rfl kk_nil))))
set_option maxHeartbeats 1000000 in
set_option maxRecDepth 20000 in
theorem lc_time {L : Nat} {xs : Nat → Int32} {q i : Nat} {S : lm_S} {sp : Nat → lm_Sp} (h : jc (sp 41) (sp 44) [.ref 0] [.ref 16] q S) (hv1 : vp_in (nI i + 1) L) (hv2 : vp_in (nI i + 2) L) (hk : ∀ F, IV (q + 1) F → lm_Go YF (g_L L xs) (ca_V sp) po_L 502 (L_L i) [] F) : lm_Go YF (g_L L xs) (ca_V sp) po_L 260 (L_L i) [] S := by
  obtain ⟨x, D, F, g1, g2, g3, -, -⟩ := h
  refine lm_to 502 60 ?_
  conv => whnf
  refine g1 _ ?_
  conv => whnf
  refine g2 _ ?_
  conv => whnf
  refine ⟨fun _ => ?_, fun z => absurd rfl z⟩
  exact lm_Go.sub (hk F g3) (kk_cons rfl (kk_cons rfl (kk_cons rfl (kk_cons rfl kk_nil))))
set_option maxHeartbeats 1000000 in
set_option maxRecDepth 20000 in
theorem lc_last {L : Nat} {xs : Nat → Int32} {q i : Nat} {S : lm_S} {sp : Nat → lm_Sp} (h : jc (sp 45) (sp 48) [.ref 0] [.ref 16] q S) (hv1 : vp_in (nI i + 1) L) (hv2 : vp_in (nI i + 2) L) (hk : ∀ F, IV (q + 1) F → lm_Go YF (g_L L xs) (ca_V sp) po_L 502 (L_L i) [] F) : lm_Go YF (g_L L xs) (ca_V sp) po_L 273 (L_L i) [] S := by
  obtain ⟨x, D, F, g1, g2, g3, -, -⟩ := h
  refine lm_to 502 60 ?_
  conv => whnf
  refine g1 _ ?_
  conv => whnf
  refine g2 _ ?_
  conv => whnf
  refine ⟨fun _ => ?_, fun z => absurd rfl z⟩
  exact lm_Go.sub (hk F g3) (kk_cons rfl (kk_cons rfl (kk_cons rfl (kk_cons rfl kk_nil))))
set_option maxHeartbeats 1000000 in
set_option maxRecDepth 20000 in
theorem lc_stop {L : Nat} {xs : Nat → Int32} {q i : Nat} {S : lm_S} {sp : Nat → lm_Sp} (h : jc (sp 49) (sp 53) [.ref 0, .int (xs (nI i + 1).toNatClampNeg), .int (if (xs (nI i + 2).toNatClampNeg) = 0 then 0 else 1)] [.ref 16, .int (xs (nI i + 1).toNatClampNeg), .int (if (xs (nI i + 2).toNatClampNeg) = 0 then 0 else 1)] q S) (hv1 : vp_in (nI i + 1) L) (hv2 : vp_in (nI i + 2) L) (hk : ∀ F, IV (q + 1) F → lm_Go YF (g_L L xs) (ca_V sp) po_L 502 (L_L i) [] F) : lm_Go YF (g_L L xs) (ca_V sp) po_L 286 (L_L i) [] S := by
  by_cases hz : (xs (nI i + 2).toNatClampNeg) = 0
  · rw [if_pos hz] at h
    obtain ⟨x, D, F, g1, g2, g3, -, -⟩ := h
    refine lm_to 502 60 ?_
    conv => whnf
    refine And.intro hv1 ?_
    conv => whnf
    refine And.intro hv2 ?_
    conv => whnf
    refine ⟨fun _ => ?_, fun z => absurd hz z⟩
    conv => whnf
    refine g1 _ ?_
    conv => whnf
    refine And.intro hv1 ?_
    conv => whnf
    refine And.intro hv2 ?_
    conv => whnf
    refine ⟨fun _ => ?_, fun z => absurd hz z⟩
    conv => whnf
    refine g2 _ ?_
    conv => whnf
    refine ⟨fun _ => ?_, fun z => absurd rfl z⟩
    exact lm_Go.sub (hk F g3) (kk_cons rfl (kk_cons rfl (kk_cons rfl (kk_cons rfl kk_nil))))
  · rw [if_neg hz] at h
    obtain ⟨x, D, F, g1, g2, g3, -, -⟩ := h
    refine lm_to 502 60 ?_
    conv => whnf
    refine And.intro hv1 ?_
    conv => whnf
    refine And.intro hv2 ?_
    conv => whnf
    refine ⟨fun z => absurd z hz, fun _ => ?_⟩
    conv => whnf
    refine g1 _ ?_
    conv => whnf
    refine And.intro hv1 ?_
    conv => whnf
    refine And.intro hv2 ?_
    conv => whnf
    refine ⟨fun z => absurd z hz, fun _ => ?_⟩
    conv => whnf
    refine g2 _ ?_
    conv => whnf
    refine ⟨fun _ => ?_, fun z => absurd rfl z⟩
    exact lm_Go.sub (hk F g3) (kk_cons rfl (kk_cons rfl (kk_cons rfl (kk_cons rfl kk_nil))))
set_option maxHeartbeats 1000000 in
set_option maxRecDepth 20000 in
theorem lc_watch {L : Nat} {xs : Nat → Int32} {q i : Nat} {S : lm_S} {sp : Nat → lm_Sp} (h : jc (sp 54) (sp 57) [.ref 0, .int (xs (nI i + 1).toNatClampNeg), .int (if (xs (nI i + 2).toNatClampNeg) = 0 then 0 else 1)] [.ref 16, .int (xs (nI i + 1).toNatClampNeg), .int (if (xs (nI i + 2).toNatClampNeg) = 0 then 0 else 1)] q S) (hv1 : vp_in (nI i + 1) L) (hv2 : vp_in (nI i + 2) L) (hk : ∀ F, IV (q + 1) F → lm_Go YF (g_L L xs) (ca_V sp) po_L 502 (L_L i) [] F) : lm_Go YF (g_L L xs) (ca_V sp) po_L 335 (L_L i) [] S := by
  by_cases hz : (xs (nI i + 2).toNatClampNeg) = 0
  · rw [if_pos hz] at h
    obtain ⟨x, D, F, g1, g2, g3, -, -⟩ := h
    refine lm_to 502 60 ?_
    conv => whnf
    refine And.intro hv1 ?_
    conv => whnf
    refine And.intro hv2 ?_
    conv => whnf
    refine ⟨fun _ => ?_, fun z => absurd hz z⟩
    conv => whnf
    refine g1 _ ?_
    conv => whnf
    refine And.intro hv1 ?_
    conv => whnf
    refine And.intro hv2 ?_
    conv => whnf
    refine ⟨fun _ => ?_, fun z => absurd hz z⟩
    conv => whnf
    refine g2 _ ?_
    conv => whnf
    refine ⟨fun _ => ?_, fun z => absurd rfl z⟩
    exact lm_Go.sub (hk F g3) (kk_cons rfl (kk_cons rfl (kk_cons rfl (kk_cons rfl kk_nil))))
  · rw [if_neg hz] at h
    obtain ⟨x, D, F, g1, g2, g3, -, -⟩ := h
    refine lm_to 502 60 ?_
    conv => whnf
    refine And.intro hv1 ?_
    conv => whnf
    refine And.intro hv2 ?_
    conv => whnf
    refine ⟨fun z => absurd z hz, fun _ => ?_⟩
    conv => whnf
    refine g1 _ ?_
    conv => whnf
    refine And.intro hv1 ?_
    conv => whnf
    refine And.intro hv2 ?_
    conv => whnf
    refine ⟨fun z => absurd z hz, fun _ => ?_⟩
    conv => whnf
    refine g2 _ ?_
    conv => whnf
    refine ⟨fun _ => ?_, fun z => absurd rfl z⟩
    exact lm_Go.sub (hk F g3) (kk_cons rfl (kk_cons rfl (kk_cons rfl (kk_cons rfl kk_nil))))
set_option maxHeartbeats 1000000 in
set_option maxRecDepth 20000 in
theorem lc_cell {L : Nat} {xs : Nat → Int32} {q i : Nat} {S : lm_S} {sp : Nat → lm_Sp} (h : jc (sp 58) (sp 61) [.ref 0, .int (xs (nI i + 1).toNatClampNeg)] [.ref 16, .int (xs (nI i + 1).toNatClampNeg)] q S) (hv1 : vp_in (nI i + 1) L) (hv2 : vp_in (nI i + 2) L) (hk : ∀ F, IV (q + 1) F → lm_Go YF (g_L L xs) (ca_V sp) po_L 502 (L_L i) [] F) : lm_Go YF (g_L L xs) (ca_V sp) po_L 384 (L_L i) [] S := by
  obtain ⟨x, D, F, g1, g2, g3, -, -⟩ := h
  refine lm_to 502 60 ?_
  conv => whnf
  refine And.intro hv1 ?_
  conv => whnf
  refine g1 _ ?_
  conv => whnf
  refine And.intro hv1 ?_
  conv => whnf
  refine g2 _ ?_
  conv => whnf
  refine ⟨fun _ => ?_, fun z => absurd rfl z⟩
  exact lm_Go.sub (hk F g3) (kk_cons rfl (kk_cons rfl (kk_cons rfl (kk_cons rfl kk_nil))))
set_option maxHeartbeats 1000000 in
set_option maxRecDepth 20000 in
theorem lc_register {L : Nat} {xs : Nat → Int32} {q i : Nat} {S : lm_S} {sp : Nat → lm_Sp} (h : jc (sp 62) (sp 65) [.ref 0, .int (xs (nI i + 1).toNatClampNeg)] [.ref 16, .int (xs (nI i + 1).toNatClampNeg)] q S) (hv1 : vp_in (nI i + 1) L) (hv2 : vp_in (nI i + 2) L) (hk : ∀ F, IV (q + 1) F → lm_Go YF (g_L L xs) (ca_V sp) po_L 502 (L_L i) [] F) : lm_Go YF (g_L L xs) (ca_V sp) po_L 407 (L_L i) [] S := by
  obtain ⟨x, D, F, g1, g2, g3, -, -⟩ := h
  refine lm_to 502 60 ?_
  conv => whnf
  refine And.intro hv1 ?_
  conv => whnf
  refine g1 _ ?_
  conv => whnf
  refine And.intro hv1 ?_
  conv => whnf
  refine g2 _ ?_
  conv => whnf
  refine ⟨fun _ => ?_, fun z => absurd rfl z⟩
  exact lm_Go.sub (hk F g3) (kk_cons rfl (kk_cons rfl (kk_cons rfl (kk_cons rfl kk_nil))))
set_option maxHeartbeats 1000000 in
set_option maxRecDepth 20000 in
theorem lc_waiting {L : Nat} {xs : Nat → Int32} {q i : Nat} {S : lm_S} {sp : Nat → lm_Sp} (h : jc (sp 66) (sp 69) [.ref 0] [.ref 16] q S) (hv1 : vp_in (nI i + 1) L) (hv2 : vp_in (nI i + 2) L) (hk : ∀ F, IV (q + 1) F → lm_Go YF (g_L L xs) (ca_V sp) po_L 502 (L_L i) [] F) : lm_Go YF (g_L L xs) (ca_V sp) po_L 430 (L_L i) [] S := by
  obtain ⟨x, D, F, g1, g2, g3, -, -⟩ := h
  refine lm_to 502 60 ?_
  conv => whnf
  refine g1 _ ?_
  conv => whnf
  refine g2 _ ?_
  conv => whnf
  refine ⟨fun _ => ?_, fun z => absurd rfl z⟩
  exact lm_Go.sub (hk F g3) (kk_cons rfl (kk_cons rfl (kk_cons rfl (kk_cons rfl kk_nil))))
set_option maxHeartbeats 1000000 in
set_option maxRecDepth 20000 in
theorem lc_puts {L : Nat} {xs : Nat → Int32} {q i : Nat} {S : lm_S} {sp : Nat → lm_Sp} (h : jc (sp 70) (sp 73) [.ref 0] [.ref 16] q S) (hv1 : vp_in (nI i + 1) L) (hv2 : vp_in (nI i + 2) L) (hk : ∀ F, IV (q + 1) F → lm_Go YF (g_L L xs) (ca_V sp) po_L 502 (L_L i) [] F) : lm_Go YF (g_L L xs) (ca_V sp) po_L 443 (L_L i) [] S := by
  obtain ⟨x, D, F, g1, g2, g3, -, -⟩ := h
  refine lm_to 502 60 ?_
  conv => whnf
  refine g1 _ ?_
  conv => whnf
  refine g2 _ ?_
  conv => whnf
  refine ⟨fun _ => ?_, fun z => absurd rfl z⟩
  exact lm_Go.sub (hk F g3) (kk_cons rfl (kk_cons rfl (kk_cons rfl (kk_cons rfl kk_nil))))
set_option maxHeartbeats 1000000 in
set_option maxRecDepth 20000 in
theorem lc_output {L : Nat} {xs : Nat → Int32} {q i : Nat} {S : lm_S} {sp : Nat → lm_Sp} (h : jc (sp 74) (sp 77) [.ref 0, .int (xs (nI i + 1).toNatClampNeg)] [.ref 16, .int (xs (nI i + 1).toNatClampNeg)] q S) (hv1 : vp_in (nI i + 1) L) (hv2 : vp_in (nI i + 2) L) (hk : ∀ F, IV (q + 1) F → lm_Go YF (g_L L xs) (ca_V sp) po_L 502 (L_L i) [] F) : lm_Go YF (g_L L xs) (ca_V sp) po_L 456 (L_L i) [] S := by
  obtain ⟨x, D, F, g1, g2, g3, -, -⟩ := h
  refine lm_to 502 60 ?_
  conv => whnf
  refine And.intro hv1 ?_
  conv => whnf
  refine g1 _ ?_
  conv => whnf
  refine And.intro hv1 ?_
  conv => whnf
  refine g2 _ ?_
  conv => whnf
  refine ⟨fun _ => ?_, fun z => absurd rfl z⟩
  exact lm_Go.sub (hk F g3) (kk_cons rfl (kk_cons rfl (kk_cons rfl (kk_cons rfl kk_nil))))
set_option maxHeartbeats 1000000 in
set_option maxRecDepth 20000 in
theorem lc_wrote {L : Nat} {xs : Nat → Int32} {q i : Nat} {S : lm_S} {sp : Nat → lm_Sp} (h : jc (sp 78) (sp 81) [.ref 0, .int (xs (nI i + 1).toNatClampNeg)] [.ref 16, .int (xs (nI i + 1).toNatClampNeg)] q S) (hv1 : vp_in (nI i + 1) L) (hv2 : vp_in (nI i + 2) L) (hk : ∀ F, IV (q + 1) F → lm_Go YF (g_L L xs) (ca_V sp) po_L 502 (L_L i) [] F) : lm_Go YF (g_L L xs) (ca_V sp) po_L 479 (L_L i) [] S := by
  obtain ⟨x, D, F, g1, g2, g3, -, -⟩ := h
  refine lm_to 502 60 ?_
  conv => whnf
  refine And.intro hv1 ?_
  conv => whnf
  refine g1 _ ?_
  conv => whnf
  refine And.intro hv1 ?_
  conv => whnf
  refine g2 _ ?_
  conv => whnf
  refine ⟨fun _ => ?_, fun z => absurd rfl z⟩
  exact lm_Go.sub (hk F g3) (kk_cons rfl (kk_cons rfl (kk_cons rfl (kk_cons rfl kk_nil))))
