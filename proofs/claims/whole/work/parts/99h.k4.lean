theorem zall_app {α : Type} {p : α → Bool} {a b : List α} (ha : a.all p = true) (hb : b.all p = true) : (a ++ b).all p = true := by rw [List.all_append, ha, hb]; rfl
def tX7_init_0 : List (Nat × List (Nat × zI)) := [(19, [(0, .aload_n 0, 1, 0), (1, .invokespecial 1, 4, 0), (4, .aload_n 0, 5, 0), (5, .iconst 4, 6, 0), (6, .newarray .int, 8, 0), (8, .putfield 7, 11, 0), (11, .aload_n 0, 12, 0), (12, .iconst 4, 13, 0), (13, .newarray .int, 15, 0), (15, .putfield 13, 18, 0), (18, .aload_n 0, 19, 0), (19, .iconst 4, 20, 0)]),
  (41, [(20, .newarray .int, 22, 0), (22, .putfield 16, 25, 0), (25, .aload_n 0, 26, 0), (26, .bipush 8, 28, 0), (28, .newarray .int, 30, 0), (30, .putfield 19, 33, 0), (33, .aload_n 0, 34, 0), (34, .iconst 2, 35, 0), (35, .newarray .int, 37, 0), (37, .putfield 22, 40, 0), (40, .aload_n 0, 41, 0), (41, .iconst 3, 42, 0)]),
  (59, [(42, .putfield 25, 45, 0), (45, .aload_n 0, 46, 0), (46, .bipush 30, 48, 0), (48, .newarray .int, 50, 0), (50, .dup, 51, 0), (51, .iconst 0, 52, 0), (52, .bipush 20, 54, 0), (54, .iastore, 55, 0), (55, .dup, 56, 0), (56, .iconst 1, 57, 0), (57, .bipush 20, 59, 0), (59, .iastore, 60, 0)]),
  (74, [(60, .dup, 61, 0), (61, .iconst 2, 62, 0), (62, .bipush 20, 64, 0), (64, .iastore, 65, 0), (65, .dup, 66, 0), (66, .iconst 3, 67, 0), (67, .bipush 20, 69, 0), (69, .iastore, 70, 0), (70, .dup, 71, 0), (71, .iconst 4, 72, 0), (72, .bipush 20, 74, 0), (74, .iastore, 75, 0)])]
theorem tX7_init_0_ok : tX7_init_0.all (fun q => q.2.all (fun r => zgd cX7_init 2 r.1 r.2)) = true := by decide +kernel
def tX7_init_1 : List (Nat × List (Nat × zI)) := [(91, [(75, .dup, 76, 0), (76, .iconst 5, 77, 0), (77, .bipush 20, 79, 0), (79, .iastore, 80, 0), (80, .dup, 81, 0), (81, .bipush 6, 83, 0), (83, .bipush 20, 85, 0), (85, .iastore, 86, 0), (86, .dup, 87, 0), (87, .bipush 7, 89, 0), (89, .bipush 20, 91, 0), (91, .iastore, 92, 0)]),
  (109, [(92, .dup, 93, 0), (93, .bipush 8, 95, 0), (95, .bipush 20, 97, 0), (97, .iastore, 98, 0), (98, .dup, 99, 0), (99, .bipush 9, 101, 0), (101, .bipush 20, 103, 0), (103, .iastore, 104, 0), (104, .dup, 105, 0), (105, .bipush 10, 107, 0), (107, .bipush 20, 109, 0), (109, .iastore, 110, 0)]),
  (127, [(110, .dup, 111, 0), (111, .bipush 11, 113, 0), (113, .bipush 20, 115, 0), (115, .iastore, 116, 0), (116, .dup, 117, 0), (117, .bipush 12, 119, 0), (119, .bipush 20, 121, 0), (121, .iastore, 122, 0), (122, .dup, 123, 0), (123, .bipush 13, 125, 0), (125, .bipush 20, 127, 0), (127, .iastore, 128, 0)]),
  (145, [(128, .dup, 129, 0), (129, .bipush 14, 131, 0), (131, .bipush 20, 133, 0), (133, .iastore, 134, 0), (134, .dup, 135, 0), (135, .bipush 15, 137, 0), (137, .bipush 20, 139, 0), (139, .iastore, 140, 0), (140, .dup, 141, 0), (141, .bipush 16, 143, 0), (143, .bipush 20, 145, 0), (145, .iastore, 146, 0)])]
theorem tX7_init_1_ok : tX7_init_1.all (fun q => q.2.all (fun r => zgd cX7_init 2 r.1 r.2)) = true := by decide +kernel
def tX7_init_2 : List (Nat × List (Nat × zI)) := [(163, [(146, .dup, 147, 0), (147, .bipush 17, 149, 0), (149, .bipush 20, 151, 0), (151, .iastore, 152, 0), (152, .dup, 153, 0), (153, .bipush 18, 155, 0), (155, .bipush 20, 157, 0), (157, .iastore, 158, 0), (158, .dup, 159, 0), (159, .bipush 19, 161, 0), (161, .bipush 20, 163, 0), (163, .iastore, 164, 0)]),
  (181, [(164, .dup, 165, 0), (165, .bipush 20, 167, 0), (167, .bipush 20, 169, 0), (169, .iastore, 170, 0), (170, .dup, 171, 0), (171, .bipush 21, 173, 0), (173, .bipush 20, 175, 0), (175, .iastore, 176, 0), (176, .dup, 177, 0), (177, .bipush 22, 179, 0), (179, .bipush 20, 181, 0), (181, .iastore, 182, 0)]),
  (199, [(182, .dup, 183, 0), (183, .bipush 23, 185, 0), (185, .bipush 20, 187, 0), (187, .iastore, 188, 0), (188, .dup, 189, 0), (189, .bipush 24, 191, 0), (191, .bipush 20, 193, 0), (193, .iastore, 194, 0), (194, .dup, 195, 0), (195, .bipush 25, 197, 0), (197, .bipush 20, 199, 0), (199, .iastore, 200, 0)]),
  (217, [(200, .dup, 201, 0), (201, .bipush 26, 203, 0), (203, .bipush 20, 205, 0), (205, .iastore, 206, 0), (206, .dup, 207, 0), (207, .bipush 27, 209, 0), (209, .bipush 20, 211, 0), (211, .iastore, 212, 0), (212, .dup, 213, 0), (213, .bipush 28, 215, 0), (215, .bipush 20, 217, 0), (217, .iastore, 218, 0)])]
theorem tX7_init_2_ok : tX7_init_2.all (fun q => q.2.all (fun r => zgd cX7_init 2 r.1 r.2)) = true := by decide +kernel
def tX7_init_3 : List (Nat × List (Nat × zI)) := [(238, [(218, .dup, 219, 0), (219, .bipush 29, 221, 0), (221, .bipush 20, 223, 0), (223, .iastore, 224, 0), (224, .putfield 29, 227, 0), (227, .aload_n 0, 228, 0), (228, .bipush 8, 230, 0), (230, .newarray .int, 232, 0), (232, .putfield 32, 235, 0), (235, .aload_n 0, 236, 0), (236, .bipush 8, 238, 0), (238, .newarray .int, 240, 0)]),
  (260, [(240, .putfield 35, 243, 0), (243, .aload_n 0, 244, 0), (244, .iconst 1, 245, 0), (245, .putfield 38, 248, 0), (248, .aload_n 0, 249, 0), (249, .bipush 30, 251, 0), (251, .putfield 41, 254, 0), (254, .aload_n 0, 255, 0), (255, .iconst 2, 256, 0), (256, .putfield 44, 259, 0), (259, .aload_n 0, 260, 0), (260, .sipush 160, 263, 0)]),
  (286, [(263, .newarray .int, 265, 0), (265, .putfield 47, 268, 0), (268, .aload_n 0, 269, 0), (269, .sipush 1200, 272, 0), (272, .newarray .int, 274, 0), (274, .putfield 50, 277, 0), (277, .aload_n 0, 278, 0), (278, .bipush 24, 280, 0), (280, .newarray .int, 282, 0), (282, .putfield 53, 285, 0), (285, .aload_n 0, 286, 0), (286, .bipush 72, 288, 0)]),
  (303, [(288, .newarray .int, 290, 0), (290, .putfield 56, 293, 0), (293, .aload_n 0, 294, 0), (294, .iconst 4, 295, 0), (295, .newarray .int, 297, 0), (297, .dup, 298, 0), (298, .iconst 0, 299, 0), (299, .iconst (-1), 300, 0), (300, .iastore, 301, 0), (301, .dup, 302, 0), (302, .iconst 1, 303, 0), (303, .iconst (-1), 304, 0)])]
theorem tX7_init_3_ok : tX7_init_3.all (fun q => q.2.all (fun r => zgd cX7_init 2 r.1 r.2)) = true := by decide +kernel
def tX7_init_4 : List (Nat × List (Nat × zI)) := [(317, [(304, .iastore, 305, 0), (305, .dup, 306, 0), (306, .iconst 2, 307, 0), (307, .iconst (-1), 308, 0), (308, .iastore, 309, 0), (309, .dup, 310, 0), (310, .iconst 3, 311, 0), (311, .iconst (-1), 312, 0), (312, .iastore, 313, 0), (313, .putfield 59, 316, 0), (316, .aload_n 0, 317, 0), (317, .iconst 4, 318, 0)]),
  (339, [(318, .newarray .int, 320, 0), (320, .putfield 62, 323, 0), (323, .aload_n 0, 324, 0), (324, .sipush 160, 327, 0), (327, .newarray .int, 329, 0), (329, .putfield 65, 332, 0), (332, .aload_n 0, 333, 0), (333, .bipush 43, 335, 0), (335, .newarray .int, 337, 0), (337, .dup, 338, 0), (338, .iconst 0, 339, 0), (339, .bipush 100, 341, 0)]),
  (354, [(341, .iastore, 342, 0), (342, .dup, 343, 0), (343, .iconst 1, 344, 0), (344, .bipush 114, 346, 0), (346, .iastore, 347, 0), (347, .dup, 348, 0), (348, .iconst 2, 349, 0), (349, .bipush 97, 351, 0), (351, .iastore, 352, 0), (352, .dup, 353, 0), (353, .iconst 3, 354, 0), (354, .bipush 103, 356, 0)]),
  (370, [(356, .iastore, 357, 0), (357, .dup, 358, 0), (358, .iconst 4, 359, 0), (359, .bipush 115, 361, 0), (361, .iastore, 362, 0), (362, .dup, 363, 0), (363, .iconst 5, 364, 0), (364, .bipush 32, 366, 0), (366, .iastore, 367, 0), (367, .dup, 368, 0), (368, .bipush 6, 370, 0), (370, .bipush 50, 372, 0)])]
theorem tX7_init_4_ok : tX7_init_4.all (fun q => q.2.all (fun r => zgd cX7_init 2 r.1 r.2)) = true := by decide +kernel
def tX7_init_5 : List (Nat × List (Nat × zI)) := [(388, [(372, .iastore, 373, 0), (373, .dup, 374, 0), (374, .bipush 7, 376, 0), (376, .bipush 32, 378, 0), (378, .iastore, 379, 0), (379, .dup, 380, 0), (380, .bipush 8, 382, 0), (382, .bipush 43, 384, 0), (384, .iastore, 385, 0), (385, .dup, 386, 0), (386, .bipush 9, 388, 0), (388, .bipush 32, 390, 0)]),
  (406, [(390, .iastore, 391, 0), (391, .dup, 392, 0), (392, .bipush 10, 394, 0), (394, .bipush 108, 396, 0), (396, .iastore, 397, 0), (397, .dup, 398, 0), (398, .bipush 11, 400, 0), (400, .bipush 111, 402, 0), (402, .iastore, 403, 0), (403, .dup, 404, 0), (404, .bipush 12, 406, 0), (406, .bipush 97, 408, 0)]),
  (424, [(408, .iastore, 409, 0), (409, .dup, 410, 0), (410, .bipush 13, 412, 0), (412, .bipush 100, 414, 0), (414, .iastore, 415, 0), (415, .dup, 416, 0), (416, .bipush 14, 418, 0), (418, .bipush 32, 420, 0), (420, .iastore, 421, 0), (421, .dup, 422, 0), (422, .bipush 15, 424, 0), (424, .bipush 42, 426, 0)]),
  (442, [(426, .iastore, 427, 0), (427, .dup, 428, 0), (428, .bipush 16, 430, 0), (430, .bipush 32, 432, 0), (432, .iastore, 433, 0), (433, .dup, 434, 0), (434, .bipush 17, 436, 0), (436, .bipush 50, 438, 0), (438, .iastore, 439, 0), (439, .dup, 440, 0), (440, .bipush 18, 442, 0), (442, .bipush 32, 444, 0)])]
theorem tX7_init_5_ok : tX7_init_5.all (fun q => q.2.all (fun r => zgd cX7_init 2 r.1 r.2)) = true := by decide +kernel
def tX7_init_6 : List (Nat × List (Nat × zI)) := [(460, [(444, .iastore, 445, 0), (445, .dup, 446, 0), (446, .bipush 19, 448, 0), (448, .bipush 59, 450, 0), (450, .iastore, 451, 0), (451, .dup, 452, 0), (452, .bipush 20, 454, 0), (454, .bipush 32, 456, 0), (456, .iastore, 457, 0), (457, .dup, 458, 0), (458, .bipush 21, 460, 0), (460, .bipush 104, 462, 0)]),
  (478, [(462, .iastore, 463, 0), (463, .dup, 464, 0), (464, .bipush 22, 466, 0), (466, .bipush 111, 468, 0), (468, .iastore, 469, 0), (469, .dup, 470, 0), (470, .bipush 23, 472, 0), (472, .bipush 108, 474, 0), (474, .iastore, 475, 0), (475, .dup, 476, 0), (476, .bipush 24, 478, 0), (478, .bipush 100, 480, 0)]),
  (496, [(480, .iastore, 481, 0), (481, .dup, 482, 0), (482, .bipush 25, 484, 0), (484, .bipush 115, 486, 0), (486, .iastore, 487, 0), (487, .dup, 488, 0), (488, .bipush 26, 490, 0), (490, .bipush 32, 492, 0), (492, .iastore, 493, 0), (493, .dup, 494, 0), (494, .bipush 27, 496, 0), (496, .bipush 104, 498, 0)]),
  (514, [(498, .iastore, 499, 0), (499, .dup, 500, 0), (500, .bipush 28, 502, 0), (502, .bipush 97, 504, 0), (504, .iastore, 505, 0), (505, .dup, 506, 0), (506, .bipush 29, 508, 0), (508, .bipush 110, 510, 0), (510, .iastore, 511, 0), (511, .dup, 512, 0), (512, .bipush 30, 514, 0), (514, .bipush 100, 516, 0)])]
theorem tX7_init_6_ok : tX7_init_6.all (fun q => q.2.all (fun r => zgd cX7_init 2 r.1 r.2)) = true := by decide +kernel
def tX7_init_7 : List (Nat × List (Nat × zI)) := [(532, [(516, .iastore, 517, 0), (517, .dup, 518, 0), (518, .bipush 31, 520, 0), (520, .bipush 32, 522, 0), (522, .iastore, 523, 0), (523, .dup, 524, 0), (524, .bipush 32, 526, 0), (526, .bipush 59, 528, 0), (528, .iastore, 529, 0), (529, .dup, 530, 0), (530, .bipush 33, 532, 0), (532, .bipush 32, 534, 0)]),
  (550, [(534, .iastore, 535, 0), (535, .dup, 536, 0), (536, .bipush 34, 538, 0), (538, .bipush 98, 540, 0), (540, .iastore, 541, 0), (541, .dup, 542, 0), (542, .bipush 35, 544, 0), (544, .bipush 117, 546, 0), (546, .iastore, 547, 0), (547, .dup, 548, 0), (548, .bipush 36, 550, 0), (550, .bipush 109, 552, 0)]),
  (568, [(552, .iastore, 553, 0), (553, .dup, 554, 0), (554, .bipush 37, 556, 0), (556, .bipush 112, 558, 0), (558, .iastore, 559, 0), (559, .dup, 560, 0), (560, .bipush 38, 562, 0), (562, .bipush 115, 564, 0), (564, .iastore, 565, 0), (565, .dup, 566, 0), (566, .bipush 39, 568, 0), (568, .bipush 32, 570, 0)]),
  (586, [(570, .iastore, 571, 0), (571, .dup, 572, 0), (572, .bipush 40, 574, 0), (574, .bipush 57, 576, 0), (576, .iastore, 577, 0), (577, .dup, 578, 0), (578, .bipush 41, 580, 0), (580, .bipush 32, 582, 0), (582, .iastore, 583, 0), (583, .dup, 584, 0), (584, .bipush 42, 586, 0), (586, .bipush 59, 588, 0)])]
theorem tX7_init_7_ok : tX7_init_7.all (fun q => q.2.all (fun r => zgd cX7_init 2 r.1 r.2)) = true := by decide +kernel
def tX7_init_8 : List (Nat × List (Nat × zI)) := [(604, [(588, .iastore, 589, 0), (589, .putfield 68, 592, 0), (592, .aload_n 0, 593, 0), (593, .bipush 96, 595, 0), (595, .newarray .int, 597, 0), (597, .dup, 598, 0), (598, .iconst 0, 599, 0), (599, .bipush 100, 601, 0), (601, .iastore, 602, 0), (602, .dup, 603, 0), (603, .iconst 1, 604, 0), (604, .bipush 114, 606, 0)]),
  (619, [(606, .iastore, 607, 0), (607, .dup, 608, 0), (608, .iconst 2, 609, 0), (609, .bipush 97, 611, 0), (611, .iastore, 612, 0), (612, .dup, 613, 0), (613, .iconst 3, 614, 0), (614, .bipush 103, 616, 0), (616, .iastore, 617, 0), (617, .dup, 618, 0), (618, .iconst 4, 619, 0), (619, .bipush 115, 621, 0)]),
  (636, [(621, .iastore, 622, 0), (622, .dup, 623, 0), (623, .iconst 5, 624, 0), (624, .bipush 32, 626, 0), (626, .iastore, 627, 0), (627, .dup, 628, 0), (628, .bipush 6, 630, 0), (630, .bipush 32, 632, 0), (632, .iastore, 633, 0), (633, .dup, 634, 0), (634, .bipush 7, 636, 0), (636, .bipush 32, 638, 0)]),
  (654, [(638, .iastore, 639, 0), (639, .dup, 640, 0), (640, .bipush 8, 642, 0), (642, .bipush 104, 644, 0), (644, .iastore, 645, 0), (645, .dup, 646, 0), (646, .bipush 9, 648, 0), (648, .bipush 111, 650, 0), (650, .iastore, 651, 0), (651, .dup, 652, 0), (652, .bipush 10, 654, 0), (654, .bipush 108, 656, 0)])]
theorem tX7_init_8_ok : tX7_init_8.all (fun q => q.2.all (fun r => zgd cX7_init 2 r.1 r.2)) = true := by decide +kernel
def tX7_init_9 : List (Nat × List (Nat × zI)) := [(672, [(656, .iastore, 657, 0), (657, .dup, 658, 0), (658, .bipush 11, 660, 0), (660, .bipush 100, 662, 0), (662, .iastore, 663, 0), (663, .dup, 664, 0), (664, .bipush 12, 666, 0), (666, .bipush 115, 668, 0), (668, .iastore, 669, 0), (669, .dup, 670, 0), (670, .bipush 13, 672, 0), (672, .bipush 32, 674, 0)]),
  (690, [(674, .iastore, 675, 0), (675, .dup, 676, 0), (676, .bipush 14, 678, 0), (678, .bipush 32, 680, 0), (680, .iastore, 681, 0), (681, .dup, 682, 0), (682, .bipush 15, 684, 0), (684, .bipush 32, 686, 0), (686, .iastore, 687, 0), (687, .dup, 688, 0), (688, .bipush 16, 690, 0), (690, .bipush 98, 692, 0)]),
  (708, [(692, .iastore, 693, 0), (693, .dup, 694, 0), (694, .bipush 17, 696, 0), (696, .bipush 117, 698, 0), (698, .iastore, 699, 0), (699, .dup, 700, 0), (700, .bipush 18, 702, 0), (702, .bipush 109, 704, 0), (704, .iastore, 705, 0), (705, .dup, 706, 0), (706, .bipush 19, 708, 0), (708, .bipush 112, 710, 0)]),
  (726, [(710, .iastore, 711, 0), (711, .dup, 712, 0), (712, .bipush 20, 714, 0), (714, .bipush 115, 716, 0), (716, .iastore, 717, 0), (717, .dup, 718, 0), (718, .bipush 21, 720, 0), (720, .bipush 32, 722, 0), (722, .iastore, 723, 0), (723, .dup, 724, 0), (724, .bipush 22, 726, 0), (726, .bipush 32, 728, 0)])]
theorem tX7_init_9_ok : tX7_init_9.all (fun q => q.2.all (fun r => zgd cX7_init 2 r.1 r.2)) = true := by decide +kernel
def tX7_init_10 : List (Nat × List (Nat × zI)) := [(744, [(728, .iastore, 729, 0), (729, .dup, 730, 0), (730, .bipush 23, 732, 0), (732, .bipush 32, 734, 0), (734, .iastore, 735, 0), (735, .dup, 736, 0), (736, .bipush 24, 738, 0), (738, .bipush 108, 740, 0), (740, .iastore, 741, 0), (741, .dup, 742, 0), (742, .bipush 25, 744, 0), (744, .bipush 111, 746, 0)]),
  (762, [(746, .iastore, 747, 0), (747, .dup, 748, 0), (748, .bipush 26, 750, 0), (750, .bipush 97, 752, 0), (752, .iastore, 753, 0), (753, .dup, 754, 0), (754, .bipush 27, 756, 0), (756, .bipush 100, 758, 0), (758, .iastore, 759, 0), (759, .dup, 760, 0), (760, .bipush 28, 762, 0), (762, .bipush 32, 764, 0)]),
  (780, [(764, .iastore, 765, 0), (765, .dup, 766, 0), (766, .bipush 29, 768, 0), (768, .bipush 32, 770, 0), (770, .iastore, 771, 0), (771, .dup, 772, 0), (772, .bipush 30, 774, 0), (774, .bipush 32, 776, 0), (776, .iastore, 777, 0), (777, .dup, 778, 0), (778, .bipush 31, 780, 0), (780, .bipush 32, 782, 0)]),
  (798, [(782, .iastore, 783, 0), (783, .dup, 784, 0), (784, .bipush 32, 786, 0), (786, .bipush 104, 788, 0), (788, .iastore, 789, 0), (789, .dup, 790, 0), (790, .bipush 33, 792, 0), (792, .bipush 97, 794, 0), (794, .iastore, 795, 0), (795, .dup, 796, 0), (796, .bipush 34, 798, 0), (798, .bipush 110, 800, 0)])]
theorem tX7_init_10_ok : tX7_init_10.all (fun q => q.2.all (fun r => zgd cX7_init 2 r.1 r.2)) = true := by decide +kernel
def tX7_init_11 : List (Nat × List (Nat × zI)) := [(816, [(800, .iastore, 801, 0), (801, .dup, 802, 0), (802, .bipush 35, 804, 0), (804, .bipush 100, 806, 0), (806, .iastore, 807, 0), (807, .dup, 808, 0), (808, .bipush 36, 810, 0), (810, .bipush 32, 812, 0), (812, .iastore, 813, 0), (813, .dup, 814, 0), (814, .bipush 37, 816, 0), (816, .bipush 32, 818, 0)]),
  (834, [(818, .iastore, 819, 0), (819, .dup, 820, 0), (820, .bipush 38, 822, 0), (822, .bipush 32, 824, 0), (824, .iastore, 825, 0), (825, .dup, 826, 0), (826, .bipush 39, 828, 0), (828, .bipush 32, 830, 0), (830, .iastore, 831, 0), (831, .dup, 832, 0), (832, .bipush 40, 834, 0), (834, .bipush 112, 836, 0)]),
  (852, [(836, .iastore, 837, 0), (837, .dup, 838, 0), (838, .bipush 41, 840, 0), (840, .bipush 97, 842, 0), (842, .iastore, 843, 0), (843, .dup, 844, 0), (844, .bipush 42, 846, 0), (846, .bipush 99, 848, 0), (848, .iastore, 849, 0), (849, .dup, 850, 0), (850, .bipush 43, 852, 0), (852, .bipush 101, 854, 0)]),
  (870, [(854, .iastore, 855, 0), (855, .dup, 856, 0), (856, .bipush 44, 858, 0), (858, .bipush 32, 860, 0), (860, .iastore, 861, 0), (861, .dup, 862, 0), (862, .bipush 45, 864, 0), (864, .bipush 32, 866, 0), (866, .iastore, 867, 0), (867, .dup, 868, 0), (868, .bipush 46, 870, 0), (870, .bipush 32, 872, 0)])]
theorem tX7_init_11_ok : tX7_init_11.all (fun q => q.2.all (fun r => zgd cX7_init 2 r.1 r.2)) = true := by decide +kernel
def tX7_init_12 : List (Nat × List (Nat × zI)) := [(888, [(872, .iastore, 873, 0), (873, .dup, 874, 0), (874, .bipush 47, 876, 0), (876, .bipush 32, 878, 0), (878, .iastore, 879, 0), (879, .dup, 880, 0), (880, .bipush 48, 882, 0), (882, .bipush 116, 884, 0), (884, .iastore, 885, 0), (885, .dup, 886, 0), (886, .bipush 49, 888, 0), (888, .bipush 101, 890, 0)]),
  (906, [(890, .iastore, 891, 0), (891, .dup, 892, 0), (892, .bipush 50, 894, 0), (894, .bipush 110, 896, 0), (896, .iastore, 897, 0), (897, .dup, 898, 0), (898, .bipush 51, 900, 0), (900, .bipush 116, 902, 0), (902, .iastore, 903, 0), (903, .dup, 904, 0), (904, .bipush 52, 906, 0), (906, .bipush 104, 908, 0)]),
  (924, [(908, .iastore, 909, 0), (909, .dup, 910, 0), (910, .bipush 53, 912, 0), (912, .bipush 32, 914, 0), (914, .iastore, 915, 0), (915, .dup, 916, 0), (916, .bipush 54, 918, 0), (918, .bipush 32, 920, 0), (920, .iastore, 921, 0), (921, .dup, 922, 0), (922, .bipush 55, 924, 0), (924, .bipush 32, 926, 0)]),
  (942, [(926, .iastore, 927, 0), (927, .dup, 928, 0), (928, .bipush 56, 930, 0), (930, .bipush 109, 932, 0), (932, .iastore, 933, 0), (933, .dup, 934, 0), (934, .bipush 57, 936, 0), (936, .bipush 111, 938, 0), (938, .iastore, 939, 0), (939, .dup, 940, 0), (940, .bipush 58, 942, 0), (942, .bipush 114, 944, 0)])]
theorem tX7_init_12_ok : tX7_init_12.all (fun q => q.2.all (fun r => zgd cX7_init 2 r.1 r.2)) = true := by decide +kernel
def tX7_init_13 : List (Nat × List (Nat × zI)) := [(960, [(944, .iastore, 945, 0), (945, .dup, 946, 0), (946, .bipush 59, 948, 0), (948, .bipush 101, 950, 0), (950, .iastore, 951, 0), (951, .dup, 952, 0), (952, .bipush 60, 954, 0), (954, .bipush 32, 956, 0), (956, .iastore, 957, 0), (957, .dup, 958, 0), (958, .bipush 61, 960, 0), (960, .bipush 32, 962, 0)]),
  (978, [(962, .iastore, 963, 0), (963, .dup, 964, 0), (964, .bipush 62, 966, 0), (966, .bipush 32, 968, 0), (968, .iastore, 969, 0), (969, .dup, 970, 0), (970, .bipush 63, 972, 0), (972, .bipush 32, 974, 0), (974, .iastore, 975, 0), (975, .dup, 976, 0), (976, .bipush 64, 978, 0), (978, .bipush 119, 980, 0)]),
  (996, [(980, .iastore, 981, 0), (981, .dup, 982, 0), (982, .bipush 65, 984, 0), (984, .bipush 104, 986, 0), (986, .iastore, 987, 0), (987, .dup, 988, 0), (988, .bipush 66, 990, 0), (990, .bipush 101, 992, 0), (992, .iastore, 993, 0), (993, .dup, 994, 0), (994, .bipush 67, 996, 0), (996, .bipush 101, 998, 0)]),
  (1014, [(998, .iastore, 999, 0), (999, .dup, 1000, 0), (1000, .bipush 68, 1002, 0), (1002, .bipush 108, 1004, 0), (1004, .iastore, 1005, 0), (1005, .dup, 1006, 0), (1006, .bipush 69, 1008, 0), (1008, .bipush 32, 1010, 0), (1010, .iastore, 1011, 0), (1011, .dup, 1012, 0), (1012, .bipush 70, 1014, 0), (1014, .bipush 32, 1016, 0)])]
theorem tX7_init_13_ok : tX7_init_13.all (fun q => q.2.all (fun r => zgd cX7_init 2 r.1 r.2)) = true := by decide +kernel
def tX7_init_14 : List (Nat × List (Nat × zI)) := [(1032, [(1016, .iastore, 1017, 0), (1017, .dup, 1018, 0), (1018, .bipush 71, 1020, 0), (1020, .bipush 32, 1022, 0), (1022, .iastore, 1023, 0), (1023, .dup, 1024, 0), (1024, .bipush 72, 1026, 0), (1026, .bipush 111, 1028, 0), (1028, .iastore, 1029, 0), (1029, .dup, 1030, 0), (1030, .bipush 73, 1032, 0), (1032, .bipush 114, 1034, 0)]),
  (1050, [(1034, .iastore, 1035, 0), (1035, .dup, 1036, 0), (1036, .bipush 74, 1038, 0), (1038, .bipush 32, 1040, 0), (1040, .iastore, 1041, 0), (1041, .dup, 1042, 0), (1042, .bipush 75, 1044, 0), (1044, .bipush 32, 1046, 0), (1046, .iastore, 1047, 0), (1047, .dup, 1048, 0), (1048, .bipush 76, 1050, 0), (1050, .bipush 32, 1052, 0)]),
  (1068, [(1052, .iastore, 1053, 0), (1053, .dup, 1054, 0), (1054, .bipush 77, 1056, 0), (1056, .bipush 32, 1058, 0), (1058, .iastore, 1059, 0), (1059, .dup, 1060, 0), (1060, .bipush 78, 1062, 0), (1062, .bipush 32, 1064, 0), (1064, .iastore, 1065, 0), (1065, .dup, 1066, 0), (1066, .bipush 79, 1068, 0), (1068, .bipush 32, 1070, 0)]),
  (1086, [(1070, .iastore, 1071, 0), (1071, .dup, 1072, 0), (1072, .bipush 80, 1074, 0), (1074, .bipush 97, 1076, 0), (1076, .iastore, 1077, 0), (1077, .dup, 1078, 0), (1078, .bipush 81, 1080, 0), (1080, .bipush 110, 1082, 0), (1082, .iastore, 1083, 0), (1083, .dup, 1084, 0), (1084, .bipush 82, 1086, 0), (1086, .bipush 100, 1088, 0)])]
theorem tX7_init_14_ok : tX7_init_14.all (fun q => q.2.all (fun r => zgd cX7_init 2 r.1 r.2)) = true := by decide +kernel
def tX7_init_15 : List (Nat × List (Nat × zI)) := [(1104, [(1088, .iastore, 1089, 0), (1089, .dup, 1090, 0), (1090, .bipush 83, 1092, 0), (1092, .bipush 32, 1094, 0), (1094, .iastore, 1095, 0), (1095, .dup, 1096, 0), (1096, .bipush 84, 1098, 0), (1098, .bipush 32, 1100, 0), (1100, .iastore, 1101, 0), (1101, .dup, 1102, 0), (1102, .bipush 85, 1104, 0), (1104, .bipush 32, 1106, 0)]),
  (1122, [(1106, .iastore, 1107, 0), (1107, .dup, 1108, 0), (1108, .bipush 86, 1110, 0), (1110, .bipush 32, 1112, 0), (1112, .iastore, 1113, 0), (1113, .dup, 1114, 0), (1114, .bipush 87, 1116, 0), (1116, .bipush 32, 1118, 0), (1118, .iastore, 1119, 0), (1119, .dup, 1120, 0), (1120, .bipush 88, 1122, 0), (1122, .bipush 110, 1124, 0)]),
  (1140, [(1124, .iastore, 1125, 0), (1125, .dup, 1126, 0), (1126, .bipush 89, 1128, 0), (1128, .bipush 111, 1130, 0), (1130, .iastore, 1131, 0), (1131, .dup, 1132, 0), (1132, .bipush 90, 1134, 0), (1134, .bipush 116, 1136, 0), (1136, .iastore, 1137, 0), (1137, .dup, 1138, 0), (1138, .bipush 91, 1140, 0), (1140, .bipush 32, 1142, 0)]),
  (1158, [(1142, .iastore, 1143, 0), (1143, .dup, 1144, 0), (1144, .bipush 92, 1146, 0), (1146, .bipush 32, 1148, 0), (1148, .iastore, 1149, 0), (1149, .dup, 1150, 0), (1150, .bipush 93, 1152, 0), (1152, .bipush 32, 1154, 0), (1154, .iastore, 1155, 0), (1155, .dup, 1156, 0), (1156, .bipush 94, 1158, 0), (1158, .bipush 32, 1160, 0)])]
theorem tX7_init_15_ok : tX7_init_15.all (fun q => q.2.all (fun r => zgd cX7_init 2 r.1 r.2)) = true := by decide +kernel
def tX7_init_16 : List (Nat × List (Nat × zI)) := [(1180, [(1160, .iastore, 1161, 0), (1161, .dup, 1162, 0), (1162, .bipush 95, 1164, 0), (1164, .bipush 32, 1166, 0), (1166, .iastore, 1167, 0), (1167, .putfield 71, 1170, 0), (1170, .aload_n 0, 1171, 0), (1171, .sipush 200, 1174, 0), (1174, .newarray .int, 1176, 0), (1176, .putfield 74, 1179, 0), (1179, .aload_n 0, 1180, 0), (1180, .sipush 200, 1183, 0)]),
  (1205, [(1183, .newarray .int, 1185, 0), (1185, .putfield 77, 1188, 0), (1188, .aload_n 0, 1189, 0), (1189, .bipush 6, 1191, 0), (1191, .newarray .int, 1193, 0), (1193, .putfield 80, 1196, 0), (1196, .aload_n 0, 1197, 0), (1197, .bipush 30, 1199, 0), (1199, .newarray .int, 1201, 0), (1201, .putfield 83, 1204, 0), (1204, .aload_n 0, 1205, 0), (1205, .bipush 30, 1207, 0)]),
  (1229, [(1207, .newarray .int, 1209, 0), (1209, .putfield 86, 1212, 0), (1212, .aload_n 0, 1213, 0), (1213, .bipush 30, 1215, 0), (1215, .newarray .int, 1217, 0), (1217, .putfield 89, 1220, 0), (1220, .aload_n 0, 1221, 0), (1221, .bipush 8, 1223, 0), (1223, .newarray .int, 1225, 0), (1225, .putfield 92, 1228, 0), (1228, .aload_n 0, 1229, 0), (1229, .iconst 4, 1230, 0)]),
  (1251, [(1230, .newarray .int, 1232, 0), (1232, .putfield 95, 1235, 0), (1235, .aload_n 0, 1236, 0), (1236, .iconst 4, 1237, 0), (1237, .newarray .int, 1239, 0), (1239, .putfield 98, 1242, 0), (1242, .aload_n 0, 1243, 0), (1243, .bipush 8, 1245, 0), (1245, .newarray .int, 1247, 0), (1247, .putfield 101, 1250, 0), (1250, .aload_n 0, 1251, 0), (1251, .bipush 8, 1253, 0)])]
theorem tX7_init_16_ok : tX7_init_16.all (fun q => q.2.all (fun r => zgd cX7_init 2 r.1 r.2)) = true := by decide +kernel
def tX7_init_17 : List (Nat × List (Nat × zI)) := [(1274, [(1253, .newarray .int, 1255, 0), (1255, .putfield 104, 1258, 0), (1258, .aload_n 0, 1259, 0), (1259, .bipush 8, 1261, 0), (1261, .newarray .int, 1263, 0), (1263, .putfield 107, 1266, 0), (1266, .iconst 0, 1267, 0), (1267, .istore_n 1, 1268, 0), (1268, .iload_n 1, 1269, 0), (1269, .bipush 43, 1271, 0), (1271, .if_icmp .ge 21, 1274, 1292), (1274, .aload_n 0, 1275, 0)]),
  (1295, [(1275, .getfield 47, 1278, 0), (1278, .iload_n 1, 1279, 0), (1279, .aload_n 0, 1280, 0), (1280, .getfield 68, 1283, 0), (1283, .iload_n 1, 1284, 0), (1284, .iaload, 1285, 0), (1285, .iastore, 1286, 0), (1286, .iinc 1 1, 1289, 0), (1289, .goto (-21), 1292, 1268), (1292, .aload_n 0, 1293, 0), (1293, .bipush 43, 1295, 0), (1295, .putfield 110, 1298, 0)]),
  (1303, [(1298, .aload_n 0, 1299, 0), (1299, .invokevirtual 113, 1302, 0), (1302, .pop, 1303, 0), (1303, .return_, 1304, 0)])]
theorem tX7_init_17_ok : tX7_init_17.all (fun q => q.2.all (fun r => zgd cX7_init 2 r.1 r.2)) = true := by decide +kernel
def tX7_init : List (Nat × List (Nat × zI)) := tX7_init_0 ++ (tX7_init_1 ++ (tX7_init_2 ++ (tX7_init_3 ++ (tX7_init_4 ++ (tX7_init_5 ++ (tX7_init_6 ++ (tX7_init_7 ++ (tX7_init_8 ++ (tX7_init_9 ++ (tX7_init_10 ++ (tX7_init_11 ++ (tX7_init_12 ++ (tX7_init_13 ++ (tX7_init_14 ++ (tX7_init_15 ++ (tX7_init_16 ++ (tX7_init_17)))))))))))))))))
def mX7_init : zM := (yX7_init, cX7_init, 2, none, zf2 tX7_init, fX7, kX7, jX7)
theorem mX7_init_ok : zmok mX7_init := zmok_of (L := tX7_init) (by decide +kernel) rfl (zall_app tX7_init_0_ok (zall_app tX7_init_1_ok (zall_app tX7_init_2_ok (zall_app tX7_init_3_ok (zall_app tX7_init_4_ok (zall_app tX7_init_5_ok (zall_app tX7_init_6_ok (zall_app tX7_init_7_ok (zall_app tX7_init_8_ok (zall_app tX7_init_9_ok (zall_app tX7_init_10_ok (zall_app tX7_init_11_ok (zall_app tX7_init_12_ok (zall_app tX7_init_13_ok (zall_app tX7_init_14_ok (zall_app tX7_init_15_ok (zall_app tX7_init_16_ok (tX7_init_17_ok)))))))))))))))))) fX7_ok kX7_ok jX7_ok
/-! ===== rows with given values ===== -/
def zcst : Instr → Option Int
  | .iconst n => some n
  | .bipush n => some n
  | .sipush n => some n
  | _ => none
theorem zstep_cst {M : zM} {Rt : Option Value → List zE → Prop} {K Lf : zK} {c1 : Instr} {nx tg pc : Nat} {lv : zL} {st : List Value} {hs : List zE} {v : Int} (h : zcst c1 = some v) (hk : K nx lv (.int (zi v) :: st) hs) : zstep M Rt K Lf (c1, nx, tg) pc lv st hs := by
  cases c1 <;> first | cases h; done | (cases h; exact hk)
def zlits (M : zM) : List Int → Nat → Nat → Option Nat
  | [], _, pc => some pc
  | v :: vs, j, pc => match zins M pc with
    | some (.dup, p1, _) => match zins M p1 with
      | some (c1, p2, _) => match zins M p2 with
        | some (c2, p3, _) => match zins M p3 with
          | some (.iastore, p4, _) => bif decide (zcst c1 = some (j : Int)) && decide (zcst c2 = some v) then zlits M vs (j + 1) p4 else none
          | _ => none
        | _ => none
      | _ => none
    | _ => none
def zwr (f : fI) : Nat → List Int → fI
  | _, [] => f
  | j, v :: vs => zwr (upd f j (zi v)) (j + 1) vs
section
variable {l : Launch} {M : zM} {b : Bool} {hs0 : List zE} {R : Room} {F : zF} {nc ns n q0 : Nat} {lv : zL} {rest : List Value}
theorem V.lits (hM : zmok M) (hn : n ≤ 2000) : ∀ (vs : List Int) (j pc pe : Nat) (f : fI) (hs : List zE), zlits M vs j pc = some pe → j + vs.length ≤ n → hs[q0]? = some (.inl (0, n, .inl f)) → V l M b hs0 R F nc ns pe lv (.ref (2 * q0) :: rest) (hs.set q0 (.inl (0, n, .inl (zwr f j vs)))) → V l M b hs0 R F nc ns pc lv (.ref (2 * q0) :: rest) hs
  | [], j, pc, pe, f, hs, hz, _, hq, h => by
    cases hz
    have hl := (List.getElem?_eq_some_iff.mp hq).1
    have he := (List.getElem?_eq_some_iff.mp hq).2
    rw [show zwr f j [] = f from rfl, ← he, List.set_getElem_self] at h
    exact h
  | v :: vs, j, pc, pe, f, hs, hz, hj, hq, h => by
    simp only [zlits] at hz
    split at hz
    · rename_i p1 t1 a1
      split at hz
      · rename_i c1 p2 t2 a2
        split at hz
        · rename_i c2 p3 t3 a3
          split at hz
          · rename_i p4 t4 a4
            cases hb : (decide (zcst c1 = some (j : Int)) && decide (zcst c2 = some v)) with
            | false => rw [hb] at hz; cases hz
            | true =>
              rw [hb] at hz
              simp only [Bool.and_eq_true, decide_eq_true_eq] at hb
              simp only [List.length_cons] at hj
              have hl := (List.getElem?_eq_some_iff.mp hq).1
              have ih := V.lits hM hn vs (j + 1) p4 pe (upd f j (zi v)) (hs.set q0 (.inl (0, n, .inl (upd f j (zi v))))) hz (by omega) (by rw [List.getElem?_set_self hl]) (by rw [List.set_set]; exact h)
              have hzi : zi (j : Int) = nI j := rfl
              have hR0 : ∀ (v : Option Value) (hs : List zE) (pc : Nat) (lv : zL) (i : Instr), zretok M i v → decode (zcode M) pc = .ok (i, 1) → (fun _ _ => False : Option Value → List zE → Prop) v hs → V l M b hs0 R F nc ns pc lv v.toList hs := fun _ _ _ _ _ _ _ h => h.elim
              refine zstep_ok hM hR0 (K := fun pc lv st hs => V l M b hs0 R F nc ns pc lv st hs) (fun _ _ _ _ h => h) a1 ?_
              show V l M b hs0 R F nc ns p1 lv (.ref (2 * q0) :: .ref (2 * q0) :: rest) hs
              refine zstep_ok hM hR0 (K := fun pc lv st hs => V l M b hs0 R F nc ns pc lv st hs) (fun _ _ _ _ h => h) a2 (zstep_cst hb.1 ?_)
              refine zstep_ok hM hR0 (K := fun pc lv st hs => V l M b hs0 R F nc ns pc lv st hs) (fun _ _ _ _ h => h) a3 (zstep_cst hb.2 ?_)
              refine zstep_ok hM hR0 (K := fun pc lv st hs => V l M b hs0 R F nc ns pc lv st hs) (fun _ _ _ _ h => h) a4 ?_
              have h2 : 2 * q0 / 2 = q0 := Nat.mul_div_cancel_left q0 (by decide)
              have hza : zat hs (2 * q0) = some (.inl (0, n, .inl f)) := by
                unfold zat
                rw [show 2 * q0 % 2 = 0 by omega, h2]
                exact hq
              show (match zat hs (2 * q0) with
                | some (.inl (0, n, .inl f)) => vp_in (zi (j : Int)) n ∧ V l M b hs0 R F nc ns p4 lv (.ref (2 * q0) :: rest) (hs.set (2 * q0 / 2) (.inl (0, n, .inl (upd f (zi (j : Int)).toNatClampNeg (zi v)))))
                | _ => False)
              rw [hza, h2, hzi]
              exact ⟨pk_in j n (by omega) rfl (by omega), by rw [pk_cl (x := nI j) j rfl (by omega)]; exact ih⟩
          · cases hz
        · cases hz
      · cases hz
    · cases hz
end
