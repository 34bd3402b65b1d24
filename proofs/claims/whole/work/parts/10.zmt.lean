/-! ===== the methods' tables ===== -/
def zf2 : List (Nat × List (Nat × zI)) → Nat → Option zI
  | [], _ => none
  | (k, c) :: l, pc => bif Nat.ble pc k then zfd c pc else zf2 l pc
theorem zf2_ok {G : Nat → zI → Bool} : ∀ {L : List (Nat × List (Nat × zI))}, L.all (fun q => q.2.all (fun r => G r.1 r.2)) = true → ∀ (pc : Nat) (q : zI), zf2 L pc = some q → G pc q = true
  | [], _, _, _, h => by cases h
  | (k, c) :: L, hL, pc, q, h => by
    simp only [List.all_cons, Bool.and_eq_true] at hL
    simp only [zf2] at h
    cases hb : Nat.ble pc k with
    | true => rw [hb] at h; exact List.all_eq_true.mp hL.1 (pc, q) (zfd_mem h)
    | false => rw [hb] at h; exact zf2_ok hL.2 pc q h
theorem zmok_of {M : zM} {L : List (Nat × List (Nat × zI))} (h1 : plainName (zy M).cls = true) (h2 : zins M = zf2 L) (h3 : L.all (fun q => q.2.all (fun r => zgd (zcode M) (zmax M) r.1 r.2)) = true) (h4 : ∀ r ∈ zfl M, zfok (zy M).cls r) (h5 : ∀ r ∈ zkI M, Cond.constant (zy M).cls r.1 r.2 ∈ z_tbl) (h6 : ∀ r ∈ zkL M, Cond.constantLong (zy M).cls r.1 r.2 ∈ z_tbl) : zmok M := ⟨h1, fun pc q h => zf2_ok (G := fun a b => zgd (zcode M) (zmax M) a b) h3 pc q (by rw [← h2]; exact h), h4, h5, h6⟩
theorem zkI_of {own : String} {l : List (Nat × Nat × Int32)} (h : l.all (fun q => decide (tables_1[q.1]? = some (Cond.constant own q.2.1 q.2.2))) = true) : ∀ r ∈ l.map (fun q => q.2), Cond.constant own r.1 r.2 ∈ z_tbl := fun r hr => by
  obtain ⟨q, hq, rfl⟩ := List.mem_map.mp hr
  exact z_in (List.mem_of_getElem? (of_decide_eq_true (List.all_eq_true.mp h q hq))) rfl
theorem zkL_of {own : String} {l : List (Nat × Nat × Int64)} (h : l.all (fun q => decide (tables_1[q.1]? = some (Cond.constantLong own q.2.1 q.2.2))) = true) : ∀ r ∈ l.map (fun q => q.2), Cond.constantLong own r.1 r.2 ∈ z_tbl := fun r hr => by
  obtain ⟨q, hq, rfl⟩ := List.mem_map.mp hr
  exact z_in (List.mem_of_getElem? (of_decide_eq_true (List.all_eq_true.mp h q hq))) rfl
def fiX0 : List (Nat × Nat × Nat × Nat × Nat) := [(33, 9, 0, 0, 7), (35, 15, 0, 1, 7), (38, 18, 0, 2, 7), (40, 21, 0, 3, 7), (42, 24, 0, 4, 7), (45, 27, 0, 5, 7), (48, 30, 0, 6, 0)]
def fX0 : List (Nat × Nat × Nat × Nat) := [(9, 0, 0, 7), (15, 0, 1, 7), (18, 0, 2, 7), (21, 0, 3, 7), (24, 0, 4, 7), (27, 0, 5, 7), (30, 0, 6, 0)]
theorem fX0_ok : ∀ r ∈ fX0, zfok RX0 r := zfok_all (l := fiX0) (by decide +kernel)
def kiX0 : List (Nat × Nat × Int32) := []
def kX0 : List (Nat × Int32) := []
theorem kX0_ok : ∀ r ∈ kX0, Cond.constant RX0 r.1 r.2 ∈ z_tbl := zkI_of (l := kiX0) (by decide +kernel)
def jiX0 : List (Nat × Nat × Int64) := []
def jX0 : List (Nat × Int64) := []
theorem jX0_ok : ∀ r ∈ jX0, Cond.constantLong RX0 r.1 r.2 ∈ z_tbl := zkL_of (l := jiX0) (by decide +kernel)
def fiX1 : List (Nat × Nat × Nat × Nat × Nat) := [(122, 9, 1, 0, 7), (123, 21, 1, 1, 0), (125, 25, 1, 2, 0), (126, 44, 1, 3, 0), (127, 50, 1, 4, 0), (128, 76, 1, 5, 0), (129, 28, 1, 6, 0), (131, 15, 1, 7, 7), (133, 31, 1, 8, 0), (134, 18, 1, 9, 7)]
def fX1 : List (Nat × Nat × Nat × Nat) := [(9, 1, 0, 7), (21, 1, 1, 0), (25, 1, 2, 0), (44, 1, 3, 0), (50, 1, 4, 0), (76, 1, 5, 0), (28, 1, 6, 0), (15, 1, 7, 7), (31, 1, 8, 0), (18, 1, 9, 7)]
theorem fX1_ok : ∀ r ∈ fX1, zfok RX1 r := zfok_all (l := fiX1) (by decide +kernel)
def kiX1 : List (Nat × Nat × Int32) := []
def kX1 : List (Nat × Int32) := []
theorem kX1_ok : ∀ r ∈ kX1, Cond.constant RX1 r.1 r.2 ∈ z_tbl := zkI_of (l := kiX1) (by decide +kernel)
def jiX1 : List (Nat × Nat × Int64) := []
def jX1 : List (Nat × Int64) := []
theorem jX1_ok : ∀ r ∈ jX1, Cond.constantLong RX1 r.1 r.2 ∈ z_tbl := zkL_of (l := jiX1) (by decide +kernel)
def fiX2 : List (Nat × Nat × Nat × Nat × Nat) := [(37, 126, 0, 1, 9), (43, 34, 0, 4, 9), (46, 98, 0, 5, 9), (49, 86, 0, 6, 0), (332, 74, 5, 0, 9), (359, 18, 2, 0, 3), (360, 22, 2, 1, 3), (361, 26, 2, 2, 1), (362, 67, 2, 3, 2), (363, 30, 2, 4, 0), (364, 9, 2, 5, 7), (365, 15, 2, 6, 7), (366, 89, 2, 7, 0), (367, 39, 2, 8, 0), (369, 42, 2, 9, 0), (371, 45, 2, 10, 0), (373, 48, 2, 11, 0), (375, 51, 2, 12, 0), (377, 54, 2, 13, 0), (379, 57, 2, 14, 0)]
def fX2 : List (Nat × Nat × Nat × Nat) := [(126, 0, 1, 9), (34, 0, 4, 9), (98, 0, 5, 9), (86, 0, 6, 0), (74, 5, 0, 9), (18, 2, 0, 3), (22, 2, 1, 3), (26, 2, 2, 1), (67, 2, 3, 2), (30, 2, 4, 0), (9, 2, 5, 7), (15, 2, 6, 7), (89, 2, 7, 0), (39, 2, 8, 0), (42, 2, 9, 0), (45, 2, 10, 0), (48, 2, 11, 0), (51, 2, 12, 0), (54, 2, 13, 0), (57, 2, 14, 0)]
theorem fX2_ok : ∀ r ∈ fX2, zfok RX2 r := zfok_all (l := fiX2) (by decide +kernel)
def kiX2 : List (Nat × Nat × Int32) := []
def kX2 : List (Nat × Int32) := []
theorem kX2_ok : ∀ r ∈ kX2, Cond.constant RX2 r.1 r.2 ∈ z_tbl := zkI_of (l := kiX2) (by decide +kernel)
def jiX2 : List (Nat × Nat × Int64) := [(601, 109, 48271), (602, 111, 2147483647), (603, 113, 3)]
def jX2 : List (Nat × Int64) := [(109, 48271), (111, 2147483647), (113, 3)]
theorem jX2_ok : ∀ r ∈ jX2, Cond.constantLong RX2 r.1 r.2 ∈ z_tbl := zkL_of (l := jiX2) (by decide +kernel)
def fiX3 : List (Nat × Nat × Nat × Nat × Nat) := [(73, 9, 3, 0, 7), (75, 15, 3, 1, 7), (77, 37, 3, 2, 0), (79, 18, 3, 3, 0), (81, 22, 3, 4, 0), (83, 25, 3, 5, 0), (85, 49, 3, 6, 0), (86, 28, 3, 7, 7), (87, 40, 3, 8, 0), (89, 43, 3, 9, 0), (91, 46, 3, 10, 0)]
def fX3 : List (Nat × Nat × Nat × Nat) := [(9, 3, 0, 7), (15, 3, 1, 7), (37, 3, 2, 0), (18, 3, 3, 0), (22, 3, 4, 0), (25, 3, 5, 0), (49, 3, 6, 0), (28, 3, 7, 7), (40, 3, 8, 0), (43, 3, 9, 0), (46, 3, 10, 0)]
theorem fX3_ok : ∀ r ∈ fX3, zfok RX3 r := zfok_all (l := fiX3) (by decide +kernel)
def kiX3 : List (Nat × Nat × Int32) := []
def kX3 : List (Nat × Int32) := []
theorem kX3_ok : ∀ r ∈ kX3, Cond.constant RX3 r.1 r.2 ∈ z_tbl := zkI_of (l := kiX3) (by decide +kernel)
def jiX3 : List (Nat × Nat × Int64) := []
def jX3 : List (Nat × Int64) := []
theorem jX3_ok : ∀ r ∈ jX3, Cond.constantLong RX3 r.1 r.2 ∈ z_tbl := zkL_of (l := jiX3) (by decide +kernel)
def fiX4 : List (Nat × Nat × Nat × Nat × Nat) := [(417, 9, 4, 0, 0), (419, 23, 4, 1, 0), (421, 15, 4, 2, 7)]
def fX4 : List (Nat × Nat × Nat × Nat) := [(9, 4, 0, 0), (23, 4, 1, 0), (15, 4, 2, 7)]
theorem fX4_ok : ∀ r ∈ fX4, zfok RX4 r := zfok_all (l := fiX4) (by decide +kernel)
def kiX4 : List (Nat × Nat × Int32) := []
def kX4 : List (Nat × Int32) := []
theorem kX4_ok : ∀ r ∈ kX4, Cond.constant RX4 r.1 r.2 ∈ z_tbl := zkI_of (l := kiX4) (by decide +kernel)
def jiX4 : List (Nat × Nat × Int64) := []
def jX4 : List (Nat × Int64) := []
theorem jX4_ok : ∀ r ∈ jX4, Cond.constantLong RX4 r.1 r.2 ∈ z_tbl := zkL_of (l := jiX4) (by decide +kernel)
def fiX5 : List (Nat × Nat × Nat × Nat × Nat) := [(130, 15, 1, 7, 9), (132, 20, 1, 8, 0), (135, 31, 1, 9, 9), (331, 42, 5, 0, 5), (333, 30, 5, 1, 7), (334, 34, 5, 2, 7), (335, 9, 5, 3, 7), (336, 35, 5, 4, 7)]
def fX5 : List (Nat × Nat × Nat × Nat) := [(15, 1, 7, 9), (20, 1, 8, 0), (31, 1, 9, 9), (42, 5, 0, 5), (30, 5, 1, 7), (34, 5, 2, 7), (9, 5, 3, 7), (35, 5, 4, 7)]
theorem fX5_ok : ∀ r ∈ fX5, zfok RX5 r := zfok_all (l := fiX5) (by decide +kernel)
def kiX5 : List (Nat × Nat × Int32) := []
def kX5 : List (Nat × Int32) := []
theorem kX5_ok : ∀ r ∈ kX5, Cond.constant RX5 r.1 r.2 ∈ z_tbl := zkI_of (l := kiX5) (by decide +kernel)
def jiX5 : List (Nat × Nat × Int64) := []
def jX5 : List (Nat × Int64) := []
theorem jX5_ok : ∀ r ∈ jX5, Cond.constantLong RX5 r.1 r.2 ∈ z_tbl := zkL_of (l := jiX5) (by decide +kernel)
def fiX6 : List (Nat × Nat × Nat × Nat × Nat) := [(34, 147, 0, 0, 9), (36, 139, 0, 1, 9), (39, 150, 0, 2, 9), (41, 169, 0, 3, 9), (44, 172, 0, 4, 9), (47, 175, 0, 5, 9), (50, 136, 0, 6, 0), (74, 297, 3, 0, 9), (76, 330, 3, 1, 9), (78, 107, 3, 2, 0), (80, 300, 3, 3, 0), (82, 303, 3, 4, 0), (84, 306, 3, 5, 0), (88, 318, 3, 8, 0), (90, 321, 3, 9, 0), (92, 324, 3, 10, 0), (124, 110, 1, 1, 0), (368, 188, 2, 8, 0), (370, 191, 2, 9, 0), (372, 257, 2, 10, 0), (374, 197, 2, 11, 0), (376, 200, 2, 12, 0), (378, 203, 2, 13, 0), (380, 206, 2, 14, 0), (418, 286, 4, 0, 0), (420, 289, 4, 1, 0), (422, 290, 4, 2, 9), (430, 10, 6, 0, 7), (431, 16, 6, 1, 7), (432, 19, 6, 2, 7), (433, 25, 6, 3, 7), (434, 29, 6, 4, 7), (435, 32, 6, 5, 7), (436, 38, 6, 6, 7), (437, 90, 6, 7, 7), (438, 44, 6, 8, 7), (439, 48, 6, 9, 0), (440, 52, 6, 10, 0), (441, 55, 6, 11, 0), (442, 58, 6, 12, 1), (443, 102, 6, 13, 7), (444, 64, 6, 14, 7)]
def fX6 : List (Nat × Nat × Nat × Nat) := [(147, 0, 0, 9), (139, 0, 1, 9), (150, 0, 2, 9), (169, 0, 3, 9), (172, 0, 4, 9), (175, 0, 5, 9), (136, 0, 6, 0), (297, 3, 0, 9), (330, 3, 1, 9), (107, 3, 2, 0), (300, 3, 3, 0), (303, 3, 4, 0), (306, 3, 5, 0), (318, 3, 8, 0), (321, 3, 9, 0), (324, 3, 10, 0), (110, 1, 1, 0), (188, 2, 8, 0), (191, 2, 9, 0), (257, 2, 10, 0), (197, 2, 11, 0), (200, 2, 12, 0), (203, 2, 13, 0), (206, 2, 14, 0), (286, 4, 0, 0), (289, 4, 1, 0), (290, 4, 2, 9), (10, 6, 0, 7), (16, 6, 1, 7), (19, 6, 2, 7), (25, 6, 3, 7), (29, 6, 4, 7), (32, 6, 5, 7), (38, 6, 6, 7), (90, 6, 7, 7), (44, 6, 8, 7), (48, 6, 9, 0), (52, 6, 10, 0), (55, 6, 11, 0), (58, 6, 12, 1), (102, 6, 13, 7), (64, 6, 14, 7)]
theorem fX6_ok : ∀ r ∈ fX6, zfok RX6 r := zfok_all (l := fiX6) (by decide +kernel)
def kiX6 : List (Nat × Nat × Int32) := [(588, 181, -1000000), (656, 213, 1000000), (877, 340, 99999)]
def kX6 : List (Nat × Int32) := [(181, -1000000), (213, 1000000), (340, 99999)]
theorem kX6_ok : ∀ r ∈ kX6, Cond.constant RX6 r.1 r.2 ∈ z_tbl := zkI_of (l := kiX6) (by decide +kernel)
def jiX6 : List (Nat × Nat × Int64) := [(702, 235, -4611686018427387904), (712, 249, 10)]
def jX6 : List (Nat × Int64) := [(235, -4611686018427387904), (249, 10)]
theorem jX6_ok : ∀ r ∈ jX6, Cond.constantLong RX6 r.1 r.2 ∈ z_tbl := zkL_of (l := jiX6) (by decide +kernel)
def fiX7 : List (Nat × Nat × Nat × Nat × Nat) := [(973, 7, 7, 0, 7), (974, 13, 7, 1, 7), (975, 16, 7, 2, 7), (976, 19, 7, 3, 7), (977, 22, 7, 4, 7), (978, 25, 7, 5, 0), (979, 29, 7, 6, 7), (980, 121, 7, 7, 0), (981, 32, 7, 8, 7), (982, 35, 7, 9, 7), (983, 38, 7, 10, 0), (984, 41, 7, 11, 0), (985, 44, 7, 12, 0), (986, 47, 7, 13, 7), (987, 110, 7, 14, 0), (988, 50, 7, 15, 7), (989, 53, 7, 16, 7), (990, 124, 7, 17, 0), (991, 127, 7, 18, 0), (992, 371, 7, 19, 1), (993, 375, 7, 20, 0), (994, 378, 7, 21, 0), (995, 56, 7, 22, 7), (996, 59, 7, 23, 7), (997, 62, 7, 24, 7), (998, 65, 7, 25, 7), (999, 68, 7, 26, 7), (1000, 138, 7, 27, 0), (1001, 141, 7, 28, 0), (1002, 144, 7, 29, 0), (1003, 147, 7, 30, 0), (1004, 71, 7, 31, 7), (1005, 74, 7, 32, 7), (1006, 157, 7, 33, 0), (1007, 163, 7, 34, 0), (1008, 154, 7, 35, 0), (1009, 77, 7, 36, 7), (1010, 80, 7, 37, 7), (1011, 83, 7, 38, 7), (1012, 86, 7, 39, 7), (1013, 89, 7, 40, 7), (1014, 229, 7, 41, 0), (1015, 232, 7, 42, 0), (1016, 235, 7, 43, 0), (1017, 238, 7, 44, 0), (1018, 257, 7, 45, 0), (1019, 260, 7, 46, 0), (1020, 266, 7, 47, 0), (1021, 275, 7, 48, 0), (1022, 92, 7, 49, 7), (1023, 95, 7, 50, 7), (1024, 98, 7, 51, 7), (1025, 101, 7, 52, 7), (1026, 323, 7, 53, 0), (1027, 104, 7, 54, 7), (1028, 107, 7, 55, 7), (1029, 320, 7, 56, 0), (1030, 333, 7, 57, 0), (1031, 336, 7, 58, 0), (1032, 339, 7, 59, 0)]
def fX7 : List (Nat × Nat × Nat × Nat) := [(7, 7, 0, 7), (13, 7, 1, 7), (16, 7, 2, 7), (19, 7, 3, 7), (22, 7, 4, 7), (25, 7, 5, 0), (29, 7, 6, 7), (121, 7, 7, 0), (32, 7, 8, 7), (35, 7, 9, 7), (38, 7, 10, 0), (41, 7, 11, 0), (44, 7, 12, 0), (47, 7, 13, 7), (110, 7, 14, 0), (50, 7, 15, 7), (53, 7, 16, 7), (124, 7, 17, 0), (127, 7, 18, 0), (371, 7, 19, 1), (375, 7, 20, 0), (378, 7, 21, 0), (56, 7, 22, 7), (59, 7, 23, 7), (62, 7, 24, 7), (65, 7, 25, 7), (68, 7, 26, 7), (138, 7, 27, 0), (141, 7, 28, 0), (144, 7, 29, 0), (147, 7, 30, 0), (71, 7, 31, 7), (74, 7, 32, 7), (157, 7, 33, 0), (163, 7, 34, 0), (154, 7, 35, 0), (77, 7, 36, 7), (80, 7, 37, 7), (83, 7, 38, 7), (86, 7, 39, 7), (89, 7, 40, 7), (229, 7, 41, 0), (232, 7, 42, 0), (235, 7, 43, 0), (238, 7, 44, 0), (257, 7, 45, 0), (260, 7, 46, 0), (266, 7, 47, 0), (275, 7, 48, 0), (92, 7, 49, 7), (95, 7, 50, 7), (98, 7, 51, 7), (101, 7, 52, 7), (323, 7, 53, 0), (104, 7, 54, 7), (107, 7, 55, 7), (320, 7, 56, 0), (333, 7, 57, 0), (336, 7, 58, 0), (339, 7, 59, 0)]
theorem fX7_ok : ∀ r ∈ fX7, zfok RX7 r := zfok_all (l := fiX7) (by decide +kernel)
def kiX7 : List (Nat × Nat × Int32) := [(945, 179, 100000), (1233, 256, -1000000), (1460, 367, 99999)]
def kX7 : List (Nat × Int32) := [(179, 100000), (256, -1000000), (367, 99999)]
theorem kX7_ok : ∀ r ∈ kX7, Cond.constant RX7 r.1 r.2 ∈ z_tbl := zkI_of (l := kiX7) (by decide +kernel)
def jiX7 : List (Nat × Nat × Int64) := [(1317, 292, -4611686018427387904), (1326, 300, 10), (1465, 361, 48271), (1466, 363, 2147483647), (1467, 365, 3)]
def jX7 : List (Nat × Int64) := [(292, -4611686018427387904), (300, 10), (361, 48271), (363, 2147483647), (365, 3)]
theorem jX7_ok : ∀ r ∈ jX7, Cond.constantLong RX7 r.1 r.2 ∈ z_tbl := zkL_of (l := jiX7) (by decide +kernel)
def fiJ9 : List (Nat × Nat × Nat × Nat × Nat) := []
def fJ9 : List (Nat × Nat × Nat × Nat) := []
theorem fJ9_ok : ∀ r ∈ fJ9, zfok RJ9 r := zfok_all (l := fiJ9) (by decide +kernel)
def kiJ9 : List (Nat × Nat × Int32) := []
def kJ9 : List (Nat × Int32) := []
theorem kJ9_ok : ∀ r ∈ kJ9, Cond.constant RJ9 r.1 r.2 ∈ z_tbl := zkI_of (l := kiJ9) (by decide +kernel)
def jiJ9 : List (Nat × Nat × Int64) := []
def jJ9 : List (Nat × Int64) := []
theorem jJ9_ok : ∀ r ∈ jJ9, Cond.constantLong RJ9 r.1 r.2 ∈ z_tbl := zkL_of (l := jiJ9) (by decide +kernel)
def fiJ7 : List (Nat × Nat × Nat × Nat × Nat) := []
def fJ7 : List (Nat × Nat × Nat × Nat) := []
theorem fJ7_ok : ∀ r ∈ fJ7, zfok RJ7 r := zfok_all (l := fiJ7) (by decide +kernel)
def kiJ7 : List (Nat × Nat × Int32) := []
def kJ7 : List (Nat × Int32) := []
theorem kJ7_ok : ∀ r ∈ kJ7, Cond.constant RJ7 r.1 r.2 ∈ z_tbl := zkI_of (l := kiJ7) (by decide +kernel)
def jiJ7 : List (Nat × Nat × Int64) := []
def jJ7 : List (Nat × Int64) := []
theorem jJ7_ok : ∀ r ∈ jJ7, Cond.constantLong RJ7 r.1 r.2 ∈ z_tbl := zkL_of (l := jiJ7) (by decide +kernel)
