section PRF
def lkGS : List (Nat × gS) → Nat → Option gS
  | [], _ => none
  | q :: r, g => cond (Nat.beq q.1 g) (some q.2) (lkGS r g)
def lkCL : List (Nat × Nat × Ctr) → Nat → Option (Nat × Ctr)
  | [], _ => none
  | q :: r, g => cond (Nat.beq q.1 g) (some q.2) (lkCL r g)
def rgL : List (Nat × gS) := [(10, .inl (0, [(9, 0, 0), (0, 0, 0), (0, 0, 1), (0, -2147483648, 2147483647)])),
  (11, .inl (1, [(1, 102, 0), (1, 103, 0), (0, -2147483648, 2147483647), (0, -2147483648, 2147483647), (0, -2147483648, 2147483647), (0, -2147483648, 2147483647), (0, 0, 6), (1, 104, 0), (1, 105, 0), (1, 106, 0), (1, 16, 0)])),
  (12, .inl (2, [(1, 116, 0), (0, 0, 6)])),
  (13, .inl (3, [(0, -2147483648, 2147483647), (0, -2147483648, 2147483647), (0, 0, 1), (0, -2147483648, 2147483647), (0, -2147483648, 2147483647), (0, -2147483648, 2147483647), (0, 0, 5), (1, 114, 0)])),
  (14, .inl (4, [(1, 17, 0), (9, 0, 0), (9, 0, 0), (0, -2147483648, 2147483647), (0, -2147483648, 2147483647)])),
  (15, .inl (5, [(1, 110, 0), (0, 0, 8), (0, -2147483648, 2147483647), (1, 111, 0), (1, 112, 0), (0, 0, 8), (1, 113, 0)])),
  (16, .inl (6, [(1, 107, 0), (0, 0, 1200), (1, 108, 0), (0, 0, 4)])),
  (17, .inl (7, [(9, 0, 0), (0, 0, 1200), (0, 0, 1200), (0, -2147483648, 2147483647), (0, 0, 1200), (0, -2147483648, 2147483647)])),
  (18, .inl (8, [(1, 15, 0)])),
  (19, .inl (9, [(0, 0, 5), (0, -2147483648, 2147483647), (0, -2147483648, 2147483647), (0, -2147483648, 2147483647), (0, -2147483648, 2147483647), (0, -2147483648, 2147483647), (0, -2147483648, 2147483647), (0, -2147483648, 2147483647), (0, -2147483648, 2147483647), (0, -1, 5), (0, -2147483648, 2147483647), (0, -2147483648, 2147483647), (0, -2147483648, 2147483647), (4, 0, 0), (4, 0, 0)])),
  (20, .inl (10, [(0, -2147483648, 2147483647), (0, -2147483648, 2147483647), (0, -2147483648, 2147483647), (0, -2147483648, 2147483647), (3, 0, 0), (3, 0, 0), (0, -2147483648, 2147483647), (0, -2147483648, 2147483647), (0, -2147483648, 2147483647), (0, -2147483648, 2147483647), (3, 0, 0), (3, 0, 0), (0, 0, 8), (1, 115, 0), (0, 0, 300), (1, 109, 0)])),
  (21, .inl (11, [(1, 100, 0), (0, 0, 1200), (1, 14, 0), (1, 15, 0), (1, 18, 0), (1, 11, 0), (1, 11, 0), (0, 0, 1), (1, 20, 0), (1, 20, 0), (1, 12, 0), (1, 117, 0), (1, 101, 0), (1, 10, 0)])),
  (22, .inl (12, [(0, -2147483648, 2147483647), (1, 125, 0), (0, 0, 1200), (0, 0, 1200), (0, 0, 1200), (0, 0, 6), (0, -2147483648, 2147483647), (0, -2147483648, 2147483647), (0, 0, 1200), (0, -2147483648, 2147483647), (1, 123, 0), (1, 124, 0), (1, 118, 0), (1, 120, 0), (1, 119, 0), (1, 121, 0), (1, 122, 0), (1, 126, 0), (1, 127, 0), (1, 128, 0), (1, 129, 0), (1, 130, 0), (1, 131, 0), (1, 132, 0), (1, 133, 0), (1, 134, 0), (1, 135, 0), (0, 0, 6), (0, 0, 1), (1, 136, 0), (1, 137, 0), (1, 138, 0), (1, 139, 0), (1, 140, 0), (0, 0, 1), (0, 0, 700), (0, 0, 10), (1, 141, 0), (1, 142, 0), (1, 143, 0), (1, 144, 0), (1, 145, 0), (0, 0, 8), (0, -2147483648, 2147483647), (1, 146, 0), (0, 0, 400)])),
  (100, .inr (1, 1200, 1200, [(1200, (0, -128, 127))])),
  (101, .inr (2, 2, 2, [(2, (0, 0, 1))])),
  (102, .inr (0, 9, 9, [(9, (0, -2147483648, 2147483647))])),
  (103, .inr (0, 9, 9, [(9, (0, -2147483648, 2147483647))])),
  (104, .inr (0, 6, 6, [(6, (0, -2147483648, 2147483647))])),
  (105, .inr (0, 6, 6, [(6, (0, -2147483648, 2147483647))])),
  (106, .inr (0, 6, 6, [(6, (0, -2147483648, 2147483647))])),
  (107, .inr (0, 1200, 1200, [(1200, (0, -2147483648, 2147483647))])),
  (108, .inr (0, 4, 4, [(4, (0, 0, 1200))])),
  (109, .inr (0, 1200, 1200, [(1200, (0, -2147483648, 2147483647))])),
  (110, .inr (0, 8, 8, [(8, (0, 0, 7))])),
  (111, .inr (0, 6, 6, [(6, (0, -2147483648, 2147483647))])),
  (112, .inr (0, 8, 8, [(8, (0, 0, 7))])),
  (113, .inr (5, 8, 8, [(8, (4, 0, 0))])),
  (114, .inr (17, 5, 5, [(5, (1, 19, 0))])),
  (115, .inr (11, 8, 8, [(8, (1, 13, 0))])),
  (116, .inr (18, 6, 6, [(6, (1, 20, 0))])),
  (117, .inr (18, 2, 2, [(2, (1, 20, 0))])),
  (118, .inr (0, 1777, 1777, [(1, (0, 0, 2000)), (6, (0, -2147483648, 2147483647)), (7, (0, 0, 300)), (9, (0, -2147483648, 2147483647)), (17, (0, -2147483648, 2147483647)), (57, (0, -2147483648, 2147483647)), (97, (0, 0, 5)), (137, (0, 0, 99)), (177, (0, -2147483648, 99)), (217, (0, 0, 2000)), (257, (0, -2147483648, 2147483647)), (417, (0, -2147483648, 2147483647)), (457, (0, -1, 5)), (497, (0, 0, 2000)), (577, (0, -2147483648, 2147483647)), (1777, (0, -2147483648, 2147483647))])),
  (119, .inr (0, 1777, 1777, [(1, (0, 0, 2000)), (6, (0, -2147483648, 2147483647)), (7, (0, 0, 300)), (9, (0, -2147483648, 2147483647)), (17, (0, -2147483648, 2147483647)), (57, (0, -2147483648, 2147483647)), (97, (0, 0, 5)), (137, (0, 0, 99)), (177, (0, -2147483648, 99)), (217, (0, 0, 2000)), (257, (0, -2147483648, 2147483647)), (417, (0, -2147483648, 2147483647)), (457, (0, -1, 5)), (497, (0, 0, 2000)), (577, (0, -2147483648, 2147483647)), (1777, (0, -2147483648, 2147483647))])),
  (120, .inr (0, 1777, 1777, [(1, (0, 0, 2000)), (6, (0, -2147483648, 2147483647)), (7, (0, 0, 300)), (9, (0, -2147483648, 2147483647)), (17, (0, -2147483648, 2147483647)), (57, (0, -2147483648, 2147483647)), (97, (0, 0, 5)), (137, (0, 0, 99)), (177, (0, -2147483648, 99)), (217, (0, 0, 2000)), (257, (0, -2147483648, 2147483647)), (417, (0, -2147483648, 2147483647)), (457, (0, -1, 5)), (497, (0, 0, 2000)), (577, (0, -2147483648, 2147483647)), (1777, (0, -2147483648, 2147483647))])),
  (121, .inr (0, 10662, 1777, [(1, (0, 0, 2000)), (6, (0, -2147483648, 2147483647)), (7, (0, 0, 300)), (9, (0, -2147483648, 2147483647)), (17, (0, -2147483648, 2147483647)), (57, (0, -2147483648, 2147483647)), (97, (0, 0, 5)), (137, (0, 0, 99)), (177, (0, -2147483648, 99)), (217, (0, 0, 2000)), (257, (0, -2147483648, 2147483647)), (417, (0, -2147483648, 2147483647)), (457, (0, -1, 5)), (497, (0, 0, 2000)), (577, (0, -2147483648, 2147483647)), (1777, (0, -2147483648, 2147483647))])),
  (122, .inr (0, 3554, 1777, [(1, (0, 0, 2000)), (6, (0, -2147483648, 2147483647)), (7, (0, 0, 300)), (9, (0, -2147483648, 2147483647)), (17, (0, -2147483648, 2147483647)), (57, (0, -2147483648, 2147483647)), (97, (0, 0, 5)), (137, (0, 0, 99)), (177, (0, -2147483648, 99)), (217, (0, 0, 2000)), (257, (0, -2147483648, 2147483647)), (417, (0, -2147483648, 2147483647)), (457, (0, -1, 5)), (497, (0, 0, 2000)), (577, (0, -2147483648, 2147483647)), (1777, (0, -2147483648, 2147483647))])),
  (123, .inr (0, 55, 55, [(2, (0, 0, 99)), (6, (0, -2147483648, 2147483647)), (7, (0, 0, 6)), (8, (0, 0, 8)), (24, (0, 0, 99)), (32, (0, 0, 5)), (50, (0, -2147483648, 2147483647)), (51, (0, 0, 4)), (55, (0, 0, 1399))])),
  (124, .inr (0, 55, 55, [(2, (0, 0, 99)), (6, (0, -2147483648, 2147483647)), (7, (0, 0, 6)), (8, (0, 0, 8)), (24, (0, 0, 99)), (32, (0, 0, 5)), (50, (0, -2147483648, 2147483647)), (51, (0, 0, 4)), (55, (0, 0, 1399))])),
  (125, .inr (0, 1200, 1200, [(1200, (0, 0, 255))])),
  (126, .inr (5, 80, 80, [(80, (4, 0, 0))])),
  (127, .inr (5, 80, 80, [(80, (4, 0, 0))])),
  (128, .inr (5, 80, 80, [(80, (4, 0, 0))])),
  (129, .inr (5, 480, 480, [(480, (4, 0, 0))])),
  (130, .inr (5, 160, 160, [(160, (4, 0, 0))])),
  (131, .inr (4, 4, 4, [(4, (3, 0, 0))])),
  (132, .inr (4, 4, 4, [(4, (3, 0, 0))])),
  (133, .inr (4, 24, 24, [(24, (3, 0, 0))])),
  (134, .inr (4, 8, 8, [(8, (3, 0, 0))])),
  (135, .inr (2, 2, 2, [(2, (0, 0, 1))])),
  (136, .inr (7, 5, 5, [(1, (1, 344, 0)), (2, (1, 345, 0)), (3, (1, 346, 0)), (4, (1, 347, 0)), (5, (1, 348, 0))])),
  (137, .inr (0, 1400, 1400, [(1400, (0, 0, 5))])),
  (138, .inr (0, 1400, 1400, [(1400, (0, 0, 1399))])),
  (139, .inr (0, 1400, 1400, [(1400, (0, 0, 9999))])),
  (140, .inr (0, 1400, 1400, [(1400, (0, 0, 1399))])),
  (141, .inr (0, 5, 5, [(5, (0, -2147483648, 2147483647))])),
  (142, .inr (0, 8, 8, [(8, (0, 0, 7))])),
  (143, .inr (0, 8, 8, [(8, (0, 0, 7))])),
  (144, .inr (0, 6, 6, [(6, (0, -2147483648, 2147483647))])),
  (145, .inr (5, 8, 8, [(8, (4, 0, 0))])),
  (146, .inr (0, 400, 400, [(400, (0, -2147483648, 2147483647))])),
  (147, .inr (4, 1, 1, [(1, (3, 0, 0))])),
  (148, .inr (6, 1, 1, [(1, (5, 0, 0))])),
  (149, .inr (1, 16, 16, [(16, (0, -128, 127))])),
  (300, .inr (999, 1, 1, [(1, (1, 365, 0))])),
  (301, .inr (999, 1, 1, [(1, (1, 366, 0))])),
  (302, .inr (999, 1, 1, [(1, (1, 367, 0))])),
  (303, .inr (999, 1, 1, [(1, (1, 368, 0))])),
  (304, .inr (999, 1, 1, [(1, (1, 369, 0))])),
  (305, .inr (999, 1, 1, [(1, (1, 370, 0))])),
  (306, .inr (999, 1, 1, [(1, (1, 371, 0))])),
  (307, .inr (999, 1, 1, [(1, (1, 372, 0))])),
  (308, .inr (999, 1, 1, [(1, (1, 373, 0))])),
  (309, .inr (999, 1, 1, [(1, (1, 374, 0))])),
  (310, .inr (999, 1, 1, [(1, (1, 375, 0))])),
  (311, .inr (999, 1, 1, [(1, (1, 376, 0))])),
  (312, .inr (999, 1, 1, [(1, (1, 377, 0))])),
  (313, .inr (999, 1, 1, [(1, (1, 378, 0))])),
  (314, .inr (999, 1, 1, [(1, (1, 379, 0))])),
  (315, .inr (999, 1, 1, [(1, (1, 380, 0))])),
  (316, .inr (999, 1, 1, [(1, (1, 381, 0))])),
  (317, .inr (999, 1, 1, [(1, (1, 382, 0))])),
  (318, .inr (999, 1, 1, [(1, (1, 383, 0))])),
  (319, .inr (999, 1, 1, [(1, (1, 384, 0))])),
  (320, .inr (999, 1, 1, [(1, (1, 385, 0))])),
  (321, .inr (999, 1, 1, [(1, (1, 386, 0))])),
  (322, .inr (999, 1, 1, [(1, (1, 387, 0))])),
  (323, .inr (999, 1, 1, [(1, (1, 388, 0))])),
  (324, .inr (999, 1, 1, [(1, (1, 389, 0))])),
  (325, .inr (999, 1, 1, [(1, (1, 390, 0))])),
  (326, .inr (999, 1, 1, [(1, (1, 391, 0))])),
  (327, .inr (999, 1, 1, [(1, (1, 392, 0))])),
  (328, .inr (999, 1, 1, [(1, (1, 393, 0))])),
  (329, .inr (999, 1, 1, [(1, (1, 394, 0))])),
  (330, .inr (999, 1, 1, [(1, (1, 395, 0))])),
  (331, .inr (999, 1, 1, [(1, (1, 396, 0))])),
  (332, .inr (999, 1, 1, [(1, (1, 397, 0))])),
  (333, .inr (999, 1, 1, [(1, (1, 398, 0))])),
  (334, .inr (999, 1, 1, [(1, (1, 399, 0))])),
  (335, .inr (999, 1, 1, [(1, (1, 400, 0))])),
  (336, .inr (999, 1, 1, [(1, (1, 401, 0))])),
  (337, .inr (999, 1, 1, [(1, (1, 402, 0))])),
  (338, .inr (999, 1, 1, [(1, (1, 403, 0))])),
  (339, .inr (999, 1, 1, [(1, (1, 404, 0))])),
  (340, .inr (999, 1, 1, [(1, (1, 405, 0))])),
  (341, .inr (999, 1, 1, [(1, (1, 406, 0))])),
  (342, .inr (999, 1, 1, [(1, (1, 407, 0))])),
  (343, .inr (999, 1, 1, [(1, (1, 408, 0))])),
  (344, .inr (999, 1, 1, [(1, (1, 409, 0))])),
  (345, .inr (999, 1, 1, [(1, (1, 410, 0))])),
  (346, .inr (999, 1, 1, [(1, (1, 411, 0))])),
  (347, .inr (999, 1, 1, [(1, (1, 412, 0))])),
  (348, .inr (999, 1, 1, [(1, (1, 413, 0))])),
  (349, .inr (999, 1, 1, [(1, (1, 414, 0))])),
  (350, .inr (999, 1, 1, [(1, (1, 415, 0))])),
  (351, .inr (999, 1, 1, [(1, (1, 416, 0))])),
  (352, .inr (999, 1, 1, [(1, (1, 417, 0))])),
  (353, .inr (999, 1, 1, [(1, (1, 418, 0))])),
  (354, .inr (999, 1, 1, [(1, (1, 419, 0))])),
  (355, .inr (999, 1, 1, [(1, (1, 420, 0))])),
  (356, .inr (999, 1, 1, [(1, (1, 421, 0))])),
  (357, .inr (999, 1, 1, [(1, (1, 422, 0))])),
  (358, .inr (999, 1, 1, [(1, (1, 423, 0))])),
  (359, .inr (999, 1, 1, [(1, (1, 424, 0))])),
  (360, .inr (999, 1, 1, [(1, (1, 425, 0))])),
  (361, .inr (999, 1, 1, [(1, (1, 426, 0))])),
  (362, .inr (999, 1, 1, [(1, (1, 427, 0))])),
  (363, .inr (999, 1, 1, [(1, (1, 428, 0))])),
  (364, .inr (999, 1, 1, [(1, (1, 429, 0))])),
  (365, .inr (999, 17, 17, [(17, (0, 0, 127))])),
  (366, .inr (999, 6, 6, [(6, (0, 0, 127))])),
  (367, .inr (999, 5, 5, [(5, (0, 0, 127))])),
  (368, .inr (999, 21, 21, [(21, (0, 0, 127))])),
  (369, .inr (999, 5, 5, [(5, (0, 0, 127))])),
  (370, .inr (999, 4, 4, [(4, (0, 0, 127))])),
  (371, .inr (999, 5, 5, [(5, (0, 0, 127))])),
  (372, .inr (999, 5, 5, [(5, (0, 0, 127))])),
  (373, .inr (999, 5, 5, [(5, (0, 0, 127))])),
  (374, .inr (999, 7, 7, [(7, (0, 0, 127))])),
  (375, .inr (999, 7, 7, [(7, (0, 0, 127))])),
  (376, .inr (999, 7, 7, [(7, (0, 0, 127))])),
  (377, .inr (999, 3, 3, [(3, (0, 0, 127))])),
  (378, .inr (999, 4, 4, [(4, (0, 0, 127))])),
  (379, .inr (999, 5, 5, [(5, (0, 0, 127))])),
  (380, .inr (999, 4, 4, [(4, (0, 0, 127))])),
  (381, .inr (999, 3, 3, [(3, (0, 0, 127))])),
  (382, .inr (999, 4, 4, [(4, (0, 0, 127))])),
  (383, .inr (999, 4, 4, [(4, (0, 0, 127))])),
  (384, .inr (999, 7, 7, [(7, (0, 0, 127))])),
  (385, .inr (999, 6, 6, [(6, (0, 0, 127))])),
  (386, .inr (999, 5, 5, [(5, (0, 0, 127))])),
  (387, .inr (999, 3, 3, [(3, (0, 0, 127))])),
  (388, .inr (999, 2, 2, [(2, (0, 0, 127))])),
  (389, .inr (999, 8, 8, [(8, (0, 0, 127))])),
  (390, .inr (999, 15, 15, [(15, (0, 0, 127))])),
  (391, .inr (999, 12, 12, [(12, (0, 0, 127))])),
  (392, .inr (999, 11, 11, [(11, (0, 0, 127))])),
  (393, .inr (999, 12, 12, [(12, (0, 0, 127))])),
  (394, .inr (999, 20, 20, [(20, (0, 0, 127))])),
  (395, .inr (999, 15, 15, [(15, (0, 0, 127))])),
  (396, .inr (999, 23, 23, [(23, (0, 0, 127))])),
  (397, .inr (999, 13, 13, [(13, (0, 0, 127))])),
  (398, .inr (999, 13, 13, [(13, (0, 0, 127))])),
  (399, .inr (999, 12, 12, [(12, (0, 0, 127))])),
  (400, .inr (999, 12, 12, [(12, (0, 0, 127))])),
  (401, .inr (999, 22, 22, [(22, (0, 0, 127))])),
  (402, .inr (999, 12, 12, [(12, (0, 0, 127))])),
  (403, .inr (999, 13, 13, [(13, (0, 0, 127))])),
  (404, .inr (999, 13, 13, [(13, (0, 0, 127))])),
  (405, .inr (999, 11, 11, [(11, (0, 0, 127))])),
  (406, .inr (999, 14, 14, [(14, (0, 0, 127))])),
  (407, .inr (999, 15, 15, [(15, (0, 0, 127))])),
  (408, .inr (999, 22, 22, [(22, (0, 0, 127))])),
  (409, .inr (999, 4, 4, [(4, (0, 0, 127))])),
  (410, .inr (999, 4, 4, [(4, (0, 0, 127))])),
  (411, .inr (999, 7, 7, [(7, (0, 0, 127))])),
  (412, .inr (999, 6, 6, [(6, (0, 0, 127))])),
  (413, .inr (999, 5, 5, [(5, (0, 0, 127))])),
  (414, .inr (999, 5, 5, [(5, (0, 0, 127))])),
  (415, .inr (999, 5, 5, [(5, (0, 0, 127))])),
  (416, .inr (999, 4, 4, [(4, (0, 0, 127))])),
  (417, .inr (999, 5, 5, [(5, (0, 0, 127))])),
  (418, .inr (999, 5, 5, [(5, (0, 0, 127))])),
  (419, .inr (999, 5, 5, [(5, (0, 0, 127))])),
  (420, .inr (999, 7, 7, [(7, (0, 0, 127))])),
  (421, .inr (999, 7, 7, [(7, (0, 0, 127))])),
  (422, .inr (999, 7, 7, [(7, (0, 0, 127))])),
  (423, .inr (999, 3, 3, [(3, (0, 0, 127))])),
  (424, .inr (999, 4, 4, [(4, (0, 0, 127))])),
  (425, .inr (999, 5, 5, [(5, (0, 0, 127))])),
  (426, .inr (999, 4, 4, [(4, (0, 0, 127))])),
  (427, .inr (999, 3, 3, [(3, (0, 0, 127))])),
  (428, .inr (999, 3, 3, [(3, (0, 0, 127))])),
  (429, .inr (999, 2, 2, [(2, (0, 0, 127))])),
  (430, .inr (999, 100, 100, [(100, (0, 0, 127))])),
  (431, .inr (999, 100, 100, [(100, (0, 0, 127))])),
  (601, .inr (1, 34, 34, [(34, (0, -128, 127))])),
  (602, .inr (1, 70, 70, [(70, (0, -128, 127))])),
  (603, .inr (1, 142, 142, [(142, (0, -128, 127))])),
  (604, .inr (1, 286, 286, [(286, (0, -128, 127))])),
  (605, .inr (1, 574, 574, [(574, (0, -128, 127))])),
  (606, .inr (1, 1150, 1150, [(1150, (0, -128, 127))]))]
abbrev rgs : Nat → Option gS := lkGS rgL
def rdpL : List (Nat × List (Nat × Nat × List (List LE))) := [(38, [(118, 10, []), (123, 5, [])]), (39, [(119, 10, []), (123, 5, [])]), (40, [(118, 10, [[(0, [(0, -1), (1, -1), (2, 1)])], [(-1, [(0, 1), (2, -1)])]]), (118, 8, [[(0, [(0, -1), (1, -1), (2, 1)])], [(-1, [(0, 1), (2, -1)])]]), (123, 5, [])]), (41, [(119, 10, [[(0, [(0, -1), (1, -1), (2, 1)])], [(-1, [(0, 1), (2, -1)])]]), (119, 8, [[(0, [(0, -1), (1, -1), (2, 1)])], [(-1, [(0, 1), (2, -1)])]]), (123, 5, [])]), (42, [(121, 10, [[(0, [(0, -1), (1, -1), (2, 1)])], [(-1, [(0, 1), (2, -1)])]]), (121, 8, [[(0, [(0, -1), (1, -1), (2, 1)])], [(-1, [(0, 1), (2, -1)])]]), (123, 5, [])]), (43, [(122, 10, [[(0, [(0, -1), (1, -1), (2, 1)])], [(-1, [(0, 1), (2, -1)])]]), (122, 8, [[(0, [(0, -1), (1, -1), (2, 1)])], [(-1, [(0, 1), (2, -1)])]]), (123, 5, [])]), (44, [(120, 10, [[(0, [(0, -1), (1, -1), (2, 1)])], [(-1, [(0, 1), (2, -1)])]]), (120, 8, [[(0, [(0, -1), (1, -1), (2, 1)])], [(-1, [(0, 1), (2, -1)])]]), (124, 5, [])]), (45, [(118, 10, [[(0, [(0, -1), (1, -1), (2, 1)])], [(-1, [(0, 1), (2, -1)])]]), (118, 8, [[(0, [(0, -1), (1, -1), (2, 1)])], [(-1, [(0, 1), (2, -1)])]]), (124, 5, [])]), (46, [(123, 0, [[(0, [(1, -1), (2, 1)])]]), (123, 1, [[(0, [(1, -1), (2, 1)])]]), (123, 2, [[(0, [(1, -1), (2, 1)])]]), (123, 3, [[(0, [(1, -1), (2, 1)])]]), (123, 4, [[(0, [(1, -1), (2, 1)])]]), (123, 5, [[(0, [(1, -1), (2, 1)])]]), (123, 6, [[(0, [(1, -1), (2, 1)])]]), (123, 7, [[(0, [(1, -1), (2, 1)])]]), (123, 8, [[(0, [(1, -1), (2, 1)])]]), (124, 0, []), (124, 1, []), (124, 2, []), (124, 3, []), (124, 4, []), (124, 5, []), (124, 6, []), (124, 7, []), (124, 8, [])]), (47, [(124, 0, [[(0, [(1, -1), (2, 1)])]]), (124, 1, [[(0, [(1, -1), (2, 1)])]]), (124, 2, [[(0, [(1, -1), (2, 1)])]]), (124, 3, [[(0, [(1, -1), (2, 1)])]]), (124, 4, [[(0, [(1, -1), (2, 1)])]]), (124, 5, [[(0, [(1, -1), (2, 1)])]]), (124, 6, [[(0, [(1, -1), (2, 1)])]]), (124, 7, [[(0, [(1, -1), (2, 1)])]]), (124, 8, [[(0, [(1, -1), (2, 1)])]])]), (48, [(120, 10, []), (120, 8, []), (124, 5, [[(-24, [(0, -1), (2, 1)]), (24, [(0, 1), (2, -1)])]])]), (49, [(122, 10, [[(0, [(0, -1777), (2, 1)]), (1776, [(0, 1777), (2, -1)])]]), (122, 8, [[(0, [(0, -1777), (2, 1)]), (1776, [(0, 1777), (2, -1)])]]), (135, 0, [[(0, [(0, -1), (2, 1)]), (0, [(0, 1), (2, -1)])]]), (123, 5, [])]), (50, [(122, 10, []), (122, 8, []), (135, 0, []), (123, 5, [])]), (53, [(120, 8, [[(0, [(1, -1), (2, 1)])]])]), (60, [(137, 0, [[(0, [(0, -1), (2, 1)])]]), (138, 0, [[(0, [(0, -1), (2, 1)])]]), (139, 0, [[(0, [(0, -1), (2, 1)])]]), (140, 0, [[(1, [(0, -1), (2, 1)])]])]), (61, [(137, 0, []), (138, 0, []), (139, 0, []), (140, 0, [[(0, [(0, -1), (2, 1)]), (0, [(0, 1), (2, -1)])]])]), (65, [(137, 0, [[(-700, [(0, -1), (2, 1)])], [(-1, [(0, 1), (2, -1)])]]), (138, 0, [[(-700, [(0, -1), (2, 1)])], [(-1, [(0, 1), (2, -1)])]]), (139, 0, [[(-700, [(0, -1), (2, 1)])], [(-1, [(0, 1), (2, -1)])]]), (140, 0, [[(-700, [(0, -1), (2, 1)])], [(-1, [(0, 1), (2, -1)])]]), (123, 7, []), (123, 8, [])]), (66, [(124, 8, [[(-51, [(0, -1), (2, 1)])]])]), (67, [(137, 0, []), (138, 0, []), (139, 0, []), (140, 0, [])]), (68, [(137, 0, []), (138, 0, []), (139, 0, []), (140, 0, [])]), (69, [(137, 0, []), (138, 0, []), (139, 0, []), (140, 0, [])]), (70, [(137, 0, [[(-1, [(0, -1), (2, 1)])], [(-1, [(0, 1), (2, -1)])]]), (138, 0, [[(-1, [(0, -1), (2, 1)])], [(-1, [(0, 1), (2, -1)])]])]), (71, [(139, 0, [[(-1, [(0, -1), (2, 1)])], [(-1, [(0, 1), (2, -1)])]])]), (73, [(137, 0, [[(-700, [(0, -1), (2, 1)])], [(-1, [(0, 1), (2, -1)])]]), (138, 0, [[(-700, [(0, -1), (2, 1)])], [(-1, [(0, 1), (2, -1)])]]), (139, 0, [[(-700, [(0, -1), (2, 1)])], [(-1, [(0, 1), (2, -1)])]]), (140, 0, [[(-700, [(0, -1), (2, 1)])], [(-1, [(0, 1), (2, -1)])]]), (124, 7, []), (124, 8, [])]), (79, [(142, 0, []), (123, 0, []), (123, 4, [])]), (80, [(142, 0, [])]), (81, [(123, 0, []), (123, 4, [])]), (82, [(142, 0, []), (123, 0, []), (123, 4, [])]), (83, [(142, 0, []), (123, 0, []), (123, 4, [])]), (84, [(142, 0, [[(0, [(0, -1), (2, 1)]), (0, [(0, 1), (2, -1)])]]), (123, 0, []), (123, 4, [])]), (85, [(142, 0, [[(0, [(0, -1), (2, 1)]), (0, [(0, 1), (2, -1)])]]), (123, 0, []), (123, 4, [])]), (86, [(143, 0, [])]), (87, [(143, 0, [[(0, [(0, -1), (2, 1)]), (0, [(0, 1), (2, -1)])]])]), (88, [(142, 0, []), (143, 0, [])]), (90, [(699, 0, [])]), (93, [(143, 0, [])]), (94, [(142, 0, [[(0, [(0, -1), (2, 1)]), (0, [(0, 1), (2, -1)])]]), (143, 0, [])]), (95, [(142, 0, [[(0, [(0, -1), (2, 1)]), (0, [(0, 1), (2, -1)])]]), (143, 0, [])]), (96, [(142, 0, [[(0, [(0, -1), (2, 1)]), (0, [(0, 1), (2, -1)])]]), (143, 0, [])]), (97, [(142, 0, [])]), (100, [(118, 8, []), (142, 0, []), (123, 5, [])]), (101, [(119, 8, []), (142, 0, []), (123, 5, [])]), (102, [(118, 8, [[(-136, [(0, -1), (2, 1)]), (136, [(0, 1), (2, -1)]), (-1, [(0, 1), (1, -5)])]]), (142, 0, []), (123, 5, [])]), (103, [(119, 8, [[(-136, [(0, -1), (2, 1)]), (136, [(0, 1), (2, -1)]), (-1, [(0, 1), (1, -5)])]]), (142, 0, []), (123, 5, [])]), (104, [(142, 0, [])]), (105, [(118, 8, []), (123, 5, []), (123, 3, [])]), (106, [(119, 8, []), (123, 5, []), (123, 3, [])]), (107, [(118, 8, [[(-137, [(0, -1), (2, 1)]), (137, [(0, 1), (2, -1)])]]), (123, 5, []), (123, 3, [])]), (108, [(119, 8, [[(-137, [(0, -1), (2, 1)]), (137, [(0, 1), (2, -1)])]]), (123, 5, []), (123, 3, [])]), (109, [(119, 0, [[(0, [(0, -1), (2, 1)])]]), (118, 0, [])]), (110, []), (111, []), (120, []), (121, []), (122, [])]
def rdpF : List (Nat × List (Nat × Nat × List (List LE))) → Nat → List (Nat × Nat × List (List LE))
  | [], _ => []
  | q :: r, t => cond (Nat.beq q.1 t) q.2 (rdpF r t)
def rdp : dT := rdpF rdpL
variable {G C : Nat → Nat} {h h' : mH} {md : List (Nat × Nat)} {dd : Int}
/-- an array's number -/
def el (h : mH) (x i : Nat) : Int := match h[x]? with
  | some (.inl (_, _, .inl f)) => (f i).toInt
  | _ => 0
theorem el_of {x t n i : Nat} {f : Nat → Int32} (hx : h[x]? = some (.inl (t, n, .inl f))) : el h x i = (f i).toInt := by unfold el; rw [hx]
theorem elV_inl {c c' : mC} {f : Nat → Int32} {i : Nat} (hk : kdC c' = kdC c) (hc : c = .inl f) (he : elV c' i = elV c i) : ∃ f', c' = .inl f' ∧ f' i = f i := by
  subst hc
  obtain ⟨f', rfl⟩ := kd0 (c := c') hk
  refine ⟨f', rfl, ?_⟩
  have he : Value.int (f' i) = Value.int (f i) := he
  injection he
/-- the one array of a group -/
def vw (C : Nat → Nat) (h : mH) (g i : Nat) : Int := el h (C g) i
/-- the cells of the groups that facts speak of -/
def uqG (G C : Nat → Nat) : Prop := ∀ g, 118 ≤ g → g ≤ 146 → G (C g) = g ∧ ∀ x, G x = g → x = C g
/-- does a fact's list name the segment of a place -/
def okI (τ g i : Nat) : Bool := Nat.ble 118 g && (Nat.ble g 146 && (match rgs g with
  | some (.inr (t, n, p, sg)) => Nat.beq (kdN t n) 0 && (Nat.ble (i + 1) n && (match segAt sg (i % p) 0 with
    | some (k, _) => (rdp τ).any fun z => Nat.beq z.1 g && Nat.beq z.2.1 k
    | none => false))
  | _ => false))
theorem okI_ok {τ g i : Nat} (ho : okI τ g i = true) : (118 ≤ g ∧ g ≤ 146) ∧ ∃ t n p sg k f, rgs g = some (.inr (t, n, p, sg)) ∧ kdN t n = 0 ∧ i < n ∧ segAt sg (i % p) 0 = some (k, f) ∧ ∃ z ∈ rdp τ, z.1 = g ∧ z.2.1 = k := by
  unfold okI at ho
  simp only [Bool.and_eq_true] at ho
  obtain ⟨h1, h2, ho⟩ := ho
  refine ⟨⟨Nat.le_of_ble_eq_true h1, Nat.le_of_ble_eq_true h2⟩, ?_⟩
  split at ho
  next t n p sg hg =>
    simp only [Bool.and_eq_true] at ho
    obtain ⟨h3, h4, ho⟩ := ho
    split at ho
    next k f hs =>
      obtain ⟨z, hz, h5⟩ := List.any_eq_true.mp ho
      simp only [Bool.and_eq_true] at h5
      exact ⟨t, n, p, sg, k, f, hg, Nat.eq_of_beq_eq_true h3, Nat.le_of_ble_eq_true h4, hs, z, hz, Nat.eq_of_beq_eq_true h5.1, Nat.eq_of_beq_eq_true h5.2⟩
    next => cases ho
  next => cases ho
theorem vw_fr {τ g i : Nat} (hU : uqG G C) (hT : TI G rgs h) (hf : fr G rgs md h h') (ho : okI τ g i = true) (hd : ∀ q ∈ rdp τ, (q.1, q.2.1) ∉ md) : vw C h' g i = vw C h g i := by
  obtain ⟨⟨l1, l2⟩, t, n, p, sg, k, f, hg, hk0, hi, hs, z, hz, z1, z2⟩ := okI_ok ho
  obtain ⟨hG, -⟩ := hU g l1 l2
  have hm : (g, k) ∉ md := by
    have := hd z hz
    rwa [z1, z2] at this
  have hg2 : rgs (G (C g)) = some (.inr (t, n, p, sg)) := by rw [hG]; exact hg
  obtain ⟨c, h1, h2, -⟩ := TI_arr hT hg2 (Or.inl (by rw [hG]; omega))
  obtain ⟨f0, rfl⟩ := kd0 (c := c) (h2.trans hk0)
  obtain ⟨e', he⟩ := fr_get hf h1
  have hc := hf.2 _ _ _ h1 he
  obtain ⟨c', rfl, h3, h4⟩ := hc
  have h5 := h4 i hi (fun k' hk' => by
    unfold sgK at hk'
    rw [hg2] at hk'
    simp only [hs, Option.map_some, Option.some.injEq] at hk'
    rw [← hk', hG]
    exact hm)
  obtain ⟨f', rfl, h6⟩ := elV_inl h3 rfl h5
  unfold vw
  rw [el_of he, el_of h1, h6]
/-- a write leaves what it doesn't meet -/
theorem vw_set {g i x j t n : Nat} {cc c' : mC} (hx : h[x]? = some (.inl (t, n, cc))) (hk : kdC c' = kdC cc) (ho : ∀ i, i ≠ j → elV c' i = elV cc i) (hne : C g = x → i ≠ j) : vw C (h.set x (.inl (t, n, c'))) g i = vw C h g i := by
  unfold vw
  by_cases hxy : C g = x
  · have hne := hne hxy
    rw [hxy]
    have hlt := (List.getElem?_eq_some_iff.mp hx).1
    unfold el
    rw [List.getElem?_set_self hlt, hx]
    obtain f | f | f | f | f := cc
    · obtain ⟨f', rfl, h6⟩ := elV_inl hk rfl (ho i hne)
      dsimp only
      rw [h6]
    · obtain ⟨f', rfl⟩ := kd4 (c := c') hk
      rfl
    · obtain ⟨f', rfl⟩ := kd5 (c := c') hk
      rfl
    · obtain ⟨f', rfl⟩ := kd6 (c := c') hk
      rfl
    · obtain ⟨f', rfl⟩ := kd7 (c := c') hk
      rfl
  · unfold el
    rw [List.getElem?_set_ne (Ne.symm hxy)]
/-- what a fact needs: it is the same where its places hold the same; its list names them; the conditions keep a write away -/
def tagOK (τ : Nat) (r c : Int) (P : (Nat → Nat → Int) → Prop) : Prop := ∃ D : Nat → Nat → Prop, (∀ V V' : Nat → Nat → Int, (∀ g i, D g i → V' g i = V g i) → P V → P V') ∧ (∀ g i, D g i → okI τ g i = true) ∧
  ∀ g i, D g i → ∀ z ∈ rdp τ, z.1 = g → ∀ l ∈ z.2.2, (∀ e ∈ l, 0 ≤ ev (vL r c i) e) → False
theorem tag_k1 {τ : Nat} {r c : Int} {P : (Nat → Nat → Int) → Prop} (ht : tagOK τ r c P) (hU : uqG G C) (hT : TI G rgs h) (hf : fr G rgs md h h') (hd : ∀ q ∈ rdp τ, (q.1, q.2.1) ∉ md) (hP : P (vw C h)) : P (vw C h') := by
  obtain ⟨D, h1, h2, -⟩ := ht
  exact h1 _ _ (fun g i hD => vw_fr hU hT hf (h2 g i hD) hd) hP
theorem tag_x {τ : Nat} {r c : Int} {P : (Nat → Nat → Int) → Prop} (ht : tagOK τ r c P) (hU : uqG G C) {x j t n p k : Nat} {sg : List (Nat × kS)} {f : kS} {cc c' : mC} (hgs : rgs (G x) = some (.inr (t, n, p, sg))) (hx : h[x]? = some (.inl (t, n, cc))) (hk : kdC c' = kdC cc) (hs : segAt sg (j % p) 0 = some (k, f))
    (ho : ∀ i, i ≠ j → elV c' i = elV cc i) (hz : ∀ z ∈ rdp τ, z.1 = G x → z.2.1 = k → ∃ l ∈ z.2.2, ∀ e ∈ l, 0 ≤ ev (vL r c j) e) (hP : P (vw C h)) : P (vw C (h.set x (.inl (t, n, c')))) := by
  obtain ⟨D, h1, h2, h3⟩ := ht
  refine h1 _ _ (fun g i hD => vw_set hx hk ho fun hCx hij => ?_) hP
  subst hij
  obtain ⟨⟨l1, l2⟩, t0, n0, p0, sg0, k0, f0, hg, -, -, hs0, z, hzm, z1, z2⟩ := okI_ok (h2 g i hD)
  have hG : G x = g := by rw [← hCx]; exact (hU g l1 l2).1
  rw [hG, hg] at hgs
  cases hgs
  rw [hs] at hs0
  cases hs0
  obtain ⟨l, hl, hle⟩ := hz z hzm (z1.trans hG.symm) z2
  exact h3 g i hD z hzm z1 l hl hle
theorem ev3 {r c j a b d k : Int} : ev (vL r c j) (k, [(0, a), (1, b), (2, d)]) = k + (a * r + (b * c + (d * j + 0))) := rfl
theorem ev02 {r c j a d k : Int} : ev (vL r c j) (k, [(0, a), (2, d)]) = k + (a * r + (d * j + 0)) := rfl
theorem ev12 {r c j a d k : Int} : ev (vL r c j) (k, [(1, a), (2, d)]) = k + (a * c + (d * j + 0)) := rfl
theorem ev2 {r c j d k : Int} : ev (vL r c j) (k, [(2, d)]) = k + (d * j + 0) := rfl
/-! what the facts say -/
abbrev vV : Type := Nat → Nat → Int
/-- a slot's cell that is there holds 1 at least; no stock is below zero -/
def gd (cnt : Nat → Int) (i : Nat) (v : Int) : Prop := (∀ m j : Nat, m < 8 → j < 5 → i % 1777 = 217 + 5 * m + j → (j : Int) < cnt m → 1 ≤ v) ∧ (137 ≤ i % 1777 → i % 1777 < 177 → 0 ≤ v)
def GDv (V : vV) (g pl n : Nat) (r c : Int) : Prop := ∀ i : Nat, r ≤ i → (i : Int) < r + c → i < n → gd (fun m => V pl (24 + m)) i (V g i)
def P46 (V : vV) (c : Int) : Prop := ∀ i : Nat, (i : Int) < c → i < 55 → V 123 i = V 124 i
def P47 (V : vV) (c : Int) : Prop := ∀ i : Nat, (i : Int) < c → i < 55 → V 124 i = 0
def P48 (V : vV) (r c : Int) : Prop := ∀ i : Nat, i < 1777 → gd (fun m => if (m : Int) = r then c else V 124 (24 + m)) i (V 120 i)
def P49 (V : vV) (r : Int) : Prop := ∀ b : Nat, b < 2 → (b : Int) ≠ r → 1 ≤ V 135 b → GDv V 122 123 3554 (1777 * b) 1777
def P50 (V : vV) : Prop := ∀ b : Nat, b < 2 → 1 ≤ V 135 b → GDv V 122 123 3554 (1777 * b) 1777
def P53 (V : vV) (c : Int) : Prop := ∀ i : Nat, 137 ≤ i → i < 177 → (i : Int) < c → V 120 i = 0
def P38 (V : vV) (g : Nat) : Prop := ∀ m j : Nat, m < 8 → j < 5 → (j : Int) < V 123 (24 + m) → 1 ≤ V g (217 + 5 * m + j)
/-! the rules' nodes -/
def nodeOK (V : vV) (s : Int) (n : Nat) : Prop := (V 137 n ≤ 1 → s ≤ V 138 n ∧ V 138 n < n ∧ s ≤ V 139 n ∧ V 139 n < n ∧ V 140 (V 138 n).toNat = n) ∧ (V 137 n = 2 → s ≤ V 138 n ∧ V 138 n < n) ∧ (3 ≤ V 137 n → 0 ≤ V 138 n ∧ V 138 n ≤ 4)
def closed (V : vV) (s e : Int) : Prop := ∀ n : Nat, s ≤ n → (n : Int) < e → nodeOK V s n
/-- nodes in intervals, one behind another, by their code -/
def frst (V : vV) : Nat → Int → Int → Prop
  | 0, _, _ => False
  | f + 1, e, c => e ≤ 1400 ∧ ((1 ≤ c ∧ c < 2048 ∧ c - 1 ≤ e ∧ closed V (c - 1) e) ∨ (2048 ≤ c ∧ 1 ≤ c % 2048 ∧ c % 2048 - 1 < e ∧ closed V (c % 2048 - 1) e ∧ frst V f (c % 2048 - 1) (c / 2048)))
def btm : Nat → Int → Int → Prop
  | 0, _, _ => False
  | f + 1, c, l => (1 ≤ c ∧ c < 2048 ∧ l = c - 1) ∨ (2048 ≤ c ∧ btm f (c / 2048) l)
def P60 (V : vV) (e c : Int) : Prop := ∃ f, frst V f e c
def upV (V : vV) (g n : Nat) (v : Int) : vV := fun g' i => if g' = g ∧ i = n then v else V g' i
def P61 (V : vV) (n z : Int) : Prop := 0 ≤ n ∧ ∃ x k : Int, z = 2048 * x + k + 1 ∧ 0 ≤ k ∧ k < 1400 ∧ ∃ f, ∀ v, frst (upV V 140 n.toNat v) f k x
def P64 (x y : Int) : Prop := ∃ s : Int, 1 ≤ s ∧ s ≤ 2047 ∧ x = 2048 * y + s ∧ 1 ≤ y
def rts (V : vV) (pl : Nat) (l : Int) : Prop := ∃ hi : Int, 0 ≤ l ∧ hi ≤ l + 700 ∧ hi ≤ 1400 ∧ closed V l hi ∧ ∀ i : Nat, i < 4 → (i : Int) < V pl 50 → l ≤ V pl (51 + i) ∧ V pl (51 + i) < hi
def P66 (V : vV) (k c : Int) : Prop := ∀ i : Nat, i < 4 → (i : Int) < k → c / 2048 ≤ V 124 (51 + i) ∧ V 124 (51 + i) < c % 2048
def P67 (V : vV) (n l : Int) : Prop := ∃ hi : Int, 0 ≤ l ∧ hi ≤ l + 700 ∧ hi ≤ 1400 ∧ closed V l hi ∧ l ≤ n ∧ n < hi
def itN (V : vV) (n : Nat) : Nat → Nat
  | 0 => n
  | j + 1 => (V 138 (itN V n j)).toNat
def P68 (V : vV) (n k : Int) : Prop := ∃ l hi : Int, 0 ≤ l ∧ hi ≤ 1400 ∧ closed V l hi ∧ l ≤ n ∧ n < hi ∧ ∃ j : Nat, (itN V n.toNat j : Int) = k ∧ ∀ i, i < j → V 137 (itN V n.toNat i) ≤ 1
def P69 (V : vV) (n k : Int) : Prop := P68 V n k ∧ V 137 k.toNat ≤ 1
def P70 (V : vV) (n w : Int) : Prop := 0 ≤ n ∧ n < 1400 ∧ 0 ≤ V 137 n.toNat ∧ V 137 n.toNat ≤ 7 ∧ V 137 n.toNat + 8 * V 138 n.toNat = w
def P71 (V : vV) (n v : Int) : Prop := 0 ≤ n ∧ n < 1400 ∧ V 139 n.toNat = v
/-! the route -/
def ab (x : Int) : Int := if 0 ≤ x then x else -x
def sf (ρ : Nat → Int) (m p : Int) : Int := if 0 ≤ p ∧ p < m ∧ p < 8 then ρ p.toNat else -1
def wX (V : vV) (a : Int) : Int := if a < 0 then V 123 0 else V 123 (8 + a.toNat % 8)
def wY (V : vV) (a : Int) : Int := if a < 0 then V 123 1 else V 123 (16 + a.toNat % 8)
def wW (V : vV) (a b : Int) : Int := ab (wX V a - wX V b) + ab (wY V a - wY V b)
def sm (f : Nat → Int) : Nat → Int
  | 0 => 0
  | n + 1 => sm f n + f n
def rev (i j : Nat) (ρ : Nat → Int) : Nat → Int := fun k => if i ≤ k ∧ k ≤ j then ρ (i + j - k) else ρ k
def upd1 (ρ : Nat → Int) (i : Nat) (v : Int) : Nat → Int := fun k => if k = i then v else ρ k
def r8 (ρ : Nat → Int) : Nat → Int := fun k => if k < 8 then ρ k else 0
def ro (V : vV) : Nat → Int := r8 (V 142)
/-- a way of the route, and all of them -/
def eg (V : vV) (ρ : Nat → Int) (m : Int) (k : Nat) : Int := wW V (sf ρ m ((k : Int) - 1)) (sf ρ m k)
def pT (V : vV) (ρ : Nat → Int) (m : Int) : Int := sm (eg V ρ m) (m.toNat + 1)
def P79 (V : vV) (k w : Int) : Prop := w = wW V (sf (ro V) (k / 4096) (k / 64 % 64 - 1)) (sf (ro V) (k / 4096) (k % 64 - 1))
def P80 (V : vV) (k v : Int) : Prop := v = sf (ro V) (k / 16) (k % 16 - 1)
def P81 (V : vV) (k w : Int) : Prop := w = wW V (k / 9 - 1) (k % 9 - 1)
def P82 (V : vV) (m S : Int) : Prop := S = pT V (ro V) m
def P83 (V : vV) (k S : Int) : Prop := S = pT V (rev (k / 16 % 16).toNat (k % 16).toNat (ro V)) (k / 256)
def P84 (V : vV) (i c : Int) : Prop := 0 ≤ i ∧ i < 8 ∧ i ≠ c / 8 % 16 ∧ c / 2048 = pT V (rev (i.toNat + 1) ((c / 8 % 16).toNat - 1) (upd1 (upd1 (ro V) i.toNat (ro V (c / 8 % 16).toNat)) (c / 8 % 16).toNat (c % 8))) (c / 128 % 16)
def P85 (V : vV) (j c : Int) : Prop := 0 ≤ j ∧ j < 8 ∧ c / 2048 = pT V (rev ((c / 8 % 16).toNat + 1) (j.toNat - 1) (upd1 (ro V) j.toNat (c % 8))) (c / 128 % 16)
def P86 (V : vV) (k c : Int) : Prop := (∀ a b : Nat, a < b → (b : Int) < k → b < 8 → V 143 a ≠ V 143 b) ∧ ∀ a : Nat, (a : Int) < k → a < 8 → V 143 a < c
def P87 (V : vV) (k z : Int) : Prop := (∀ a b : Nat, a < b → (b : Int) ≤ z / 16 → b < 8 → (a : Int) ≠ k → (b : Int) ≠ k → V 143 a ≠ V 143 b) ∧ ∀ a : Nat, (a : Int) ≤ z / 16 → a < 8 → (a : Int) ≠ k → V 143 a < z % 16
def P89 (a c : Int) : Prop := c % 128 = a
def P92 (a c : Int) : Prop := c % 2048 = a
def rOK (ρ o : Nat → Int) (m k : Int) : Prop := (∀ a b : Nat, a < b → (b : Int) < m → b < 8 → ρ a ≠ ρ b) ∧ ∀ a : Nat, (a : Int) < m → a < 8 → ∃ j : Nat, (j : Int) < k ∧ j < 8 ∧ ρ a = o j
def P93 (V : vV) (k x : Int) : Prop := 0 ≤ k ∧ k < 8 ∧ V 143 k.toNat = x ∧ ∀ i : Nat, (i : Int) < k → V 143 i ≠ x
def P94 (V : vV) (hh z : Int) : Prop := (∀ a b : Nat, a < b → (b : Int) ≤ z / 16 → b < 8 → (a : Int) ≠ hh → (b : Int) ≠ hh → V 142 a ≠ V 142 b) ∧ ∀ a : Nat, (a : Int) ≤ z / 16 → a < 8 → (a : Int) ≠ hh → ∃ j : Nat, (j : Int) < z % 16 ∧ j < 8 ∧ V 142 a = V 143 j
def P95 (V : vV) (i c : Int) : Prop := 0 ≤ i ∧ rOK (upd1 (V 142) i.toNat (c % 8)) (V 143) (c / 8 % 16) (c / 128)
def P97 (V : vV) (m M : Int) : Prop := (∀ a b : Nat, a < b → (b : Int) < m → b < 8 → V 142 a ≠ V 142 b) ∧ ∀ a : Nat, (a : Int) < m → a < 8 → V 142 a < M
def P104 (V : vV) (m r : Int) : Prop := 0 ≤ r ∧ r < 8 ∧ V 142 r.toNat = m ∧ ∀ i : Nat, (i : Int) < r → V 142 i ≠ m
/-! a day -/
def vis (V : vV) (r : Int) (k : Nat) : Prop := ∃ i : Nat, (i : Int) < r ∧ i < 8 ∧ V 142 i = ((k / 5 : Nat) : Int) ∧ ((k % 5 : Nat) : Int) < V 123 (24 + k / 5)
def P100 (V : vV) (g : Nat) (r : Int) : Prop := ∀ k : Nat, k < 40 → V g (137 + k) < 0 → vis V r k

def P102 (V : vV) (g : Nat) (q m : Int) : Prop := 0 ≤ m ∧ m < 8 ∧ (5 * m < q → q ≤ 5 * m + 5 ∧ q - 1 - 5 * m < V 123 (24 + m.toNat)) ∧ ∃ r : Nat, r < 8 ∧ V 142 r = m ∧ (∀ i, i < r → V 142 i ≠ m) ∧
  ∀ k : Nat, k < 40 → ((k : Int) ≠ q - 1 ∨ q ≤ 5 * m) → V g (137 + k) < 0 → vis V r k ∨ (((k / 5 : Nat) : Int) = m ∧ (k : Int) < q ∧ ((k % 5 : Nat) : Int) < V 123 (24 + k / 5))
def there (V : vV) (k : Nat) : Prop := ((k / 5 : Nat) : Int) < V 123 7 ∧ ((k % 5 : Nat) : Int) < V 123 (24 + k / 5)
def P105 (V : vV) (g : Nat) (q : Int) : Prop := ∀ k : Nat, k < 40 → ((k : Int) < q → 0 ≤ V g (137 + k)) ∧ (V g (137 + k) < 0 → there V k)
def P107 (V : vV) (g : Nat) (q : Int) : Prop := 0 ≤ q ∧ q < 40 ∧ there V q.toNat ∧ ∀ k : Nat, k < 40 → (k : Int) ≠ q → ((k : Int) < q → 0 ≤ V g (137 + k)) ∧ (V g (137 + k) < 0 → there V k)
def P109 (V : vV) (k : Int) : Prop := 1 ≤ k → V 119 0 = V 118 0
/-- the conditions of a fact's list at a group -/
def cdl (τ g : Nat) (L : List (List LE)) : Bool := (rdp τ).all fun z => !(Nat.beq z.1 g) || decide (z.2.2 = L)
theorem cdl_ok {τ g : Nat} {L : List (List LE)} (h : cdl τ g L = true) : ∀ z ∈ rdp τ, z.1 = g → z.2.2 = L := by
  intro z hz hg
  have h1 := List.all_eq_true.mp h z hz
  rw [hg, Nat.beq_refl] at h1
  simpa using h1
/-- two readings of the cells that are the same where a fact looks -/
def EQd (τ : Nat) (r c : Int) (V V' : vV) : Prop := ∀ g i, (okI τ g i = true ∧ ∀ z ∈ rdp τ, z.1 = g → ∀ l ∈ z.2.2, (∀ e ∈ l, 0 ≤ ev (vL r c i) e) → False) → V' g i = V g i
theorem tagOK_of {τ : Nat} {r c : Int} {P : vV → Prop} (hP : ∀ V V', EQd τ r c V V' → P V → P V') : tagOK τ r c P := ⟨fun g i => okI τ g i = true ∧ ∀ z ∈ rdp τ, z.1 = g → ∀ l ∈ z.2.2, (∀ e ∈ l, 0 ≤ ev (vL r c i) e) → False, fun V V' hE => hP V V' hE, fun _ _ h => h.1, fun _ _ h => h.2⟩
theorem tagOK_c {τ : Nat} {r c : Int} {p : Prop} : tagOK τ r c (fun _ => p) := ⟨fun _ _ => False, fun _ _ _ h => h, fun _ _ h => h.elim, fun _ _ h => h.elim⟩
section EQD
variable {τ g i : Nat} {r c : Int} {V V' : vV}
theorem EQd_at {L : List (List LE)} (hE : EQd τ r c V V') (h1 : okI τ g i = true) (h2 : cdl τ g L = true) (h3 : ∀ l ∈ L, (∀ e ∈ l, 0 ≤ ev (vL r c i) e) → False) : V' g i = V g i := hE g i ⟨h1, fun z hz hg l hl => h3 l (by rw [← cdl_ok h2 z hz hg]; exact hl)⟩
theorem e0 (hE : EQd τ r c V V') (h1 : okI τ g i = true) (h2 : cdl τ g [] = true) : V' g i = V g i := EQd_at hE h1 h2 fun l hl => absurd hl List.not_mem_nil
theorem e1 {a : LE} (hE : EQd τ r c V V') (h1 : okI τ g i = true) (h2 : cdl τ g [[a]] = true) (h3 : ev (vL r c i) a < 0) : V' g i = V g i := EQd_at hE h1 h2 fun l hl h => by
  obtain rfl := List.mem_singleton.mp hl
  have := h _ List.mem_cons_self
  omega
theorem e2 {a b : LE} (hE : EQd τ r c V V') (h1 : okI τ g i = true) (h2 : cdl τ g [[a, b]] = true) (h3 : ev (vL r c i) a < 0 ∨ ev (vL r c i) b < 0) : V' g i = V g i := EQd_at hE h1 h2 fun l hl h => by
  obtain rfl := List.mem_singleton.mp hl
  have := h _ List.mem_cons_self
  have := h _ (List.mem_cons_of_mem _ List.mem_cons_self)
  omega
theorem e3 {a b : LE} (hE : EQd τ r c V V') (h1 : okI τ g i = true) (h2 : cdl τ g [[a], [b]] = true) (h3 : ev (vL r c i) a < 0) (h4 : ev (vL r c i) b < 0) : V' g i = V g i := EQd_at hE h1 h2 fun l hl h => by
  rcases List.mem_cons.mp hl with rfl | hl
  · have := h _ List.mem_cons_self
    omega
  · obtain rfl := List.mem_singleton.mp hl
    have := h _ List.mem_cons_self
    omega
theorem e4 {a b d : LE} (hE : EQd τ r c V V') (h1 : okI τ g i = true) (h2 : cdl τ g [[a, b, d]] = true) (h3 : ev (vL r c i) a < 0 ∨ ev (vL r c i) b < 0 ∨ ev (vL r c i) d < 0) : V' g i = V g i := EQd_at hE h1 h2 fun l hl h => by
  obtain rfl := List.mem_singleton.mp hl
  have := h _ List.mem_cons_self
  have := h _ (List.mem_cons_of_mem _ List.mem_cons_self)
  have := h _ (List.mem_cons_of_mem _ (List.mem_cons_of_mem _ List.mem_cons_self))
  omega
end EQD
def rgB (τ g lo hi : Nat) : Bool := (List.range (hi - lo)).all fun i => okI τ g (lo + i)
theorem okr {τ g lo hi i : Nat} (h : rgB τ g lo hi = true) (h1 : lo ≤ i) (h2 : i < hi) : okI τ g i = true := by
  have := List.all_eq_true.mp h (i - lo) (List.mem_range.mpr (by omega))
  rwa [show lo + (i - lo) = i by omega] at this
theorem okm {τ g i t n p : Nat} {sg : List (Nat × kS)} (hg : rgs g = some (.inr (t, n, p, sg))) (hn : i < n) (ho : okI τ g (i % p) = true) : okI τ g i = true := by
  unfold okI at ho ⊢
  rw [hg] at ho ⊢
  simp only [Bool.and_eq_true, Nat.mod_mod] at ho ⊢
  exact ⟨ho.1, ho.2.1, ho.2.2.1, Nat.ble_eq_true_of_le hn, ho.2.2.2.2⟩
theorem gd_cg {cnt cnt' : Nat → Int} {i : Nat} {v v' : Int} (h1 : ∀ m, m < 8 → cnt' m = cnt m) (h2 : (137 ≤ i % 1777 ∧ i % 1777 < 177 ∨ 217 ≤ i % 1777 ∧ i % 1777 < 257) → v' = v) (hg : gd cnt i v) : gd cnt' i v' := by
  refine ⟨fun m j m1 j1 e hc => ?_, fun a b => ?_⟩
  · rw [h1 m m1] at hc
    rw [h2 (Or.inr ⟨by omega, by omega⟩)]
    exact hg.1 m j m1 j1 e hc
  · rw [h2 (Or.inl ⟨a, b⟩)]
    exact hg.2 a b
theorem GD_cg {V V' : vV} {g pl n : Nat} {r c : Int} (h1 : ∀ m, m < 8 → V' pl (24 + m) = V pl (24 + m)) (h2 : ∀ i : Nat, r ≤ i → (i : Int) < r + c → i < n → (137 ≤ i % 1777 ∧ i % 1777 < 177 ∨ 217 ≤ i % 1777 ∧ i % 1777 < 257) → V' g i = V g i) (hG : GDv V g pl n r c) : GDv V' g pl n r c := fun i a b d => gd_cg h1 (h2 i a b d) (hG i a b d)
theorem okm2 {τ g i t n : Nat} {sg : List (Nat × kS)} (hg : rgs g = some (.inr (t, n, 1777, sg))) (hn : i < n) (k1 : rgB τ g 137 177 = true) (k2 : rgB τ g 217 257 = true) (hi : 137 ≤ i % 1777 ∧ i % 1777 < 177 ∨ 217 ≤ i % 1777 ∧ i % 1777 < 257) : okI τ g i = true := okm hg hn (by
  rcases hi with ⟨x, y⟩ | ⟨x, y⟩
  · exact okr k1 x y
  · exact okr k2 x y)
theorem t_GD {τ g pl n : Nat} {r c : Int} {sg : List (Nat × kS)} (hg : rgs g = some (.inr (0, n, 1777, sg))) (k1 : rgB τ g 137 177 = true) (k2 : rgB τ g 217 257 = true) (k3 : rgB τ pl 24 32 = true) (c1 : cdl τ g [[(0, [(0, -1), (1, -1), (2, 1)])], [(-1, [(0, 1), (2, -1)])]] = true) (c2 : cdl τ pl [] = true) : tagOK τ r c fun V => GDv V g pl n r c := tagOK_of fun V V' hE hP => GD_cg (fun m hm => e0 hE (okr k3 (by omega) (by omega)) c2) (fun i a b d hi => e3 hE (okm2 hg d k1 k2 hi) c1 (by rw [ev3]; omega) (by rw [ev02]; omega)) hP
theorem t_40 {r c : Int} : tagOK 40 r c fun V => GDv V 118 123 1777 r c := t_GD rfl (by decide +kernel) (by decide +kernel) (by decide +kernel) (by decide +kernel) (by decide +kernel)
theorem t_41 {r c : Int} : tagOK 41 r c fun V => GDv V 119 123 1777 r c := t_GD rfl (by decide +kernel) (by decide +kernel) (by decide +kernel) (by decide +kernel) (by decide +kernel)
theorem t_42 {r c : Int} : tagOK 42 r c fun V => GDv V 121 123 10662 r c := t_GD rfl (by decide +kernel) (by decide +kernel) (by decide +kernel) (by decide +kernel) (by decide +kernel)
theorem t_43 {r c : Int} : tagOK 43 r c fun V => GDv V 122 123 3554 r c := t_GD rfl (by decide +kernel) (by decide +kernel) (by decide +kernel) (by decide +kernel) (by decide +kernel)
theorem t_44 {r c : Int} : tagOK 44 r c fun V => GDv V 120 124 1777 r c := t_GD rfl (by decide +kernel) (by decide +kernel) (by decide +kernel) (by decide +kernel) (by decide +kernel)
theorem t_45 {r c : Int} : tagOK 45 r c fun V => GDv V 118 124 1777 r c := t_GD rfl (by decide +kernel) (by decide +kernel) (by decide +kernel) (by decide +kernel) (by decide +kernel)
theorem r46a : rgB 46 123 0 55 = true := by decide +kernel
theorem r46b : rgB 46 124 0 55 = true := by decide +kernel
theorem t_46 {r c : Int} : tagOK 46 r c fun V => P46 V c := tagOK_of fun V V' hE hP i h1 h2 => by
  rw [e1 (g := 123) (i := i) (a := (0, [(1, -1), (2, 1)])) hE (okr r46a (Nat.zero_le _) h2) (by decide +kernel) (by rw [ev12]; omega), e0 (g := 124) (i := i) hE (okr r46b (Nat.zero_le _) h2) (by decide +kernel)]
  exact hP i h1 h2
theorem r47 : rgB 47 124 0 55 = true := by decide +kernel
theorem t_47 {r c : Int} : tagOK 47 r c fun V => P47 V c := tagOK_of fun V V' hE hP i h1 h2 => by
  rw [e1 (g := 124) (i := i) (a := (0, [(1, -1), (2, 1)])) hE (okr r47 (Nat.zero_le _) h2) (by decide +kernel) (by rw [ev12]; omega)]
  exact hP i h1 h2
theorem r48a : rgB 48 120 137 177 = true := by decide +kernel
theorem r48b : rgB 48 120 217 257 = true := by decide +kernel
theorem r48c : rgB 48 124 24 32 = true := by decide +kernel
theorem t_48 {r c : Int} : tagOK 48 r c fun V => P48 V r c := tagOK_of fun V V' hE hP i h1 => by
  refine gd_cg (fun m hm => ?_) (fun hi => ?_) (hP i h1)
  · by_cases hmr : (m : Int) = r
    · rw [if_pos hmr, if_pos hmr]
    · rw [if_neg hmr, if_neg hmr]
      exact e2 (a := (-24, [(0, -1), (2, 1)])) (b := (24, [(0, 1), (2, -1)])) hE (okr r48c (by omega) (by omega)) (by decide +kernel) (by rw [ev02, ev02]; omega)
  · exact e0 hE (by
      rw [Nat.mod_eq_of_lt h1] at hi
      rcases hi with ⟨x, y⟩ | ⟨x, y⟩
      · exact okr r48a x y
      · exact okr r48b x y) (by decide +kernel)
theorem r49a : rgB 49 122 137 177 = true := by decide +kernel
theorem r49b : rgB 49 122 217 257 = true := by decide +kernel
theorem r49c : rgB 49 123 24 32 = true := by decide +kernel
theorem r49d : rgB 49 135 0 2 = true := by decide +kernel
theorem t_49 {r c : Int} : tagOK 49 r c fun V => P49 V r := tagOK_of fun V V' hE hP b hb hne h1 => by
  rw [e2 (g := 135) (i := b) (a := (0, [(0, -1), (2, 1)])) (b := (0, [(0, 1), (2, -1)])) hE (okr r49d (Nat.zero_le _) hb) (by decide +kernel) (by rw [ev02, ev02]; omega)] at h1
  exact GD_cg (fun m hm => e0 hE (okr r49c (by omega) (by omega)) (by decide +kernel)) (fun i x y z hi => e2 (a := (0, [(0, -1777), (2, 1)])) (b := (1776, [(0, 1777), (2, -1)])) hE (okm2 rfl z r49a r49b hi) (by decide +kernel) (by rw [ev02, ev02]; omega)) (hP b hb hne h1)
theorem r50a : rgB 50 122 137 177 = true := by decide +kernel
theorem r50b : rgB 50 122 217 257 = true := by decide +kernel
theorem r50c : rgB 50 123 24 32 = true := by decide +kernel
theorem r50d : rgB 50 135 0 2 = true := by decide +kernel
theorem t_50 {r c : Int} : tagOK 50 r c fun V => P50 V := tagOK_of fun V V' hE hP b hb h1 => by
  rw [e0 (g := 135) (i := b) hE (okr r50d (Nat.zero_le _) hb) (by decide +kernel)] at h1
  exact GD_cg (fun m hm => e0 hE (okr r50c (by omega) (by omega)) (by decide +kernel)) (fun i x y z hi => e0 hE (okm2 rfl z r50a r50b hi) (by decide +kernel)) (hP b hb h1)
theorem r53 : rgB 53 120 137 177 = true := by decide +kernel
theorem t_53 {r c : Int} : tagOK 53 r c fun V => P53 V c := tagOK_of fun V V' hE hP i h1 h2 h3 => by
  rw [e1 (g := 120) (i := i) (a := (0, [(1, -1), (2, 1)])) hE (okr r53 h1 h2) (by decide +kernel) (by rw [ev12]; omega)]
  exact hP i h1 h2 h3
theorem t_EV {τ g : Nat} {r c : Int} (k1 : rgB τ g 217 257 = true) (k2 : rgB τ 123 24 32 = true) (c1 : cdl τ g [] = true) (c2 : cdl τ 123 [] = true) : tagOK τ r c fun V => P38 V g := tagOK_of fun V V' hE hP m j hm hj hc => by
  rw [e0 hE (okr k2 (by omega) (by omega)) c2] at hc
  rw [e0 hE (okr k1 (by omega) (by omega)) c1]
  exact hP m j hm hj hc
theorem t_38 {r c : Int} : tagOK 38 r c fun V => P38 V 118 := t_EV (by decide +kernel) (by decide +kernel) (by decide +kernel) (by decide +kernel)
theorem t_39 {r c : Int} : tagOK 39 r c fun V => P38 V 119 := t_EV (by decide +kernel) (by decide +kernel) (by decide +kernel) (by decide +kernel)
/-! the rules' nodes -/
theorem node_cg {V V' : vV} {s : Int} {n : Nat} (h0 : 0 ≤ s) (a : V' 137 n = V 137 n) (b : V' 138 n = V 138 n) (d : V' 139 n = V 139 n) (o : ∀ j : Nat, s ≤ j → j < n → V' 140 j = V 140 j) (hn : nodeOK V s n) : nodeOK V' s n := by
  unfold nodeOK at hn ⊢
  rw [a, b, d]
  refine ⟨fun h1 => ?_, hn.2⟩
  obtain ⟨x1, x2, x3, x4, x5⟩ := hn.1 h1
  refine ⟨x1, x2, x3, x4, ?_⟩
  rw [o _ (by omega) (by omega)]
  exact x5
theorem closed_cg {V V' : vV} {s e : Int} (h0 : 0 ≤ s) (t : ∀ g n : Nat, 137 ≤ g → g ≤ 139 → s ≤ n → (n : Int) < e → V' g n = V g n) (o : ∀ n : Nat, s ≤ n → (n : Int) + 1 < e → V' 140 n = V 140 n) (hc : closed V s e) : closed V' s e := fun n h1 h2 => node_cg h0 (t 137 n (by omega) (by omega) h1 h2) (t 138 n (by omega) (by omega) h1 h2) (t 139 n (by omega) (by omega) h1 h2) (fun j j1 j2 => o j j1 (by omega)) (hc n h1 h2)
theorem frst_cg {V V' : vV} {E : Int} (t : ∀ g n : Nat, 137 ≤ g → g ≤ 139 → (n : Int) < E → V' g n = V g n) (o : ∀ n : Nat, (n : Int) + 1 < E → V' 140 n = V 140 n) : ∀ {f : Nat} {e c : Int}, e ≤ E → frst V f e c → frst V' f e c
  | 0, _, _, _, hf => hf.elim
  | f + 1, e, c, he, ⟨h1, h2⟩ => ⟨h1, h2.imp (fun ⟨a, b, d, x⟩ => ⟨a, b, d, closed_cg (by omega) (fun g n g1 g2 _ n2 => t g n g1 g2 (by omega)) (fun n _ n2 => o n (by omega)) x⟩) (fun ⟨a, b, d, x, y⟩ => ⟨a, b, d, closed_cg (by omega) (fun g n g1 g2 _ n2 => t g n g1 g2 (by omega)) (fun n _ n2 => o n (by omega)) x, frst_cg t o (by omega) y⟩)⟩
theorem frst_le {V : vV} : ∀ {f : Nat} {e c : Int}, frst V f e c → e ≤ 1400
  | 0, _, _, hf => hf.elim
  | _ + 1, _, _, hf => hf.1
def tr3 (τ : Nat) (L : List (List LE)) : Bool := [137, 138, 139].all fun g => rgB τ g 0 1400 && cdl τ g L
theorem tr3_ok {τ g i : Nat} {L : List (List LE)} (h : tr3 τ L = true) (h1 : 137 ≤ g) (h2 : g ≤ 139) (hi : i < 1400) : okI τ g i = true ∧ cdl τ g L = true := by
  have h3 := List.all_eq_true.mp h g (by
    have : g = 137 ∨ g = 138 ∨ g = 139 := by omega
    rcases this with rfl | rfl | rfl
    · exact List.mem_cons_self
    · exact List.mem_cons_of_mem _ List.mem_cons_self
    · exact List.mem_cons_of_mem _ (List.mem_cons_of_mem _ List.mem_cons_self))
  simp only [Bool.and_eq_true] at h3
  exact ⟨okr h3.1 (Nat.zero_le _) hi, h3.2⟩
theorem r60a : tr3 60 [[(0, [(0, -1), (2, 1)])]] = true := by decide +kernel
theorem r60b : rgB 60 140 0 1400 = true := by decide +kernel
theorem t_60 {r c : Int} : tagOK 60 r c fun V => P60 V r c := tagOK_of fun V V' hE ⟨f, hP⟩ => ⟨f, frst_cg (E := r) (fun g n g1 g2 hn => by
    have := frst_le hP
    obtain ⟨a, b⟩ := tr3_ok (i := n) r60a g1 g2 (by omega)
    exact e1 hE a b (by rw [ev02]; omega)) (fun n hn => by
    have := frst_le hP
    exact e1 (a := (1, [(0, -1), (2, 1)])) hE (okr r60b (Nat.zero_le _) (by omega)) (by decide +kernel) (by rw [ev02]; omega)) (Int.le_refl _) hP⟩
theorem r61a : tr3 61 [] = true := by decide +kernel
theorem r61b : rgB 61 140 0 1400 = true := by decide +kernel
theorem t_61 {r c : Int} : tagOK 61 r c fun V => P61 V r c := tagOK_of fun V V' hE ⟨h0, x, k, hz, k1, k2, f, hP⟩ => ⟨h0, x, k, hz, k1, k2, f, fun v => frst_cg (E := 1400) (fun g n g1 g2 hn => by
    obtain ⟨a, b⟩ := tr3_ok (i := n) r61a g1 g2 (by omega)
    unfold upV
    rw [if_neg (by omega), if_neg (by omega)]
    exact e0 hE a b) (fun n hn => by
    unfold upV
    by_cases hnr : n = r.toNat
    · rw [if_pos ⟨rfl, hnr⟩, if_pos ⟨rfl, hnr⟩]
    · rw [if_neg (fun q => hnr q.2), if_neg (fun q => hnr q.2)]
      exact e2 (a := (0, [(0, -1), (2, 1)])) (b := (0, [(0, 1), (2, -1)])) hE (okr r61b (Nat.zero_le _) (by omega)) (by decide +kernel) (by rw [ev02, ev02]; omega)) (by omega) (hP v)⟩
theorem t_RT {τ pl : Nat} {r c : Int} (k1 : tr3 τ [[(-700, [(0, -1), (2, 1)])], [(-1, [(0, 1), (2, -1)])]] = true) (k2 : rgB τ 140 0 1400 = true) (c2 : cdl τ 140 [[(-700, [(0, -1), (2, 1)])], [(-1, [(0, 1), (2, -1)])]] = true) (k3 : rgB τ pl 50 55 = true) (c3 : cdl τ pl [] = true) : tagOK τ r c fun V => rts V pl r := tagOK_of fun V V' hE ⟨hi, l0, a1, a2, hc, hr⟩ => ⟨hi, l0, a1, a2, closed_cg l0 (fun g n g1 g2 n1 n2 => by
    obtain ⟨a, b⟩ := tr3_ok (i := n) k1 g1 g2 (by omega)
    exact e3 hE a b (by rw [ev02]; omega) (by rw [ev02]; omega)) (fun n n1 n2 => e3 hE (okr k2 (Nat.zero_le _) (by omega)) c2 (by rw [ev02]; omega) (by rw [ev02]; omega)) hc, fun i i1 i2 => by
    rw [e0 hE (okr k3 (by omega) (by omega)) c3] at i2
    rw [e0 hE (okr k3 (by omega) (by omega)) c3]
    exact hr i i1 i2⟩
theorem t_65 {r c : Int} : tagOK 65 r c fun V => rts V 123 r := t_RT (by decide +kernel) (by decide +kernel) (by decide +kernel) (by decide +kernel) (by decide +kernel)
theorem t_73 {r c : Int} : tagOK 73 r c fun V => rts V 124 r := t_RT (by decide +kernel) (by decide +kernel) (by decide +kernel) (by decide +kernel) (by decide +kernel)
theorem r66 : rgB 66 124 51 55 = true := by decide +kernel
theorem t_66 {r c : Int} : tagOK 66 r c fun V => P66 V r c := tagOK_of fun V V' hE hP i i1 i2 => by
  rw [e1 (g := 124) (i := 51 + i) (a := (-51, [(0, -1), (2, 1)])) hE (okr r66 (by omega) (by omega)) (by decide +kernel) (by rw [ev02]; omega)]
  exact hP i i1 i2
theorem cl_0 {τ : Nat} {r c l hi : Int} {V V' : vV} (k1 : tr3 τ [] = true) (k2 : rgB τ 140 0 1400 = true) (c2 : cdl τ 140 [] = true) (hE : EQd τ r c V V') (l0 : 0 ≤ l) (a : hi ≤ 1400) (hc : closed V l hi) : closed V' l hi := closed_cg l0 (fun g n g1 g2 n1 n2 => by
    obtain ⟨a, b⟩ := tr3_ok (i := n) k1 g1 g2 (by omega)
    exact e0 hE a b) (fun n n1 n2 => e0 hE (okr k2 (Nat.zero_le _) (by omega)) c2) hc
theorem t_67 {r c : Int} : tagOK 67 r c fun V => P67 V r c := tagOK_of fun V V' hE ⟨hi, l0, a1, a2, hc, hr⟩ => ⟨hi, l0, a1, a2, cl_0 (by decide +kernel) (by decide +kernel) (by decide +kernel) hE l0 a2 hc, hr⟩
theorem itN_in {V : vV} {l hi : Int} {n : Nat} (l0 : 0 ≤ l) (hc : closed V l hi) (h1 : l ≤ n) (h2 : (n : Int) < hi) : ∀ {j : Nat}, (∀ i, i < j → V 137 (itN V n i) ≤ 1) → l ≤ itN V n j ∧ itN V n j ≤ n
  | 0, _ => ⟨h1, Nat.le_refl _⟩
  | j + 1, hk => by
    obtain ⟨a, b⟩ := itN_in l0 hc h1 h2 (j := j) (fun i hi => hk i (by omega))
    obtain ⟨x1, x2, -⟩ := (hc (itN V n j) a (by omega)).1 (hk j (by omega))
    show l ≤ ((V 138 (itN V n j)).toNat : Int) ∧ (V 138 (itN V n j)).toNat ≤ n
    omega
theorem itN_cg {V V' : vV} {l hi : Int} {n : Nat} (l0 : 0 ≤ l) (hc : closed V l hi) (h1 : l ≤ n) (h2 : (n : Int) < hi) (t : ∀ m : Nat, l ≤ m → (m : Int) < hi → V' 138 m = V 138 m) : ∀ {j : Nat}, (∀ i, i < j → V 137 (itN V n i) ≤ 1) → itN V' n j = itN V n j
  | 0, _ => rfl
  | j + 1, hk => by
    have hj := itN_cg l0 hc h1 h2 t (j := j) (fun i hi => hk i (by omega))
    obtain ⟨a, b⟩ := itN_in l0 hc h1 h2 (j := j) (fun i hi => hk i (by omega))
    show (V' 138 (itN V' n j)).toNat = (V 138 (itN V n j)).toNat
    rw [hj, t _ a (by omega)]
theorem cg_68 {τ : Nat} {r c n k : Int} {V V' : vV} (k1 : tr3 τ [] = true) (k2 : rgB τ 140 0 1400 = true) (c2 : cdl τ 140 [] = true) (hE : EQd τ r c V V') : P68 V n k → P68 V' n k := fun ⟨l, hi, l0, a1, hc, n1, n2, j, hj, hk⟩ => by
  have t : ∀ g m : Nat, 137 ≤ g → g ≤ 139 → (m : Int) < 1400 → V' g m = V g m := fun g m g1 g2 hm => by
    obtain ⟨a, b⟩ := tr3_ok (i := m) k1 g1 g2 (by omega)
    exact e0 hE a b
  have hn : l ≤ (n.toNat : Int) := by omega
  have hn2 : (n.toNat : Int) < hi := by omega
  refine ⟨l, hi, l0, a1, cl_0 k1 k2 c2 hE l0 a1 hc, n1, n2, j, ?_, fun i hi' => ?_⟩
  · rw [itN_cg l0 hc hn hn2 (fun m _ m2 => t 138 m (by omega) (by omega) (by omega)) hk]
    exact hj
  · have hk' : ∀ i', i' < i → V 137 (itN V n.toNat i') ≤ 1 := fun i' h => hk i' (by omega)
    obtain ⟨a, b⟩ := itN_in l0 hc hn hn2 hk'
    rw [itN_cg l0 hc hn hn2 (fun m _ m2 => t 138 m (by omega) (by omega) (by omega)) hk', t 137 _ (by omega) (by omega) (by omega)]
    exact hk i hi'
theorem P68_in {V : vV} {n k : Int} : P68 V n k → 0 ≤ k ∧ k ≤ n ∧ n < 1400 := fun ⟨l, hi, l0, a1, hc, n1, n2, j, hj, hk⟩ => by
  obtain ⟨a, b⟩ := itN_in l0 hc (n := n.toNat) (by omega) (by omega) hk
  omega
theorem t_68 {r c : Int} : tagOK 68 r c fun V => P68 V r c := tagOK_of fun V V' hE hP => cg_68 (by decide +kernel) (by decide +kernel) (by decide +kernel) hE hP
theorem r69 : tr3 69 [] = true := by decide +kernel
theorem t_69 {r c : Int} : tagOK 69 r c fun V => P69 V r c := tagOK_of fun V V' hE ⟨hP, hk⟩ => ⟨cg_68 r69 (by decide +kernel) (by decide +kernel) hE hP, by
  obtain ⟨x, y, z⟩ := P68_in hP
  obtain ⟨a, b⟩ := tr3_ok (g := 137) (i := c.toNat) r69 (by omega) (by omega) (by omega)
  rw [e0 hE a b]
  exact hk⟩
theorem r70a : rgB 70 137 0 1400 = true := by decide +kernel
theorem r70b : rgB 70 138 0 1400 = true := by decide +kernel
theorem t_70 {r c : Int} : tagOK 70 r c fun V => P70 V r c := tagOK_of fun V V' hE ⟨h1, h2, h3⟩ => ⟨h1, h2, by
  rw [e3 (g := 137) (i := r.toNat) (a := (-1, [(0, -1), (2, 1)])) (b := (-1, [(0, 1), (2, -1)])) hE (okr r70a (Nat.zero_le _) (by omega)) (by decide +kernel) (by rw [ev02]; omega) (by rw [ev02]; omega), e3 (g := 138) (i := r.toNat) (a := (-1, [(0, -1), (2, 1)])) (b := (-1, [(0, 1), (2, -1)])) hE (okr r70b (Nat.zero_le _) (by omega)) (by decide +kernel) (by rw [ev02]; omega) (by rw [ev02]; omega)]
  exact h3⟩
theorem r71 : rgB 71 139 0 1400 = true := by decide +kernel
theorem t_71 {r c : Int} : tagOK 71 r c fun V => P71 V r c := tagOK_of fun V V' hE ⟨h1, h2, h3⟩ => ⟨h1, h2, by
  rw [e3 (g := 139) (i := r.toNat) (a := (-1, [(0, -1), (2, 1)])) (b := (-1, [(0, 1), (2, -1)])) hE (okr r71 (Nat.zero_le _) (by omega)) (by decide +kernel) (by rw [ev02]; omega) (by rw [ev02]; omega)]
  exact h3⟩
/-! the route -/
theorem wW_cg {V V' : vV} (h : ∀ i, i < 24 → (i < 2 ∨ 8 ≤ i) → V' 123 i = V 123 i) : wW V' = wW V := by
  have hx : wX V' = wX V := funext fun a => by
    unfold wX
    split
    · exact h 0 (by omega) (by omega)
    · exact h _ (by omega) (by omega)
  have hy : wY V' = wY V := funext fun a => by
    unfold wY
    split
    · exact h 1 (by omega) (by omega)
    · exact h _ (by omega) (by omega)
  funext a b
  unfold wW
  rw [hx, hy]
theorem ro_cg {V V' : vV} (h : ∀ i, i < 8 → V' 142 i = V 142 i) : ro V' = ro V := funext fun k => by
  unfold ro r8
  split
  next hk => exact h k hk
  next => rfl
theorem up_cg {V V' : vV} {i : Nat} {x : Int} (h : ∀ k, k < 8 → k ≠ i → V' 142 k = V 142 k) : upd1 (ro V') i x = upd1 (ro V) i x := funext fun k => by
  unfold upd1
  split
  next => rfl
  next hk =>
    unfold ro r8
    split
    next h8 => exact h k h8 hk
    next => rfl
def xyB (τ : Nat) : Bool := rgB τ 123 0 2 && (rgB τ 123 8 24 && cdl τ 123 [])
theorem xy_ok {τ : Nat} {r c : Int} {V V' : vV} (hx : xyB τ = true) (hE : EQd τ r c V V') : wW V' = wW V := by
  unfold xyB at hx
  simp only [Bool.and_eq_true] at hx
  refine wW_cg fun i h1 h2 => ?_
  rcases h2 with h2 | h2
  · exact e0 hE (okr hx.1 (Nat.zero_le _) h2) hx.2.2
  · exact e0 hE (okr hx.2.1 h2 h1) hx.2.2
def roB (τ : Nat) : Bool := rgB τ 142 0 8 && cdl τ 142 []
theorem r8_ok {τ : Nat} {r c : Int} {V V' : vV} (hx : roB τ = true) (hE : EQd τ r c V V') {i : Nat} (hi : i < 8) : V' 142 i = V 142 i := by
  unfold roB at hx
  simp only [Bool.and_eq_true] at hx
  exact e0 hE (okr hx.1 (Nat.zero_le _) hi) hx.2
theorem ro_ok {τ : Nat} {r c : Int} {V V' : vV} (hx : roB τ = true) (hE : EQd τ r c V V') : ro V' = ro V := ro_cg fun i hi => r8_ok hx hE hi
def rhB (τ : Nat) : Bool := rgB τ 142 0 8 && cdl τ 142 [[(0, [(0, -1), (2, 1)]), (0, [(0, 1), (2, -1)])]]
theorem rh_ok {τ : Nat} {r c : Int} {V V' : vV} (hx : rhB τ = true) (hE : EQd τ r c V V') {i : Nat} (hi : i < 8) (hn : (i : Int) ≠ r) : V' 142 i = V 142 i := by
  unfold rhB at hx
  simp only [Bool.and_eq_true] at hx
  exact e2 hE (okr hx.1 (Nat.zero_le _) hi) hx.2 (by rw [ev02, ev02]; omega)
def orB (τ : Nat) : Bool := rgB τ 143 0 8 && cdl τ 143 []
theorem or_ok {τ : Nat} {r c : Int} {V V' : vV} (hx : orB τ = true) (hE : EQd τ r c V V') {i : Nat} (hi : i < 8) : V' 143 i = V 143 i := by
  unfold orB at hx
  simp only [Bool.and_eq_true] at hx
  exact e0 hE (okr hx.1 (Nat.zero_le _) hi) hx.2
theorem t_79 {r c : Int} : tagOK 79 r c fun V => P79 V r c := tagOK_of fun V V' hE hP => by
  unfold P79 at hP ⊢
  rw [xy_ok (by decide +kernel) hE, ro_ok (by decide +kernel) hE]
  exact hP
theorem t_80 {r c : Int} : tagOK 80 r c fun V => P80 V r c := tagOK_of fun V V' hE hP => by
  unfold P80 at hP ⊢
  rw [ro_ok (by decide +kernel) hE]
  exact hP
theorem t_81 {r c : Int} : tagOK 81 r c fun V => P81 V r c := tagOK_of fun V V' hE hP => by
  unfold P81 at hP ⊢
  rw [xy_ok (by decide +kernel) hE]
  exact hP
theorem pT_cg {V V' : vV} (hw : wW V' = wW V) : pT V' = pT V := by
  have he : eg V' = eg V := by
    funext ρ m k
    unfold eg
    rw [hw]
  funext ρ m
  unfold pT
  rw [he]
theorem t_82 {r c : Int} : tagOK 82 r c fun V => P82 V r c := tagOK_of fun V V' hE hP => by
  unfold P82 at hP ⊢
  rw [pT_cg (xy_ok (by decide +kernel) hE), ro_ok (by decide +kernel) hE]
  exact hP
theorem t_83 {r c : Int} : tagOK 83 r c fun V => P83 V r c := tagOK_of fun V V' hE hP => by
  unfold P83 at hP ⊢
  rw [pT_cg (xy_ok (by decide +kernel) hE), ro_ok (by decide +kernel) hE]
  exact hP
theorem t_84 {r c : Int} : tagOK 84 r c fun V => P84 V r c := tagOK_of fun V V' hE ⟨h1, h2, h3, hP⟩ => ⟨h1, h2, h3, by
  have hj : ro V' (c / 8 % 16).toNat = ro V (c / 8 % 16).toNat := by
    unfold ro r8
    split
    next h8 => exact rh_ok (τ := 84) (by decide +kernel) hE h8 (by omega)
    next => rfl
  rw [pT_cg (xy_ok (by decide +kernel) hE), hj, up_cg (V := V) (V' := V') (fun k h8 hk => rh_ok (τ := 84) (by decide +kernel) hE h8 (by omega))]
  exact hP⟩
theorem t_85 {r c : Int} : tagOK 85 r c fun V => P85 V r c := tagOK_of fun V V' hE ⟨h1, h2, hP⟩ => ⟨h1, h2, by
  rw [pT_cg (xy_ok (by decide +kernel) hE), up_cg (V := V) (V' := V') (fun k h8 hk => rh_ok (τ := 85) (by decide +kernel) hE h8 (by omega))]
  exact hP⟩
theorem t_86 {r c : Int} : tagOK 86 r c fun V => P86 V r c := tagOK_of fun V V' hE ⟨h1, h2⟩ => ⟨fun a b hab hb b8 => by
  rw [or_ok (by decide +kernel) hE (show a < 8 by omega), or_ok (by decide +kernel) hE b8]
  exact h1 a b hab hb b8, fun a ha a8 => by
  rw [or_ok (by decide +kernel) hE a8]
  exact h2 a ha a8⟩
def ohB (τ : Nat) : Bool := rgB τ 143 0 8 && cdl τ 143 [[(0, [(0, -1), (2, 1)]), (0, [(0, 1), (2, -1)])]]
theorem oh_ok {τ : Nat} {r c : Int} {V V' : vV} (hx : ohB τ = true) (hE : EQd τ r c V V') {i : Nat} (hi : i < 8) (hn : (i : Int) ≠ r) : V' 143 i = V 143 i := by
  unfold ohB at hx
  simp only [Bool.and_eq_true] at hx
  exact e2 hE (okr hx.1 (Nat.zero_le _) hi) hx.2 (by rw [ev02, ev02]; omega)
theorem t_87 {r c : Int} : tagOK 87 r c fun V => P87 V r c := tagOK_of fun V V' hE ⟨h1, h2⟩ => ⟨fun a b hab hb b8 na nb => by
  rw [oh_ok (by decide +kernel) hE (show a < 8 by omega) na, oh_ok (by decide +kernel) hE b8 nb]
  exact h1 a b hab hb b8 na nb, fun a ha a8 na => by
  rw [oh_ok (by decide +kernel) hE a8 na]
  exact h2 a ha a8 na⟩
theorem rOK_cg {ρ ρ' o o' : Nat → Int} {m k : Int} (h1 : ∀ i, i < 8 → ρ' i = ρ i) (h2 : ∀ i, i < 8 → o' i = o i) (hr : rOK ρ o m k) : rOK ρ' o' m k := ⟨fun a b hab hb b8 => by
  rw [h1 a (by omega), h1 b b8]
  exact hr.1 a b hab hb b8, fun a ha a8 => by
  obtain ⟨j, j1, j8, e⟩ := hr.2 a ha a8
  exact ⟨j, j1, j8, by rw [h1 a a8, h2 j j8]; exact e⟩⟩
theorem t_88 {r c : Int} : tagOK 88 r c fun V => rOK (V 142) (V 143) r c := tagOK_of fun V V' hE hP => rOK_cg (fun i hi => r8_ok (by decide +kernel) hE hi) (fun i hi => or_ok (by decide +kernel) hE hi) hP
theorem t_93 {r c : Int} : tagOK 93 r c fun V => P93 V r c := tagOK_of fun V V' hE ⟨h1, h2, h3, h4⟩ => ⟨h1, h2, by
  rw [or_ok (by decide +kernel) hE (show r.toNat < 8 by omega)]
  exact h3, fun i hi => by
  rw [or_ok (by decide +kernel) hE (show i < 8 by omega)]
  exact h4 i hi⟩
theorem t_94 {r c : Int} : tagOK 94 r c fun V => P94 V r c := tagOK_of fun V V' hE ⟨h1, h2⟩ => ⟨fun a b hab hb b8 na nb => by
  rw [rh_ok (by decide +kernel) hE (show a < 8 by omega) na, rh_ok (by decide +kernel) hE b8 nb]
  exact h1 a b hab hb b8 na nb, fun a ha a8 na => by
  obtain ⟨j, j1, j8, e⟩ := h2 a ha a8 na
  exact ⟨j, j1, j8, by rw [rh_ok (by decide +kernel) hE a8 na, or_ok (by decide +kernel) hE j8]; exact e⟩⟩
theorem t_RO {τ : Nat} {r c : Int} (k1 : rhB τ = true) (k2 : orB τ = true) : tagOK τ r c fun V => P95 V r c := tagOK_of fun V V' hE ⟨h1, h2⟩ => ⟨h1, rOK_cg (fun i hi => by
  unfold upd1
  split
  next => rfl
  next hn => exact rh_ok k1 hE hi (by omega)) (fun i hi => or_ok k2 hE hi) h2⟩
theorem t_95 {r c : Int} : tagOK 95 r c fun V => P95 V r c := t_RO (by decide +kernel) (by decide +kernel)
theorem t_96 {r c : Int} : tagOK 96 r c fun V => P95 V r c := t_RO (by decide +kernel) (by decide +kernel)
theorem t_97 {r c : Int} : tagOK 97 r c fun V => P97 V r c := tagOK_of fun V V' hE ⟨h1, h2⟩ => ⟨fun a b hab hb b8 => by
  rw [r8_ok (by decide +kernel) hE (show a < 8 by omega), r8_ok (by decide +kernel) hE b8]
  exact h1 a b hab hb b8, fun a ha a8 => by
  rw [r8_ok (by decide +kernel) hE a8]
  exact h2 a ha a8⟩
theorem t_104 {r c : Int} : tagOK 104 r c fun V => P104 V r c := tagOK_of fun V V' hE ⟨h1, h2, h3, h4⟩ => ⟨h1, h2, by
  rw [r8_ok (by decide +kernel) hE (show c.toNat < 8 by omega)]
  exact h3, fun i hi => by
  rw [r8_ok (by decide +kernel) hE (show i < 8 by omega)]
  exact h4 i hi⟩
/-! a day -/
theorem vis_cg {V V' : vV} {r : Int} {k : Nat} (hk : k < 40) (h1 : ∀ i, i < 8 → V' 142 i = V 142 i) (h2 : ∀ i, 24 ≤ i → i < 32 → V' 123 i = V 123 i) (hv : vis V r k) : vis V' r k := by
  obtain ⟨i, a, b, d, e⟩ := hv
  exact ⟨i, a, b, by rw [h1 i b]; exact d, by rw [h2 _ (by omega) (by omega)]; exact e⟩
def plB (τ : Nat) : Bool := rgB τ 123 24 32 && cdl τ 123 []
theorem pl_ok {τ : Nat} {r c : Int} {V V' : vV} (hx : plB τ = true) (hE : EQd τ r c V V') {i : Nat} (h1 : 24 ≤ i) (h2 : i < 32) : V' 123 i = V 123 i := by
  unfold plB at hx
  simp only [Bool.and_eq_true] at hx
  exact e0 hE (okr hx.1 h1 h2) hx.2
theorem t_VI {τ g : Nat} {r c : Int} (k1 : roB τ = true) (k2 : plB τ = true) (k3 : rgB τ g 137 177 = true) (c3 : cdl τ g [] = true) : tagOK τ r c fun V => P100 V g r := tagOK_of fun V V' hE hP k hk hv => by
  rw [e0 hE (okr k3 (by omega) (by omega)) c3] at hv
  exact vis_cg hk (fun i hi => r8_ok k1 hE hi) (fun i h1 h2 => pl_ok k2 hE h1 h2) (hP k hk hv)
theorem t_IN {τ g : Nat} {r c : Int} (k1 : roB τ = true) (k2 : plB τ = true) (k3 : rgB τ g 137 177 = true) (c3 : cdl τ g [[(-136, [(0, -1), (2, 1)]), (136, [(0, 1), (2, -1)]), (-1, [(0, 1), (1, -5)])]] = true) : tagOK τ r c fun V => P102 V g r c := tagOK_of fun V V' hE ⟨m0, m8, hq, rr, r8, h3, h4, h5⟩ => ⟨m0, m8, fun h => by
  rw [pl_ok k2 hE (by omega) (by omega)]
  exact hq h, rr, r8, by rw [r8_ok k1 hE r8]; exact h3, fun i hi => by rw [r8_ok k1 hE (by omega)]; exact h4 i hi, fun k hk hh hv => by
  rw [e4 (g := g) hE (okr k3 (by omega) (by omega)) c3 (by rw [ev02, ev02, show ev (vL r c ((137 + k : Nat) : Int)) (-1, [(0, 1), (1, -5)]) = -1 + (1 * r + (-5 * c + 0)) from rfl]; omega)] at hv
  rcases h5 k hk hh hv with h | ⟨a, b, d⟩
  · exact Or.inl (vis_cg hk (fun i hi => r8_ok k1 hE hi) (fun i h1 h2 => pl_ok k2 hE h1 h2) h)
  · exact Or.inr ⟨a, b, by rw [pl_ok k2 hE (by omega) (by omega)]; exact d⟩⟩
theorem there_cg {V V' : vV} {k : Nat} (hk : k < 40) (h1 : V' 123 7 = V 123 7) (h2 : ∀ i, 24 ≤ i → i < 32 → V' 123 i = V 123 i) (ht : there V k) : there V' k := by
  unfold there at ht ⊢
  rw [h1, h2 _ (by omega) (by omega)]
  exact ht
theorem t_EE {τ g : Nat} {r c : Int} (k2 : plB τ = true) (k4 : rgB τ 123 7 8 = true) (k3 : rgB τ g 137 177 = true) (c3 : cdl τ g [] = true) : tagOK τ r c fun V => P105 V g r := tagOK_of fun V V' hE hP k hk => by
  have k2' := k2
  unfold plB at k2'
  simp only [Bool.and_eq_true] at k2'
  rw [e0 (g := g) hE (okr k3 (by omega) (by omega)) c3]
  exact ⟨(hP k hk).1, fun hv => there_cg hk (e0 hE (okr k4 (by omega) (by omega)) k2'.2) (fun i h1 h2 => pl_ok k2 hE h1 h2) ((hP k hk).2 hv)⟩
theorem t_EX {τ g : Nat} {r c : Int} (k2 : plB τ = true) (k4 : rgB τ 123 7 8 = true) (k3 : rgB τ g 137 177 = true) (c3 : cdl τ g [[(-137, [(0, -1), (2, 1)]), (137, [(0, 1), (2, -1)])]] = true) : tagOK τ r c fun V => P107 V g r := tagOK_of fun V V' hE ⟨h1, h2, h3, hP⟩ => by
  have k2' := k2
  unfold plB at k2'
  simp only [Bool.and_eq_true] at k2'
  refine ⟨h1, h2, there_cg (by omega) (e0 hE (okr k4 (by omega) (by omega)) k2'.2) (fun i h1 h2 => pl_ok k2 hE h1 h2) h3, fun k hk hn => ?_⟩
  rw [e2 (g := g) hE (okr k3 (by omega) (by omega)) c3 (by rw [ev02, ev02]; omega)]
  exact ⟨(hP k hk hn).1, fun hv => there_cg hk (e0 hE (okr k4 (by omega) (by omega)) k2'.2) (fun i h1 h2 => pl_ok k2 hE h1 h2) ((hP k hk hn).2 hv)⟩
theorem t_109 {r c : Int} : tagOK 109 r c fun V => P109 V r := tagOK_of fun V V' hE hP h => by
  rw [e1 (g := 119) (i := 0) (a := (0, [(0, -1), (2, 1)])) hE (okr (lo := 0) (hi := 1) (by decide +kernel) (Nat.le_refl _) (by omega)) (by decide +kernel) (by rw [ev02]; omega), e0 (g := 118) (i := 0) hE (okr (lo := 0) (hi := 1) (by decide +kernel) (Nat.le_refl _) (by omega)) (by decide +kernel)]
  exact hP h
/-! the facts by their tags -/
def P91 (k v : Int) : Prop := v = k / 8589934592 * (k % 8589934592)
/-- how many characters a number takes -/
def szP (x : Int) : Int := if x < 10 then 1 else if x < 100 then 2 else if x < 1000 then 3 else if x < 10000 then 4 else if x < 100000 then 5 else if x < 1000000 then 6 else if x < 10000000 then 7 else if x < 100000000 then 8 else if x < 1000000000 then 9 else 10
def szZ (x : Int) : Int := if 0 ≤ x then szP x else 1 + szP (-x)
theorem szP_rg (x : Int) : 1 ≤ szP x ∧ szP x ≤ 10 := by
  unfold szP
  repeat (split; · omega)
  omega
theorem szZ_rg (x : Int) : 1 ≤ szZ x ∧ szZ x ≤ 11 := by
  have h1 := szP_rg x
  have h2 := szP_rg (-x)
  unfold szZ
  split <;> omega
theorem szP_div {y z : Int} (h3 : y ≤ 2147483648) (h0 : 100 ≤ y) (h1 : 100 * z ≤ y) (h2 : y ≤ 100 * z + 99) : szP z = szP y - 2 := by
  unfold szP
  (repeat' split) <;> omega
theorem szP_2 {y : Int} (h : 10 ≤ y) : 2 ≤ szP y := by
  unfold szP
  (repeat' split) <;> omega
theorem szP_3 {y : Int} (h : 100 ≤ y) : 3 ≤ szP y := by
  unfold szP
  (repeat' split) <;> omega
def pdL (D : Nat) (xs : Nat → Int) : List (Nat × (Int → Int → vV → Prop)) := [
  (38, fun (_ _ : Int) (V : vV) => P38 V 118), (39, fun (_ _ : Int) (V : vV) => P38 V 119),
  (40, fun (r c : Int) (V : vV) => GDv V 118 123 1777 r c), (41, fun (r c : Int) (V : vV) => GDv V 119 123 1777 r c), (42, fun (r c : Int) (V : vV) => GDv V 121 123 10662 r c), (43, fun (r c : Int) (V : vV) => GDv V 122 123 3554 r c), (44, fun (r c : Int) (V : vV) => GDv V 120 124 1777 r c), (45, fun (r c : Int) (V : vV) => GDv V 118 124 1777 r c),
  (46, fun (_ c : Int) (V : vV) => P46 V c), (47, fun (_ c : Int) (V : vV) => P47 V c), (48, fun (r c : Int) (V : vV) => P48 V r c), (49, fun (r _ : Int) (V : vV) => P49 V r), (50, fun (_ _ : Int) (V : vV) => P50 V), (53, fun (_ c : Int) (V : vV) => P53 V c),
  (60, fun (r c : Int) (V : vV) => P60 V r c), (61, fun (r c : Int) (V : vV) => P61 V r c), (64, fun (r c : Int) (_ : vV) => P64 r c), (65, fun (r _ : Int) (V : vV) => rts V 123 r), (66, fun (r c : Int) (V : vV) => P66 V r c), (67, fun (r c : Int) (V : vV) => P67 V r c), (68, fun (r c : Int) (V : vV) => P68 V r c), (69, fun (r c : Int) (V : vV) => P69 V r c), (70, fun (r c : Int) (V : vV) => P70 V r c), (71, fun (r c : Int) (V : vV) => P71 V r c),
  (72, fun (r c : Int) (_ : vV) => ∃ f, btm f r c), (73, fun (r _ : Int) (V : vV) => rts V 124 r), (77, fun (r c : Int) (_ : vV) => c = if 0 ≤ r then r else -r),
  (79, fun (r c : Int) (V : vV) => P79 V r c), (80, fun (r c : Int) (V : vV) => P80 V r c), (81, fun (r c : Int) (V : vV) => P81 V r c), (82, fun (r c : Int) (V : vV) => P82 V r c), (83, fun (r c : Int) (V : vV) => P83 V r c), (84, fun (r c : Int) (V : vV) => P84 V r c), (85, fun (r c : Int) (V : vV) => P85 V r c),
  (86, fun (r c : Int) (V : vV) => P86 V r c), (87, fun (r c : Int) (V : vV) => P87 V r c), (88, fun (r c : Int) (V : vV) => rOK (V 142) (V 143) r c), (89, fun (r c : Int) (_ : vV) => P89 r c), (91, fun (r c : Int) (_ : vV) => P91 r c), (92, fun (r c : Int) (_ : vV) => P92 r c), (93, fun (r c : Int) (V : vV) => P93 V r c), (94, fun (r c : Int) (V : vV) => P94 V r c), (95, fun (r c : Int) (V : vV) => P95 V r c), (96, fun (r c : Int) (V : vV) => P95 V r c), (97, fun (r c : Int) (V : vV) => P97 V r c),
  (98, fun (r _ : Int) (_ : vV) => r + 1 ≤ D), (99, fun (r _ : Int) (_ : vV) => r ≤ D), (104, fun (r c : Int) (V : vV) => P104 V r c),
  (100, fun (r _ : Int) (V : vV) => P100 V 118 r), (101, fun (r _ : Int) (V : vV) => P100 V 119 r), (102, fun (r c : Int) (V : vV) => P102 V 118 r c), (103, fun (r c : Int) (V : vV) => P102 V 119 r c), (105, fun (r _ : Int) (V : vV) => P105 V 118 r), (106, fun (r _ : Int) (V : vV) => P105 V 119 r), (107, fun (r _ : Int) (V : vV) => P107 V 118 r), (108, fun (r _ : Int) (V : vV) => P107 V 119 r), (109, fun (r _ : Int) (V : vV) => P109 V r), (110, fun (r c : Int) (_ : vV) => c = szZ r), (111, fun (r c : Int) (_ : vV) => c = szP (-r)), (120, fun (r c : Int) (_ : vV) => c = xs r.toNat), (121, fun (r c : Int) (_ : vV) => r = 6 * c), (122, fun (r c : Int) (_ : vV) => c = (Int32.ofInt r &&& 63).toInt)]
def pdF : List (Nat × (Int → Int → vV → Prop)) → Nat → Int → Int → vV → Prop
  | [], _, _, _, _ => False
  | q :: l, τ, r, c, V => cond (Nat.beq q.1 τ) (q.2 r c V) (pdF l τ r c V)
theorem pdF_tag : ∀ {l : List (Nat × (Int → Int → vV → Prop))}, (∀ q ∈ l, ∀ r c, tagOK q.1 r c (q.2 r c)) → ∀ τ r c, tagOK τ r c (pdF l τ r c)
  | [], _, _, _, _ => tagOK_c
  | q :: l, hq, τ, r, c => by
    cases hb : Nat.beq q.1 τ with
    | true =>
      have e : pdF (q :: l) τ r c = q.2 r c := funext fun V => by
        show cond (Nat.beq q.1 τ) (q.2 r c V) (pdF l τ r c V) = q.2 r c V
        rw [hb]
        rfl
      rw [e, ← Nat.eq_of_beq_eq_true hb]
      exact hq q List.mem_cons_self r c
    | false =>
      have e : pdF (q :: l) τ r c = pdF l τ r c := funext fun V => by
        show cond (Nat.beq q.1 τ) (q.2 r c V) (pdF l τ r c V) = pdF l τ r c V
        rw [hb]
        rfl
      rw [e]
      exact pdF_tag (fun p hp => hq p (List.mem_cons_of_mem _ hp)) τ r c
theorem pdL_tag (D : Nat) (xs : Nat → Int) : ∀ q ∈ pdL D xs, ∀ r c, tagOK q.1 r c (q.2 r c) := by
  unfold pdL
  simp only [List.forall_mem_cons]
  exact ⟨fun _ _ => t_38, fun _ _ => t_39, fun _ _ => t_40, fun _ _ => t_41, fun _ _ => t_42, fun _ _ => t_43, fun _ _ => t_44, fun _ _ => t_45, fun _ _ => t_46, fun _ _ => t_47, fun _ _ => t_48, fun r c => t_49 (c := c), fun _ _ => t_50, fun _ _ => t_53,
    fun _ _ => t_60, fun _ _ => t_61, fun _ _ => tagOK_c, fun r c => t_65 (c := c), fun _ _ => t_66, fun _ _ => t_67, fun _ _ => t_68, fun _ _ => t_69, fun _ _ => t_70, fun _ _ => t_71, fun _ _ => tagOK_c, fun r c => t_73 (c := c), fun _ _ => tagOK_c,
    fun _ _ => t_79, fun _ _ => t_80, fun _ _ => t_81, fun _ _ => t_82, fun _ _ => t_83, fun _ _ => t_84, fun _ _ => t_85, fun _ _ => t_86, fun _ _ => t_87, fun _ _ => t_88, fun _ _ => tagOK_c, fun _ _ => tagOK_c, fun _ _ => tagOK_c, fun _ _ => t_93, fun _ _ => t_94, fun _ _ => t_95, fun _ _ => t_96, fun _ _ => t_97,
    fun _ _ => tagOK_c, fun _ _ => tagOK_c, fun _ _ => t_104,
    fun _ _ => t_VI (by decide +kernel) (by decide +kernel) (by decide +kernel) (by decide +kernel), fun _ _ => t_VI (by decide +kernel) (by decide +kernel) (by decide +kernel) (by decide +kernel), fun _ _ => t_IN (by decide +kernel) (by decide +kernel) (by decide +kernel) (by decide +kernel), fun _ _ => t_IN (by decide +kernel) (by decide +kernel) (by decide +kernel) (by decide +kernel),
    fun _ _ => t_EE (by decide +kernel) (by decide +kernel) (by decide +kernel) (by decide +kernel), fun _ _ => t_EE (by decide +kernel) (by decide +kernel) (by decide +kernel) (by decide +kernel), fun _ _ => t_EX (by decide +kernel) (by decide +kernel) (by decide +kernel) (by decide +kernel), fun _ _ => t_EX (by decide +kernel) (by decide +kernel) (by decide +kernel) (by decide +kernel), fun r c => t_109 (c := c), fun _ _ => tagOK_c, fun _ _ => tagOK_c, fun _ _ => tagOK_c, fun _ _ => tagOK_c, fun _ _ => tagOK_c, fun _ h => absurd h List.not_mem_nil⟩
def PRd (C : Nat → Nat) (D : Nat) (xs : Nat → Int) (τ : Nat) (r c : Int) (h : mH) : Prop := cond (Nat.beq 90 τ) ((h.length : Int) = r) (pdF (pdL D xs) τ r c (vw C h))
theorem PRd_k1 {D : Nat} {xs : Nat → Int} (hU : uqG G C) : PRk1 (PRd C D xs) G rgs rdp := by
  intro τ r c h h' md hP hT hT' hf hd
  unfold PRd at hP ⊢
  cases hb : Nat.beq 90 τ with
  | true =>
    rw [hb] at hP
    have he := Nat.eq_of_beq_eq_true hb
    subst he
    have h1 : ((699 : Nat), (0 : Nat)) ∉ md := hd (699, 0, []) List.mem_cons_self
    have h2 := hf.1.2 h1
    show (h'.length : Int) = r
    rw [h2]
    exact hP
  | false =>
    rw [hb] at hP
    exact tag_k1 (pdF_tag (pdL_tag D xs) τ r c) hU hT hf hd hP
theorem PRd_x {D : Nat} {xs : Nat → Int} (hU : uqG G C) : PRx (PRd C D xs) G rgs rdp := by
  intro τ r c h x j t n p k sg f cc c' hP hT hT' hgs hx hk hj hs ho hz
  unfold PRd at hP ⊢
  cases hb : Nat.beq 90 τ with
  | true =>
    rw [hb] at hP
    show ((h.set x _).length : Int) = r
    rw [List.length_set]
    exact hP
  | false =>
    rw [hb] at hP
    exact tag_x (pdF_tag (pdL_tag D xs) τ r c) hU hgs hx hk hs ho hz hP
theorem p91 {x y : Int} (h1 : 0 ≤ y) (h2 : y ≤ 2000) : (8589934592 * x + y) / 8589934592 = x ∧ (8589934592 * x + y) % 8589934592 = y := by omega
theorem PRd_k {D : Nat} {xs : Nat → Int} (hU : uqG G C) : PRk (PRd C D xs) G rgs rdp := ⟨PRd_k1 hU, PRd_x hU, fun h x y h1 h2 => by
  show P91 (8589934592 * x + y) (x * y)
  unfold P91
  obtain ⟨a, b⟩ := p91 (x := x) h1 h2
  rw [a, b], fun h x y q h1 h2 hq => by
  have hq : P91 (8589934592 * x + y) q := hq
  unfold P91 at hq
  obtain ⟨a, b⟩ := p91 (x := x) h1 h2
  rw [a, b] at hq
  exact hq, fun h x => rfl, fun h r c hl => hl, fun h r c hl => hl, fun h r c hl => hl⟩
theorem PRd_s {D : Nat} {xs : Nat → Int} (j v : Int) (h : mH) : PRd C D xs 120 j v h ↔ v = xs j.toNat := Iff.rfl
end PRF
