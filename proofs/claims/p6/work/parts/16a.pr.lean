section PRF
def lkGS : List (Nat × gS) → Nat → Option gS
  | [], _ => none
  | q :: r, g => cond (Nat.beq q.1 g) (some q.2) (lkGS r g)
def lkCL : List (Nat × Nat × Ctr) → Nat → Option (Nat × Ctr)
  | [], _ => none
  | q :: r, g => cond (Nat.beq q.1 g) (some q.2) (lkCL r g)
def rgL : List (Nat × gS) := [(10, .inl (0, [(9, 0, 0), (0, -128, 127), (0, 0, 1), (0, -2147483648, 2147483647)])),
  (11, .inl (1, [(1, 102, 0), (1, 103, 0), (0, -2147483648, 2147483647), (0, -2147483648, 2147483647), (0, -2147483648, 2147483647), (0, -2147483648, 2147483647), (0, 0, 6), (1, 104, 0), (1, 105, 0), (1, 106, 0), (1, 16, 0)])),
  (12, .inl (2, [(1, 116, 0), (0, 0, 6)])),
  (13, .inl (3, [(0, -2147483648, 2147483647), (0, -2147483648, 2147483647), (0, 0, 1), (0, -2147483648, 2147483647), (0, -2147483648, 2147483647), (0, -2147483648, 2147483647), (0, 0, 5), (1, 114, 0)])),
  (14, .inl (4, [(1, 17, 0), (9, 0, 0), (9, 0, 0), (0, -2147483648, 2147483647), (0, -2147483648, 2147483647)])),
  (15, .inl (5, [(1, 110, 0), (0, 0, 8), (0, -2147483648, 2147483647), (1, 111, 0), (1, 112, 0), (0, 0, 8), (1, 113, 0)])),
  (16, .inl (6, [(1, 107, 0), (0, 0, 1200), (1, 108, 0), (0, 0, 4)])),
  (17, .inl (7, [(9, 0, 0), (0, 0, 1200), (0, 0, 1200), (0, -2147483648, 2147483647), (0, 0, 1200), (0, -2147483648, 2147483647)])),
  (18, .inl (8, [(1, 15, 0)])),
  (19, .inl (9, [(0, 0, 5), (0, -2147483648, 2147483647), (0, -2147483648, 2147483647), (0, -2147483648, 2147483647), (0, -2147483648, 2147483647), (0, -2147483648, 2147483647), (0, -2147483648, 2147483647), (0, -2147483648, 2147483647), (0, -2147483648, 2147483647), (0, -1, 5), (0, -2147483648, 2147483647), (0, -2147483648, 2147483647), (0, -2147483648, 2147483647), (4, 0, 0), (4, 0, 0)])),
  (20, .inl (10, [(0, -2147483648, 2147483647), (0, -2147483648, 2147483647), (0, -2147483648, 2147483647), (0, -2147483648, 2147483647), (3, 0, 0), (3, 0, 0), (0, -2147483648, 2147483647), (0, -2147483648, 2147483647), (0, -2147483648, 2147483647), (0, -2147483648, 2147483647), (3, 0, 0), (3, 0, 0), (0, 0, 8), (1, 115, 0), (0, 0, 300), (1, 109, 0)])),
  (21, .inl (11, [(1, 100, 0), (0, 0, 1200), (1, 14, 0), (1, 15, 0), (1, 18, 0), (1, 11, 0), (1, 11, 0), (0, 0, 1), (1, 20, 0), (1, 20, 0), (1, 12, 0), (1, 117, 0), (1, 101, 0), (1, 10, 0)])),
  (22, .inl (12, [(0, -2147483648, 2147483647), (1, 125, 0), (0, 0, 1200), (0, 0, 1200), (0, 0, 1200), (0, 0, 6), (0, -2147483648, 2147483647), (0, -2147483648, 2147483647), (0, 0, 1200), (0, -2147483648, 2147483647), (1, 123, 0), (1, 124, 0), (1, 118, 0), (1, 120, 0), (1, 119, 0), (1, 121, 0), (1, 122, 0), (1, 126, 0), (1, 127, 0), (1, 128, 0), (1, 129, 0), (1, 130, 0), (1, 131, 0), (1, 132, 0), (1, 133, 0), (1, 134, 0), (1, 135, 0), (0, 0, 6), (0, 0, 1), (1, 136, 0), (1, 137, 0), (1, 138, 0), (1, 139, 0), (1, 140, 0), (0, 0, 1), (0, 0, 700), (0, 0, 10), (1, 141, 0), (1, 142, 0), (1, 143, 0), (1, 144, 0), (1, 145, 0), (0, 0, 8), (0, -2147483648, 2147483647), (1, 146, 0), (0, 0, 400)])),
  (100, .inr (1, 1200, 1200, [(1200, (0, -128, 127))])),
  (101, .inr (2, 2, 2, [(2, (0, 0, 1))])),
  (102, .inr (0, 9, 9, [(9, (0, -2147483648, 2147483647))])),
  (103, .inr (0, 9, 9, [(9, (0, -2147483648, 2147483647))])),
  (104, .inr (0, 6, 6, [(6, (0, -2147483648, 2147483647))])),
  (105, .inr (0, 6, 6, [(6, (0, -2147483648, 2147483647))])),
  (106, .inr (0, 6, 6, [(6, (0, -2147483648, 2147483647))])),
  (107, .inr (0, 1200, 1200, [(1200, (0, -2147483648, 2147483647))])),
  (108, .inr (0, 4, 4, [(4, (0, 0, 1200))])),
  (109, .inr (0, 1200, 1200, [(1200, (0, -2147483648, 2147483647))])),
  (110, .inr (0, 8, 8, [(8, (0, 0, 7))])),
  (111, .inr (0, 6, 6, [(6, (0, -2147483648, 2147483647))])),
  (112, .inr (0, 8, 8, [(8, (0, 0, 7))])),
  (113, .inr (5, 8, 8, [(8, (4, 0, 0))])),
  (114, .inr (17, 5, 5, [(5, (1, 19, 0))])),
  (115, .inr (11, 8, 8, [(8, (1, 13, 0))])),
  (116, .inr (18, 6, 6, [(6, (1, 20, 0))])),
  (117, .inr (18, 2, 2, [(2, (1, 20, 0))])),
  (118, .inr (0, 1777, 1777, [(6, (0, -2147483648, 2147483647)), (7, (0, 0, 300)), (9, (0, -2147483648, 2147483647)), (17, (0, -2147483648, 2147483647)), (57, (0, -2147483648, 2147483647)), (97, (0, 0, 5)), (217, (0, -2147483648, 2147483647)), (257, (0, -2147483648, 2147483647)), (417, (0, -2147483648, 2147483647)), (457, (0, -1, 5)), (577, (0, -2147483648, 2147483647)), (1777, (0, -2147483648, 2147483647))])),
  (119, .inr (0, 1777, 1777, [(6, (0, -2147483648, 2147483647)), (7, (0, 0, 300)), (9, (0, -2147483648, 2147483647)), (17, (0, -2147483648, 2147483647)), (57, (0, -2147483648, 2147483647)), (97, (0, 0, 5)), (217, (0, -2147483648, 2147483647)), (257, (0, -2147483648, 2147483647)), (417, (0, -2147483648, 2147483647)), (457, (0, -1, 5)), (577, (0, -2147483648, 2147483647)), (1777, (0, -2147483648, 2147483647))])),
  (120, .inr (0, 1777, 1777, [(6, (0, -2147483648, 2147483647)), (7, (0, 0, 300)), (9, (0, -2147483648, 2147483647)), (17, (0, -2147483648, 2147483647)), (57, (0, -2147483648, 2147483647)), (97, (0, 0, 5)), (217, (0, -2147483648, 2147483647)), (257, (0, -2147483648, 2147483647)), (417, (0, -2147483648, 2147483647)), (457, (0, -1, 5)), (577, (0, -2147483648, 2147483647)), (1777, (0, -2147483648, 2147483647))])),
  (121, .inr (0, 10662, 1777, [(6, (0, -2147483648, 2147483647)), (7, (0, 0, 300)), (9, (0, -2147483648, 2147483647)), (17, (0, -2147483648, 2147483647)), (57, (0, -2147483648, 2147483647)), (97, (0, 0, 5)), (217, (0, -2147483648, 2147483647)), (257, (0, -2147483648, 2147483647)), (417, (0, -2147483648, 2147483647)), (457, (0, -1, 5)), (577, (0, -2147483648, 2147483647)), (1777, (0, -2147483648, 2147483647))])),
  (122, .inr (0, 3554, 1777, [(6, (0, -2147483648, 2147483647)), (7, (0, 0, 300)), (9, (0, -2147483648, 2147483647)), (17, (0, -2147483648, 2147483647)), (57, (0, -2147483648, 2147483647)), (97, (0, 0, 5)), (217, (0, -2147483648, 2147483647)), (257, (0, -2147483648, 2147483647)), (417, (0, -2147483648, 2147483647)), (457, (0, -1, 5)), (577, (0, -2147483648, 2147483647)), (1777, (0, -2147483648, 2147483647))])),
  (123, .inr (0, 55, 55, [(6, (0, -2147483648, 2147483647)), (7, (0, 0, 6)), (8, (0, 0, 8)), (24, (0, -2147483648, 2147483647)), (32, (0, 0, 5)), (50, (0, -2147483648, 2147483647)), (51, (0, 0, 4)), (55, (0, 0, 1399))])),
  (124, .inr (0, 55, 55, [(6, (0, -2147483648, 2147483647)), (7, (0, 0, 6)), (8, (0, 0, 8)), (24, (0, -2147483648, 2147483647)), (32, (0, 0, 5)), (50, (0, -2147483648, 2147483647)), (51, (0, 0, 4)), (55, (0, 0, 1399))])),
  (125, .inr (0, 1200, 1200, [(1200, (0, 0, 255))])),
  (126, .inr (5, 80, 80, [(80, (4, 0, 0))])),
  (127, .inr (5, 80, 80, [(80, (4, 0, 0))])),
  (128, .inr (5, 80, 80, [(80, (4, 0, 0))])),
  (129, .inr (5, 480, 480, [(480, (4, 0, 0))])),
  (130, .inr (5, 160, 160, [(160, (4, 0, 0))])),
  (131, .inr (4, 4, 4, [(4, (3, 0, 0))])),
  (132, .inr (4, 4, 4, [(4, (3, 0, 0))])),
  (133, .inr (4, 24, 24, [(24, (3, 0, 0))])),
  (134, .inr (4, 8, 8, [(8, (3, 0, 0))])),
  (135, .inr (2, 2, 2, [(2, (0, 0, 1))])),
  (136, .inr (7, 5, 5, [(1, (1, 344, 0)), (2, (1, 345, 0)), (3, (1, 346, 0)), (4, (1, 347, 0)), (5, (1, 348, 0))])),
  (137, .inr (0, 1400, 1400, [(1400, (0, 0, 5))])),
  (138, .inr (0, 1400, 1400, [(1400, (0, 0, 1399))])),
  (139, .inr (0, 1400, 1400, [(1400, (0, 0, 9999))])),
  (140, .inr (0, 1400, 1400, [(1400, (0, 0, 1399))])),
  (141, .inr (0, 5, 5, [(5, (0, -2147483648, 2147483647))])),
  (142, .inr (0, 8, 8, [(8, (0, 0, 7))])),
  (143, .inr (0, 8, 8, [(8, (0, 0, 7))])),
  (144, .inr (0, 6, 6, [(6, (0, -2147483648, 2147483647))])),
  (145, .inr (5, 8, 8, [(8, (4, 0, 0))])),
  (146, .inr (0, 400, 400, [(400, (0, -2147483648, 2147483647))])),
  (147, .inr (4, 1, 1, [(1, (3, 0, 0))])),
  (148, .inr (6, 1, 1, [(1, (5, 0, 0))])),
  (300, .inr (999, 1, 1, [(1, (1, 365, 0))])),
  (301, .inr (999, 1, 1, [(1, (1, 366, 0))])),
  (302, .inr (999, 1, 1, [(1, (1, 367, 0))])),
  (303, .inr (999, 1, 1, [(1, (1, 368, 0))])),
  (304, .inr (999, 1, 1, [(1, (1, 369, 0))])),
  (305, .inr (999, 1, 1, [(1, (1, 370, 0))])),
  (306, .inr (999, 1, 1, [(1, (1, 371, 0))])),
  (307, .inr (999, 1, 1, [(1, (1, 372, 0))])),
  (308, .inr (999, 1, 1, [(1, (1, 373, 0))])),
  (309, .inr (999, 1, 1, [(1, (1, 374, 0))])),
  (310, .inr (999, 1, 1, [(1, (1, 375, 0))])),
  (311, .inr (999, 1, 1, [(1, (1, 376, 0))])),
  (312, .inr (999, 1, 1, [(1, (1, 377, 0))])),
  (313, .inr (999, 1, 1, [(1, (1, 378, 0))])),
  (314, .inr (999, 1, 1, [(1, (1, 379, 0))])),
  (315, .inr (999, 1, 1, [(1, (1, 380, 0))])),
  (316, .inr (999, 1, 1, [(1, (1, 381, 0))])),
  (317, .inr (999, 1, 1, [(1, (1, 382, 0))])),
  (318, .inr (999, 1, 1, [(1, (1, 383, 0))])),
  (319, .inr (999, 1, 1, [(1, (1, 384, 0))])),
  (320, .inr (999, 1, 1, [(1, (1, 385, 0))])),
  (321, .inr (999, 1, 1, [(1, (1, 386, 0))])),
  (322, .inr (999, 1, 1, [(1, (1, 387, 0))])),
  (323, .inr (999, 1, 1, [(1, (1, 388, 0))])),
  (324, .inr (999, 1, 1, [(1, (1, 389, 0))])),
  (325, .inr (999, 1, 1, [(1, (1, 390, 0))])),
  (326, .inr (999, 1, 1, [(1, (1, 391, 0))])),
  (327, .inr (999, 1, 1, [(1, (1, 392, 0))])),
  (328, .inr (999, 1, 1, [(1, (1, 393, 0))])),
  (329, .inr (999, 1, 1, [(1, (1, 394, 0))])),
  (330, .inr (999, 1, 1, [(1, (1, 395, 0))])),
  (331, .inr (999, 1, 1, [(1, (1, 396, 0))])),
  (332, .inr (999, 1, 1, [(1, (1, 397, 0))])),
  (333, .inr (999, 1, 1, [(1, (1, 398, 0))])),
  (334, .inr (999, 1, 1, [(1, (1, 399, 0))])),
  (335, .inr (999, 1, 1, [(1, (1, 400, 0))])),
  (336, .inr (999, 1, 1, [(1, (1, 401, 0))])),
  (337, .inr (999, 1, 1, [(1, (1, 402, 0))])),
  (338, .inr (999, 1, 1, [(1, (1, 403, 0))])),
  (339, .inr (999, 1, 1, [(1, (1, 404, 0))])),
  (340, .inr (999, 1, 1, [(1, (1, 405, 0))])),
  (341, .inr (999, 1, 1, [(1, (1, 406, 0))])),
  (342, .inr (999, 1, 1, [(1, (1, 407, 0))])),
  (343, .inr (999, 1, 1, [(1, (1, 408, 0))])),
  (344, .inr (999, 1, 1, [(1, (1, 409, 0))])),
  (345, .inr (999, 1, 1, [(1, (1, 410, 0))])),
  (346, .inr (999, 1, 1, [(1, (1, 411, 0))])),
  (347, .inr (999, 1, 1, [(1, (1, 412, 0))])),
  (348, .inr (999, 1, 1, [(1, (1, 413, 0))])),
  (349, .inr (999, 1, 1, [(1, (1, 414, 0))])),
  (350, .inr (999, 1, 1, [(1, (1, 415, 0))])),
  (351, .inr (999, 1, 1, [(1, (1, 416, 0))])),
  (352, .inr (999, 1, 1, [(1, (1, 417, 0))])),
  (353, .inr (999, 1, 1, [(1, (1, 418, 0))])),
  (354, .inr (999, 1, 1, [(1, (1, 419, 0))])),
  (355, .inr (999, 1, 1, [(1, (1, 420, 0))])),
  (356, .inr (999, 1, 1, [(1, (1, 421, 0))])),
  (357, .inr (999, 1, 1, [(1, (1, 422, 0))])),
  (358, .inr (999, 1, 1, [(1, (1, 423, 0))])),
  (359, .inr (999, 1, 1, [(1, (1, 424, 0))])),
  (360, .inr (999, 1, 1, [(1, (1, 425, 0))])),
  (361, .inr (999, 1, 1, [(1, (1, 426, 0))])),
  (362, .inr (999, 1, 1, [(1, (1, 427, 0))])),
  (363, .inr (999, 1, 1, [(1, (1, 428, 0))])),
  (364, .inr (999, 1, 1, [(1, (1, 429, 0))])),
  (365, .inr (999, 17, 17, [(17, (0, 0, 127))])),
  (366, .inr (999, 6, 6, [(6, (0, 0, 127))])),
  (367, .inr (999, 5, 5, [(5, (0, 0, 127))])),
  (368, .inr (999, 21, 21, [(21, (0, 0, 127))])),
  (369, .inr (999, 5, 5, [(5, (0, 0, 127))])),
  (370, .inr (999, 4, 4, [(4, (0, 0, 127))])),
  (371, .inr (999, 5, 5, [(5, (0, 0, 127))])),
  (372, .inr (999, 5, 5, [(5, (0, 0, 127))])),
  (373, .inr (999, 5, 5, [(5, (0, 0, 127))])),
  (374, .inr (999, 7, 7, [(7, (0, 0, 127))])),
  (375, .inr (999, 7, 7, [(7, (0, 0, 127))])),
  (376, .inr (999, 7, 7, [(7, (0, 0, 127))])),
  (377, .inr (999, 3, 3, [(3, (0, 0, 127))])),
  (378, .inr (999, 4, 4, [(4, (0, 0, 127))])),
  (379, .inr (999, 5, 5, [(5, (0, 0, 127))])),
  (380, .inr (999, 4, 4, [(4, (0, 0, 127))])),
  (381, .inr (999, 3, 3, [(3, (0, 0, 127))])),
  (382, .inr (999, 4, 4, [(4, (0, 0, 127))])),
  (383, .inr (999, 4, 4, [(4, (0, 0, 127))])),
  (384, .inr (999, 7, 7, [(7, (0, 0, 127))])),
  (385, .inr (999, 6, 6, [(6, (0, 0, 127))])),
  (386, .inr (999, 5, 5, [(5, (0, 0, 127))])),
  (387, .inr (999, 3, 3, [(3, (0, 0, 127))])),
  (388, .inr (999, 2, 2, [(2, (0, 0, 127))])),
  (389, .inr (999, 8, 8, [(8, (0, 0, 127))])),
  (390, .inr (999, 15, 15, [(15, (0, 0, 127))])),
  (391, .inr (999, 12, 12, [(12, (0, 0, 127))])),
  (392, .inr (999, 11, 11, [(11, (0, 0, 127))])),
  (393, .inr (999, 12, 12, [(12, (0, 0, 127))])),
  (394, .inr (999, 20, 20, [(20, (0, 0, 127))])),
  (395, .inr (999, 15, 15, [(15, (0, 0, 127))])),
  (396, .inr (999, 23, 23, [(23, (0, 0, 127))])),
  (397, .inr (999, 13, 13, [(13, (0, 0, 127))])),
  (398, .inr (999, 13, 13, [(13, (0, 0, 127))])),
  (399, .inr (999, 12, 12, [(12, (0, 0, 127))])),
  (400, .inr (999, 12, 12, [(12, (0, 0, 127))])),
  (401, .inr (999, 22, 22, [(22, (0, 0, 127))])),
  (402, .inr (999, 12, 12, [(12, (0, 0, 127))])),
  (403, .inr (999, 13, 13, [(13, (0, 0, 127))])),
  (404, .inr (999, 13, 13, [(13, (0, 0, 127))])),
  (405, .inr (999, 11, 11, [(11, (0, 0, 127))])),
  (406, .inr (999, 14, 14, [(14, (0, 0, 127))])),
  (407, .inr (999, 15, 15, [(15, (0, 0, 127))])),
  (408, .inr (999, 22, 22, [(22, (0, 0, 127))])),
  (409, .inr (999, 4, 4, [(4, (0, 0, 127))])),
  (410, .inr (999, 4, 4, [(4, (0, 0, 127))])),
  (411, .inr (999, 7, 7, [(7, (0, 0, 127))])),
  (412, .inr (999, 6, 6, [(6, (0, 0, 127))])),
  (413, .inr (999, 5, 5, [(5, (0, 0, 127))])),
  (414, .inr (999, 5, 5, [(5, (0, 0, 127))])),
  (415, .inr (999, 5, 5, [(5, (0, 0, 127))])),
  (416, .inr (999, 4, 4, [(4, (0, 0, 127))])),
  (417, .inr (999, 5, 5, [(5, (0, 0, 127))])),
  (418, .inr (999, 5, 5, [(5, (0, 0, 127))])),
  (419, .inr (999, 5, 5, [(5, (0, 0, 127))])),
  (420, .inr (999, 7, 7, [(7, (0, 0, 127))])),
  (421, .inr (999, 7, 7, [(7, (0, 0, 127))])),
  (422, .inr (999, 7, 7, [(7, (0, 0, 127))])),
  (423, .inr (999, 3, 3, [(3, (0, 0, 127))])),
  (424, .inr (999, 4, 4, [(4, (0, 0, 127))])),
  (425, .inr (999, 5, 5, [(5, (0, 0, 127))])),
  (426, .inr (999, 4, 4, [(4, (0, 0, 127))])),
  (427, .inr (999, 3, 3, [(3, (0, 0, 127))])),
  (428, .inr (999, 3, 3, [(3, (0, 0, 127))])),
  (429, .inr (999, 2, 2, [(2, (0, 0, 127))])),
  (430, .inr (999, 100, 100, [(100, (0, 0, 127))])),
  (431, .inr (999, 100, 100, [(100, (0, 0, 127))]))]
abbrev rgs : Nat → Option gS := lkGS rgL
def rdpL : List (Nat × List (Nat × Nat × List (List LE))) := [(40, [(118, 7, [[(0, [(0, -1), (1, -1), (2, 1)])], [(-1, [(0, 1), (2, -1)])]]), (123, 4, [])]), (41, [(119, 7, [[(0, [(0, -1), (1, -1), (2, 1)])], [(-1, [(0, 1), (2, -1)])]]), (123, 4, [])]), (42, [(121, 7, [[(0, [(0, -1), (1, -1), (2, 1)])], [(-1, [(0, 1), (2, -1)])]]), (123, 4, [])]), (43, [(122, 7, [[(0, [(0, -1), (1, -1), (2, 1)])], [(-1, [(0, 1), (2, -1)])]]), (123, 4, [])]), (44, [(120, 7, [[(0, [(0, -1), (1, -1), (2, 1)])], [(-1, [(0, 1), (2, -1)])]]), (124, 4, [])]), (45, [(118, 7, [[(0, [(0, -1), (1, -1), (2, 1)])], [(-1, [(0, 1), (2, -1)])]]), (124, 4, [])]), (46, [(123, 0, [[(0, [(1, -1), (2, 1)])]]), (123, 1, [[(0, [(1, -1), (2, 1)])]]), (123, 2, [[(0, [(1, -1), (2, 1)])]]), (123, 3, [[(0, [(1, -1), (2, 1)])]]), (123, 4, [[(0, [(1, -1), (2, 1)])]]), (123, 5, [[(0, [(1, -1), (2, 1)])]]), (123, 6, [[(0, [(1, -1), (2, 1)])]]), (123, 7, [[(0, [(1, -1), (2, 1)])]]), (124, 0, []), (124, 1, []), (124, 2, []), (124, 3, []), (124, 4, []), (124, 5, []), (124, 6, []), (124, 7, [])]), (47, [(124, 0, [[(0, [(1, -1), (2, 1)])]]), (124, 1, [[(0, [(1, -1), (2, 1)])]]), (124, 2, [[(0, [(1, -1), (2, 1)])]]), (124, 3, [[(0, [(1, -1), (2, 1)])]]), (124, 4, [[(0, [(1, -1), (2, 1)])]]), (124, 5, [[(0, [(1, -1), (2, 1)])]]), (124, 6, [[(0, [(1, -1), (2, 1)])]]), (124, 7, [[(0, [(1, -1), (2, 1)])]])]), (48, [(120, 7, []), (124, 4, [[(-24, [(0, -1), (2, 1)]), (24, [(0, 1), (2, -1)])]])]), (49, [(122, 7, [[(0, [(0, -1777), (2, 1)]), (1776, [(0, 1777), (2, -1)])]]), (135, 0, [[(0, [(0, -1), (2, 1)]), (0, [(0, 1), (2, -1)])]]), (123, 4, [])]), (50, [(122, 7, []), (135, 0, []), (123, 4, [])])]
def rdpF : List (Nat × List (Nat × Nat × List (List LE))) → Nat → List (Nat × Nat × List (List LE))
  | [], _ => []
  | q :: r, t => cond (Nat.beq q.1 t) q.2 (rdpF r t)
def rdp : dT := rdpF rdpL
variable {G : Nat → Nat} {h h' : mH} {md : List (Nat × Nat)}
/-- an array's number -/
def el (h : mH) (x i : Nat) : Int := match h[x]? with
  | some (.inl (_, _, .inl f)) => (f i).toInt
  | _ => 0
theorem el_of {x t n i : Nat} {f : Nat → Int32} (hx : h[x]? = some (.inl (t, n, .inl f))) : el h x i = (f i).toInt := by unfold el; rw [hx]
theorem elV_inl {c c' : mC} {f : Nat → Int32} {i : Nat} (hk : kdC c' = kdC c) (hc : c = .inl f) (he : elV c' i = elV c i) : ∃ f', c' = .inl f' ∧ f' i = f i := by
  subst hc
  obtain ⟨f', rfl⟩ := kd0 (c := c') hk
  refine ⟨f', rfl, ?_⟩
  have he : Value.int (f' i) = Value.int (f i) := he
  injection he
/-- numbers that a frame leaves -/
theorem el_fr {x g n p k i : Nat} {sg : List (Nat × kS)} {fk : kS} (hT : TI G rgs h) (hf : fr G rgs md h h') (hx : G x = g) (hg : rgs g = some (.inr (0, n, p, sg))) (hi : i < n) (hs : segAt sg (i % p) 0 = some (k, fk)) (hm : (g, k) ∉ md) : el h' x i = el h x i := by
  subst hx
  obtain ⟨c, h1, h2, -⟩ := TI_arr hT hg
  obtain ⟨f, rfl⟩ := kd0 (c := c) h2
  obtain ⟨e', he⟩ := fr_get hf h1
  have hc := hf.2 _ _ _ h1 he
  obtain ⟨c', rfl, h3, h4⟩ := hc
  have h5 := h4 i hi (fun k' hk' => by
    unfold sgK at hk'
    rw [hg] at hk'
    simp only [hs, Option.map_some, Option.some.injEq] at hk'
    rw [← hk']
    exact hm)
  obtain ⟨f', rfl, h6⟩ := elV_inl h3 rfl h5
  rw [el_of he, el_of h1, h6]
/-- numbers that a write leaves -/
theorem el_set {x y i j t n : Nat} {cc c' : mC} (hx : h[x]? = some (.inl (t, n, cc))) (hk : kdC c' = kdC cc) (ho : ∀ i, i ≠ j → elV c' i = elV cc i) (hne : y = x → i ≠ j) : el (h.set x (.inl (t, n, c'))) y i = el h y i := by
  by_cases hxy : y = x
  · subst hxy
    have hlt := (List.getElem?_eq_some_iff.mp hx).1
    unfold el
    rw [List.getElem?_set_self hlt, hx]
    obtain f | f | f | f | f := cc
    · obtain ⟨f', rfl, h6⟩ := elV_inl hk rfl (ho i (hne rfl))
      dsimp only
      rw [h6]
    · obtain ⟨f', rfl⟩ := kd4 (c := c') hk
      rfl
    · obtain ⟨f', rfl⟩ := kd5 (c := c') hk
      rfl
    · obtain ⟨f', rfl⟩ := kd6 (c := c') hk
      rfl
    · obtain ⟨f', rfl⟩ := kd7 (c := c') hk
      rfl
  · unfold el
    rw [List.getElem?_set_ne (Ne.symm hxy)]
/-- a slot's cell that is there holds 1 at least -/
def gd (cnt : Nat → Int) (i : Nat) (v : Int) : Prop := ∀ m j : Nat, m < 8 → j < 5 → i % 1777 = 217 + 5 * m + j → (j : Int) < cnt m → 1 ≤ v
def GDp (G : Nat → Nat) (g pl n : Nat) (r c : Int) (h : mH) : Prop := ∀ x y, G x = g → G y = pl → ∀ i : Nat, r ≤ i → (i : Int) < r + c → i < n → gd (fun m => el h y (24 + m)) i (el h x i)
def PRd (G : Nat → Nat) : Nat → Int → Int → mH → Prop
  | 40, r, c, h => GDp G 118 123 1777 r c h
  | 41, r, c, h => GDp G 119 123 1777 r c h
  | 42, r, c, h => GDp G 121 123 10662 r c h
  | 43, r, c, h => GDp G 122 123 3554 r c h
  | 44, r, c, h => GDp G 120 124 1777 r c h
  | 45, r, c, h => GDp G 118 124 1777 r c h
  | 46, _, c, h => ∀ x y, G x = 123 → G y = 124 → ∀ i : Nat, (i : Int) < c → i < 55 → el h x i = el h y i
  | 47, _, c, h => ∀ x, G x = 124 → ∀ i : Nat, (i : Int) < c → i < 55 → el h x i = 0
  | 48, r, c, h => ∀ x y, G x = 120 → G y = 124 → ∀ i : Nat, i < 1777 → gd (fun m => if (m : Int) = r then c else el h y (24 + m)) i (el h x i)
  | 49, r, _, h => ∀ x y z, G x = 122 → G y = 123 → G z = 135 → ∀ b : Nat, b < 2 → (b : Int) ≠ r → 1 ≤ el h z b → ∀ i : Nat, 1777 * b ≤ i → i < 1777 * b + 1777 → gd (fun m => el h y (24 + m)) i (el h x i)
  | 50, _, _, h => ∀ x y z, G x = 122 → G y = 123 → G z = 135 → ∀ b : Nat, b < 2 → 1 ≤ el h z b → ∀ i : Nat, 1777 * b ≤ i → i < 1777 * b + 1777 → gd (fun m => el h y (24 + m)) i (el h x i)
  | _, _, _, _ => False
/-! the segments -/
def SS : List (Nat × kS) := [(6, (0, -2147483648, 2147483647)), (7, (0, 0, 300)), (9, (0, -2147483648, 2147483647)), (17, (0, -2147483648, 2147483647)), (57, (0, -2147483648, 2147483647)), (97, (0, 0, 5)), (217, (0, -2147483648, 2147483647)), (257, (0, -2147483648, 2147483647)), (417, (0, -2147483648, 2147483647)), (457, (0, -1, 5)), (577, (0, -2147483648, 2147483647)), (1777, (0, -2147483648, 2147483647))]
def PS : List (Nat × kS) := [(6, (0, -2147483648, 2147483647)), (7, (0, 0, 6)), (8, (0, 0, 8)), (24, (0, -2147483648, 2147483647)), (32, (0, 0, 5)), (50, (0, -2147483648, 2147483647)), (51, (0, 0, 4)), (55, (0, 0, 1399))]
theorem g118 : rgs 118 = some (.inr (0, 1777, 1777, SS)) := rfl
theorem g119 : rgs 119 = some (.inr (0, 1777, 1777, SS)) := rfl
theorem g120 : rgs 120 = some (.inr (0, 1777, 1777, SS)) := rfl
theorem g121 : rgs 121 = some (.inr (0, 10662, 1777, SS)) := rfl
theorem g122 : rgs 122 = some (.inr (0, 3554, 1777, SS)) := rfl
theorem g123 : rgs 123 = some (.inr (0, 55, 55, PS)) := rfl
theorem g124 : rgs 124 = some (.inr (0, 55, 55, PS)) := rfl
theorem g135 : rgs 135 = some (.inr (2, 2, 2, [(2, (0, 0, 1))])) := rfl
theorem sgS7 {j : Nat} (h1 : 217 ≤ j) (h2 : j < 257) : segAt SS j 0 = some (7, (0, -2147483648, 2147483647)) := by
  unfold SS
  simp only [segAt]
  rw [if_neg (by omega), if_neg (by omega), if_neg (by omega), if_neg (by omega), if_neg (by omega), if_neg (by omega), if_neg (by omega), if_pos h2]
theorem sgP4 {j : Nat} (h1 : 24 ≤ j) (h2 : j < 32) : segAt PS j 0 = some (4, (0, 0, 5)) := by
  unfold PS
  simp only [segAt]
  rw [if_neg (by omega), if_neg (by omega), if_neg (by omega), if_neg (by omega), if_pos h2]
theorem GD_fr {g pl n : Nat} {r c : Int} (hT : TI G rgs h) (hf : fr G rgs md h h') (hg : rgs g = some (.inr (0, n, 1777, SS))) (hp : rgs pl = some (.inr (0, 55, 55, PS))) (m1 : (g, 7) ∉ md) (m2 : (pl, 4) ∉ md) (hP : GDp G g pl n r c h) : GDp G g pl n r c h' := by
  intro x y hx hy i h1 h2 h3 m j hm hj hi hc
  dsimp only at hc
  rw [el_fr hT hf hy hp (by omega) (by rw [Nat.mod_eq_of_lt (by omega)]; exact sgP4 (by omega) (by omega)) m2] at hc
  rw [el_fr hT hf hx hg h3 (by rw [hi]; exact sgS7 (by omega) (by omega)) m1]
  exact hP x y hx hy i h1 h2 h3 m j hm hj hi hc
theorem ev3 {r c j a b d k : Int} : ev (vL r c j) (k, [(0, a), (1, b), (2, d)]) = k + (a * r + (b * c + (d * j + 0))) := rfl
theorem ev02 {r c j a d k : Int} : ev (vL r c j) (k, [(0, a), (2, d)]) = k + (a * r + (d * j + 0)) := rfl
theorem ev12 {r c j a d k : Int} : ev (vL r c j) (k, [(1, a), (2, d)]) = k + (a * c + (d * j + 0)) := rfl
theorem GD_x {g pl n : Nat} {r c : Int} {x0 j0 t0 n0 p0 k0 : Nat} {sg0 : List (Nat × kS)} {f0 : kS} {cc c' : mC} (hne : g ≠ pl) (hP : GDp G g pl n r c h) (hgs : rgs (G x0) = some (.inr (t0, n0, p0, sg0))) (hx : h[x0]? = some (.inl (t0, n0, cc))) (hk : kdC c' = kdC cc) (hj : j0 < n0) (hs : segAt sg0 (j0 % p0) 0 = some (k0, f0)) (ho : ∀ i, i ≠ j0 → elV c' i = elV cc i)
    (hg : rgs g = some (.inr (0, n, 1777, SS))) (hp : rgs pl = some (.inr (0, 55, 55, PS))) (hz : ∀ z ∈ [(g, 7, [[((0 : Int), [((0 : Nat), (-1 : Int)), (1, -1), (2, 1)])], [(-1, [(0, 1), (2, -1)])]]), (pl, 4, ([] : List (List LE)))], z.1 = G x0 → z.2.1 = k0 → ∃ l ∈ z.2.2, ∀ e ∈ l, 0 ≤ ev (vL r c j0) e) : GDp G g pl n r c (h.set x0 (.inl (t0, n0, c'))) := by
  intro x y hx1 hy i h1 h2 h3 m j hm hjj hi hc
  dsimp only at hc
  rw [el_set hx hk ho (fun e he => ?_)] at hc
  · rw [el_set hx hk ho (fun e he => ?_)]
    · exact hP x y hx1 hy i h1 h2 h3 m j hm hjj hi hc
    · subst e
      rw [hx1, hg] at hgs
      cases hgs
      subst he
      rw [hi, sgS7 (by omega) (by omega)] at hs
      cases hs
      obtain ⟨l, hl, hle⟩ := hz _ List.mem_cons_self hx1.symm rfl
      simp only [List.mem_cons, List.not_mem_nil, or_false] at hl
      rcases hl with rfl | rfl
      · have := hle _ List.mem_cons_self
        rw [ev3] at this
        omega
      · have := hle _ List.mem_cons_self
        rw [ev02] at this
        omega
  · subst e
    rw [hy, hp] at hgs
    cases hgs
    rw [Nat.mod_eq_of_lt (by omega), ← he, sgP4 (by omega) (by omega)] at hs
    cases hs
    obtain ⟨l, hl, -⟩ := hz _ (List.mem_cons_of_mem _ List.mem_cons_self) hy.symm rfl
    exact absurd hl List.not_mem_nil
theorem el_frT {x g t n p k i : Nat} {sg : List (Nat × kS)} {fk : kS} (h0 : kdN t n = 0) (hT : TI G rgs h) (hf : fr G rgs md h h') (hx : G x = g) (hg : rgs g = some (.inr (t, n, p, sg))) (hi : i < n) (hs : segAt sg (i % p) 0 = some (k, fk)) (hm : (g, k) ∉ md) : el h' x i = el h x i := by
  subst hx
  obtain ⟨c, h1, h2, -⟩ := TI_arr hT hg
  obtain ⟨f, rfl⟩ := kd0 (c := c) (h2.trans h0)
  obtain ⟨e', he⟩ := fr_get hf h1
  have hc := hf.2 _ _ _ h1 he
  obtain ⟨c', rfl, h3, h4⟩ := hc
  have h5 := h4 i hi (fun k' hk' => by
    unfold sgK at hk'
    rw [hg] at hk'
    simp only [hs, Option.map_some, Option.some.injEq] at hk'
    rw [← hk']
    exact hm)
  obtain ⟨f', rfl, h6⟩ := elV_inl h3 rfl h5
  rw [el_of he, el_of h1, h6]
/-- a number of a plan, whatever its segment -/
theorem el_frP {x g i : Nat} (hT : TI G rgs h) (hf : fr G rgs md h h') (hx : G x = g) (hg : rgs g = some (.inr (0, 55, 55, PS))) (hi : i < 55) (hm : ∀ k, k < 8 → (g, k) ∉ md) : el h' x i = el h x i := by
  subst hx
  obtain ⟨c, h1, h2, h3⟩ := TI_arr hT hg
  obtain ⟨k, f, s1, -⟩ := h3 i hi
  exact el_fr hT hf rfl hg hi s1 (hm k (by have := (segAt_k s1).2.2; have e : PS.length = 8 := rfl; omega))
theorem dp_at {τ n : Nat} {q : Nat × Nat × List (List LE)} (h : (rdp τ)[n]? = some q) : q ∈ rdp τ := List.mem_of_getElem? h
theorem PRd_k1 : PRk1 (PRd G) G rgs rdp := by
  intro τ r c h h' md hP hT hT' hf hd
  have D : ∀ (n : Nat) (q : Nat × Nat × List (List LE)), (rdp τ)[n]? = some q → (q.1, q.2.1) ∉ md := fun n q hq => hd q (dp_at hq)
  match τ, hP, hd, D with
  | 40, hP, hd, D => exact GD_fr hT hf g118 g123 (D 0 _ rfl) (D 1 _ rfl) hP
  | 41, hP, hd, D => exact GD_fr hT hf g119 g123 (D 0 _ rfl) (D 1 _ rfl) hP
  | 42, hP, hd, D => exact GD_fr hT hf g121 g123 (D 0 _ rfl) (D 1 _ rfl) hP
  | 43, hP, hd, D => exact GD_fr hT hf g122 g123 (D 0 _ rfl) (D 1 _ rfl) hP
  | 44, hP, hd, D => exact GD_fr hT hf g120 g124 (D 0 _ rfl) (D 1 _ rfl) hP
  | 45, hP, hd, D => exact GD_fr hT hf g118 g124 (D 0 _ rfl) (D 1 _ rfl) hP
  | 46, hP, hd, D =>
    have a : ∀ k, k < 8 → ((123 : Nat), k) ∉ md := fun k hk => match k, hk with
      | 0, _ => D 0 _ rfl
      | 1, _ => D 1 _ rfl
      | 2, _ => D 2 _ rfl
      | 3, _ => D 3 _ rfl
      | 4, _ => D 4 _ rfl
      | 5, _ => D 5 _ rfl
      | 6, _ => D 6 _ rfl
      | 7, _ => D 7 _ rfl
      | n + 8, h => absurd h (by omega)
    have b : ∀ k, k < 8 → ((124 : Nat), k) ∉ md := fun k hk => match k, hk with
      | 0, _ => D 8 _ rfl
      | 1, _ => D 9 _ rfl
      | 2, _ => D 10 _ rfl
      | 3, _ => D 11 _ rfl
      | 4, _ => D 12 _ rfl
      | 5, _ => D 13 _ rfl
      | 6, _ => D 14 _ rfl
      | 7, _ => D 15 _ rfl
      | n + 8, h => absurd h (by omega)
    intro x y hx hy i hi h5
    rw [el_frP hT hf hx g123 h5 a, el_frP hT hf hy g124 h5 b]
    exact hP x y hx hy i hi h5
  | 47, hP, hd, D =>
    have b : ∀ k, k < 8 → ((124 : Nat), k) ∉ md := fun k hk => match k, hk with
      | 0, _ => D 0 _ rfl
      | 1, _ => D 1 _ rfl
      | 2, _ => D 2 _ rfl
      | 3, _ => D 3 _ rfl
      | 4, _ => D 4 _ rfl
      | 5, _ => D 5 _ rfl
      | 6, _ => D 6 _ rfl
      | 7, _ => D 7 _ rfl
      | n + 8, h => absurd h (by omega)
    intro x hx i hi h5
    rw [el_frP hT hf hx g124 h5 b]
    exact hP x hx i hi h5
  | 48, hP, hd, D =>
    intro x y hx hy i hi m j hm hj hij hc
    rw [el_fr hT hf hx g120 hi (by rw [hij]; exact sgS7 (by omega) (by omega)) (D 0 _ rfl)]
    refine hP x y hx hy i hi m j hm hj hij ?_
    dsimp only at hc ⊢
    rw [el_fr hT hf hy g124 (by omega) (by rw [Nat.mod_eq_of_lt (by omega)]; exact sgP4 (by omega) (by omega)) (D 1 _ rfl)] at hc
    exact hc
  | 49, hP, hd, D =>
    intro x y z hx hy hz b hb hne h1 i hi1 hi2 m j hm hj hij hc
    dsimp only at hc
    rw [el_frT rfl hT hf hz g135 hb (k := 0) (fk := (0, 0, 1)) (by rw [Nat.mod_eq_of_lt hb]; unfold segAt; rw [if_pos hb]) (D 1 _ rfl)] at h1
    rw [el_fr hT hf hy g123 (by omega) (by rw [Nat.mod_eq_of_lt (by omega)]; exact sgP4 (by omega) (by omega)) (D 2 _ rfl)] at hc
    rw [el_fr hT hf hx g122 (by omega) (by rw [hij]; exact sgS7 (by omega) (by omega)) (D 0 _ rfl)]
    exact hP x y z hx hy hz b hb hne h1 i hi1 hi2 m j hm hj hij hc
  | 50, hP, hd, D =>
    intro x y z hx hy hz b hb h1 i hi1 hi2 m j hm hj hij hc
    dsimp only at hc
    rw [el_frT rfl hT hf hz g135 hb (k := 0) (fk := (0, 0, 1)) (by rw [Nat.mod_eq_of_lt hb]; unfold segAt; rw [if_pos hb]) (D 1 _ rfl)] at h1
    rw [el_fr hT hf hy g123 (by omega) (by rw [Nat.mod_eq_of_lt (by omega)]; exact sgP4 (by omega) (by omega)) (D 2 _ rfl)] at hc
    rw [el_fr hT hf hx g122 (by omega) (by rw [hij]; exact sgS7 (by omega) (by omega)) (D 0 _ rfl)]
    exact hP x y z hx hy hz b hb h1 i hi1 hi2 m j hm hj hij hc
theorem m46a : ∀ k, k < 8 → ((123 : Nat), k, [[((0 : Int), [((1 : Nat), (-1 : Int)), (2, 1)])]]) ∈ rdp 46 := by decide +kernel
theorem m46b : ∀ k, k < 8 → ((124 : Nat), k, ([] : List (List LE))) ∈ rdp 46 := by decide +kernel
theorem m47 : ∀ k, k < 8 → ((124 : Nat), k, [[((0 : Int), [((1 : Nat), (-1 : Int)), (2, 1)])]]) ∈ rdp 47 := by decide +kernel
theorem lt8 {k j : Nat} {f : kS} (h : segAt PS j 0 = some (k, f)) : k < 8 := by have := (segAt_k h).2.2; have e : PS.length = 8 := rfl; omega
set_option maxHeartbeats 1000000 in
theorem PRd_x : PRx (PRd G) G rgs rdp := by
  intro τ r c h x j t n p k sg f cc c' hP hT hT' hgs hx hk hj hs ho hz
  match τ, hP, hz with
  | 40, hP, hz => exact GD_x (by decide) hP hgs hx hk hj hs ho g118 g123 hz
  | 41, hP, hz => exact GD_x (by decide) hP hgs hx hk hj hs ho g119 g123 hz
  | 42, hP, hz => exact GD_x (by decide) hP hgs hx hk hj hs ho g121 g123 hz
  | 43, hP, hz => exact GD_x (by decide) hP hgs hx hk hj hs ho g122 g123 hz
  | 44, hP, hz => exact GD_x (by decide) hP hgs hx hk hj hs ho g120 g124 hz
  | 45, hP, hz => exact GD_x (by decide) hP hgs hx hk hj hs ho g118 g124 hz
  | 46, hP, hz =>
    intro X Y hX hY i hi h5
    rw [el_set hx hk ho (fun e he => ?_), el_set hx hk ho (fun e he => ?_)]
    · exact hP X Y hX hY i hi h5
    · subst e
      rw [hY, g124] at hgs
      cases hgs
      rw [Nat.mod_eq_of_lt (by omega)] at hs
      obtain ⟨l, hl, -⟩ := hz _ (m46b k (lt8 hs)) hY.symm rfl
      exact absurd hl List.not_mem_nil
    · subst e
      rw [hX, g123] at hgs
      cases hgs
      rw [Nat.mod_eq_of_lt (by omega)] at hs
      obtain ⟨l, hl, hle⟩ := hz _ (m46a k (lt8 hs)) hX.symm rfl
      obtain rfl := List.mem_singleton.mp hl
      have := hle _ List.mem_cons_self
      rw [ev12] at this
      omega
  | 47, hP, hz =>
    intro X hX i hi h5
    rw [el_set hx hk ho (fun e he => ?_)]
    · exact hP X hX i hi h5
    · subst e
      rw [hX, g124] at hgs
      cases hgs
      rw [Nat.mod_eq_of_lt (by omega)] at hs
      obtain ⟨l, hl, hle⟩ := hz _ (m47 k (lt8 hs)) hX.symm rfl
      obtain rfl := List.mem_singleton.mp hl
      have := hle _ List.mem_cons_self
      rw [ev12] at this
      omega
  | 48, hP, hz =>
    intro X Y hX hY i hi m jj hm hjj hij hc
    rw [el_set hx hk ho (fun e he => ?_)]
    · refine hP X Y hX hY i hi m jj hm hjj hij ?_
      dsimp only at hc ⊢
      by_cases hmr : (m : Int) = r
      · rw [if_pos hmr] at hc ⊢
        exact hc
      · rw [if_neg hmr] at hc ⊢
        rw [el_set hx hk ho (fun e he => ?_)] at hc
        · exact hc
        · subst e
          rw [hY, g124] at hgs
          cases hgs
          rw [Nat.mod_eq_of_lt (by omega), ← he, sgP4 (by omega) (by omega)] at hs
          cases hs
          obtain ⟨l, hl, hle⟩ := hz _ (dp_at (τ := 48) (n := 1) rfl) hY.symm rfl
          obtain rfl := List.mem_singleton.mp hl
          have h1 := hle _ List.mem_cons_self
          have h2 := hle _ (List.mem_cons_of_mem _ List.mem_cons_self)
          rw [ev02] at h1 h2
          omega
    · subst e
      rw [hX, g120] at hgs
      cases hgs
      rw [← he, hij, sgS7 (by omega) (by omega)] at hs
      cases hs
      obtain ⟨l, hl, -⟩ := hz _ (dp_at (τ := 48) (n := 0) rfl) hX.symm rfl
      exact absurd hl List.not_mem_nil
  | 49, hP, hz =>
    intro X Y Z hX hY hZ b hb hne h1 i hi1 hi2 m jj hm hjj hij hc
    dsimp only at hc
    rw [el_set hx hk ho (fun e he => ?_)] at h1
    · rw [el_set hx hk ho (fun e he => ?_)] at hc
      · rw [el_set hx hk ho (fun e he => ?_)]
        · exact hP X Y Z hX hY hZ b hb hne h1 i hi1 hi2 m jj hm hjj hij hc
        · subst e
          rw [hX, g122] at hgs
          cases hgs
          rw [← he, hij, sgS7 (by omega) (by omega)] at hs
          cases hs
          obtain ⟨l, hl, hle⟩ := hz _ (dp_at (τ := 49) (n := 0) rfl) hX.symm rfl
          obtain rfl := List.mem_singleton.mp hl
          have h3 := hle _ List.mem_cons_self
          have h4 := hle _ (List.mem_cons_of_mem _ List.mem_cons_self)
          rw [ev02] at h3 h4
          omega
      · subst e
        rw [hY, g123] at hgs
        cases hgs
        rw [Nat.mod_eq_of_lt (by omega), ← he, sgP4 (by omega) (by omega)] at hs
        cases hs
        obtain ⟨l, hl, -⟩ := hz _ (dp_at (τ := 49) (n := 2) rfl) hY.symm rfl
        exact absurd hl List.not_mem_nil
    · subst e
      rw [hZ, g135] at hgs
      cases hgs
      have hs0 : k = 0 := by
        rw [Nat.mod_eq_of_lt (by omega)] at hs
        unfold segAt at hs
        rw [if_pos (by omega)] at hs
        cases hs
        rfl
      subst hs0
      obtain ⟨l, hl, hle⟩ := hz _ (dp_at (τ := 49) (n := 1) rfl) hZ.symm rfl
      obtain rfl := List.mem_singleton.mp hl
      have h3 := hle _ List.mem_cons_self
      have h4 := hle _ (List.mem_cons_of_mem _ List.mem_cons_self)
      rw [ev02] at h3 h4
      omega
  | 50, hP, hz =>
    intro X Y Z hX hY hZ b hb h1 i hi1 hi2 m jj hm hjj hij hc
    dsimp only at hc
    rw [el_set hx hk ho (fun e he => ?_)] at h1
    · rw [el_set hx hk ho (fun e he => ?_)] at hc
      · rw [el_set hx hk ho (fun e he => ?_)]
        · exact hP X Y Z hX hY hZ b hb h1 i hi1 hi2 m jj hm hjj hij hc
        · subst e
          rw [hX, g122] at hgs
          cases hgs
          rw [← he, hij, sgS7 (by omega) (by omega)] at hs
          cases hs
          obtain ⟨l, hl, -⟩ := hz _ (dp_at (τ := 50) (n := 0) rfl) hX.symm rfl
          exact absurd hl List.not_mem_nil
      · subst e
        rw [hY, g123] at hgs
        cases hgs
        rw [Nat.mod_eq_of_lt (by omega), ← he, sgP4 (by omega) (by omega)] at hs
        cases hs
        obtain ⟨l, hl, -⟩ := hz _ (dp_at (τ := 50) (n := 2) rfl) hY.symm rfl
        exact absurd hl List.not_mem_nil
    · subst e
      rw [hZ, g135] at hgs
      cases hgs
      have hs0 : k = 0 := by
        rw [Nat.mod_eq_of_lt (by omega)] at hs
        unfold segAt at hs
        rw [if_pos (by omega)] at hs
        cases hs
        rfl
      subst hs0
      obtain ⟨l, hl, -⟩ := hz _ (dp_at (τ := 50) (n := 1) rfl) hZ.symm rfl
      exact absurd hl List.not_mem_nil
theorem PRd_k : PRk (PRd G) G rgs rdp := ⟨PRd_k1, PRd_x⟩
end PRF
