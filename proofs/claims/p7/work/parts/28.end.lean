section LWZ
theorem lwG132 : ∀ k, k < 132 → lwGr k = 300 + k := by decide +kernel
variable {f : Nat → Int32}
def lwC_0 : List (Nat × Nat × Ctr) := [(1, 13, c_1), (3, 214, c_3), (437, 31, c_437), (438, 219, c_438), (446, 31, c_446), (457, 219, c_457), (459, 31, c_459), (460, 219, c_460), (461, 15, c_461), (462, 217, c_462), (463, 16, c_463), (464, 218, c_464), (465, 17, c_465), (466, 216, c_466), (467, 18, c_467), (469, 245, c_469), (470, 19, c_470), (471, 247, c_471), (472, 20, c_472), (473, 248, c_473), (474, 21, c_474), (475, 280, c_475), (479, 74, c_479), (483, 249, c_483), (487, 74, c_487)]
def lwC_1 : List (Nat × Nat × Ctr) := [(491, 249, c_491), (494, 74, c_494), (498, 249, c_498), (501, 74, c_501), (504, 249, c_504), (509, 78, c_509), (513, 252, c_513), (515, 81, c_515), (516, 255, c_516), (518, 83, c_518), (519, 256, c_519), (521, 85, c_521), (522, 257, c_522), (524, 87, c_524), (525, 258, c_525), (527, 89, c_527), (528, 259, c_528), (530, 91, c_530), (531, 260, c_531), (533, 93, c_533), (534, 261, c_534), (536, 95, c_536), (537, 262, c_537), (541, 97, c_541), (543, 263, c_543)]
def lwC_2 : List (Nat × Nat × Ctr) := [(549, 97, c_549), (552, 263, c_552), (555, 97, c_555), (557, 263, c_557), (560, 97, c_560), (562, 263, c_562), (565, 97, c_565), (567, 263, c_567), (569, 97, c_569), (571, 263, c_571), (573, 97, c_573), (574, 263, c_574), (576, 97, c_576), (577, 263, c_577), (580, 97, c_580), (582, 263, c_582), (585, 97, c_585), (587, 263, c_587), (591, 97, c_591), (593, 263, c_593), (597, 97, c_597), (599, 263, c_599), (602, 101, c_602), (604, 265, c_604), (611, 104, c_611)]
def lwC_3 : List (Nat × Nat × Ctr) := [(618, 267, c_618), (620, 111, c_620), (621, 281, c_621), (624, 113, c_624), (625, 282, c_625), (627, 116, c_627), (629, 273, c_629), (631, 118, c_631), (632, 275, c_632), (634, 120, c_634), (635, 276, c_635), (639, 122, c_639), (642, 283, c_642), (645, 126, c_645), (647, 286, c_647), (651, 129, c_651), (654, 277, c_654), (667, 133, c_667), (679, 292, c_679), (681, 146, c_681), (682, 302, c_682), (684, 148, c_684), (685, 303, c_685), (687, 150, c_687), (688, 304, c_688)]
def lwC_4 : List (Nat × Nat × Ctr) := [(690, 152, c_690), (691, 305, c_691), (692, 22, c_692), (693, 306, c_693), (694, 23, c_694), (696, 307, c_696), (697, 24, c_697), (698, 309, c_698), (699, 25, c_699), (700, 310, c_700), (701, 26, c_701), (702, 311, c_702), (703, 27, c_703), (704, 312, c_704), (705, 28, c_705), (706, 313, c_706), (707, 29, c_707), (708, 314, c_708), (710, 154, c_710), (711, 315, c_711), (730, 164, c_730), (751, 316, c_751), (753, 178, c_753), (754, 328, c_754), (756, 180, c_756)]
def lwC_5 : List (Nat × Nat × Ctr) := [(757, 329, c_757), (759, 182, c_759), (760, 330, c_760), (762, 184, c_762), (763, 331, c_763), (770, 186, c_770), (771, 332, c_771), (774, 190, c_774), (776, 333, c_776), (779, 190, c_779), (781, 333, c_781), (793, 190, c_793), (804, 333, c_804), (807, 190, c_807), (809, 333, c_809), (812, 190, c_812), (814, 333, c_814), (816, 194, c_816), (817, 335, c_817), (819, 194, c_819), (821, 335, c_821), (823, 194, c_823), (824, 335, c_824), (826, 194, c_826), (827, 335, c_827)]
def lwC_6 : List (Nat × Nat × Ctr) := [(832, 196, c_832), (833, 337, c_833), (839, 196, c_839), (842, 337, c_842), (845, 196, c_845), (846, 337, c_846), (849, 196, c_849), (850, 337, c_850), (854, 196, c_854), (856, 337, c_856), (860, 196, c_860), (862, 337, c_862), (866, 196, c_866), (867, 337, c_867), (871, 196, c_871), (872, 337, c_872), (877, 196, c_877), (878, 337, c_878), (883, 196, c_883), (884, 337, c_884), (886, 198, c_886), (887, 338, c_887), (889, 198, c_889), (891, 338, c_891), (893, 198, c_893)]
def lwC_7 : List (Nat × Nat × Ctr) := [(894, 338, c_894), (896, 198, c_896), (897, 338, c_897), (899, 200, c_899), (900, 339, c_900), (902, 200, c_902), (904, 339, c_904), (906, 200, c_906), (907, 339, c_907), (909, 200, c_909), (910, 339, c_910), (912, 202, c_912), (913, 340, c_913), (915, 202, c_915), (917, 340, c_917), (919, 202, c_919), (920, 340, c_920), (922, 202, c_922), (923, 340, c_923), (925, 202, c_925), (926, 340, c_926), (928, 202, c_928), (929, 340, c_929), (931, 202, c_931), (932, 340, c_932)]
def lwC_8 : List (Nat × Nat × Ctr) := [(934, 202, c_934), (935, 340, c_935), (937, 202, c_937), (938, 340, c_938), (940, 202, c_940), (941, 340, c_941), (943, 202, c_943), (944, 340, c_944), (946, 202, c_946), (947, 340, c_947), (949, 204, c_949), (950, 341, c_950), (952, 204, c_952), (954, 341, c_954), (956, 204, c_956), (957, 341, c_957), (959, 204, c_959), (960, 341, c_960), (962, 206, c_962), (963, 342, c_963), (966, 206, c_966), (968, 342, c_968), (969, 30, c_969), (970, 344, c_970), (972, 209, c_972)]
def lwC_9 : List (Nat × Nat × Ctr) := [(973, 345, c_973), (978, 209, c_978), (980, 345, c_980), (985, 209, c_985), (986, 345, c_986), (988, 209, c_988), (989, 345, c_989), (991, 209, c_991), (992, 345, c_992), (994, 211, c_994), (995, 346, c_995), (1000, 211, c_1000), (1002, 346, c_1002), (1004, 211, c_1004), (1005, 346, c_1005), (1007, 211, c_1007), (1008, 346, c_1008), (1010, 211, c_1010), (1011, 346, c_1011), (1013, 211, c_1013), (1014, 346, c_1014), (1016, 156, c_1016), (1019, 288, c_1019), (1129, 156, c_1129), (1131, 156, c_1131)]
def lwC_10 : List (Nat × Nat × Ctr) := [(1135, 156, c_1135), (1137, 156, c_1137), (1141, 156, c_1141), (1143, 156, c_1143), (1147, 156, c_1147), (1149, 156, c_1149), (1153, 156, c_1153), (1155, 156, c_1155), (1159, 156, c_1159), (1161, 156, c_1161), (1165, 156, c_1165), (1169, 162, c_1169), (1170, 291, c_1170), (1174, 162, c_1174), (1178, 162, c_1178), (1182, 162, c_1182), (1186, 162, c_1186), (1190, 162, c_1190), (1194, 162, c_1194)]
set_option maxRecDepth 100000 in
theorem lwCL_eq : lwCL = lwC_0 ++ (lwC_1 ++ (lwC_2 ++ (lwC_3 ++ (lwC_4 ++ (lwC_5 ++ (lwC_6 ++ (lwC_7 ++ (lwC_8 ++ (lwC_9 ++ (lwC_10)))))))))) := rfl
theorem lwK_0 : ∀ q ∈ lwC_0, q.2.2.1.2.1 = [] ∧ ctrOK (PRd lwGr lwC 700 f) lwGr rgs (wpM mDf mt 1999) q.2.1 q.2.2 := by
  unfold lwC_0
  simp only [List.forall_mem_cons]
  exact ⟨⟨rfl, k_1 lwU lwG132 lwN (by omega)⟩, ⟨rfl, k_3 lwU lwG132 lwN (by omega)⟩, ⟨rfl, k_437 lwU lwG132 lwN (by omega)⟩, ⟨rfl, k_438 lwU lwG132 lwN (by omega)⟩, ⟨rfl, k_446 lwU lwG132 lwN (Nat.le_refl 700) (by omega)⟩, ⟨rfl, k_457 lwU lwG132 lwN (Nat.le_refl 700) (by omega)⟩, ⟨rfl, k_459 lwU lwG132 lwN (by omega)⟩, ⟨rfl, k_460 lwU lwG132 lwN (by omega)⟩, ⟨rfl, k_461 lwU lwG132 lwN (by omega)⟩, ⟨rfl, k_462 lwU lwG132 lwN (by omega)⟩, ⟨rfl, k_463 lwU lwG132 lwN (by omega)⟩, ⟨rfl, k_464 lwU lwG132 lwN (by omega)⟩, ⟨rfl, k_465 lwU lwG132 lwN (by omega)⟩, ⟨rfl, k_466 lwU lwG132 lwN (by omega)⟩, ⟨rfl, k_467 lwU lwG132 lwN (by omega)⟩, ⟨rfl, k_469 lwU lwG132 lwN (by omega)⟩, ⟨rfl, k_470 lwU lwG132 lwN (by omega)⟩, ⟨rfl, k_471 lwU lwG132 lwN (by omega)⟩, ⟨rfl, k_472 lwU lwG132 lwN (by omega)⟩, ⟨rfl, k_473 lwU lwG132 lwN (by omega)⟩, ⟨rfl, k_474 lwU lwG132 lwN (by omega)⟩, ⟨rfl, k_475 lwU lwG132 lwN (by omega)⟩, ⟨rfl, k_479 lwU lwG132 lwN (by omega)⟩, ⟨rfl, k_483 lwU lwG132 lwN (by omega)⟩, ⟨rfl, k_487 lwU lwG132 lwN (by omega)⟩, fun _ h => absurd h List.not_mem_nil⟩
theorem lwK_1 : ∀ q ∈ lwC_1, q.2.2.1.2.1 = [] ∧ ctrOK (PRd lwGr lwC 700 f) lwGr rgs (wpM mDf mt 1999) q.2.1 q.2.2 := by
  unfold lwC_1
  simp only [List.forall_mem_cons]
  exact ⟨⟨rfl, k_491 lwU lwG132 lwN (by omega)⟩, ⟨rfl, k_494 lwU lwG132 lwN (by omega)⟩, ⟨rfl, k_498 lwU lwG132 lwN (by omega)⟩, ⟨rfl, k_501 lwU lwG132 lwN (by omega)⟩, ⟨rfl, k_504 lwU lwG132 lwN (by omega)⟩, ⟨rfl, k_509 lwU lwG132 lwN (by omega)⟩, ⟨rfl, k_513 lwU lwG132 lwN (by omega)⟩, ⟨rfl, k_515 lwU lwG132 lwN (by omega)⟩, ⟨rfl, k_516 lwU lwG132 lwN (by omega)⟩, ⟨rfl, k_518 lwU lwG132 lwN (by omega)⟩, ⟨rfl, k_519 lwU lwG132 lwN (by omega)⟩, ⟨rfl, k_521 lwU lwG132 lwN (by omega)⟩, ⟨rfl, k_522 lwU lwG132 lwN (by omega)⟩, ⟨rfl, k_524 lwU lwG132 lwN (by omega)⟩, ⟨rfl, k_525 lwU lwG132 lwN (by omega)⟩, ⟨rfl, k_527 lwU lwG132 lwN (by omega)⟩, ⟨rfl, k_528 lwU lwG132 lwN (by omega)⟩, ⟨rfl, k_530 lwU lwG132 lwN (by omega)⟩, ⟨rfl, k_531 lwU lwG132 lwN (by omega)⟩, ⟨rfl, k_533 lwU lwG132 lwN (by omega)⟩, ⟨rfl, k_534 lwU lwG132 lwN (by omega)⟩, ⟨rfl, k_536 lwU lwG132 lwN (by omega)⟩, ⟨rfl, k_537 lwU lwG132 lwN (by omega)⟩, ⟨rfl, k_541 lwU lwG132 lwN (by omega)⟩, ⟨rfl, k_543 lwU lwG132 lwN (by omega)⟩, fun _ h => absurd h List.not_mem_nil⟩
theorem lwK_2 : ∀ q ∈ lwC_2, q.2.2.1.2.1 = [] ∧ ctrOK (PRd lwGr lwC 700 f) lwGr rgs (wpM mDf mt 1999) q.2.1 q.2.2 := by
  unfold lwC_2
  simp only [List.forall_mem_cons]
  exact ⟨⟨rfl, k_549 lwU lwG132 lwN (by omega)⟩, ⟨rfl, k_552 lwU lwG132 lwN (by omega)⟩, ⟨rfl, k_555 lwU lwG132 lwN (by omega)⟩, ⟨rfl, k_557 lwU lwG132 lwN (by omega)⟩, ⟨rfl, k_560 lwU lwG132 lwN (by omega)⟩, ⟨rfl, k_562 lwU lwG132 lwN (by omega)⟩, ⟨rfl, k_565 lwU lwG132 lwN (by omega)⟩, ⟨rfl, k_567 lwU lwG132 lwN (by omega)⟩, ⟨rfl, k_569 lwU lwG132 lwN (by omega)⟩, ⟨rfl, k_571 lwU lwG132 lwN (by omega)⟩, ⟨rfl, k_573 lwU lwG132 lwN (by omega)⟩, ⟨rfl, k_574 lwU lwG132 lwN (by omega)⟩, ⟨rfl, k_576 lwU lwG132 lwN (by omega)⟩, ⟨rfl, k_577 lwU lwG132 lwN (by omega)⟩, ⟨rfl, k_580 lwU lwG132 lwN (by omega)⟩, ⟨rfl, k_582 lwU lwG132 lwN (by omega)⟩, ⟨rfl, k_585 lwU lwG132 lwN (by omega)⟩, ⟨rfl, k_587 lwU lwG132 lwN (by omega)⟩, ⟨rfl, k_591 lwU lwG132 lwN (by omega)⟩, ⟨rfl, k_593 lwU lwG132 lwN (by omega)⟩, ⟨rfl, k_597 lwU lwG132 lwN (by omega)⟩, ⟨rfl, k_599 lwU lwG132 lwN (by omega)⟩, ⟨rfl, k_602 lwU lwG132 lwN (by omega)⟩, ⟨rfl, k_604 lwU lwG132 lwN (by omega)⟩, ⟨rfl, k_611 lwU lwG132 lwN (by omega)⟩, fun _ h => absurd h List.not_mem_nil⟩
theorem lwK_3 : ∀ q ∈ lwC_3, q.2.2.1.2.1 = [] ∧ ctrOK (PRd lwGr lwC 700 f) lwGr rgs (wpM mDf mt 1999) q.2.1 q.2.2 := by
  unfold lwC_3
  simp only [List.forall_mem_cons]
  exact ⟨⟨rfl, k_618 lwU lwG132 lwN (Nat.le_refl 700) (by omega)⟩, ⟨rfl, k_620 lwU lwG132 lwN (by omega)⟩, ⟨rfl, k_621 lwU lwG132 lwN (Nat.le_refl 700) (by omega)⟩, ⟨rfl, k_624 lwU lwG132 lwN (by omega)⟩, ⟨rfl, k_625 lwU lwG132 lwN (by omega)⟩, ⟨rfl, k_627 lwU lwG132 lwN (by omega)⟩, ⟨rfl, k_629 lwU lwG132 lwN (by omega)⟩, ⟨rfl, k_631 lwU lwG132 lwN (by omega)⟩, ⟨rfl, k_632 lwU lwG132 lwN (by omega)⟩, ⟨rfl, k_634 lwU lwG132 lwN (by omega)⟩, ⟨rfl, k_635 lwU lwG132 lwN (by omega)⟩, ⟨rfl, k_639 lwU lwG132 lwN (by omega)⟩, ⟨rfl, k_642 lwU lwG132 lwN (by omega)⟩, ⟨rfl, k_645 lwU lwG132 lwN (by omega)⟩, ⟨rfl, k_647 lwU lwG132 lwN (by omega)⟩, ⟨rfl, k_651 lwU lwG132 lwN (by omega)⟩, ⟨rfl, k_654 lwU lwG132 lwN (by omega)⟩, ⟨rfl, k_667 lwU lwG132 lwN (by omega)⟩, ⟨rfl, k_679 lwU lwG132 lwN (Nat.le_refl 700) (by omega)⟩, ⟨rfl, k_681 lwU lwG132 lwN (by omega)⟩, ⟨rfl, k_682 lwU lwG132 lwN (Nat.le_refl 700) (by omega)⟩, ⟨rfl, k_684 lwU lwG132 lwN (by omega)⟩, ⟨rfl, k_685 lwU lwG132 lwN (Nat.le_refl 700) (by omega)⟩, ⟨rfl, k_687 lwU lwG132 lwN (by omega)⟩, ⟨rfl, k_688 lwU lwG132 lwN (Nat.le_refl 700) (by omega)⟩, fun _ h => absurd h List.not_mem_nil⟩
theorem lwK_4 : ∀ q ∈ lwC_4, q.2.2.1.2.1 = [] ∧ ctrOK (PRd lwGr lwC 700 f) lwGr rgs (wpM mDf mt 1999) q.2.1 q.2.2 := by
  unfold lwC_4
  simp only [List.forall_mem_cons]
  exact ⟨⟨rfl, k_690 lwU lwG132 lwN (by omega)⟩, ⟨rfl, k_691 lwU lwG132 lwN (by omega)⟩, ⟨rfl, k_692 lwU lwG132 lwN (by omega)⟩, ⟨rfl, k_693 lwU lwG132 lwN (by omega)⟩, ⟨rfl, k_694 lwU lwG132 lwN (by omega)⟩, ⟨rfl, k_696 lwU lwG132 lwN (by omega)⟩, ⟨rfl, k_697 lwU lwG132 lwN (by omega)⟩, ⟨rfl, k_698 lwU lwG132 lwN (by omega)⟩, ⟨rfl, k_699 lwU lwG132 lwN (by omega)⟩, ⟨rfl, k_700 lwU lwG132 lwN (by omega)⟩, ⟨rfl, k_701 lwU lwG132 lwN (by omega)⟩, ⟨rfl, k_702 lwU lwG132 lwN (by omega)⟩, ⟨rfl, k_703 lwU lwG132 lwN (by omega)⟩, ⟨rfl, k_704 lwU lwG132 lwN (by omega)⟩, ⟨rfl, k_705 lwU lwG132 lwN (by omega)⟩, ⟨rfl, k_706 lwU lwG132 lwN (by omega)⟩, ⟨rfl, k_707 lwU lwG132 lwN (by omega)⟩, ⟨rfl, k_708 lwU lwG132 lwN (by omega)⟩, ⟨rfl, k_710 lwU lwG132 lwN (by omega)⟩, ⟨rfl, k_711 lwU lwG132 lwN (by omega)⟩, ⟨rfl, k_730 lwU lwG132 lwN (by omega)⟩, ⟨rfl, k_751 lwU lwG132 lwN (Nat.le_refl 700) (by omega)⟩, ⟨rfl, k_753 lwU lwG132 lwN (by omega)⟩, ⟨rfl, k_754 lwU lwG132 lwN (Nat.le_refl 700) (by omega)⟩, ⟨rfl, k_756 lwU lwG132 lwN (by omega)⟩, fun _ h => absurd h List.not_mem_nil⟩
theorem lwK_5 : ∀ q ∈ lwC_5, q.2.2.1.2.1 = [] ∧ ctrOK (PRd lwGr lwC 700 f) lwGr rgs (wpM mDf mt 1999) q.2.1 q.2.2 := by
  unfold lwC_5
  simp only [List.forall_mem_cons]
  exact ⟨⟨rfl, k_757 lwU lwG132 lwN (Nat.le_refl 700) (by omega)⟩, ⟨rfl, k_759 lwU lwG132 lwN (by omega)⟩, ⟨rfl, k_760 lwU lwG132 lwN (Nat.le_refl 700) (by omega)⟩, ⟨rfl, k_762 lwU lwG132 lwN (by omega)⟩, ⟨rfl, k_763 lwU lwG132 lwN (Nat.le_refl 700) (by omega)⟩, ⟨rfl, k_770 lwU lwG132 lwN (by omega)⟩, ⟨rfl, k_771 lwU lwG132 lwN (Nat.le_refl 700) (by omega)⟩, ⟨rfl, k_774 lwU lwG132 lwN (by omega)⟩, ⟨rfl, k_776 lwU lwG132 lwN (by omega)⟩, ⟨rfl, k_779 lwU lwG132 lwN (by omega)⟩, ⟨rfl, k_781 lwU lwG132 lwN (by omega)⟩, ⟨rfl, k_793 lwU lwG132 lwN (by omega)⟩, ⟨rfl, k_804 lwU lwG132 lwN (Nat.le_refl 700) (by omega)⟩, ⟨rfl, k_807 lwU lwG132 lwN (by omega)⟩, ⟨rfl, k_809 lwU lwG132 lwN (by omega)⟩, ⟨rfl, k_812 lwU lwG132 lwN (by omega)⟩, ⟨rfl, k_814 lwU lwG132 lwN (by omega)⟩, ⟨rfl, k_816 lwU lwG132 lwN (by omega)⟩, ⟨rfl, k_817 lwU lwG132 lwN (by omega)⟩, ⟨rfl, k_819 lwU lwG132 lwN (by omega)⟩, ⟨rfl, k_821 lwU lwG132 lwN (by omega)⟩, ⟨rfl, k_823 lwU lwG132 lwN (by omega)⟩, ⟨rfl, k_824 lwU lwG132 lwN (by omega)⟩, ⟨rfl, k_826 lwU lwG132 lwN (by omega)⟩, ⟨rfl, k_827 lwU lwG132 lwN (by omega)⟩, fun _ h => absurd h List.not_mem_nil⟩
theorem lwK_6 : ∀ q ∈ lwC_6, q.2.2.1.2.1 = [] ∧ ctrOK (PRd lwGr lwC 700 f) lwGr rgs (wpM mDf mt 1999) q.2.1 q.2.2 := by
  unfold lwC_6
  simp only [List.forall_mem_cons]
  exact ⟨⟨rfl, k_832 lwU lwG132 lwN (by omega)⟩, ⟨rfl, k_833 lwU lwG132 lwN (by omega)⟩, ⟨rfl, k_839 lwU lwG132 lwN (by omega)⟩, ⟨rfl, k_842 lwU lwG132 lwN (by omega)⟩, ⟨rfl, k_845 lwU lwG132 lwN (by omega)⟩, ⟨rfl, k_846 lwU lwG132 lwN (by omega)⟩, ⟨rfl, k_849 lwU lwG132 lwN (by omega)⟩, ⟨rfl, k_850 lwU lwG132 lwN (by omega)⟩, ⟨rfl, k_854 lwU lwG132 lwN (by omega)⟩, ⟨rfl, k_856 lwU lwG132 lwN (by omega)⟩, ⟨rfl, k_860 lwU lwG132 lwN (by omega)⟩, ⟨rfl, k_862 lwU lwG132 lwN (by omega)⟩, ⟨rfl, k_866 lwU lwG132 lwN (by omega)⟩, ⟨rfl, k_867 lwU lwG132 lwN (by omega)⟩, ⟨rfl, k_871 lwU lwG132 lwN (by omega)⟩, ⟨rfl, k_872 lwU lwG132 lwN (by omega)⟩, ⟨rfl, k_877 lwU lwG132 lwN (by omega)⟩, ⟨rfl, k_878 lwU lwG132 lwN (by omega)⟩, ⟨rfl, k_883 lwU lwG132 lwN (by omega)⟩, ⟨rfl, k_884 lwU lwG132 lwN (by omega)⟩, ⟨rfl, k_886 lwU lwG132 lwN (by omega)⟩, ⟨rfl, k_887 lwU lwG132 lwN (by omega)⟩, ⟨rfl, k_889 lwU lwG132 lwN (by omega)⟩, ⟨rfl, k_891 lwU lwG132 lwN (by omega)⟩, ⟨rfl, k_893 lwU lwG132 lwN (by omega)⟩, fun _ h => absurd h List.not_mem_nil⟩
theorem lwK_7 : ∀ q ∈ lwC_7, q.2.2.1.2.1 = [] ∧ ctrOK (PRd lwGr lwC 700 f) lwGr rgs (wpM mDf mt 1999) q.2.1 q.2.2 := by
  unfold lwC_7
  simp only [List.forall_mem_cons]
  exact ⟨⟨rfl, k_894 lwU lwG132 lwN (by omega)⟩, ⟨rfl, k_896 lwU lwG132 lwN (by omega)⟩, ⟨rfl, k_897 lwU lwG132 lwN (by omega)⟩, ⟨rfl, k_899 lwU lwG132 lwN (by omega)⟩, ⟨rfl, k_900 lwU lwG132 lwN (by omega)⟩, ⟨rfl, k_902 lwU lwG132 lwN (by omega)⟩, ⟨rfl, k_904 lwU lwG132 lwN (by omega)⟩, ⟨rfl, k_906 lwU lwG132 lwN (by omega)⟩, ⟨rfl, k_907 lwU lwG132 lwN (by omega)⟩, ⟨rfl, k_909 lwU lwG132 lwN (by omega)⟩, ⟨rfl, k_910 lwU lwG132 lwN (by omega)⟩, ⟨rfl, k_912 lwU lwG132 lwN (by omega)⟩, ⟨rfl, k_913 lwU lwG132 lwN (by omega)⟩, ⟨rfl, k_915 lwU lwG132 lwN (by omega)⟩, ⟨rfl, k_917 lwU lwG132 lwN (by omega)⟩, ⟨rfl, k_919 lwU lwG132 lwN (by omega)⟩, ⟨rfl, k_920 lwU lwG132 lwN (by omega)⟩, ⟨rfl, k_922 lwU lwG132 lwN (by omega)⟩, ⟨rfl, k_923 lwU lwG132 lwN (by omega)⟩, ⟨rfl, k_925 lwU lwG132 lwN (by omega)⟩, ⟨rfl, k_926 lwU lwG132 lwN (by omega)⟩, ⟨rfl, k_928 lwU lwG132 lwN (by omega)⟩, ⟨rfl, k_929 lwU lwG132 lwN (by omega)⟩, ⟨rfl, k_931 lwU lwG132 lwN (by omega)⟩, ⟨rfl, k_932 lwU lwG132 lwN (by omega)⟩, fun _ h => absurd h List.not_mem_nil⟩
theorem lwK_8 : ∀ q ∈ lwC_8, q.2.2.1.2.1 = [] ∧ ctrOK (PRd lwGr lwC 700 f) lwGr rgs (wpM mDf mt 1999) q.2.1 q.2.2 := by
  unfold lwC_8
  simp only [List.forall_mem_cons]
  exact ⟨⟨rfl, k_934 lwU lwG132 lwN (by omega)⟩, ⟨rfl, k_935 lwU lwG132 lwN (by omega)⟩, ⟨rfl, k_937 lwU lwG132 lwN (by omega)⟩, ⟨rfl, k_938 lwU lwG132 lwN (by omega)⟩, ⟨rfl, k_940 lwU lwG132 lwN (by omega)⟩, ⟨rfl, k_941 lwU lwG132 lwN (by omega)⟩, ⟨rfl, k_943 lwU lwG132 lwN (by omega)⟩, ⟨rfl, k_944 lwU lwG132 lwN (by omega)⟩, ⟨rfl, k_946 lwU lwG132 lwN (by omega)⟩, ⟨rfl, k_947 lwU lwG132 lwN (by omega)⟩, ⟨rfl, k_949 lwU lwG132 lwN (by omega)⟩, ⟨rfl, k_950 lwU lwG132 lwN (by omega)⟩, ⟨rfl, k_952 lwU lwG132 lwN (by omega)⟩, ⟨rfl, k_954 lwU lwG132 lwN (by omega)⟩, ⟨rfl, k_956 lwU lwG132 lwN (by omega)⟩, ⟨rfl, k_957 lwU lwG132 lwN (by omega)⟩, ⟨rfl, k_959 lwU lwG132 lwN (by omega)⟩, ⟨rfl, k_960 lwU lwG132 lwN (by omega)⟩, ⟨rfl, k_962 lwU lwG132 lwN (by omega)⟩, ⟨rfl, k_963 lwU lwG132 lwN (by omega)⟩, ⟨rfl, k_966 lwU lwG132 lwN (by omega)⟩, ⟨rfl, k_968 lwU lwG132 lwN (by omega)⟩, ⟨rfl, k_969 lwU lwG132 lwN (by omega)⟩, ⟨rfl, k_970 lwU lwG132 lwN (by omega)⟩, ⟨rfl, k_972 lwU lwG132 lwN (by omega)⟩, fun _ h => absurd h List.not_mem_nil⟩
theorem lwK_9 : ∀ q ∈ lwC_9, q.2.2.1.2.1 = [] ∧ ctrOK (PRd lwGr lwC 700 f) lwGr rgs (wpM mDf mt 1999) q.2.1 q.2.2 := by
  unfold lwC_9
  simp only [List.forall_mem_cons]
  exact ⟨⟨rfl, k_973 lwU lwG132 lwN (by omega)⟩, ⟨rfl, k_978 lwU lwG132 lwN (by omega)⟩, ⟨rfl, k_980 lwU lwG132 lwN (by omega)⟩, ⟨rfl, k_985 lwU lwG132 lwN (by omega)⟩, ⟨rfl, k_986 lwU lwG132 lwN (by omega)⟩, ⟨rfl, k_988 lwU lwG132 lwN (by omega)⟩, ⟨rfl, k_989 lwU lwG132 lwN (by omega)⟩, ⟨rfl, k_991 lwU lwG132 lwN (by omega)⟩, ⟨rfl, k_992 lwU lwG132 lwN (by omega)⟩, ⟨rfl, k_994 lwU lwG132 lwN (by omega)⟩, ⟨rfl, k_995 lwU lwG132 lwN (by omega)⟩, ⟨rfl, k_1000 lwU lwG132 lwN (by omega)⟩, ⟨rfl, k_1002 lwU lwG132 lwN (by omega)⟩, ⟨rfl, k_1004 lwU lwG132 lwN (by omega)⟩, ⟨rfl, k_1005 lwU lwG132 lwN (by omega)⟩, ⟨rfl, k_1007 lwU lwG132 lwN (by omega)⟩, ⟨rfl, k_1008 lwU lwG132 lwN (by omega)⟩, ⟨rfl, k_1010 lwU lwG132 lwN (by omega)⟩, ⟨rfl, k_1011 lwU lwG132 lwN (by omega)⟩, ⟨rfl, k_1013 lwU lwG132 lwN (by omega)⟩, ⟨rfl, k_1014 lwU lwG132 lwN (by omega)⟩, ⟨rfl, k_1016 lwU lwG132 lwN (by omega)⟩, ⟨rfl, k_1019 lwU lwG132 lwN (by omega)⟩, ⟨rfl, k_1129 lwU lwG132 lwN (by omega)⟩, ⟨rfl, k_1131 lwU lwG132 lwN (by omega)⟩, fun _ h => absurd h List.not_mem_nil⟩
theorem lwK_10 : ∀ q ∈ lwC_10, q.2.2.1.2.1 = [] ∧ ctrOK (PRd lwGr lwC 700 f) lwGr rgs (wpM mDf mt 1999) q.2.1 q.2.2 := by
  unfold lwC_10
  simp only [List.forall_mem_cons]
  exact ⟨⟨rfl, k_1135 lwU lwG132 lwN (by omega)⟩, ⟨rfl, k_1137 lwU lwG132 lwN (by omega)⟩, ⟨rfl, k_1141 lwU lwG132 lwN (by omega)⟩, ⟨rfl, k_1143 lwU lwG132 lwN (by omega)⟩, ⟨rfl, k_1147 lwU lwG132 lwN (by omega)⟩, ⟨rfl, k_1149 lwU lwG132 lwN (by omega)⟩, ⟨rfl, k_1153 lwU lwG132 lwN (by omega)⟩, ⟨rfl, k_1155 lwU lwG132 lwN (by omega)⟩, ⟨rfl, k_1159 lwU lwG132 lwN (by omega)⟩, ⟨rfl, k_1161 lwU lwG132 lwN (by omega)⟩, ⟨rfl, k_1165 lwU lwG132 lwN (by omega)⟩, ⟨rfl, k_1169 lwU lwG132 lwN (by omega)⟩, ⟨rfl, k_1170 lwU lwG132 lwN (by omega)⟩, ⟨rfl, k_1174 lwU lwG132 lwN (by omega)⟩, ⟨rfl, k_1178 lwU lwG132 lwN (by omega)⟩, ⟨rfl, k_1182 lwU lwG132 lwN (by omega)⟩, ⟨rfl, k_1186 lwU lwG132 lwN (by omega)⟩, ⟨rfl, k_1190 lwU lwG132 lwN (by omega)⟩, ⟨rfl, k_1194 lwU lwG132 lwN (by omega)⟩, fun _ h => absurd h List.not_mem_nil⟩
theorem lwK : ∀ q ∈ lwCL, q.2.2.1.2.1 = [] ∧ ctrOK (PRd lwGr lwC 700 f) lwGr rgs (wpM mDf mt 1999) q.2.1 q.2.2 := by
  rw [lwCL_eq]
  exact List.forall_mem_append.mpr ⟨lwK_0, List.forall_mem_append.mpr ⟨lwK_1, List.forall_mem_append.mpr ⟨lwK_2, List.forall_mem_append.mpr ⟨lwK_3, List.forall_mem_append.mpr ⟨lwK_4, List.forall_mem_append.mpr ⟨lwK_5, List.forall_mem_append.mpr ⟨lwK_6, List.forall_mem_append.mpr ⟨lwK_7, List.forall_mem_append.mpr ⟨lwK_8, List.forall_mem_append.mpr ⟨lwK_9, lwK_10⟩⟩⟩⟩⟩⟩⟩⟩⟩⟩
theorem law_pure {L : Nat} (hL : L ≤ 3072) (f : Nat → Int32) : run (some (132, L, f)) mDf mt (wpM mDf mt 1999) m_law 1999 (2 ^ 40) 0 [(0, .ref 132)] [] h00 0 0 lwPost :=
  lw_go hL lwJ_ok fun lv h hT hI ⟨z0, h132⟩ n hn => by
    have h1 := lw_loop (D := 700) (d0 := 1999) lwU lwG65 lwGs7 (by omega) (by omega) h132 (lkCL_ok (P := fun y c => ctrOK (PRd lwGr lwC 700 f) lwGr rgs (wpM mDf mt 1999) y c) lwK) 512 lv h hI hT fr_rf n hn
    rw [show 657 + 66 * (512 - 512) = 657 from rfl, show 50952 + 12812 * (512 - 512) = 50952 from rfl] at h1
    exact run_mono (wpM_mono 1999) (fun e v h2 hp => ⟨hp.2.2.1, hp.2.2.2⟩) _ _ _ _ _ _ _ h1
end LWZ
theorem whole_start {p : Program} {e : Env} {s : State} {m : MethodId} {below : List Frame} {meth : Method} {c : Code} (l : Launch) (hflags : l.flags = flags0) {b L : Nat} {xs : Nat → Int32} (hL : L ≤ 3072) (C0 : lw_At p s m meth c b L xs) : W p l e room_1 s m #[Value.ref b] below meth c s.heap [] 0 0 (lw_Z below #[Value.ref b] s) (entryFrame m ([Value.ref b] : List Value).toArray 9) :=
  law_enter l hflags C0 (law_pure hL xs)
set_option maxHeartbeats 4000000 in
theorem lw_walk (l : Launch) (hflags : l.flags = flags0) (b : Addr) (xs : List Int32) : MetFree l x (headSpec (Jvm.Cond.code x code maxLocals ret :: tables_1) room_1) (lw_P b xs) (fun _ _ _ _ _ => True) lw_Q := by
  refine MetFree.of_bodyS (code := code) (maxLocals := maxLocals) (ret := ret) (by decide) ?_ ?_
  · intro args s m h hn
    obtain ⟨meth, c, h1, h2, h3, h4, h5, h6, -, -⟩ := Cond.code_spec hn (atoms_spec (ws := Jvm.Cond.code x code maxLocals ret :: tables_1) h _ List.mem_cons_self)
    exact ⟨meth, c, h1, h2, h3, h4, h5, h6⟩
  · intro p e s m args below meth c s₁ B hml0 hP _
    obtain ⟨rfl, hx, hbd, hgv⟩ := hP
    obtain ⟨scr, harrAt, hlist, hof, hsmall⟩ := hx
    obtain ⟨hcb, hkn, -, -⟩ := State.arrayAt?_spec harrAt
    have hown : s.vm.findClass R_law = some m.cls := findClass_of_methodNamed B.named
    have hts0 : ∀ c ∈ (Jvm.Cond.code x code maxLocals ret :: tables_1), c.before #[Value.ref b] s = true := atoms_spec (ws := Jvm.Cond.code x code maxLocals ret :: tables_1) B.pre
    have hts : ∀ w ∈ lw_tbl, w.before #[Value.ref b] s = true := k2_hts_sels lw_privs (fun w hw => hts0 w (List.mem_cons_of_mem _ hw)) lw_privs_ok
    have hml : c.maxLocals = 9 := B.maxLocals_eq (hts0 _ List.mem_cons_self)
    have htab0 : c.exceptionTable.toList = [] := by
      obtain ⟨meth9, c9, h1, h2, -, -, -, -, h7, -⟩ := Cond.code_spec B.named (hts0 _ List.mem_cons_self)
      cases Option.some.inj (h1.symm.trans B.method)
      cases Option.some.inj (h2.symm.trans (Stand.of_body B).code)
      rw [Array.isEmpty_iff.mp h7]
    have X₀ : Stand p l e room_1 s m #[Value.ref b] below meth c s₁ [] 0 0 := Stand.of_body B
    have hh0 : s₁.heap = s.heap := by rw [B.state]; rfl
    have hsz : scr.slots.size = xs.length := by rw [← Array.length_toList, hlist, List.length_map]
    have hval : ∀ j : Nat, j < xs.length → scr.slots[j]? = some (.int (xs.getD j 0)) := fun j hj => by
      rw [← Array.getElem?_toList, hlist]
      simp [hj]
    have hbl : b < s.heap.size := (Array.getElem?_eq_some_iff.mp hcb).1
    have hX : va_X b xs.length (fun j => xs.getD j 0) s s.heap := ⟨scr, hcb, hof, hkn, hsz, hval⟩
    have K : W p l e room_1 s m #[Value.ref b] below meth c s₁.heap [] 0 0 (lw_Z below #[Value.ref b] s) (entryFrame m ([Value.ref b] : List Value).toArray 9) := by
      rw [hh0]
      exact whole_start l hflags hbd ⟨B.exec, B.bytes, B.returns, hml, hown, hts, hX, hbl, B.notSynchronized, hgv, htab0, (name_of_methodNamed B.named B.method).1⟩
    obtain ⟨t, a1, o, b1, b2, b3⟩ := K s₁ rfl X₀
    exact ⟨t, o, a1, b1, b2, b3⟩
theorem lw_pre_spec {args : Array Value} {s : State} (h : (Jvm.Cond.and given_1 narrow_1).before args s = true) (hr : rest_1_c.before args s = true) : ∃ (b : Addr) (xs : List Int32), lw_P b xs args s := by
  have hs := flat_of_before _ h
  have hq := flat_of_before _ hr
  have hc : (Cond.count 1).before args s = true := hs _ (by decide +kernel)
  have harr : (Cond.arrayOf (.arg 0) .int).before args s = true := hs _ (by decide +kernel)
  have hle : (Cond.le (.length (.arg 0)) (.int 3072)).before args s = true := hs _ (by decide +kernel)
  have hlen : (Cond.isInt (.length (.arg 0))).before args s = true := hq _ (by decide +kernel)
  have hall : (Cond.all (.arg 0) (.isInt (.elem (.arg 0) (.index 0)))).before args s = true := hq _ (by decide +kernel)
  obtain ⟨b, xs, hb, hx⟩ := State.ints_of_pre rfl harr hlen hall
  have hsm : xs.length < 2 ^ 31 := hx.choose_spec.2.2.2
  have hev : (Term.length (.arg 0)).eval args s none [] s = some (.int xs.length.toInt32) := hx.length_eval hb
  have hv := Cond.le_ints hev (show (Term.int 3072).eval args s none [] s = some (.int 3072) from rfl)
  have hd : xs.length.toInt32 ≤ 3072 := by
    simpa [Cond.before, Cond.holds, hv] using hle
  have hN : xs.length ≤ 3072 := (Int32.ofNat_le_ofNat hsm (by decide)).mp (show Int32.ofNat xs.length ≤ Int32.ofNat 3072 from hd)
  exact ⟨b, xs, Cond.one_arg hc (show args[0]? = some (.ref b) from hb), hx, hN, h⟩
theorem lw_comes (l : Launch) (hflags : l.flags = flags0) : Comes l x (Jvm.Cond.code x code maxLocals ret :: tables_1) room_1 (fun tb e args s => Calls_1 tb e args s ∧ rest_1 tb e args s ∧ Pre_1 tb e args s)
    (fun _ _ args s o t => lw_Q args s o t) := by
  intro p e ha hc hk s m args below hf hfit hheap happ hpre
  obtain ⟨b, xs, hP⟩ := lw_pre_spec hpre.2.2 hpre.2.1
  obtain ⟨k, o, h1, h2, h3, hQ⟩ := lw_walk l hflags b xs p e ha hc hk s m args below hf ((Spec.applies_iff_loose hf).mp happ).1 hP trivial
  exact ⟨k, o, h1, h2, h3, hQ⟩
theorem lw_frame {s t : State} {o : Outcome} {args : Array Value} (h : State.butDraws s t lw_cs (fun t1 => Framed s o t1 [] 601024 7293034)) :
    State.butDraws s t [Jvm.Choice.named "NaN.bits"] (fun t1 => Framed s o t1 (fieldLocs frame_1_writes args s ++ arrayLocs frame_1_arrays args s ++ staticLocs frame_1_statics s) 601024 7293034) := h
theorem lw_limb (L : Cond) (hL : ∀ (args : Array Value) (s t : State), L.after args s (.returned (some (.int 1))) t = true) :
    ArmFor flags0 classFile x code maxLocals ret World_1 tables_1 room_1 Calls_1 rest_1 Pre_1
      (fun tb e a s o t => postC L tb e a s o t ∧ State.butDraws s t [Jvm.Choice.named "NaN.bits"] (fun t1 => Framed s o t1 (fieldLocs frame_1_writes a s ++ arrayLocs frame_1_arrays a s ++ staticLocs frame_1_statics s) 601024 7293034)) := by
  intro l hflags _ _ p e ha hc hk s m args below hf hfit hheap happ hpre
  obtain ⟨k, o, h1, h2, h3, rfl, hF⟩ := lw_comes l hflags p e ha hc hk s m args below hf hfit hheap happ hpre
  exact ⟨k, _, h1, h2, h3, hL args s _, lw_frame hF⟩
theorem i_vc : Claimed_1_1 ∧ Claimed_1_2 := ⟨lw_limb limb_1_1 (fun args s t => by simp [limb_1_1, Cond.after, Cond.holds, Cond.value]), lw_limb limb_1_2 (fun args s t => Cond.after_iff.mpr (by
  first | (rw [show limb_1_2 = Cond.eq .result (.int 1) from rfl, Cond.eq_ints (x := 1) (y := 1) rfl rfl]; simp; done) | (simp [limb_1_2, Cond.value, Term.eval]; done)))⟩
