section LWZ
theorem lwG132 : ∀ k, k < 132 → lwGr k = 300 + k := by decide +kernel
variable {f : Nat → Int32}
def lwC_0 : List (Nat × Nat × Ctr) := [(1, 13, c_1), (3, 214, c_3), (437, 31, c_437), (438, 219, c_438), (446, 31, c_446), (457, 219, c_457), (459, 31, c_459), (460, 219, c_460), (461, 15, c_461), (462, 217, c_462), (463, 16, c_463), (464, 218, c_464), (465, 17, c_465), (466, 216, c_466), (467, 18, c_467), (469, 245, c_469), (470, 19, c_470), (471, 247, c_471), (472, 20, c_472), (473, 248, c_473), (474, 21, c_474), (475, 280, c_475), (479, 74, c_479), (483, 249, c_483), (487, 74, c_487)]
def lwC_1 : List (Nat × Nat × Ctr) := [(491, 249, c_491), (494, 74, c_494), (498, 249, c_498), (501, 74, c_501), (504, 249, c_504), (509, 78, c_509), (513, 252, c_513), (515, 81, c_515), (516, 255, c_516), (518, 83, c_518), (519, 256, c_519), (521, 85, c_521), (522, 257, c_522), (524, 87, c_524), (525, 258, c_525), (527, 89, c_527), (528, 259, c_528), (530, 91, c_530), (531, 260, c_531), (533, 93, c_533), (534, 261, c_534), (536, 95, c_536), (537, 262, c_537), (541, 97, c_541), (543, 263, c_543)]
def lwC_2 : List (Nat × Nat × Ctr) := [(546, 101, c_546), (548, 265, c_548), (555, 104, c_555), (562, 267, c_562), (564, 111, c_564), (565, 281, c_565), (568, 113, c_568), (569, 282, c_569), (571, 116, c_571), (573, 273, c_573), (575, 118, c_575), (576, 275, c_576), (578, 120, c_578), (579, 276, c_579), (583, 122, c_583), (586, 283, c_586), (589, 126, c_589), (591, 286, c_591), (595, 129, c_595), (598, 277, c_598), (611, 133, c_611), (623, 292, c_623), (625, 146, c_625), (626, 302, c_626), (628, 148, c_628)]
def lwC_3 : List (Nat × Nat × Ctr) := [(629, 303, c_629), (631, 150, c_631), (632, 304, c_632), (634, 152, c_634), (635, 305, c_635), (636, 22, c_636), (637, 306, c_637), (638, 23, c_638), (640, 307, c_640), (641, 24, c_641), (642, 309, c_642), (643, 25, c_643), (644, 310, c_644), (645, 26, c_645), (646, 311, c_646), (647, 27, c_647), (648, 312, c_648), (649, 28, c_649), (650, 313, c_650), (651, 29, c_651), (652, 314, c_652), (654, 154, c_654), (655, 315, c_655), (672, 164, c_672), (693, 316, c_693)]
def lwC_4 : List (Nat × Nat × Ctr) := [(695, 178, c_695), (696, 328, c_696), (698, 180, c_698), (699, 329, c_699), (701, 182, c_701), (702, 330, c_702), (704, 184, c_704), (705, 331, c_705), (712, 186, c_712), (713, 332, c_713), (716, 190, c_716), (718, 333, c_718), (721, 190, c_721), (723, 333, c_723), (735, 190, c_735), (745, 333, c_745), (748, 190, c_748), (750, 333, c_750), (753, 190, c_753), (755, 333, c_755), (757, 194, c_757), (758, 335, c_758), (760, 194, c_760), (762, 335, c_762), (764, 194, c_764)]
def lwC_5 : List (Nat × Nat × Ctr) := [(765, 335, c_765), (767, 194, c_767), (768, 335, c_768), (773, 196, c_773), (775, 337, c_775), (781, 196, c_781), (785, 337, c_785), (788, 196, c_788), (789, 337, c_789), (792, 196, c_792), (793, 337, c_793), (797, 196, c_797), (799, 337, c_799), (803, 196, c_803), (805, 337, c_805), (809, 196, c_809), (811, 337, c_811), (815, 196, c_815), (817, 337, c_817), (822, 196, c_822), (824, 337, c_824), (829, 196, c_829), (831, 337, c_831), (833, 198, c_833), (834, 338, c_834)]
def lwC_6 : List (Nat × Nat × Ctr) := [(836, 198, c_836), (838, 338, c_838), (840, 198, c_840), (841, 338, c_841), (843, 198, c_843), (844, 338, c_844), (846, 200, c_846), (847, 339, c_847), (849, 200, c_849), (851, 339, c_851), (853, 200, c_853), (854, 339, c_854), (856, 200, c_856), (857, 339, c_857), (859, 202, c_859), (860, 340, c_860), (862, 202, c_862), (864, 340, c_864), (866, 202, c_866), (867, 340, c_867), (869, 202, c_869), (870, 340, c_870), (872, 202, c_872), (873, 340, c_873), (875, 202, c_875)]
def lwC_7 : List (Nat × Nat × Ctr) := [(876, 340, c_876), (878, 202, c_878), (879, 340, c_879), (881, 202, c_881), (882, 340, c_882), (884, 202, c_884), (885, 340, c_885), (887, 202, c_887), (888, 340, c_888), (890, 202, c_890), (891, 340, c_891), (893, 202, c_893), (894, 340, c_894), (896, 204, c_896), (897, 341, c_897), (899, 204, c_899), (901, 341, c_901), (903, 204, c_903), (904, 341, c_904), (906, 204, c_906), (907, 341, c_907), (909, 206, c_909), (910, 342, c_910), (913, 206, c_913), (915, 342, c_915)]
def lwC_8 : List (Nat × Nat × Ctr) := [(916, 30, c_916), (917, 344, c_917), (919, 209, c_919), (920, 345, c_920), (925, 209, c_925), (927, 345, c_927), (932, 209, c_932), (933, 345, c_933), (935, 209, c_935), (936, 345, c_936), (938, 209, c_938), (939, 345, c_939), (941, 211, c_941), (942, 346, c_942), (947, 211, c_947), (949, 346, c_949), (951, 211, c_951), (952, 346, c_952), (954, 211, c_954), (955, 346, c_955), (957, 211, c_957), (958, 346, c_958), (960, 211, c_960), (961, 346, c_961), (963, 156, c_963)]
def lwC_9 : List (Nat × Nat × Ctr) := [(966, 288, c_966), (1076, 156, c_1076), (1078, 156, c_1078), (1082, 156, c_1082), (1084, 156, c_1084), (1088, 156, c_1088), (1090, 156, c_1090), (1094, 156, c_1094), (1096, 156, c_1096), (1100, 156, c_1100), (1102, 156, c_1102), (1106, 156, c_1106), (1108, 156, c_1108), (1112, 156, c_1112), (1116, 162, c_1116), (1117, 291, c_1117), (1121, 162, c_1121), (1125, 162, c_1125), (1129, 162, c_1129), (1133, 162, c_1133), (1137, 162, c_1137), (1141, 162, c_1141)]
set_option maxRecDepth 100000 in
theorem lwCL_eq : lwCL = lwC_0 ++ (lwC_1 ++ (lwC_2 ++ (lwC_3 ++ (lwC_4 ++ (lwC_5 ++ (lwC_6 ++ (lwC_7 ++ (lwC_8 ++ (lwC_9))))))))) := rfl
theorem lwK_0 : ∀ q ∈ lwC_0, q.2.2.1.2.1 = [] ∧ ctrOK (PRd lwGr lwC 700 f) lwGr rgs (wpM mDf mt 1999) q.2.1 q.2.2 := by
  unfold lwC_0
  simp only [List.forall_mem_cons]
  exact ⟨⟨rfl, k_1 lwU lwG132 lwN (by omega)⟩, ⟨rfl, k_3 lwU lwG132 lwN (by omega)⟩, ⟨rfl, k_437 lwU lwG132 lwN (by omega)⟩, ⟨rfl, k_438 lwU lwG132 lwN (by omega)⟩, ⟨rfl, k_446 lwU lwG132 lwN (Nat.le_refl 700) (by omega)⟩, ⟨rfl, k_457 lwU lwG132 lwN (Nat.le_refl 700) (by omega)⟩, ⟨rfl, k_459 lwU lwG132 lwN (by omega)⟩, ⟨rfl, k_460 lwU lwG132 lwN (by omega)⟩, ⟨rfl, k_461 lwU lwG132 lwN (by omega)⟩, ⟨rfl, k_462 lwU lwG132 lwN (by omega)⟩, ⟨rfl, k_463 lwU lwG132 lwN (by omega)⟩, ⟨rfl, k_464 lwU lwG132 lwN (by omega)⟩, ⟨rfl, k_465 lwU lwG132 lwN (by omega)⟩, ⟨rfl, k_466 lwU lwG132 lwN (by omega)⟩, ⟨rfl, k_467 lwU lwG132 lwN (by omega)⟩, ⟨rfl, k_469 lwU lwG132 lwN (by omega)⟩, ⟨rfl, k_470 lwU lwG132 lwN (by omega)⟩, ⟨rfl, k_471 lwU lwG132 lwN (by omega)⟩, ⟨rfl, k_472 lwU lwG132 lwN (by omega)⟩, ⟨rfl, k_473 lwU lwG132 lwN (by omega)⟩, ⟨rfl, k_474 lwU lwG132 lwN (by omega)⟩, ⟨rfl, k_475 lwU lwG132 lwN (by omega)⟩, ⟨rfl, k_479 lwU lwG132 lwN (by omega)⟩, ⟨rfl, k_483 lwU lwG132 lwN (by omega)⟩, ⟨rfl, k_487 lwU lwG132 lwN (by omega)⟩, fun _ h => absurd h List.not_mem_nil⟩
theorem lwK_1 : ∀ q ∈ lwC_1, q.2.2.1.2.1 = [] ∧ ctrOK (PRd lwGr lwC 700 f) lwGr rgs (wpM mDf mt 1999) q.2.1 q.2.2 := by
  unfold lwC_1
  simp only [List.forall_mem_cons]
  exact ⟨⟨rfl, k_491 lwU lwG132 lwN (by omega)⟩, ⟨rfl, k_494 lwU lwG132 lwN (by omega)⟩, ⟨rfl, k_498 lwU lwG132 lwN (by omega)⟩, ⟨rfl, k_501 lwU lwG132 lwN (by omega)⟩, ⟨rfl, k_504 lwU lwG132 lwN (by omega)⟩, ⟨rfl, k_509 lwU lwG132 lwN (by omega)⟩, ⟨rfl, k_513 lwU lwG132 lwN (by omega)⟩, ⟨rfl, k_515 lwU lwG132 lwN (by omega)⟩, ⟨rfl, k_516 lwU lwG132 lwN (by omega)⟩, ⟨rfl, k_518 lwU lwG132 lwN (by omega)⟩, ⟨rfl, k_519 lwU lwG132 lwN (by omega)⟩, ⟨rfl, k_521 lwU lwG132 lwN (by omega)⟩, ⟨rfl, k_522 lwU lwG132 lwN (by omega)⟩, ⟨rfl, k_524 lwU lwG132 lwN (by omega)⟩, ⟨rfl, k_525 lwU lwG132 lwN (by omega)⟩, ⟨rfl, k_527 lwU lwG132 lwN (by omega)⟩, ⟨rfl, k_528 lwU lwG132 lwN (by omega)⟩, ⟨rfl, k_530 lwU lwG132 lwN (by omega)⟩, ⟨rfl, k_531 lwU lwG132 lwN (by omega)⟩, ⟨rfl, k_533 lwU lwG132 lwN (by omega)⟩, ⟨rfl, k_534 lwU lwG132 lwN (by omega)⟩, ⟨rfl, k_536 lwU lwG132 lwN (by omega)⟩, ⟨rfl, k_537 lwU lwG132 lwN (by omega)⟩, ⟨rfl, k_541 lwU lwG132 lwN (by omega)⟩, ⟨rfl, k_543 lwU lwG132 lwN (by omega)⟩, fun _ h => absurd h List.not_mem_nil⟩
theorem lwK_2 : ∀ q ∈ lwC_2, q.2.2.1.2.1 = [] ∧ ctrOK (PRd lwGr lwC 700 f) lwGr rgs (wpM mDf mt 1999) q.2.1 q.2.2 := by
  unfold lwC_2
  simp only [List.forall_mem_cons]
  exact ⟨⟨rfl, k_546 lwU lwG132 lwN (by omega)⟩, ⟨rfl, k_548 lwU lwG132 lwN (by omega)⟩, ⟨rfl, k_555 lwU lwG132 lwN (by omega)⟩, ⟨rfl, k_562 lwU lwG132 lwN (Nat.le_refl 700) (by omega)⟩, ⟨rfl, k_564 lwU lwG132 lwN (by omega)⟩, ⟨rfl, k_565 lwU lwG132 lwN (Nat.le_refl 700) (by omega)⟩, ⟨rfl, k_568 lwU lwG132 lwN (by omega)⟩, ⟨rfl, k_569 lwU lwG132 lwN (by omega)⟩, ⟨rfl, k_571 lwU lwG132 lwN (by omega)⟩, ⟨rfl, k_573 lwU lwG132 lwN (by omega)⟩, ⟨rfl, k_575 lwU lwG132 lwN (by omega)⟩, ⟨rfl, k_576 lwU lwG132 lwN (by omega)⟩, ⟨rfl, k_578 lwU lwG132 lwN (by omega)⟩, ⟨rfl, k_579 lwU lwG132 lwN (by omega)⟩, ⟨rfl, k_583 lwU lwG132 lwN (by omega)⟩, ⟨rfl, k_586 lwU lwG132 lwN (by omega)⟩, ⟨rfl, k_589 lwU lwG132 lwN (by omega)⟩, ⟨rfl, k_591 lwU lwG132 lwN (by omega)⟩, ⟨rfl, k_595 lwU lwG132 lwN (by omega)⟩, ⟨rfl, k_598 lwU lwG132 lwN (by omega)⟩, ⟨rfl, k_611 lwU lwG132 lwN (by omega)⟩, ⟨rfl, k_623 lwU lwG132 lwN (Nat.le_refl 700) (by omega)⟩, ⟨rfl, k_625 lwU lwG132 lwN (by omega)⟩, ⟨rfl, k_626 lwU lwG132 lwN (Nat.le_refl 700) (by omega)⟩, ⟨rfl, k_628 lwU lwG132 lwN (by omega)⟩, fun _ h => absurd h List.not_mem_nil⟩
theorem lwK_3 : ∀ q ∈ lwC_3, q.2.2.1.2.1 = [] ∧ ctrOK (PRd lwGr lwC 700 f) lwGr rgs (wpM mDf mt 1999) q.2.1 q.2.2 := by
  unfold lwC_3
  simp only [List.forall_mem_cons]
  exact ⟨⟨rfl, k_629 lwU lwG132 lwN (Nat.le_refl 700) (by omega)⟩, ⟨rfl, k_631 lwU lwG132 lwN (by omega)⟩, ⟨rfl, k_632 lwU lwG132 lwN (Nat.le_refl 700) (by omega)⟩, ⟨rfl, k_634 lwU lwG132 lwN (by omega)⟩, ⟨rfl, k_635 lwU lwG132 lwN (by omega)⟩, ⟨rfl, k_636 lwU lwG132 lwN (by omega)⟩, ⟨rfl, k_637 lwU lwG132 lwN (by omega)⟩, ⟨rfl, k_638 lwU lwG132 lwN (by omega)⟩, ⟨rfl, k_640 lwU lwG132 lwN (by omega)⟩, ⟨rfl, k_641 lwU lwG132 lwN (by omega)⟩, ⟨rfl, k_642 lwU lwG132 lwN (by omega)⟩, ⟨rfl, k_643 lwU lwG132 lwN (by omega)⟩, ⟨rfl, k_644 lwU lwG132 lwN (by omega)⟩, ⟨rfl, k_645 lwU lwG132 lwN (by omega)⟩, ⟨rfl, k_646 lwU lwG132 lwN (by omega)⟩, ⟨rfl, k_647 lwU lwG132 lwN (by omega)⟩, ⟨rfl, k_648 lwU lwG132 lwN (by omega)⟩, ⟨rfl, k_649 lwU lwG132 lwN (by omega)⟩, ⟨rfl, k_650 lwU lwG132 lwN (by omega)⟩, ⟨rfl, k_651 lwU lwG132 lwN (by omega)⟩, ⟨rfl, k_652 lwU lwG132 lwN (by omega)⟩, ⟨rfl, k_654 lwU lwG132 lwN (by omega)⟩, ⟨rfl, k_655 lwU lwG132 lwN (by omega)⟩, ⟨rfl, k_672 lwU lwG132 lwN (by omega)⟩, ⟨rfl, k_693 lwU lwG132 lwN (Nat.le_refl 700) (by omega)⟩, fun _ h => absurd h List.not_mem_nil⟩
theorem lwK_4 : ∀ q ∈ lwC_4, q.2.2.1.2.1 = [] ∧ ctrOK (PRd lwGr lwC 700 f) lwGr rgs (wpM mDf mt 1999) q.2.1 q.2.2 := by
  unfold lwC_4
  simp only [List.forall_mem_cons]
  exact ⟨⟨rfl, k_695 lwU lwG132 lwN (by omega)⟩, ⟨rfl, k_696 lwU lwG132 lwN (Nat.le_refl 700) (by omega)⟩, ⟨rfl, k_698 lwU lwG132 lwN (by omega)⟩, ⟨rfl, k_699 lwU lwG132 lwN (Nat.le_refl 700) (by omega)⟩, ⟨rfl, k_701 lwU lwG132 lwN (by omega)⟩, ⟨rfl, k_702 lwU lwG132 lwN (Nat.le_refl 700) (by omega)⟩, ⟨rfl, k_704 lwU lwG132 lwN (by omega)⟩, ⟨rfl, k_705 lwU lwG132 lwN (Nat.le_refl 700) (by omega)⟩, ⟨rfl, k_712 lwU lwG132 lwN (by omega)⟩, ⟨rfl, k_713 lwU lwG132 lwN (Nat.le_refl 700) (by omega)⟩, ⟨rfl, k_716 lwU lwG132 lwN (by omega)⟩, ⟨rfl, k_718 lwU lwG132 lwN (by omega)⟩, ⟨rfl, k_721 lwU lwG132 lwN (by omega)⟩, ⟨rfl, k_723 lwU lwG132 lwN (by omega)⟩, ⟨rfl, k_735 lwU lwG132 lwN (by omega)⟩, ⟨rfl, k_745 lwU lwG132 lwN (Nat.le_refl 700) (by omega)⟩, ⟨rfl, k_748 lwU lwG132 lwN (by omega)⟩, ⟨rfl, k_750 lwU lwG132 lwN (by omega)⟩, ⟨rfl, k_753 lwU lwG132 lwN (by omega)⟩, ⟨rfl, k_755 lwU lwG132 lwN (by omega)⟩, ⟨rfl, k_757 lwU lwG132 lwN (by omega)⟩, ⟨rfl, k_758 lwU lwG132 lwN (by omega)⟩, ⟨rfl, k_760 lwU lwG132 lwN (by omega)⟩, ⟨rfl, k_762 lwU lwG132 lwN (by omega)⟩, ⟨rfl, k_764 lwU lwG132 lwN (by omega)⟩, fun _ h => absurd h List.not_mem_nil⟩
theorem lwK_5 : ∀ q ∈ lwC_5, q.2.2.1.2.1 = [] ∧ ctrOK (PRd lwGr lwC 700 f) lwGr rgs (wpM mDf mt 1999) q.2.1 q.2.2 := by
  unfold lwC_5
  simp only [List.forall_mem_cons]
  exact ⟨⟨rfl, k_765 lwU lwG132 lwN (by omega)⟩, ⟨rfl, k_767 lwU lwG132 lwN (by omega)⟩, ⟨rfl, k_768 lwU lwG132 lwN (by omega)⟩, ⟨rfl, k_773 lwU lwG132 lwN (by omega)⟩, ⟨rfl, k_775 lwU lwG132 lwN (by omega)⟩, ⟨rfl, k_781 lwU lwG132 lwN (by omega)⟩, ⟨rfl, k_785 lwU lwG132 lwN (by omega)⟩, ⟨rfl, k_788 lwU lwG132 lwN (by omega)⟩, ⟨rfl, k_789 lwU lwG132 lwN (by omega)⟩, ⟨rfl, k_792 lwU lwG132 lwN (by omega)⟩, ⟨rfl, k_793 lwU lwG132 lwN (by omega)⟩, ⟨rfl, k_797 lwU lwG132 lwN (by omega)⟩, ⟨rfl, k_799 lwU lwG132 lwN (by omega)⟩, ⟨rfl, k_803 lwU lwG132 lwN (by omega)⟩, ⟨rfl, k_805 lwU lwG132 lwN (by omega)⟩, ⟨rfl, k_809 lwU lwG132 lwN (by omega)⟩, ⟨rfl, k_811 lwU lwG132 lwN (by omega)⟩, ⟨rfl, k_815 lwU lwG132 lwN (by omega)⟩, ⟨rfl, k_817 lwU lwG132 lwN (by omega)⟩, ⟨rfl, k_822 lwU lwG132 lwN (by omega)⟩, ⟨rfl, k_824 lwU lwG132 lwN (by omega)⟩, ⟨rfl, k_829 lwU lwG132 lwN (by omega)⟩, ⟨rfl, k_831 lwU lwG132 lwN (by omega)⟩, ⟨rfl, k_833 lwU lwG132 lwN (by omega)⟩, ⟨rfl, k_834 lwU lwG132 lwN (by omega)⟩, fun _ h => absurd h List.not_mem_nil⟩
theorem lwK_6 : ∀ q ∈ lwC_6, q.2.2.1.2.1 = [] ∧ ctrOK (PRd lwGr lwC 700 f) lwGr rgs (wpM mDf mt 1999) q.2.1 q.2.2 := by
  unfold lwC_6
  simp only [List.forall_mem_cons]
  exact ⟨⟨rfl, k_836 lwU lwG132 lwN (by omega)⟩, ⟨rfl, k_838 lwU lwG132 lwN (by omega)⟩, ⟨rfl, k_840 lwU lwG132 lwN (by omega)⟩, ⟨rfl, k_841 lwU lwG132 lwN (by omega)⟩, ⟨rfl, k_843 lwU lwG132 lwN (by omega)⟩, ⟨rfl, k_844 lwU lwG132 lwN (by omega)⟩, ⟨rfl, k_846 lwU lwG132 lwN (by omega)⟩, ⟨rfl, k_847 lwU lwG132 lwN (by omega)⟩, ⟨rfl, k_849 lwU lwG132 lwN (by omega)⟩, ⟨rfl, k_851 lwU lwG132 lwN (by omega)⟩, ⟨rfl, k_853 lwU lwG132 lwN (by omega)⟩, ⟨rfl, k_854 lwU lwG132 lwN (by omega)⟩, ⟨rfl, k_856 lwU lwG132 lwN (by omega)⟩, ⟨rfl, k_857 lwU lwG132 lwN (by omega)⟩, ⟨rfl, k_859 lwU lwG132 lwN (by omega)⟩, ⟨rfl, k_860 lwU lwG132 lwN (by omega)⟩, ⟨rfl, k_862 lwU lwG132 lwN (by omega)⟩, ⟨rfl, k_864 lwU lwG132 lwN (by omega)⟩, ⟨rfl, k_866 lwU lwG132 lwN (by omega)⟩, ⟨rfl, k_867 lwU lwG132 lwN (by omega)⟩, ⟨rfl, k_869 lwU lwG132 lwN (by omega)⟩, ⟨rfl, k_870 lwU lwG132 lwN (by omega)⟩, ⟨rfl, k_872 lwU lwG132 lwN (by omega)⟩, ⟨rfl, k_873 lwU lwG132 lwN (by omega)⟩, ⟨rfl, k_875 lwU lwG132 lwN (by omega)⟩, fun _ h => absurd h List.not_mem_nil⟩
theorem lwK_7 : ∀ q ∈ lwC_7, q.2.2.1.2.1 = [] ∧ ctrOK (PRd lwGr lwC 700 f) lwGr rgs (wpM mDf mt 1999) q.2.1 q.2.2 := by
  unfold lwC_7
  simp only [List.forall_mem_cons]
  exact ⟨⟨rfl, k_876 lwU lwG132 lwN (by omega)⟩, ⟨rfl, k_878 lwU lwG132 lwN (by omega)⟩, ⟨rfl, k_879 lwU lwG132 lwN (by omega)⟩, ⟨rfl, k_881 lwU lwG132 lwN (by omega)⟩, ⟨rfl, k_882 lwU lwG132 lwN (by omega)⟩, ⟨rfl, k_884 lwU lwG132 lwN (by omega)⟩, ⟨rfl, k_885 lwU lwG132 lwN (by omega)⟩, ⟨rfl, k_887 lwU lwG132 lwN (by omega)⟩, ⟨rfl, k_888 lwU lwG132 lwN (by omega)⟩, ⟨rfl, k_890 lwU lwG132 lwN (by omega)⟩, ⟨rfl, k_891 lwU lwG132 lwN (by omega)⟩, ⟨rfl, k_893 lwU lwG132 lwN (by omega)⟩, ⟨rfl, k_894 lwU lwG132 lwN (by omega)⟩, ⟨rfl, k_896 lwU lwG132 lwN (by omega)⟩, ⟨rfl, k_897 lwU lwG132 lwN (by omega)⟩, ⟨rfl, k_899 lwU lwG132 lwN (by omega)⟩, ⟨rfl, k_901 lwU lwG132 lwN (by omega)⟩, ⟨rfl, k_903 lwU lwG132 lwN (by omega)⟩, ⟨rfl, k_904 lwU lwG132 lwN (by omega)⟩, ⟨rfl, k_906 lwU lwG132 lwN (by omega)⟩, ⟨rfl, k_907 lwU lwG132 lwN (by omega)⟩, ⟨rfl, k_909 lwU lwG132 lwN (by omega)⟩, ⟨rfl, k_910 lwU lwG132 lwN (by omega)⟩, ⟨rfl, k_913 lwU lwG132 lwN (by omega)⟩, ⟨rfl, k_915 lwU lwG132 lwN (by omega)⟩, fun _ h => absurd h List.not_mem_nil⟩
theorem lwK_8 : ∀ q ∈ lwC_8, q.2.2.1.2.1 = [] ∧ ctrOK (PRd lwGr lwC 700 f) lwGr rgs (wpM mDf mt 1999) q.2.1 q.2.2 := by
  unfold lwC_8
  simp only [List.forall_mem_cons]
  exact ⟨⟨rfl, k_916 lwU lwG132 lwN (by omega)⟩, ⟨rfl, k_917 lwU lwG132 lwN (by omega)⟩, ⟨rfl, k_919 lwU lwG132 lwN (by omega)⟩, ⟨rfl, k_920 lwU lwG132 lwN (by omega)⟩, ⟨rfl, k_925 lwU lwG132 lwN (by omega)⟩, ⟨rfl, k_927 lwU lwG132 lwN (by omega)⟩, ⟨rfl, k_932 lwU lwG132 lwN (by omega)⟩, ⟨rfl, k_933 lwU lwG132 lwN (by omega)⟩, ⟨rfl, k_935 lwU lwG132 lwN (by omega)⟩, ⟨rfl, k_936 lwU lwG132 lwN (by omega)⟩, ⟨rfl, k_938 lwU lwG132 lwN (by omega)⟩, ⟨rfl, k_939 lwU lwG132 lwN (by omega)⟩, ⟨rfl, k_941 lwU lwG132 lwN (by omega)⟩, ⟨rfl, k_942 lwU lwG132 lwN (by omega)⟩, ⟨rfl, k_947 lwU lwG132 lwN (by omega)⟩, ⟨rfl, k_949 lwU lwG132 lwN (by omega)⟩, ⟨rfl, k_951 lwU lwG132 lwN (by omega)⟩, ⟨rfl, k_952 lwU lwG132 lwN (by omega)⟩, ⟨rfl, k_954 lwU lwG132 lwN (by omega)⟩, ⟨rfl, k_955 lwU lwG132 lwN (by omega)⟩, ⟨rfl, k_957 lwU lwG132 lwN (by omega)⟩, ⟨rfl, k_958 lwU lwG132 lwN (by omega)⟩, ⟨rfl, k_960 lwU lwG132 lwN (by omega)⟩, ⟨rfl, k_961 lwU lwG132 lwN (by omega)⟩, ⟨rfl, k_963 lwU lwG132 lwN (by omega)⟩, fun _ h => absurd h List.not_mem_nil⟩
theorem lwK_9 : ∀ q ∈ lwC_9, q.2.2.1.2.1 = [] ∧ ctrOK (PRd lwGr lwC 700 f) lwGr rgs (wpM mDf mt 1999) q.2.1 q.2.2 := by
  unfold lwC_9
  simp only [List.forall_mem_cons]
  exact ⟨⟨rfl, k_966 lwU lwG132 lwN (by omega)⟩, ⟨rfl, k_1076 lwU lwG132 lwN (by omega)⟩, ⟨rfl, k_1078 lwU lwG132 lwN (by omega)⟩, ⟨rfl, k_1082 lwU lwG132 lwN (by omega)⟩, ⟨rfl, k_1084 lwU lwG132 lwN (by omega)⟩, ⟨rfl, k_1088 lwU lwG132 lwN (by omega)⟩, ⟨rfl, k_1090 lwU lwG132 lwN (by omega)⟩, ⟨rfl, k_1094 lwU lwG132 lwN (by omega)⟩, ⟨rfl, k_1096 lwU lwG132 lwN (by omega)⟩, ⟨rfl, k_1100 lwU lwG132 lwN (by omega)⟩, ⟨rfl, k_1102 lwU lwG132 lwN (by omega)⟩, ⟨rfl, k_1106 lwU lwG132 lwN (by omega)⟩, ⟨rfl, k_1108 lwU lwG132 lwN (by omega)⟩, ⟨rfl, k_1112 lwU lwG132 lwN (by omega)⟩, ⟨rfl, k_1116 lwU lwG132 lwN (by omega)⟩, ⟨rfl, k_1117 lwU lwG132 lwN (by omega)⟩, ⟨rfl, k_1121 lwU lwG132 lwN (by omega)⟩, ⟨rfl, k_1125 lwU lwG132 lwN (by omega)⟩, ⟨rfl, k_1129 lwU lwG132 lwN (by omega)⟩, ⟨rfl, k_1133 lwU lwG132 lwN (by omega)⟩, ⟨rfl, k_1137 lwU lwG132 lwN (by omega)⟩, ⟨rfl, k_1141 lwU lwG132 lwN (by omega)⟩, fun _ h => absurd h List.not_mem_nil⟩
theorem lwK : ∀ q ∈ lwCL, q.2.2.1.2.1 = [] ∧ ctrOK (PRd lwGr lwC 700 f) lwGr rgs (wpM mDf mt 1999) q.2.1 q.2.2 := by
  rw [lwCL_eq]
  exact List.forall_mem_append.mpr ⟨lwK_0, List.forall_mem_append.mpr ⟨lwK_1, List.forall_mem_append.mpr ⟨lwK_2, List.forall_mem_append.mpr ⟨lwK_3, List.forall_mem_append.mpr ⟨lwK_4, List.forall_mem_append.mpr ⟨lwK_5, List.forall_mem_append.mpr ⟨lwK_6, List.forall_mem_append.mpr ⟨lwK_7, List.forall_mem_append.mpr ⟨lwK_8, lwK_9⟩⟩⟩⟩⟩⟩⟩⟩⟩
theorem law_pure {L : Nat} (hL : L ≤ 3072) (f : Nat → Int32) : run (some (132, L, f)) mDf mt (wpM mDf mt 1999) m_law 1999 (2 ^ 40) 0 [(0, .ref 132)] [] h00 0 0 lwPost :=
  lw_go hL lwJ_ok fun lv h hT hI ⟨z0, h132⟩ n hn => by
    have h1 := lw_loop (D := 700) (d0 := 1999) lwU lwG65 lwGs7 (by omega) (by omega) h132 (lkCL_ok (P := fun y c => ctrOK (PRd lwGr lwC 700 f) lwGr rgs (wpM mDf mt 1999) y c) lwK) 512 lv h hI hT fr_rf n hn
    rw [show 657 + 66 * (512 - 512) = 657 from rfl, show 50952 + 12812 * (512 - 512) = 50952 from rfl] at h1
    exact run_mono (wpM_mono 1999) (fun e v h2 hp => ⟨hp.2.2.1, hp.2.2.2⟩) _ _ _ _ _ _ _ h1
end LWZ
theorem whole_start {p : Program} {e : Env} {s : State} {m : MethodId} {below : List Frame} {meth : Method} {c : Code} (l : Launch) (hflags : l.flags = flags0) {b L : Nat} {xs : Nat → Int32} (hL : L ≤ 3072) (C0 : lw_At p s m meth c b L xs) : W p l e room_1 s m #[Value.ref b] below meth c s.heap [] 0 0 (lw_Z below #[Value.ref b] s) (entryFrame m ([Value.ref b] : List Value).toArray 9) :=
  law_enter l hflags C0 (law_pure hL xs)
set_option maxHeartbeats 4000000 in
theorem lw_walk (l : Launch) (hflags : l.flags = flags0) (b : Addr) (xs : List Int32) : MetFree l x (headSpec (Jvm.Cond.code x code maxLocals ret :: tables_1) room_1) (lw_P b xs) (fun _ _ _ _ _ => True) lw_Q := by
  refine MetFree.of_bodyS (code := code) (maxLocals := maxLocals) (ret := ret) (by decide) ?_ ?_
  · intro args s m h hn
    obtain ⟨meth, c, h1, h2, h3, h4, h5, h6, -, -⟩ := Cond.code_spec hn (atoms_spec (ws := Jvm.Cond.code x code maxLocals ret :: tables_1) h _ List.mem_cons_self)
    exact ⟨meth, c, h1, h2, h3, h4, h5, h6⟩
  · intro p e s m args below meth c s₁ B hml0 hP _
    obtain ⟨rfl, hx, hbd, hgv⟩ := hP
    obtain ⟨scr, harrAt, hlist, hof, hsmall⟩ := hx
    obtain ⟨hcb, hkn, -, -⟩ := State.arrayAt?_spec harrAt
    have hown : s.vm.findClass R_law = some m.cls := findClass_of_methodNamed B.named
    have hts0 : ∀ c ∈ (Jvm.Cond.code x code maxLocals ret :: tables_1), c.before #[Value.ref b] s = true := atoms_spec (ws := Jvm.Cond.code x code maxLocals ret :: tables_1) B.pre
    have hts : ∀ w ∈ lw_tbl, w.before #[Value.ref b] s = true := k2_hts_sels lw_privs (fun w hw => hts0 w (List.mem_cons_of_mem _ hw)) lw_privs_ok
    have hml : c.maxLocals = 9 := B.maxLocals_eq (hts0 _ List.mem_cons_self)
    have htab0 : c.exceptionTable.toList = [] := by
      obtain ⟨meth9, c9, h1, h2, -, -, -, -, h7, -⟩ := Cond.code_spec B.named (hts0 _ List.mem_cons_self)
      cases Option.some.inj (h1.symm.trans B.method)
      cases Option.some.inj (h2.symm.trans (Stand.of_body B).code)
      rw [Array.isEmpty_iff.mp h7]
    have X₀ : Stand p l e room_1 s m #[Value.ref b] below meth c s₁ [] 0 0 := Stand.of_body B
    have hh0 : s₁.heap = s.heap := by rw [B.state]; rfl
    have hsz : scr.slots.size = xs.length := by rw [← Array.length_toList, hlist, List.length_map]
    have hval : ∀ j : Nat, j < xs.length → scr.slots[j]? = some (.int (xs.getD j 0)) := fun j hj => by
      rw [← Array.getElem?_toList, hlist]
      simp [hj]
    have hbl : b < s.heap.size := (Array.getElem?_eq_some_iff.mp hcb).1
    have hX : va_X b xs.length (fun j => xs.getD j 0) s s.heap := ⟨scr, hcb, hof, hkn, hsz, hval⟩
    have K : W p l e room_1 s m #[Value.ref b] below meth c s₁.heap [] 0 0 (lw_Z below #[Value.ref b] s) (entryFrame m ([Value.ref b] : List Value).toArray 9) := by
      rw [hh0]
      exact whole_start l hflags hbd ⟨B.exec, B.bytes, B.returns, hml, hown, hts, hX, hbl, B.notSynchronized, hgv, htab0, (name_of_methodNamed B.named B.method).1⟩
    obtain ⟨t, a1, o, b1, b2, b3⟩ := K s₁ rfl X₀
    exact ⟨t, o, a1, b1, b2, b3⟩
theorem lw_pre_spec {args : Array Value} {s : State} (h : (Jvm.Cond.and given_1 narrow_1).before args s = true) (hr : rest_1_c.before args s = true) : ∃ (b : Addr) (xs : List Int32), lw_P b xs args s := by
  have hs := flat_of_before _ h
  have hq := flat_of_before _ hr
  have hc : (Cond.count 1).before args s = true := hs _ (by decide +kernel)
  have harr : (Cond.arrayOf (.arg 0) .int).before args s = true := hs _ (by decide +kernel)
  have hle : (Cond.le (.length (.arg 0)) (.int 3072)).before args s = true := hs _ (by decide +kernel)
  have hlen : (Cond.isInt (.length (.arg 0))).before args s = true := hq _ (by decide +kernel)
  have hall : (Cond.all (.arg 0) (.isInt (.elem (.arg 0) (.index 0)))).before args s = true := hq _ (by decide +kernel)
  obtain ⟨b, xs, hb, hx⟩ := State.ints_of_pre rfl harr hlen hall
  have hsm : xs.length < 2 ^ 31 := hx.choose_spec.2.2.2
  have hev : (Term.length (.arg 0)).eval args s none [] s = some (.int xs.length.toInt32) := hx.length_eval hb
  have hv := Cond.le_ints hev (show (Term.int 3072).eval args s none [] s = some (.int 3072) from rfl)
  have hd : xs.length.toInt32 ≤ 3072 := by
    simpa [Cond.before, Cond.holds, hv] using hle
  have hN : xs.length ≤ 3072 := (Int32.ofNat_le_ofNat hsm (by decide)).mp (show Int32.ofNat xs.length ≤ Int32.ofNat 3072 from hd)
  exact ⟨b, xs, Cond.one_arg hc (show args[0]? = some (.ref b) from hb), hx, hN, h⟩
theorem lw_comes (l : Launch) (hflags : l.flags = flags0) : Comes l x (Jvm.Cond.code x code maxLocals ret :: tables_1) room_1 (fun tb e args s => Calls_1 tb e args s ∧ rest_1 tb e args s ∧ Pre_1 tb e args s)
    (fun _ _ args s o t => lw_Q args s o t) := by
  intro p e ha hc hk s m args below hf hfit hheap happ hpre
  obtain ⟨b, xs, hP⟩ := lw_pre_spec hpre.2.2 hpre.2.1
  obtain ⟨k, o, h1, h2, h3, hQ⟩ := lw_walk l hflags b xs p e ha hc hk s m args below hf ((Spec.applies_iff_loose hf).mp happ).1 hP trivial
  exact ⟨k, o, h1, h2, h3, hQ⟩
theorem lw_frame {s t : State} {o : Outcome} {args : Array Value} (h : State.butDraws s t lw_cs (fun t1 => Framed s o t1 [] 601024 7293034)) :
    State.butDraws s t [Jvm.Choice.named "NaN.bits"] (fun t1 => Framed s o t1 (fieldLocs frame_1_writes args s ++ arrayLocs frame_1_arrays args s ++ staticLocs frame_1_statics s) 601024 7293034) := h
theorem lw_limb (L : Cond) (hL : ∀ (args : Array Value) (s t : State), L.after args s (.returned (some (.int 1))) t = true) :
    ArmFor flags0 classFile x code maxLocals ret World_1 tables_1 room_1 Calls_1 rest_1 Pre_1
      (fun tb e a s o t => postC L tb e a s o t ∧ State.butDraws s t [Jvm.Choice.named "NaN.bits"] (fun t1 => Framed s o t1 (fieldLocs frame_1_writes a s ++ arrayLocs frame_1_arrays a s ++ staticLocs frame_1_statics s) 601024 7293034)) := by
  intro l hflags _ _ p e ha hc hk s m args below hf hfit hheap happ hpre
  obtain ⟨k, o, h1, h2, h3, rfl, hF⟩ := lw_comes l hflags p e ha hc hk s m args below hf hfit hheap happ hpre
  exact ⟨k, _, h1, h2, h3, hL args s _, lw_frame hF⟩
theorem i_vc : Claimed_1_1 ∧ Claimed_1_2 := ⟨lw_limb limb_1_1 (fun args s t => by simp [limb_1_1, Cond.after, Cond.holds, Cond.value]), lw_limb limb_1_2 (fun args s t => Cond.after_iff.mpr (by
  first | (rw [show limb_1_2 = Cond.eq .result (.int 1) from rfl, Cond.eq_ints (x := 1) (y := 1) rfl rfl]; simp; done) | (simp [limb_1_2, Cond.value, Term.eval]; done)))⟩
