section LWZ
theorem lwG132 : ∀ k, k < 132 → lwGr k = 300 + k := by decide +kernel
variable {f : Nat → Int32}
def lwC_0 : List (Nat × Nat × Ctr) := [(1, 13, c_1), (3, 214, c_3), (430, 31, c_430), (431, 219, c_431), (439, 31, c_439), (450, 219, c_450), (452, 31, c_452), (453, 219, c_453), (454, 15, c_454), (455, 217, c_455), (456, 16, c_456), (457, 218, c_457), (458, 17, c_458), (459, 216, c_459), (460, 18, c_460), (462, 245, c_462), (463, 19, c_463), (464, 247, c_464), (465, 20, c_465), (466, 248, c_466), (467, 21, c_467), (468, 280, c_468), (472, 74, c_472), (476, 249, c_476), (479, 78, c_479)]
def lwC_1 : List (Nat × Nat × Ctr) := [(482, 252, c_482), (484, 81, c_484), (485, 255, c_485), (487, 83, c_487), (488, 256, c_488), (490, 85, c_490), (491, 257, c_491), (493, 87, c_493), (494, 258, c_494), (496, 89, c_496), (497, 259, c_497), (499, 91, c_499), (500, 260, c_500), (502, 93, c_502), (503, 261, c_503), (505, 95, c_505), (506, 262, c_506), (510, 97, c_510), (512, 263, c_512), (515, 101, c_515), (517, 265, c_517), (524, 104, c_524), (531, 267, c_531), (533, 111, c_533), (534, 281, c_534)]
def lwC_2 : List (Nat × Nat × Ctr) := [(537, 113, c_537), (538, 282, c_538), (540, 116, c_540), (542, 273, c_542), (544, 118, c_544), (545, 275, c_545), (547, 120, c_547), (548, 276, c_548), (552, 122, c_552), (555, 283, c_555), (558, 126, c_558), (560, 286, c_560), (564, 129, c_564), (567, 277, c_567), (580, 133, c_580), (591, 292, c_591), (593, 146, c_593), (594, 302, c_594), (596, 148, c_596), (597, 303, c_597), (599, 150, c_599), (600, 304, c_600), (602, 152, c_602), (603, 305, c_603), (604, 22, c_604)]
def lwC_3 : List (Nat × Nat × Ctr) := [(605, 306, c_605), (606, 23, c_606), (608, 307, c_608), (609, 24, c_609), (610, 309, c_610), (611, 25, c_611), (612, 310, c_612), (613, 26, c_613), (614, 311, c_614), (615, 27, c_615), (616, 312, c_616), (617, 28, c_617), (618, 313, c_618), (619, 29, c_619), (620, 314, c_620), (622, 154, c_622), (623, 315, c_623), (637, 164, c_637), (658, 316, c_658), (660, 178, c_660), (661, 328, c_661), (663, 180, c_663), (664, 329, c_664), (666, 182, c_666), (667, 330, c_667)]
def lwC_4 : List (Nat × Nat × Ctr) := [(669, 184, c_669), (670, 331, c_670), (674, 186, c_674), (675, 332, c_675), (679, 190, c_679), (688, 333, c_688), (690, 194, c_690), (692, 335, c_692), (694, 196, c_694), (696, 337, c_696), (698, 198, c_698), (700, 338, c_700), (702, 200, c_702), (704, 339, c_704), (706, 202, c_706), (708, 340, c_708), (710, 204, c_710), (712, 341, c_712), (715, 206, c_715), (717, 342, c_717), (718, 30, c_718), (719, 344, c_719), (721, 209, c_721), (723, 345, c_723), (725, 211, c_725)]
def lwC_5 : List (Nat × Nat × Ctr) := [(727, 346, c_727), (730, 156, c_730), (733, 288, c_733), (844, 156, c_844), (846, 156, c_846), (850, 156, c_850), (852, 156, c_852), (856, 156, c_856), (858, 156, c_858), (862, 156, c_862), (864, 156, c_864), (868, 156, c_868), (870, 156, c_870), (874, 156, c_874), (876, 156, c_876), (880, 156, c_880), (884, 162, c_884), (885, 291, c_885), (889, 162, c_889), (893, 162, c_893), (897, 162, c_897), (901, 162, c_901), (905, 162, c_905), (909, 162, c_909)]
set_option maxRecDepth 100000 in
theorem lwCL_eq : lwCL = lwC_0 ++ (lwC_1 ++ (lwC_2 ++ (lwC_3 ++ (lwC_4 ++ (lwC_5))))) := rfl
theorem lwK_0 : ∀ q ∈ lwC_0, q.2.2.1.2.1 = [] ∧ ctrOK (PRd lwGr lwC 700 f) lwGr rgs (wpM mDf mt 1999) q.2.1 q.2.2 := by
  unfold lwC_0
  simp only [List.forall_mem_cons]
  exact ⟨⟨rfl, k_1 lwU lwG132 lwN (by omega)⟩, ⟨rfl, k_3 lwU lwG132 lwN (by omega)⟩, ⟨rfl, k_430 lwU lwG132 lwN (by omega)⟩, ⟨rfl, k_431 lwU lwG132 lwN (by omega)⟩, ⟨rfl, k_439 lwU lwG132 lwN (Nat.le_refl 700) (by omega)⟩, ⟨rfl, k_450 lwU lwG132 lwN (Nat.le_refl 700) (by omega)⟩, ⟨rfl, k_452 lwU lwG132 lwN (by omega)⟩, ⟨rfl, k_453 lwU lwG132 lwN (by omega)⟩, ⟨rfl, k_454 lwU lwG132 lwN (by omega)⟩, ⟨rfl, k_455 lwU lwG132 lwN (by omega)⟩, ⟨rfl, k_456 lwU lwG132 lwN (by omega)⟩, ⟨rfl, k_457 lwU lwG132 lwN (by omega)⟩, ⟨rfl, k_458 lwU lwG132 lwN (by omega)⟩, ⟨rfl, k_459 lwU lwG132 lwN (by omega)⟩, ⟨rfl, k_460 lwU lwG132 lwN (by omega)⟩, ⟨rfl, k_462 lwU lwG132 lwN (by omega)⟩, ⟨rfl, k_463 lwU lwG132 lwN (by omega)⟩, ⟨rfl, k_464 lwU lwG132 lwN (by omega)⟩, ⟨rfl, k_465 lwU lwG132 lwN (by omega)⟩, ⟨rfl, k_466 lwU lwG132 lwN (by omega)⟩, ⟨rfl, k_467 lwU lwG132 lwN (by omega)⟩, ⟨rfl, k_468 lwU lwG132 lwN (by omega)⟩, ⟨rfl, k_472 lwU lwG132 lwN (by omega)⟩, ⟨rfl, k_476 lwU lwG132 lwN (by omega)⟩, ⟨rfl, k_479 lwU lwG132 lwN (by omega)⟩, fun _ h => absurd h List.not_mem_nil⟩
theorem lwK_1 : ∀ q ∈ lwC_1, q.2.2.1.2.1 = [] ∧ ctrOK (PRd lwGr lwC 700 f) lwGr rgs (wpM mDf mt 1999) q.2.1 q.2.2 := by
  unfold lwC_1
  simp only [List.forall_mem_cons]
  exact ⟨⟨rfl, k_482 lwU lwG132 lwN (by omega)⟩, ⟨rfl, k_484 lwU lwG132 lwN (by omega)⟩, ⟨rfl, k_485 lwU lwG132 lwN (by omega)⟩, ⟨rfl, k_487 lwU lwG132 lwN (by omega)⟩, ⟨rfl, k_488 lwU lwG132 lwN (by omega)⟩, ⟨rfl, k_490 lwU lwG132 lwN (by omega)⟩, ⟨rfl, k_491 lwU lwG132 lwN (by omega)⟩, ⟨rfl, k_493 lwU lwG132 lwN (by omega)⟩, ⟨rfl, k_494 lwU lwG132 lwN (by omega)⟩, ⟨rfl, k_496 lwU lwG132 lwN (by omega)⟩, ⟨rfl, k_497 lwU lwG132 lwN (by omega)⟩, ⟨rfl, k_499 lwU lwG132 lwN (by omega)⟩, ⟨rfl, k_500 lwU lwG132 lwN (by omega)⟩, ⟨rfl, k_502 lwU lwG132 lwN (by omega)⟩, ⟨rfl, k_503 lwU lwG132 lwN (by omega)⟩, ⟨rfl, k_505 lwU lwG132 lwN (by omega)⟩, ⟨rfl, k_506 lwU lwG132 lwN (by omega)⟩, ⟨rfl, k_510 lwU lwG132 lwN (by omega)⟩, ⟨rfl, k_512 lwU lwG132 lwN (by omega)⟩, ⟨rfl, k_515 lwU lwG132 lwN (by omega)⟩, ⟨rfl, k_517 lwU lwG132 lwN (by omega)⟩, ⟨rfl, k_524 lwU lwG132 lwN (by omega)⟩, ⟨rfl, k_531 lwU lwG132 lwN (Nat.le_refl 700) (by omega)⟩, ⟨rfl, k_533 lwU lwG132 lwN (by omega)⟩, ⟨rfl, k_534 lwU lwG132 lwN (Nat.le_refl 700) (by omega)⟩, fun _ h => absurd h List.not_mem_nil⟩
theorem lwK_2 : ∀ q ∈ lwC_2, q.2.2.1.2.1 = [] ∧ ctrOK (PRd lwGr lwC 700 f) lwGr rgs (wpM mDf mt 1999) q.2.1 q.2.2 := by
  unfold lwC_2
  simp only [List.forall_mem_cons]
  exact ⟨⟨rfl, k_537 lwU lwG132 lwN (by omega)⟩, ⟨rfl, k_538 lwU lwG132 lwN (by omega)⟩, ⟨rfl, k_540 lwU lwG132 lwN (by omega)⟩, ⟨rfl, k_542 lwU lwG132 lwN (by omega)⟩, ⟨rfl, k_544 lwU lwG132 lwN (by omega)⟩, ⟨rfl, k_545 lwU lwG132 lwN (by omega)⟩, ⟨rfl, k_547 lwU lwG132 lwN (by omega)⟩, ⟨rfl, k_548 lwU lwG132 lwN (by omega)⟩, ⟨rfl, k_552 lwU lwG132 lwN (by omega)⟩, ⟨rfl, k_555 lwU lwG132 lwN (by omega)⟩, ⟨rfl, k_558 lwU lwG132 lwN (by omega)⟩, ⟨rfl, k_560 lwU lwG132 lwN (by omega)⟩, ⟨rfl, k_564 lwU lwG132 lwN (by omega)⟩, ⟨rfl, k_567 lwU lwG132 lwN (by omega)⟩, ⟨rfl, k_580 lwU lwG132 lwN (by omega)⟩, ⟨rfl, k_591 lwU lwG132 lwN (Nat.le_refl 700) (by omega)⟩, ⟨rfl, k_593 lwU lwG132 lwN (by omega)⟩, ⟨rfl, k_594 lwU lwG132 lwN (Nat.le_refl 700) (by omega)⟩, ⟨rfl, k_596 lwU lwG132 lwN (by omega)⟩, ⟨rfl, k_597 lwU lwG132 lwN (Nat.le_refl 700) (by omega)⟩, ⟨rfl, k_599 lwU lwG132 lwN (by omega)⟩, ⟨rfl, k_600 lwU lwG132 lwN (Nat.le_refl 700) (by omega)⟩, ⟨rfl, k_602 lwU lwG132 lwN (by omega)⟩, ⟨rfl, k_603 lwU lwG132 lwN (by omega)⟩, ⟨rfl, k_604 lwU lwG132 lwN (by omega)⟩, fun _ h => absurd h List.not_mem_nil⟩
theorem lwK_3 : ∀ q ∈ lwC_3, q.2.2.1.2.1 = [] ∧ ctrOK (PRd lwGr lwC 700 f) lwGr rgs (wpM mDf mt 1999) q.2.1 q.2.2 := by
  unfold lwC_3
  simp only [List.forall_mem_cons]
  exact ⟨⟨rfl, k_605 lwU lwG132 lwN (by omega)⟩, ⟨rfl, k_606 lwU lwG132 lwN (by omega)⟩, ⟨rfl, k_608 lwU lwG132 lwN (by omega)⟩, ⟨rfl, k_609 lwU lwG132 lwN (by omega)⟩, ⟨rfl, k_610 lwU lwG132 lwN (by omega)⟩, ⟨rfl, k_611 lwU lwG132 lwN (by omega)⟩, ⟨rfl, k_612 lwU lwG132 lwN (by omega)⟩, ⟨rfl, k_613 lwU lwG132 lwN (by omega)⟩, ⟨rfl, k_614 lwU lwG132 lwN (by omega)⟩, ⟨rfl, k_615 lwU lwG132 lwN (by omega)⟩, ⟨rfl, k_616 lwU lwG132 lwN (by omega)⟩, ⟨rfl, k_617 lwU lwG132 lwN (by omega)⟩, ⟨rfl, k_618 lwU lwG132 lwN (by omega)⟩, ⟨rfl, k_619 lwU lwG132 lwN (by omega)⟩, ⟨rfl, k_620 lwU lwG132 lwN (by omega)⟩, ⟨rfl, k_622 lwU lwG132 lwN (by omega)⟩, ⟨rfl, k_623 lwU lwG132 lwN (by omega)⟩, ⟨rfl, k_637 lwU lwG132 lwN (by omega)⟩, ⟨rfl, k_658 lwU lwG132 lwN (Nat.le_refl 700) (by omega)⟩, ⟨rfl, k_660 lwU lwG132 lwN (by omega)⟩, ⟨rfl, k_661 lwU lwG132 lwN (Nat.le_refl 700) (by omega)⟩, ⟨rfl, k_663 lwU lwG132 lwN (by omega)⟩, ⟨rfl, k_664 lwU lwG132 lwN (Nat.le_refl 700) (by omega)⟩, ⟨rfl, k_666 lwU lwG132 lwN (by omega)⟩, ⟨rfl, k_667 lwU lwG132 lwN (Nat.le_refl 700) (by omega)⟩, fun _ h => absurd h List.not_mem_nil⟩
theorem lwK_4 : ∀ q ∈ lwC_4, q.2.2.1.2.1 = [] ∧ ctrOK (PRd lwGr lwC 700 f) lwGr rgs (wpM mDf mt 1999) q.2.1 q.2.2 := by
  unfold lwC_4
  simp only [List.forall_mem_cons]
  exact ⟨⟨rfl, k_669 lwU lwG132 lwN (by omega)⟩, ⟨rfl, k_670 lwU lwG132 lwN (Nat.le_refl 700) (by omega)⟩, ⟨rfl, k_674 lwU lwG132 lwN (by omega)⟩, ⟨rfl, k_675 lwU lwG132 lwN (Nat.le_refl 700) (by omega)⟩, ⟨rfl, k_679 lwU lwG132 lwN (by omega)⟩, ⟨rfl, k_688 lwU lwG132 lwN (Nat.le_refl 700) (by omega)⟩, ⟨rfl, k_690 lwU lwG132 lwN (by omega)⟩, ⟨rfl, k_692 lwU lwG132 lwN (by omega)⟩, ⟨rfl, k_694 lwU lwG132 lwN (by omega)⟩, ⟨rfl, k_696 lwU lwG132 lwN (by omega)⟩, ⟨rfl, k_698 lwU lwG132 lwN (by omega)⟩, ⟨rfl, k_700 lwU lwG132 lwN (by omega)⟩, ⟨rfl, k_702 lwU lwG132 lwN (by omega)⟩, ⟨rfl, k_704 lwU lwG132 lwN (by omega)⟩, ⟨rfl, k_706 lwU lwG132 lwN (by omega)⟩, ⟨rfl, k_708 lwU lwG132 lwN (by omega)⟩, ⟨rfl, k_710 lwU lwG132 lwN (by omega)⟩, ⟨rfl, k_712 lwU lwG132 lwN (by omega)⟩, ⟨rfl, k_715 lwU lwG132 lwN (by omega)⟩, ⟨rfl, k_717 lwU lwG132 lwN (by omega)⟩, ⟨rfl, k_718 lwU lwG132 lwN (by omega)⟩, ⟨rfl, k_719 lwU lwG132 lwN (by omega)⟩, ⟨rfl, k_721 lwU lwG132 lwN (by omega)⟩, ⟨rfl, k_723 lwU lwG132 lwN (by omega)⟩, ⟨rfl, k_725 lwU lwG132 lwN (by omega)⟩, fun _ h => absurd h List.not_mem_nil⟩
theorem lwK_5 : ∀ q ∈ lwC_5, q.2.2.1.2.1 = [] ∧ ctrOK (PRd lwGr lwC 700 f) lwGr rgs (wpM mDf mt 1999) q.2.1 q.2.2 := by
  unfold lwC_5
  simp only [List.forall_mem_cons]
  exact ⟨⟨rfl, k_727 lwU lwG132 lwN (by omega)⟩, ⟨rfl, k_730 lwU lwG132 lwN (by omega)⟩, ⟨rfl, k_733 lwU lwG132 lwN (by omega)⟩, ⟨rfl, k_844 lwU lwG132 lwN (by omega)⟩, ⟨rfl, k_846 lwU lwG132 lwN (by omega)⟩, ⟨rfl, k_850 lwU lwG132 lwN (by omega)⟩, ⟨rfl, k_852 lwU lwG132 lwN (by omega)⟩, ⟨rfl, k_856 lwU lwG132 lwN (by omega)⟩, ⟨rfl, k_858 lwU lwG132 lwN (by omega)⟩, ⟨rfl, k_862 lwU lwG132 lwN (by omega)⟩, ⟨rfl, k_864 lwU lwG132 lwN (by omega)⟩, ⟨rfl, k_868 lwU lwG132 lwN (by omega)⟩, ⟨rfl, k_870 lwU lwG132 lwN (by omega)⟩, ⟨rfl, k_874 lwU lwG132 lwN (by omega)⟩, ⟨rfl, k_876 lwU lwG132 lwN (by omega)⟩, ⟨rfl, k_880 lwU lwG132 lwN (by omega)⟩, ⟨rfl, k_884 lwU lwG132 lwN (by omega)⟩, ⟨rfl, k_885 lwU lwG132 lwN (by omega)⟩, ⟨rfl, k_889 lwU lwG132 lwN (by omega)⟩, ⟨rfl, k_893 lwU lwG132 lwN (by omega)⟩, ⟨rfl, k_897 lwU lwG132 lwN (by omega)⟩, ⟨rfl, k_901 lwU lwG132 lwN (by omega)⟩, ⟨rfl, k_905 lwU lwG132 lwN (by omega)⟩, ⟨rfl, k_909 lwU lwG132 lwN (by omega)⟩, fun _ h => absurd h List.not_mem_nil⟩
theorem lwK : ∀ q ∈ lwCL, q.2.2.1.2.1 = [] ∧ ctrOK (PRd lwGr lwC 700 f) lwGr rgs (wpM mDf mt 1999) q.2.1 q.2.2 := by
  rw [lwCL_eq]
  exact List.forall_mem_append.mpr ⟨lwK_0, List.forall_mem_append.mpr ⟨lwK_1, List.forall_mem_append.mpr ⟨lwK_2, List.forall_mem_append.mpr ⟨lwK_3, List.forall_mem_append.mpr ⟨lwK_4, lwK_5⟩⟩⟩⟩⟩
theorem law_pure {L : Nat} (hL : L ≤ 3072) (f : Nat → Int32) : run (some (132, L, f)) mDf mt (wpM mDf mt 1999) m_law 1999 (2 ^ 40) 0 [(0, .ref 132)] [] h00 0 0 lwPost :=
  lw_go hL lwJ_ok fun lv h hT hI ⟨z0, h132⟩ n hn => by
    have h1 := lw_loop (D := 700) (d0 := 1999) lwU lwG65 lwGs7 (by omega) (by omega) h132 (lkCL_ok (P := fun y c => ctrOK (PRd lwGr lwC 700 f) lwGr rgs (wpM mDf mt 1999) y c) lwK) 512 lv h hI hT fr_rf n hn
    rw [show 657 + 66 * (512 - 512) = 657 from rfl, show 50952 + 12812 * (512 - 512) = 50952 from rfl] at h1
    exact run_mono (wpM_mono 1999) (fun e v h2 hp => ⟨hp.2.2.1, hp.2.2.2⟩) _ _ _ _ _ _ _ h1
end LWZ
theorem whole_start {p : Program} {e : Env} {s : State} {m : MethodId} {below : List Frame} {meth : Method} {c : Code} (l : Launch) (hflags : l.flags = flags0) {b L : Nat} {xs : Nat → Int32} (hL : L ≤ 3072) (C0 : lw_At p s m meth c b L xs) : W p l e room_1 s m #[Value.ref b] below meth c s.heap [] 0 0 (lw_Z below #[Value.ref b] s) (entryFrame m ([Value.ref b] : List Value).toArray 9) :=
  law_enter l hflags C0 (law_pure hL xs)
set_option maxHeartbeats 4000000 in
theorem lw_walk (l : Launch) (hflags : l.flags = flags0) (b : Addr) (xs : List Int32) : MetFree l x (headSpec (Jvm.Cond.code x code maxLocals ret :: tables_1) room_1) (lw_P b xs) (fun _ _ _ _ _ => True) lw_Q := by
  refine MetFree.of_bodyS (code := code) (maxLocals := maxLocals) (ret := ret) (by decide) ?_ ?_
  · intro args s m h hn
    obtain ⟨meth, c, h1, h2, h3, h4, h5, h6, -, -⟩ := Cond.code_spec hn (atoms_spec (ws := Jvm.Cond.code x code maxLocals ret :: tables_1) h _ List.mem_cons_self)
    exact ⟨meth, c, h1, h2, h3, h4, h5, h6⟩
  · intro p e s m args below meth c s₁ B hml0 hP _
    obtain ⟨rfl, hx, hbd, hgv⟩ := hP
    obtain ⟨scr, harrAt, hlist, hof, hsmall⟩ := hx
    obtain ⟨hcb, hkn, -, -⟩ := State.arrayAt?_spec harrAt
    have hown : s.vm.findClass R_law = some m.cls := findClass_of_methodNamed B.named
    have hts0 : ∀ c ∈ (Jvm.Cond.code x code maxLocals ret :: tables_1), c.before #[Value.ref b] s = true := atoms_spec (ws := Jvm.Cond.code x code maxLocals ret :: tables_1) B.pre
    have hts : ∀ w ∈ lw_tbl, w.before #[Value.ref b] s = true := k2_hts_sels lw_privs (fun w hw => hts0 w (List.mem_cons_of_mem _ hw)) lw_privs_ok
    have hml : c.maxLocals = 9 := B.maxLocals_eq (hts0 _ List.mem_cons_self)
    have htab0 : c.exceptionTable.toList = [] := by
      obtain ⟨meth9, c9, h1, h2, -, -, -, -, h7, -⟩ := Cond.code_spec B.named (hts0 _ List.mem_cons_self)
      cases Option.some.inj (h1.symm.trans B.method)
      cases Option.some.inj (h2.symm.trans (Stand.of_body B).code)
      rw [Array.isEmpty_iff.mp h7]
    have X₀ : Stand p l e room_1 s m #[Value.ref b] below meth c s₁ [] 0 0 := Stand.of_body B
    have hh0 : s₁.heap = s.heap := by rw [B.state]; rfl
    have hsz : scr.slots.size = xs.length := by rw [← Array.length_toList, hlist, List.length_map]
    have hval : ∀ j : Nat, j < xs.length → scr.slots[j]? = some (.int (xs.getD j 0)) := fun j hj => by
      rw [← Array.getElem?_toList, hlist]
      simp [hj]
    have hbl : b < s.heap.size := (Array.getElem?_eq_some_iff.mp hcb).1
    have hX : va_X b xs.length (fun j => xs.getD j 0) s s.heap := ⟨scr, hcb, hof, hkn, hsz, hval⟩
    have K : W p l e room_1 s m #[Value.ref b] below meth c s₁.heap [] 0 0 (lw_Z below #[Value.ref b] s) (entryFrame m ([Value.ref b] : List Value).toArray 9) := by
      rw [hh0]
      exact whole_start l hflags hbd ⟨B.exec, B.bytes, B.returns, hml, hown, hts, hX, hbl, B.notSynchronized, hgv, htab0, (name_of_methodNamed B.named B.method).1⟩
    obtain ⟨t, a1, o, b1, b2, b3⟩ := K s₁ rfl X₀
    exact ⟨t, o, a1, b1, b2, b3⟩
theorem lw_pre_spec {args : Array Value} {s : State} (h : (Jvm.Cond.and given_1 narrow_1).before args s = true) (hr : rest_1_c.before args s = true) : ∃ (b : Addr) (xs : List Int32), lw_P b xs args s := by
  have hs := flat_of_before _ h
  have hq := flat_of_before _ hr
  have hc : (Cond.count 1).before args s = true := hs _ (by decide +kernel)
  have harr : (Cond.arrayOf (.arg 0) .int).before args s = true := hs _ (by decide +kernel)
  have hle : (Cond.le (.length (.arg 0)) (.int 3072)).before args s = true := hs _ (by decide +kernel)
  have hlen : (Cond.isInt (.length (.arg 0))).before args s = true := hq _ (by decide +kernel)
  have hall : (Cond.all (.arg 0) (.isInt (.elem (.arg 0) (.index 0)))).before args s = true := hq _ (by decide +kernel)
  obtain ⟨b, xs, hb, hx⟩ := State.ints_of_pre rfl harr hlen hall
  have hsm : xs.length < 2 ^ 31 := hx.choose_spec.2.2.2
  have hev : (Term.length (.arg 0)).eval args s none [] s = some (.int xs.length.toInt32) := hx.length_eval hb
  have hv := Cond.le_ints hev (show (Term.int 3072).eval args s none [] s = some (.int 3072) from rfl)
  have hd : xs.length.toInt32 ≤ 3072 := by
    simpa [Cond.before, Cond.holds, hv] using hle
  have hN : xs.length ≤ 3072 := (Int32.ofNat_le_ofNat hsm (by decide)).mp (show Int32.ofNat xs.length ≤ Int32.ofNat 3072 from hd)
  exact ⟨b, xs, Cond.one_arg hc (show args[0]? = some (.ref b) from hb), hx, hN, h⟩
theorem lw_comes (l : Launch) (hflags : l.flags = flags0) : Comes l x (Jvm.Cond.code x code maxLocals ret :: tables_1) room_1 (fun tb e args s => Calls_1 tb e args s ∧ rest_1 tb e args s ∧ Pre_1 tb e args s)
    (fun _ _ args s o t => lw_Q args s o t) := by
  intro p e ha hc hk s m args below hf hfit hheap happ hpre
  obtain ⟨b, xs, hP⟩ := lw_pre_spec hpre.2.2 hpre.2.1
  obtain ⟨k, o, h1, h2, h3, hQ⟩ := lw_walk l hflags b xs p e ha hc hk s m args below hf ((Spec.applies_iff_loose hf).mp happ).1 hP trivial
  exact ⟨k, o, h1, h2, h3, hQ⟩
theorem lw_frame {s t : State} {o : Outcome} {args : Array Value} (h : State.butDraws s t lw_cs (fun t1 => Framed s o t1 [] 601024 7293034)) :
    State.butDraws s t [Jvm.Choice.named "NaN.bits"] (fun t1 => Framed s o t1 (fieldLocs frame_1_writes args s ++ arrayLocs frame_1_arrays args s ++ staticLocs frame_1_statics s) 601024 7293034) := h
theorem lw_limb (L : Cond) (hL : ∀ (args : Array Value) (s t : State), L.after args s (.returned (some (.int 1))) t = true) :
    ArmFor flags0 classFile x code maxLocals ret World_1 tables_1 room_1 Calls_1 rest_1 Pre_1
      (fun tb e a s o t => postC L tb e a s o t ∧ State.butDraws s t [Jvm.Choice.named "NaN.bits"] (fun t1 => Framed s o t1 (fieldLocs frame_1_writes a s ++ arrayLocs frame_1_arrays a s ++ staticLocs frame_1_statics s) 601024 7293034)) := by
  intro l hflags _ _ p e ha hc hk s m args below hf hfit hheap happ hpre
  obtain ⟨k, o, h1, h2, h3, rfl, hF⟩ := lw_comes l hflags p e ha hc hk s m args below hf hfit hheap happ hpre
  exact ⟨k, _, h1, h2, h3, hL args s _, lw_frame hF⟩
theorem i_vc : Claimed_1_1 ∧ Claimed_1_2 := ⟨lw_limb limb_1_1 (fun args s t => by simp [limb_1_1, Cond.after, Cond.holds, Cond.value]), lw_limb limb_1_2 (fun args s t => Cond.after_iff.mpr (by
  first | (rw [show limb_1_2 = Cond.eq .result (.int 1) from rfl, Cond.eq_ints (x := 1) (y := 1) rfl rfl]; simp; done) | (simp [limb_1_2, Cond.value, Term.eval]; done)))⟩
