section LWZ
theorem lwG132 : ∀ k, k < 132 → lwGr k = 300 + k := by decide +kernel
variable {f : Nat → Int32}
def lwC_0 : List (Nat × Nat × Ctr) := [(1, 13, c_1), (3, 214, c_3), (5, 31, c_5), (8, 219, c_8), (200, 31, c_200), (413, 219, c_413), (415, 31, c_415), (416, 219, c_416), (417, 15, c_417), (418, 217, c_418), (419, 16, c_419), (420, 218, c_420), (421, 17, c_421), (422, 216, c_422), (423, 18, c_423), (425, 245, c_425), (426, 19, c_426), (427, 247, c_427), (428, 20, c_428), (429, 248, c_429), (430, 21, c_430), (431, 280, c_431), (435, 74, c_435), (438, 249, c_438), (441, 78, c_441)]
def lwC_1 : List (Nat × Nat × Ctr) := [(444, 252, c_444), (446, 81, c_446), (447, 255, c_447), (449, 83, c_449), (450, 256, c_450), (452, 85, c_452), (453, 257, c_453), (455, 87, c_455), (456, 258, c_456), (458, 89, c_458), (459, 259, c_459), (461, 91, c_461), (462, 260, c_462), (464, 93, c_464), (465, 261, c_465), (467, 95, c_467), (468, 262, c_468), (472, 97, c_472), (474, 263, c_474), (477, 101, c_477), (479, 265, c_479), (486, 104, c_486), (493, 267, c_493), (495, 111, c_495), (496, 281, c_496)]
def lwC_2 : List (Nat × Nat × Ctr) := [(499, 113, c_499), (500, 282, c_500), (502, 116, c_502), (504, 273, c_504), (506, 118, c_506), (507, 275, c_507), (509, 120, c_509), (510, 276, c_510), (514, 122, c_514), (517, 283, c_517), (520, 126, c_520), (522, 286, c_522), (526, 129, c_526), (529, 277, c_529), (542, 133, c_542), (553, 292, c_553), (555, 146, c_555), (556, 302, c_556), (558, 148, c_558), (559, 303, c_559), (561, 150, c_561), (562, 304, c_562), (564, 152, c_564), (565, 305, c_565), (566, 22, c_566)]
def lwC_3 : List (Nat × Nat × Ctr) := [(567, 306, c_567), (568, 23, c_568), (570, 307, c_570), (571, 24, c_571), (572, 309, c_572), (573, 25, c_573), (574, 310, c_574), (575, 26, c_575), (576, 311, c_576), (577, 27, c_577), (578, 312, c_578), (579, 28, c_579), (580, 313, c_580), (581, 29, c_581), (582, 314, c_582), (584, 154, c_584), (585, 315, c_585), (599, 164, c_599), (620, 316, c_620), (622, 178, c_622), (623, 328, c_623), (625, 180, c_625), (626, 329, c_626), (628, 182, c_628), (629, 330, c_629)]
def lwC_4 : List (Nat × Nat × Ctr) := [(631, 184, c_631), (632, 331, c_632), (636, 186, c_636), (637, 332, c_637), (641, 190, c_641), (650, 333, c_650), (652, 194, c_652), (654, 335, c_654), (656, 196, c_656), (658, 337, c_658), (660, 198, c_660), (662, 338, c_662), (664, 200, c_664), (666, 339, c_666), (668, 202, c_668), (670, 340, c_670), (672, 204, c_672), (674, 341, c_674), (677, 206, c_677), (679, 342, c_679), (680, 30, c_680), (681, 344, c_681), (683, 209, c_683), (685, 345, c_685), (687, 211, c_687)]
def lwC_5 : List (Nat × Nat × Ctr) := [(689, 346, c_689), (692, 156, c_692), (695, 288, c_695), (806, 156, c_806), (808, 156, c_808), (812, 156, c_812), (814, 156, c_814), (818, 156, c_818), (820, 156, c_820), (824, 156, c_824), (826, 156, c_826), (830, 156, c_830), (832, 156, c_832), (836, 156, c_836), (838, 156, c_838), (842, 156, c_842), (846, 162, c_846), (847, 291, c_847), (851, 162, c_851), (855, 162, c_855), (859, 162, c_859), (863, 162, c_863), (867, 162, c_867), (871, 162, c_871)]
set_option maxRecDepth 100000 in
theorem lwCL_eq : lwCL = lwC_0 ++ (lwC_1 ++ (lwC_2 ++ (lwC_3 ++ (lwC_4 ++ (lwC_5))))) := rfl
theorem lwK_0 : ∀ q ∈ lwC_0, q.2.2.1.2.1 = [] ∧ ctrOK (PRd lwC 700 fun j => (f j).toInt) lwGr rgs (wpM mDf mt 1999) q.2.1 q.2.2 := by
  unfold lwC_0
  simp only [List.forall_mem_cons]
  exact ⟨⟨rfl, k_1 lwU lwG132 lwN (by omega)⟩, ⟨rfl, k_3 lwU lwG132 lwN (by omega)⟩, ⟨rfl, k_5 lwU lwG132 lwN (by omega)⟩, ⟨rfl, k_8 lwU lwG132 lwN (by omega)⟩, ⟨rfl, k_200 lwU lwG132 lwN (by omega)⟩, ⟨rfl, k_413 lwU lwG132 lwN (by omega)⟩, ⟨rfl, k_415 lwU lwG132 lwN (by omega)⟩, ⟨rfl, k_416 lwU lwG132 lwN (by omega)⟩, ⟨rfl, k_417 lwU lwG132 lwN (by omega)⟩, ⟨rfl, k_418 lwU lwG132 lwN (by omega)⟩, ⟨rfl, k_419 lwU lwG132 lwN (by omega)⟩, ⟨rfl, k_420 lwU lwG132 lwN (by omega)⟩, ⟨rfl, k_421 lwU lwG132 lwN (by omega)⟩, ⟨rfl, k_422 lwU lwG132 lwN (by omega)⟩, ⟨rfl, k_423 lwU lwG132 lwN (by omega)⟩, ⟨rfl, k_425 lwU lwG132 lwN (by omega)⟩, ⟨rfl, k_426 lwU lwG132 lwN (by omega)⟩, ⟨rfl, k_427 lwU lwG132 lwN (by omega)⟩, ⟨rfl, k_428 lwU lwG132 lwN (by omega)⟩, ⟨rfl, k_429 lwU lwG132 lwN (by omega)⟩, ⟨rfl, k_430 lwU lwG132 lwN (by omega)⟩, ⟨rfl, k_431 lwU lwG132 lwN (by omega)⟩, ⟨rfl, k_435 lwU lwG132 lwN (by omega)⟩, ⟨rfl, k_438 lwU lwG132 lwN (by omega)⟩, ⟨rfl, k_441 lwU lwG132 lwN (by omega)⟩, fun _ h => absurd h List.not_mem_nil⟩
theorem lwK_1 : ∀ q ∈ lwC_1, q.2.2.1.2.1 = [] ∧ ctrOK (PRd lwC 700 fun j => (f j).toInt) lwGr rgs (wpM mDf mt 1999) q.2.1 q.2.2 := by
  unfold lwC_1
  simp only [List.forall_mem_cons]
  exact ⟨⟨rfl, k_444 lwU lwG132 lwN (by omega)⟩, ⟨rfl, k_446 lwU lwG132 lwN (by omega)⟩, ⟨rfl, k_447 lwU lwG132 lwN (by omega)⟩, ⟨rfl, k_449 lwU lwG132 lwN (by omega)⟩, ⟨rfl, k_450 lwU lwG132 lwN (by omega)⟩, ⟨rfl, k_452 lwU lwG132 lwN (by omega)⟩, ⟨rfl, k_453 lwU lwG132 lwN (by omega)⟩, ⟨rfl, k_455 lwU lwG132 lwN (by omega)⟩, ⟨rfl, k_456 lwU lwG132 lwN (by omega)⟩, ⟨rfl, k_458 lwU lwG132 lwN (by omega)⟩, ⟨rfl, k_459 lwU lwG132 lwN (by omega)⟩, ⟨rfl, k_461 lwU lwG132 lwN (by omega)⟩, ⟨rfl, k_462 lwU lwG132 lwN (by omega)⟩, ⟨rfl, k_464 lwU lwG132 lwN (by omega)⟩, ⟨rfl, k_465 lwU lwG132 lwN (by omega)⟩, ⟨rfl, k_467 lwU lwG132 lwN (by omega)⟩, ⟨rfl, k_468 lwU lwG132 lwN (by omega)⟩, ⟨rfl, k_472 lwU lwG132 lwN (by omega)⟩, ⟨rfl, k_474 lwU lwG132 lwN (by omega)⟩, ⟨rfl, k_477 lwU lwG132 lwN (by omega)⟩, ⟨rfl, k_479 lwU lwG132 lwN (by omega)⟩, ⟨rfl, k_486 lwU lwG132 lwN (by omega)⟩, ⟨rfl, k_493 lwU lwG132 lwN (Nat.le_refl 700) (by omega)⟩, ⟨rfl, k_495 lwU lwG132 lwN (by omega)⟩, ⟨rfl, k_496 lwU lwG132 lwN (Nat.le_refl 700) (by omega)⟩, fun _ h => absurd h List.not_mem_nil⟩
theorem lwK_2 : ∀ q ∈ lwC_2, q.2.2.1.2.1 = [] ∧ ctrOK (PRd lwC 700 fun j => (f j).toInt) lwGr rgs (wpM mDf mt 1999) q.2.1 q.2.2 := by
  unfold lwC_2
  simp only [List.forall_mem_cons]
  exact ⟨⟨rfl, k_499 lwU lwG132 lwN (by omega)⟩, ⟨rfl, k_500 lwU lwG132 lwN (by omega)⟩, ⟨rfl, k_502 lwU lwG132 lwN (by omega)⟩, ⟨rfl, k_504 lwU lwG132 lwN (by omega)⟩, ⟨rfl, k_506 lwU lwG132 lwN (by omega)⟩, ⟨rfl, k_507 lwU lwG132 lwN (by omega)⟩, ⟨rfl, k_509 lwU lwG132 lwN (by omega)⟩, ⟨rfl, k_510 lwU lwG132 lwN (by omega)⟩, ⟨rfl, k_514 lwU lwG132 lwN (by omega)⟩, ⟨rfl, k_517 lwU lwG132 lwN (by omega)⟩, ⟨rfl, k_520 lwU lwG132 lwN (by omega)⟩, ⟨rfl, k_522 lwU lwG132 lwN (by omega)⟩, ⟨rfl, k_526 lwU lwG132 lwN (by omega)⟩, ⟨rfl, k_529 lwU lwG132 lwN (by omega)⟩, ⟨rfl, k_542 lwU lwG132 lwN (by omega)⟩, ⟨rfl, k_553 lwU lwG132 lwN (Nat.le_refl 700) (by omega)⟩, ⟨rfl, k_555 lwU lwG132 lwN (by omega)⟩, ⟨rfl, k_556 lwU lwG132 lwN (Nat.le_refl 700) (by omega)⟩, ⟨rfl, k_558 lwU lwG132 lwN (by omega)⟩, ⟨rfl, k_559 lwU lwG132 lwN (Nat.le_refl 700) (by omega)⟩, ⟨rfl, k_561 lwU lwG132 lwN (by omega)⟩, ⟨rfl, k_562 lwU lwG132 lwN (Nat.le_refl 700) (by omega)⟩, ⟨rfl, k_564 lwU lwG132 lwN (by omega)⟩, ⟨rfl, k_565 lwU lwG132 lwN (by omega)⟩, ⟨rfl, k_566 lwU lwG132 lwN (by omega)⟩, fun _ h => absurd h List.not_mem_nil⟩
theorem lwK_3 : ∀ q ∈ lwC_3, q.2.2.1.2.1 = [] ∧ ctrOK (PRd lwC 700 fun j => (f j).toInt) lwGr rgs (wpM mDf mt 1999) q.2.1 q.2.2 := by
  unfold lwC_3
  simp only [List.forall_mem_cons]
  exact ⟨⟨rfl, k_567 lwU lwG132 lwN (by omega)⟩, ⟨rfl, k_568 lwU lwG132 lwN (by omega)⟩, ⟨rfl, k_570 lwU lwG132 lwN (by omega)⟩, ⟨rfl, k_571 lwU lwG132 lwN (by omega)⟩, ⟨rfl, k_572 lwU lwG132 lwN (by omega)⟩, ⟨rfl, k_573 lwU lwG132 lwN (by omega)⟩, ⟨rfl, k_574 lwU lwG132 lwN (by omega)⟩, ⟨rfl, k_575 lwU lwG132 lwN (by omega)⟩, ⟨rfl, k_576 lwU lwG132 lwN (by omega)⟩, ⟨rfl, k_577 lwU lwG132 lwN (by omega)⟩, ⟨rfl, k_578 lwU lwG132 lwN (by omega)⟩, ⟨rfl, k_579 lwU lwG132 lwN (by omega)⟩, ⟨rfl, k_580 lwU lwG132 lwN (by omega)⟩, ⟨rfl, k_581 lwU lwG132 lwN (by omega)⟩, ⟨rfl, k_582 lwU lwG132 lwN (by omega)⟩, ⟨rfl, k_584 lwU lwG132 lwN (by omega)⟩, ⟨rfl, k_585 lwU lwG132 lwN (by omega)⟩, ⟨rfl, k_599 lwU lwG132 lwN (by omega)⟩, ⟨rfl, k_620 lwU lwG132 lwN (Nat.le_refl 700) (by omega)⟩, ⟨rfl, k_622 lwU lwG132 lwN (by omega)⟩, ⟨rfl, k_623 lwU lwG132 lwN (Nat.le_refl 700) (by omega)⟩, ⟨rfl, k_625 lwU lwG132 lwN (by omega)⟩, ⟨rfl, k_626 lwU lwG132 lwN (Nat.le_refl 700) (by omega)⟩, ⟨rfl, k_628 lwU lwG132 lwN (by omega)⟩, ⟨rfl, k_629 lwU lwG132 lwN (Nat.le_refl 700) (by omega)⟩, fun _ h => absurd h List.not_mem_nil⟩
theorem lwK_4 : ∀ q ∈ lwC_4, q.2.2.1.2.1 = [] ∧ ctrOK (PRd lwC 700 fun j => (f j).toInt) lwGr rgs (wpM mDf mt 1999) q.2.1 q.2.2 := by
  unfold lwC_4
  simp only [List.forall_mem_cons]
  exact ⟨⟨rfl, k_631 lwU lwG132 lwN (by omega)⟩, ⟨rfl, k_632 lwU lwG132 lwN (Nat.le_refl 700) (by omega)⟩, ⟨rfl, k_636 lwU lwG132 lwN (by omega)⟩, ⟨rfl, k_637 lwU lwG132 lwN (Nat.le_refl 700) (by omega)⟩, ⟨rfl, k_641 lwU lwG132 lwN (by omega)⟩, ⟨rfl, k_650 lwU lwG132 lwN (Nat.le_refl 700) (by omega)⟩, ⟨rfl, k_652 lwU lwG132 lwN (by omega)⟩, ⟨rfl, k_654 lwU lwG132 lwN (by omega)⟩, ⟨rfl, k_656 lwU lwG132 lwN (by omega)⟩, ⟨rfl, k_658 lwU lwG132 lwN (by omega)⟩, ⟨rfl, k_660 lwU lwG132 lwN (by omega)⟩, ⟨rfl, k_662 lwU lwG132 lwN (by omega)⟩, ⟨rfl, k_664 lwU lwG132 lwN (by omega)⟩, ⟨rfl, k_666 lwU lwG132 lwN (by omega)⟩, ⟨rfl, k_668 lwU lwG132 lwN (by omega)⟩, ⟨rfl, k_670 lwU lwG132 lwN (by omega)⟩, ⟨rfl, k_672 lwU lwG132 lwN (by omega)⟩, ⟨rfl, k_674 lwU lwG132 lwN (by omega)⟩, ⟨rfl, k_677 lwU lwG132 lwN (by omega)⟩, ⟨rfl, k_679 lwU lwG132 lwN (by omega)⟩, ⟨rfl, k_680 lwU lwG132 lwN (by omega)⟩, ⟨rfl, k_681 lwU lwG132 lwN (by omega)⟩, ⟨rfl, k_683 lwU lwG132 lwN (by omega)⟩, ⟨rfl, k_685 lwU lwG132 lwN (by omega)⟩, ⟨rfl, k_687 lwU lwG132 lwN (by omega)⟩, fun _ h => absurd h List.not_mem_nil⟩
theorem lwK_5 : ∀ q ∈ lwC_5, q.2.2.1.2.1 = [] ∧ ctrOK (PRd lwC 700 fun j => (f j).toInt) lwGr rgs (wpM mDf mt 1999) q.2.1 q.2.2 := by
  unfold lwC_5
  simp only [List.forall_mem_cons]
  exact ⟨⟨rfl, k_689 lwU lwG132 lwN (by omega)⟩, ⟨rfl, k_692 lwU lwG132 lwN (by omega)⟩, ⟨rfl, k_695 lwU lwG132 lwN (by omega)⟩, ⟨rfl, k_806 lwU lwG132 lwN (by omega)⟩, ⟨rfl, k_808 lwU lwG132 lwN (by omega)⟩, ⟨rfl, k_812 lwU lwG132 lwN (by omega)⟩, ⟨rfl, k_814 lwU lwG132 lwN (by omega)⟩, ⟨rfl, k_818 lwU lwG132 lwN (by omega)⟩, ⟨rfl, k_820 lwU lwG132 lwN (by omega)⟩, ⟨rfl, k_824 lwU lwG132 lwN (by omega)⟩, ⟨rfl, k_826 lwU lwG132 lwN (by omega)⟩, ⟨rfl, k_830 lwU lwG132 lwN (by omega)⟩, ⟨rfl, k_832 lwU lwG132 lwN (by omega)⟩, ⟨rfl, k_836 lwU lwG132 lwN (by omega)⟩, ⟨rfl, k_838 lwU lwG132 lwN (by omega)⟩, ⟨rfl, k_842 lwU lwG132 lwN (by omega)⟩, ⟨rfl, k_846 lwU lwG132 lwN (by omega)⟩, ⟨rfl, k_847 lwU lwG132 lwN (by omega)⟩, ⟨rfl, k_851 lwU lwG132 lwN (by omega)⟩, ⟨rfl, k_855 lwU lwG132 lwN (by omega)⟩, ⟨rfl, k_859 lwU lwG132 lwN (by omega)⟩, ⟨rfl, k_863 lwU lwG132 lwN (by omega)⟩, ⟨rfl, k_867 lwU lwG132 lwN (by omega)⟩, ⟨rfl, k_871 lwU lwG132 lwN (by omega)⟩, fun _ h => absurd h List.not_mem_nil⟩
theorem lwK : ∀ q ∈ lwCL, q.2.2.1.2.1 = [] ∧ ctrOK (PRd lwC 700 fun j => (f j).toInt) lwGr rgs (wpM mDf mt 1999) q.2.1 q.2.2 := by
  rw [lwCL_eq]
  exact List.forall_mem_append.mpr ⟨lwK_0, List.forall_mem_append.mpr ⟨lwK_1, List.forall_mem_append.mpr ⟨lwK_2, List.forall_mem_append.mpr ⟨lwK_3, List.forall_mem_append.mpr ⟨lwK_4, lwK_5⟩⟩⟩⟩⟩
theorem law_pure {L : Nat} (hL : L ≤ 3072) (f : Nat → Int32) : run (some (132, L, f)) mDf mt (wpM mDf mt 1999) m_law 1999 (2 ^ 40) 0 [(0, .ref 132)] [] h00 0 0 lwPost :=
  lw_go hL lwJ_ok fun lv h hT hI ⟨z0, h132⟩ n hn => by
    have h1 := lw_loop (D := 700) (d0 := 1999) lwU lwG65 lwGs7 (by omega) (by omega) h132 (lkCL_ok (P := fun y c => ctrOK (PRd lwC 700 fun j => (f j).toInt) lwGr rgs (wpM mDf mt 1999) y c) lwK) 512 lv h hI hT fr_rf n hn
    rw [show 657 + 66 * (512 - 512) = 657 from rfl, show 50952 + 12812 * (512 - 512) = 50952 from rfl] at h1
    exact run_mono (wpM_mono 1999) (fun e v h2 hp => ⟨hp.2.2.1, hp.2.2.2⟩) _ _ _ _ _ _ _ h1
end LWZ
theorem whole_start {p : Program} {e : Env} {s : State} {m : MethodId} {below : List Frame} {meth : Method} {c : Code} (l : Launch) (hflags : l.flags = flags0) {b L : Nat} {xs : Nat → Int32} (hL : L ≤ 3072) (C0 : lw_At p s m meth c b L xs) : W p l e room_1 s m #[Value.ref b] below meth c s.heap [] 0 0 (lw_Z below #[Value.ref b] s) (entryFrame m ([Value.ref b] : List Value).toArray 9) :=
  law_enter l hflags C0 (law_pure hL xs)
set_option maxHeartbeats 4000000 in
theorem lw_walk (l : Launch) (hflags : l.flags = flags0) (b : Addr) (xs : List Int32) : MetFree l x (headSpec (Jvm.Cond.code x code maxLocals ret :: tables_1) room_1) (lw_P b xs) (fun _ _ _ _ _ => True) lw_Q := by
  refine MetFree.of_bodyS (code := code) (maxLocals := maxLocals) (ret := ret) (by decide) ?_ ?_
  · intro args s m h hn
    obtain ⟨meth, c, h1, h2, h3, h4, h5, h6, -, -⟩ := Cond.code_spec hn (atoms_spec (ws := Jvm.Cond.code x code maxLocals ret :: tables_1) h _ List.mem_cons_self)
    exact ⟨meth, c, h1, h2, h3, h4, h5, h6⟩
  · intro p e s m args below meth c s₁ B hml0 hP _
    obtain ⟨rfl, hx, hbd, hgv⟩ := hP
    obtain ⟨scr, harrAt, hlist, hof, hsmall⟩ := hx
    obtain ⟨hcb, hkn, -, -⟩ := State.arrayAt?_spec harrAt
    have hown : s.vm.findClass R_law = some m.cls := findClass_of_methodNamed B.named
    have hts0 : ∀ c ∈ (Jvm.Cond.code x code maxLocals ret :: tables_1), c.before #[Value.ref b] s = true := atoms_spec (ws := Jvm.Cond.code x code maxLocals ret :: tables_1) B.pre
    have hts : ∀ w ∈ lw_tbl, w.before #[Value.ref b] s = true := k2_hts_sels lw_privs (fun w hw => hts0 w (List.mem_cons_of_mem _ hw)) lw_privs_ok
    have hml : c.maxLocals = 9 := B.maxLocals_eq (hts0 _ List.mem_cons_self)
    have htab0 : c.exceptionTable.toList = [] := by
      obtain ⟨meth9, c9, h1, h2, -, -, -, -, h7, -⟩ := Cond.code_spec B.named (hts0 _ List.mem_cons_self)
      cases Option.some.inj (h1.symm.trans B.method)
      cases Option.some.inj (h2.symm.trans (Stand.of_body B).code)
      rw [Array.isEmpty_iff.mp h7]
    have X₀ : Stand p l e room_1 s m #[Value.ref b] below meth c s₁ [] 0 0 := Stand.of_body B
    have hh0 : s₁.heap = s.heap := by rw [B.state]; rfl
    have hsz : scr.slots.size = xs.length := by rw [← Array.length_toList, hlist, List.length_map]
    have hval : ∀ j : Nat, j < xs.length → scr.slots[j]? = some (.int (xs.getD j 0)) := fun j hj => by
      rw [← Array.getElem?_toList, hlist]
      simp [hj]
    have hbl : b < s.heap.size := (Array.getElem?_eq_some_iff.mp hcb).1
    have hX : va_X b xs.length (fun j => xs.getD j 0) s s.heap := ⟨scr, hcb, hof, hkn, hsz, hval⟩
    have K : W p l e room_1 s m #[Value.ref b] below meth c s₁.heap [] 0 0 (lw_Z below #[Value.ref b] s) (entryFrame m ([Value.ref b] : List Value).toArray 9) := by
      rw [hh0]
      exact whole_start l hflags hbd ⟨B.exec, B.bytes, B.returns, hml, hown, hts, hX, hbl, B.notSynchronized, hgv, htab0, (name_of_methodNamed B.named B.method).1⟩
    obtain ⟨t, a1, o, b1, b2, b3⟩ := K s₁ rfl X₀
    exact ⟨t, o, a1, b1, b2, b3⟩
theorem lw_pre_spec {args : Array Value} {s : State} (h : (Jvm.Cond.and given_1 narrow_1).before args s = true) (hr : rest_1_c.before args s = true) : ∃ (b : Addr) (xs : List Int32), lw_P b xs args s := by
  have hs := flat_of_before _ h
  have hq := flat_of_before _ hr
  have hc : (Cond.count 1).before args s = true := hs _ (by decide +kernel)
  have harr : (Cond.arrayOf (.arg 0) .int).before args s = true := hs _ (by decide +kernel)
  have hle : (Cond.le (.length (.arg 0)) (.int 3072)).before args s = true := hs _ (by decide +kernel)
  have hlen : (Cond.isInt (.length (.arg 0))).before args s = true := hq _ (by decide +kernel)
  have hall : (Cond.all (.arg 0) (.isInt (.elem (.arg 0) (.index 0)))).before args s = true := hq _ (by decide +kernel)
  obtain ⟨b, xs, hb, hx⟩ := State.ints_of_pre rfl harr hlen hall
  have hsm : xs.length < 2 ^ 31 := hx.choose_spec.2.2.2
  have hev : (Term.length (.arg 0)).eval args s none [] s = some (.int xs.length.toInt32) := hx.length_eval hb
  have hv := Cond.le_ints hev (show (Term.int 3072).eval args s none [] s = some (.int 3072) from rfl)
  have hd : xs.length.toInt32 ≤ 3072 := by
    simpa [Cond.before, Cond.holds, hv] using hle
  have hN : xs.length ≤ 3072 := (Int32.ofNat_le_ofNat hsm (by decide)).mp (show Int32.ofNat xs.length ≤ Int32.ofNat 3072 from hd)
  exact ⟨b, xs, Cond.one_arg hc (show args[0]? = some (.ref b) from hb), hx, hN, h⟩
theorem lw_comes (l : Launch) (hflags : l.flags = flags0) : Comes l x (Jvm.Cond.code x code maxLocals ret :: tables_1) room_1 (fun tb e args s => Calls_1 tb e args s ∧ rest_1 tb e args s ∧ Pre_1 tb e args s)
    (fun _ _ args s o t => lw_Q args s o t) := by
  intro p e ha hc hk s m args below hf hfit hheap happ hpre
  obtain ⟨b, xs, hP⟩ := lw_pre_spec hpre.2.2 hpre.2.1
  obtain ⟨k, o, h1, h2, h3, hQ⟩ := lw_walk l hflags b xs p e ha hc hk s m args below hf ((Spec.applies_iff_loose hf).mp happ).1 hP trivial
  exact ⟨k, o, h1, h2, h3, hQ⟩
theorem lw_frame {s t : State} {o : Outcome} {args : Array Value} (h : State.butDraws s t lw_cs (fun t1 => Framed s o t1 [] 601024 7293034)) :
    State.butDraws s t [Jvm.Choice.named "NaN.bits"] (fun t1 => Framed s o t1 (fieldLocs frame_1_writes args s ++ arrayLocs frame_1_arrays args s ++ staticLocs frame_1_statics s) 601024 7293034) := h
theorem lw_limb (L : Cond) (hL : ∀ (args : Array Value) (s t : State), L.after args s (.returned (some (.int 1))) t = true) :
    ArmFor flags0 classFile x code maxLocals ret World_1 tables_1 room_1 Calls_1 rest_1 Pre_1
      (fun tb e a s o t => postC L tb e a s o t ∧ State.butDraws s t [Jvm.Choice.named "NaN.bits"] (fun t1 => Framed s o t1 (fieldLocs frame_1_writes a s ++ arrayLocs frame_1_arrays a s ++ staticLocs frame_1_statics s) 601024 7293034)) := by
  intro l hflags _ _ p e ha hc hk s m args below hf hfit hheap happ hpre
  obtain ⟨k, o, h1, h2, h3, rfl, hF⟩ := lw_comes l hflags p e ha hc hk s m args below hf hfit hheap happ hpre
  exact ⟨k, _, h1, h2, h3, hL args s _, lw_frame hF⟩
theorem i_vc : Claimed_1_1 ∧ Claimed_1_2 := ⟨lw_limb limb_1_1 (fun args s t => by simp [limb_1_1, Cond.after, Cond.holds, Cond.value]), lw_limb limb_1_2 (fun args s t => Cond.after_iff.mpr (by
  first | (rw [show limb_1_2 = Cond.eq .result (.int 1) from rfl, Cond.eq_ints (x := 1) (y := 1) rfl rfl]; simp; done) | (simp [limb_1_2, Cond.value, Term.eval]; done)))⟩
