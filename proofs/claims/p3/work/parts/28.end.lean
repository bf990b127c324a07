section LWZ
theorem lwG132 : ∀ k, k < 132 → lwGr k = 300 + k := by decide +kernel
variable {f : Nat → Int32}
def lwC_0 : List (Nat × Nat × Ctr) := [(1, 13, c_1), (3, 215, c_3), (9, 214, c_9), (431, 31, c_431), (432, 220, c_432), (440, 31, c_440), (451, 220, c_451), (453, 31, c_453), (454, 220, c_454), (455, 15, c_455), (456, 218, c_456), (457, 16, c_457), (458, 219, c_458), (459, 17, c_459), (460, 217, c_460), (461, 18, c_461), (463, 246, c_463), (464, 19, c_464), (465, 248, c_465), (466, 20, c_466), (467, 249, c_467), (468, 21, c_468), (469, 281, c_469), (473, 74, c_473), (477, 250, c_477)]
def lwC_1 : List (Nat × Nat × Ctr) := [(480, 78, c_480), (483, 253, c_483), (485, 81, c_485), (486, 256, c_486), (488, 83, c_488), (489, 257, c_489), (491, 85, c_491), (492, 258, c_492), (494, 87, c_494), (495, 259, c_495), (497, 89, c_497), (498, 260, c_498), (500, 91, c_500), (501, 261, c_501), (503, 93, c_503), (504, 262, c_504), (506, 95, c_506), (507, 263, c_507), (511, 97, c_511), (513, 264, c_513), (516, 101, c_516), (518, 266, c_518), (525, 104, c_525), (532, 268, c_532), (534, 111, c_534)]
def lwC_2 : List (Nat × Nat × Ctr) := [(535, 282, c_535), (538, 113, c_538), (539, 283, c_539), (541, 116, c_541), (543, 274, c_543), (545, 118, c_545), (546, 276, c_546), (548, 120, c_548), (549, 277, c_549), (553, 122, c_553), (556, 284, c_556), (559, 126, c_559), (561, 287, c_561), (565, 129, c_565), (568, 278, c_568), (581, 133, c_581), (592, 293, c_592), (594, 146, c_594), (595, 303, c_595), (597, 148, c_597), (598, 304, c_598), (600, 150, c_600), (601, 305, c_601), (603, 152, c_603), (604, 306, c_604)]
def lwC_3 : List (Nat × Nat × Ctr) := [(605, 22, c_605), (606, 307, c_606), (607, 23, c_607), (609, 308, c_609), (610, 24, c_610), (611, 310, c_611), (612, 25, c_612), (613, 311, c_613), (614, 26, c_614), (615, 312, c_615), (616, 27, c_616), (617, 313, c_617), (618, 28, c_618), (619, 314, c_619), (620, 29, c_620), (621, 315, c_621), (623, 154, c_623), (624, 316, c_624), (638, 164, c_638), (659, 317, c_659), (661, 178, c_661), (662, 329, c_662), (664, 180, c_664), (665, 330, c_665), (667, 182, c_667)]
def lwC_4 : List (Nat × Nat × Ctr) := [(668, 331, c_668), (670, 184, c_670), (671, 332, c_671), (675, 186, c_675), (676, 333, c_676), (680, 190, c_680), (689, 334, c_689), (691, 194, c_691), (693, 336, c_693), (695, 196, c_695), (697, 338, c_697), (699, 198, c_699), (701, 339, c_701), (703, 200, c_703), (705, 340, c_705), (707, 202, c_707), (709, 341, c_709), (711, 204, c_711), (713, 342, c_713), (716, 206, c_716), (718, 343, c_718), (719, 30, c_719), (720, 345, c_720), (722, 209, c_722), (724, 346, c_724)]
def lwC_5 : List (Nat × Nat × Ctr) := [(726, 211, c_726), (728, 347, c_728), (731, 156, c_731), (734, 289, c_734), (845, 156, c_845), (847, 156, c_847), (851, 156, c_851), (853, 156, c_853), (857, 156, c_857), (859, 156, c_859), (863, 156, c_863), (865, 156, c_865), (869, 156, c_869), (871, 156, c_871), (875, 156, c_875), (877, 156, c_877), (881, 156, c_881), (885, 162, c_885), (886, 292, c_886), (890, 162, c_890), (894, 162, c_894), (898, 162, c_898), (902, 162, c_902), (906, 162, c_906), (910, 162, c_910)]
set_option maxRecDepth 100000 in
theorem lwCL_eq : lwCL = lwC_0 ++ (lwC_1 ++ (lwC_2 ++ (lwC_3 ++ (lwC_4 ++ (lwC_5))))) := rfl
theorem lwK_0 : ∀ q ∈ lwC_0, q.2.2.1.2.1 = [] ∧ ctrOK (PRd lwGr lwC 700 f) lwGr rgs (wpM mDf mt 1999) q.2.1 q.2.2 := by
  unfold lwC_0
  simp only [List.forall_mem_cons]
  exact ⟨⟨rfl, k_1 lwU lwG132 lwN (by omega)⟩, ⟨rfl, k_3 lwU lwG132 lwN (by omega)⟩, ⟨rfl, k_9 lwU lwG132 lwN (by omega)⟩, ⟨rfl, k_431 lwU lwG132 lwN (by omega)⟩, ⟨rfl, k_432 lwU lwG132 lwN (by omega)⟩, ⟨rfl, k_440 lwU lwG132 lwN (Nat.le_refl 700) (by omega)⟩, ⟨rfl, k_451 lwU lwG132 lwN (Nat.le_refl 700) (by omega)⟩, ⟨rfl, k_453 lwU lwG132 lwN (by omega)⟩, ⟨rfl, k_454 lwU lwG132 lwN (by omega)⟩, ⟨rfl, k_455 lwU lwG132 lwN (by omega)⟩, ⟨rfl, k_456 lwU lwG132 lwN (by omega)⟩, ⟨rfl, k_457 lwU lwG132 lwN (by omega)⟩, ⟨rfl, k_458 lwU lwG132 lwN (by omega)⟩, ⟨rfl, k_459 lwU lwG132 lwN (by omega)⟩, ⟨rfl, k_460 lwU lwG132 lwN (by omega)⟩, ⟨rfl, k_461 lwU lwG132 lwN (by omega)⟩, ⟨rfl, k_463 lwU lwG132 lwN (by omega)⟩, ⟨rfl, k_464 lwU lwG132 lwN (by omega)⟩, ⟨rfl, k_465 lwU lwG132 lwN (by omega)⟩, ⟨rfl, k_466 lwU lwG132 lwN (by omega)⟩, ⟨rfl, k_467 lwU lwG132 lwN (by omega)⟩, ⟨rfl, k_468 lwU lwG132 lwN (by omega)⟩, ⟨rfl, k_469 lwU lwG132 lwN (by omega)⟩, ⟨rfl, k_473 lwU lwG132 lwN (by omega)⟩, ⟨rfl, k_477 lwU lwG132 lwN (by omega)⟩, fun _ h => absurd h List.not_mem_nil⟩
theorem lwK_1 : ∀ q ∈ lwC_1, q.2.2.1.2.1 = [] ∧ ctrOK (PRd lwGr lwC 700 f) lwGr rgs (wpM mDf mt 1999) q.2.1 q.2.2 := by
  unfold lwC_1
  simp only [List.forall_mem_cons]
  exact ⟨⟨rfl, k_480 lwU lwG132 lwN (by omega)⟩, ⟨rfl, k_483 lwU lwG132 lwN (by omega)⟩, ⟨rfl, k_485 lwU lwG132 lwN (by omega)⟩, ⟨rfl, k_486 lwU lwG132 lwN (by omega)⟩, ⟨rfl, k_488 lwU lwG132 lwN (by omega)⟩, ⟨rfl, k_489 lwU lwG132 lwN (by omega)⟩, ⟨rfl, k_491 lwU lwG132 lwN (by omega)⟩, ⟨rfl, k_492 lwU lwG132 lwN (by omega)⟩, ⟨rfl, k_494 lwU lwG132 lwN (by omega)⟩, ⟨rfl, k_495 lwU lwG132 lwN (by omega)⟩, ⟨rfl, k_497 lwU lwG132 lwN (by omega)⟩, ⟨rfl, k_498 lwU lwG132 lwN (by omega)⟩, ⟨rfl, k_500 lwU lwG132 lwN (by omega)⟩, ⟨rfl, k_501 lwU lwG132 lwN (by omega)⟩, ⟨rfl, k_503 lwU lwG132 lwN (by omega)⟩, ⟨rfl, k_504 lwU lwG132 lwN (by omega)⟩, ⟨rfl, k_506 lwU lwG132 lwN (by omega)⟩, ⟨rfl, k_507 lwU lwG132 lwN (by omega)⟩, ⟨rfl, k_511 lwU lwG132 lwN (by omega)⟩, ⟨rfl, k_513 lwU lwG132 lwN (by omega)⟩, ⟨rfl, k_516 lwU lwG132 lwN (by omega)⟩, ⟨rfl, k_518 lwU lwG132 lwN (by omega)⟩, ⟨rfl, k_525 lwU lwG132 lwN (by omega)⟩, ⟨rfl, k_532 lwU lwG132 lwN (Nat.le_refl 700) (by omega)⟩, ⟨rfl, k_534 lwU lwG132 lwN (by omega)⟩, fun _ h => absurd h List.not_mem_nil⟩
theorem lwK_2 : ∀ q ∈ lwC_2, q.2.2.1.2.1 = [] ∧ ctrOK (PRd lwGr lwC 700 f) lwGr rgs (wpM mDf mt 1999) q.2.1 q.2.2 := by
  unfold lwC_2
  simp only [List.forall_mem_cons]
  exact ⟨⟨rfl, k_535 lwU lwG132 lwN (Nat.le_refl 700) (by omega)⟩, ⟨rfl, k_538 lwU lwG132 lwN (by omega)⟩, ⟨rfl, k_539 lwU lwG132 lwN (by omega)⟩, ⟨rfl, k_541 lwU lwG132 lwN (by omega)⟩, ⟨rfl, k_543 lwU lwG132 lwN (by omega)⟩, ⟨rfl, k_545 lwU lwG132 lwN (by omega)⟩, ⟨rfl, k_546 lwU lwG132 lwN (by omega)⟩, ⟨rfl, k_548 lwU lwG132 lwN (by omega)⟩, ⟨rfl, k_549 lwU lwG132 lwN (by omega)⟩, ⟨rfl, k_553 lwU lwG132 lwN (by omega)⟩, ⟨rfl, k_556 lwU lwG132 lwN (by omega)⟩, ⟨rfl, k_559 lwU lwG132 lwN (by omega)⟩, ⟨rfl, k_561 lwU lwG132 lwN (by omega)⟩, ⟨rfl, k_565 lwU lwG132 lwN (by omega)⟩, ⟨rfl, k_568 lwU lwG132 lwN (by omega)⟩, ⟨rfl, k_581 lwU lwG132 lwN (by omega)⟩, ⟨rfl, k_592 lwU lwG132 lwN (Nat.le_refl 700) (by omega)⟩, ⟨rfl, k_594 lwU lwG132 lwN (by omega)⟩, ⟨rfl, k_595 lwU lwG132 lwN (Nat.le_refl 700) (by omega)⟩, ⟨rfl, k_597 lwU lwG132 lwN (by omega)⟩, ⟨rfl, k_598 lwU lwG132 lwN (Nat.le_refl 700) (by omega)⟩, ⟨rfl, k_600 lwU lwG132 lwN (by omega)⟩, ⟨rfl, k_601 lwU lwG132 lwN (Nat.le_refl 700) (by omega)⟩, ⟨rfl, k_603 lwU lwG132 lwN (by omega)⟩, ⟨rfl, k_604 lwU lwG132 lwN (by omega)⟩, fun _ h => absurd h List.not_mem_nil⟩
theorem lwK_3 : ∀ q ∈ lwC_3, q.2.2.1.2.1 = [] ∧ ctrOK (PRd lwGr lwC 700 f) lwGr rgs (wpM mDf mt 1999) q.2.1 q.2.2 := by
  unfold lwC_3
  simp only [List.forall_mem_cons]
  exact ⟨⟨rfl, k_605 lwU lwG132 lwN (by omega)⟩, ⟨rfl, k_606 lwU lwG132 lwN (by omega)⟩, ⟨rfl, k_607 lwU lwG132 lwN (by omega)⟩, ⟨rfl, k_609 lwU lwG132 lwN (by omega)⟩, ⟨rfl, k_610 lwU lwG132 lwN (by omega)⟩, ⟨rfl, k_611 lwU lwG132 lwN (by omega)⟩, ⟨rfl, k_612 lwU lwG132 lwN (by omega)⟩, ⟨rfl, k_613 lwU lwG132 lwN (by omega)⟩, ⟨rfl, k_614 lwU lwG132 lwN (by omega)⟩, ⟨rfl, k_615 lwU lwG132 lwN (by omega)⟩, ⟨rfl, k_616 lwU lwG132 lwN (by omega)⟩, ⟨rfl, k_617 lwU lwG132 lwN (by omega)⟩, ⟨rfl, k_618 lwU lwG132 lwN (by omega)⟩, ⟨rfl, k_619 lwU lwG132 lwN (by omega)⟩, ⟨rfl, k_620 lwU lwG132 lwN (by omega)⟩, ⟨rfl, k_621 lwU lwG132 lwN (by omega)⟩, ⟨rfl, k_623 lwU lwG132 lwN (by omega)⟩, ⟨rfl, k_624 lwU lwG132 lwN (by omega)⟩, ⟨rfl, k_638 lwU lwG132 lwN (by omega)⟩, ⟨rfl, k_659 lwU lwG132 lwN (Nat.le_refl 700) (by omega)⟩, ⟨rfl, k_661 lwU lwG132 lwN (by omega)⟩, ⟨rfl, k_662 lwU lwG132 lwN (Nat.le_refl 700) (by omega)⟩, ⟨rfl, k_664 lwU lwG132 lwN (by omega)⟩, ⟨rfl, k_665 lwU lwG132 lwN (Nat.le_refl 700) (by omega)⟩, ⟨rfl, k_667 lwU lwG132 lwN (by omega)⟩, fun _ h => absurd h List.not_mem_nil⟩
theorem lwK_4 : ∀ q ∈ lwC_4, q.2.2.1.2.1 = [] ∧ ctrOK (PRd lwGr lwC 700 f) lwGr rgs (wpM mDf mt 1999) q.2.1 q.2.2 := by
  unfold lwC_4
  simp only [List.forall_mem_cons]
  exact ⟨⟨rfl, k_668 lwU lwG132 lwN (Nat.le_refl 700) (by omega)⟩, ⟨rfl, k_670 lwU lwG132 lwN (by omega)⟩, ⟨rfl, k_671 lwU lwG132 lwN (Nat.le_refl 700) (by omega)⟩, ⟨rfl, k_675 lwU lwG132 lwN (by omega)⟩, ⟨rfl, k_676 lwU lwG132 lwN (Nat.le_refl 700) (by omega)⟩, ⟨rfl, k_680 lwU lwG132 lwN (by omega)⟩, ⟨rfl, k_689 lwU lwG132 lwN (Nat.le_refl 700) (by omega)⟩, ⟨rfl, k_691 lwU lwG132 lwN (by omega)⟩, ⟨rfl, k_693 lwU lwG132 lwN (by omega)⟩, ⟨rfl, k_695 lwU lwG132 lwN (by omega)⟩, ⟨rfl, k_697 lwU lwG132 lwN (by omega)⟩, ⟨rfl, k_699 lwU lwG132 lwN (by omega)⟩, ⟨rfl, k_701 lwU lwG132 lwN (by omega)⟩, ⟨rfl, k_703 lwU lwG132 lwN (by omega)⟩, ⟨rfl, k_705 lwU lwG132 lwN (by omega)⟩, ⟨rfl, k_707 lwU lwG132 lwN (by omega)⟩, ⟨rfl, k_709 lwU lwG132 lwN (by omega)⟩, ⟨rfl, k_711 lwU lwG132 lwN (by omega)⟩, ⟨rfl, k_713 lwU lwG132 lwN (by omega)⟩, ⟨rfl, k_716 lwU lwG132 lwN (by omega)⟩, ⟨rfl, k_718 lwU lwG132 lwN (by omega)⟩, ⟨rfl, k_719 lwU lwG132 lwN (by omega)⟩, ⟨rfl, k_720 lwU lwG132 lwN (by omega)⟩, ⟨rfl, k_722 lwU lwG132 lwN (by omega)⟩, ⟨rfl, k_724 lwU lwG132 lwN (by omega)⟩, fun _ h => absurd h List.not_mem_nil⟩
theorem lwK_5 : ∀ q ∈ lwC_5, q.2.2.1.2.1 = [] ∧ ctrOK (PRd lwGr lwC 700 f) lwGr rgs (wpM mDf mt 1999) q.2.1 q.2.2 := by
  unfold lwC_5
  simp only [List.forall_mem_cons]
  exact ⟨⟨rfl, k_726 lwU lwG132 lwN (by omega)⟩, ⟨rfl, k_728 lwU lwG132 lwN (by omega)⟩, ⟨rfl, k_731 lwU lwG132 lwN (by omega)⟩, ⟨rfl, k_734 lwU lwG132 lwN (by omega)⟩, ⟨rfl, k_845 lwU lwG132 lwN (by omega)⟩, ⟨rfl, k_847 lwU lwG132 lwN (by omega)⟩, ⟨rfl, k_851 lwU lwG132 lwN (by omega)⟩, ⟨rfl, k_853 lwU lwG132 lwN (by omega)⟩, ⟨rfl, k_857 lwU lwG132 lwN (by omega)⟩, ⟨rfl, k_859 lwU lwG132 lwN (by omega)⟩, ⟨rfl, k_863 lwU lwG132 lwN (by omega)⟩, ⟨rfl, k_865 lwU lwG132 lwN (by omega)⟩, ⟨rfl, k_869 lwU lwG132 lwN (by omega)⟩, ⟨rfl, k_871 lwU lwG132 lwN (by omega)⟩, ⟨rfl, k_875 lwU lwG132 lwN (by omega)⟩, ⟨rfl, k_877 lwU lwG132 lwN (by omega)⟩, ⟨rfl, k_881 lwU lwG132 lwN (by omega)⟩, ⟨rfl, k_885 lwU lwG132 lwN (by omega)⟩, ⟨rfl, k_886 lwU lwG132 lwN (by omega)⟩, ⟨rfl, k_890 lwU lwG132 lwN (by omega)⟩, ⟨rfl, k_894 lwU lwG132 lwN (by omega)⟩, ⟨rfl, k_898 lwU lwG132 lwN (by omega)⟩, ⟨rfl, k_902 lwU lwG132 lwN (by omega)⟩, ⟨rfl, k_906 lwU lwG132 lwN (by omega)⟩, ⟨rfl, k_910 lwU lwG132 lwN (by omega)⟩, fun _ h => absurd h List.not_mem_nil⟩
theorem lwK : ∀ q ∈ lwCL, q.2.2.1.2.1 = [] ∧ ctrOK (PRd lwGr lwC 700 f) lwGr rgs (wpM mDf mt 1999) q.2.1 q.2.2 := by
  rw [lwCL_eq]
  exact List.forall_mem_append.mpr ⟨lwK_0, List.forall_mem_append.mpr ⟨lwK_1, List.forall_mem_append.mpr ⟨lwK_2, List.forall_mem_append.mpr ⟨lwK_3, List.forall_mem_append.mpr ⟨lwK_4, lwK_5⟩⟩⟩⟩⟩
theorem law_pure {L : Nat} (hL : L ≤ 3072) (f : Nat → Int32) : run (some (132, L, f)) mDf mt (wpM mDf mt 1999) m_law 1999 (2 ^ 40) 0 [(0, .ref 132)] [] h00 0 0 lwPost :=
  lw_go hL lwJ_ok fun lv h hT hI ⟨z0, h132⟩ n hn => by
    have h1 := lw_loop (D := 700) (d0 := 1999) lwU lwG65 lwGs7 (by omega) (by omega) h132 (lkCL_ok (P := fun y c => ctrOK (PRd lwGr lwC 700 f) lwGr rgs (wpM mDf mt 1999) y c) lwK) 512 lv h hI hT fr_rf n hn
    rw [show 657 + 66 * (512 - 512) = 657 from rfl, show 50952 + 12812 * (512 - 512) = 50952 from rfl] at h1
    exact run_mono (wpM_mono 1999) (fun e v h2 hp => ⟨hp.2.2.1, hp.2.2.2⟩) _ _ _ _ _ _ _ h1
end LWZ
theorem whole_start {p : Program} {e : Env} {s : State} {m : MethodId} {below : List Frame} {meth : Method} {c : Code} (l : Launch) (hflags : l.flags = flags0) {b L : Nat} {xs : Nat → Int32} (hL : L ≤ 3072) (C0 : lw_At p s m meth c b L xs) : W p l e room_1 s m #[Value.ref b] below meth c s.heap [] 0 0 (lw_Z below #[Value.ref b] s) (entryFrame m ([Value.ref b] : List Value).toArray 9) :=
  law_enter l hflags C0 (law_pure hL xs)
set_option maxHeartbeats 4000000 in
theorem lw_walk (l : Launch) (hflags : l.flags = flags0) (b : Addr) (xs : List Int32) : MetFree l x (headSpec (Jvm.Cond.code x code maxLocals ret :: tables_1) room_1) (lw_P b xs) (fun _ _ _ _ _ => True) lw_Q := by
  refine MetFree.of_bodyS (code := code) (maxLocals := maxLocals) (ret := ret) (by decide) ?_ ?_
  · intro args s m h hn
    obtain ⟨meth, c, h1, h2, h3, h4, h5, h6, -, -⟩ := Cond.code_spec hn (atoms_spec (ws := Jvm.Cond.code x code maxLocals ret :: tables_1) h _ List.mem_cons_self)
    exact ⟨meth, c, h1, h2, h3, h4, h5, h6⟩
  · intro p e s m args below meth c s₁ B hml0 hP _
    obtain ⟨rfl, hx, hbd, hgv⟩ := hP
    obtain ⟨scr, harrAt, hlist, hof, hsmall⟩ := hx
    obtain ⟨hcb, hkn, -, -⟩ := State.arrayAt?_spec harrAt
    have hown : s.vm.findClass R_law = some m.cls := findClass_of_methodNamed B.named
    have hts0 : ∀ c ∈ (Jvm.Cond.code x code maxLocals ret :: tables_1), c.before #[Value.ref b] s = true := atoms_spec (ws := Jvm.Cond.code x code maxLocals ret :: tables_1) B.pre
    have hts : ∀ w ∈ lw_tbl, w.before #[Value.ref b] s = true := k2_hts_sels lw_privs (fun w hw => hts0 w (List.mem_cons_of_mem _ hw)) lw_privs_ok
    have hml : c.maxLocals = 9 := B.maxLocals_eq (hts0 _ List.mem_cons_self)
    have htab0 : c.exceptionTable.toList = [] := by
      obtain ⟨meth9, c9, h1, h2, -, -, -, -, h7, -⟩ := Cond.code_spec B.named (hts0 _ List.mem_cons_self)
      cases Option.some.inj (h1.symm.trans B.method)
      cases Option.some.inj (h2.symm.trans (Stand.of_body B).code)
      rw [Array.isEmpty_iff.mp h7]
    have X₀ : Stand p l e room_1 s m #[Value.ref b] below meth c s₁ [] 0 0 := Stand.of_body B
    have hh0 : s₁.heap = s.heap := by rw [B.state]; rfl
    have hsz : scr.slots.size = xs.length := by rw [← Array.length_toList, hlist, List.length_map]
    have hval : ∀ j : Nat, j < xs.length → scr.slots[j]? = some (.int (xs.getD j 0)) := fun j hj => by
      rw [← Array.getElem?_toList, hlist]
      simp [hj]
    have hbl : b < s.heap.size := (Array.getElem?_eq_some_iff.mp hcb).1
    have hX : va_X b xs.length (fun j => xs.getD j 0) s s.heap := ⟨scr, hcb, hof, hkn, hsz, hval⟩
    have K : W p l e room_1 s m #[Value.ref b] below meth c s₁.heap [] 0 0 (lw_Z below #[Value.ref b] s) (entryFrame m ([Value.ref b] : List Value).toArray 9) := by
      rw [hh0]
      exact whole_start l hflags hbd ⟨B.exec, B.bytes, B.returns, hml, hown, hts, hX, hbl, B.notSynchronized, hgv, htab0, (name_of_methodNamed B.named B.method).1⟩
    obtain ⟨t, a1, o, b1, b2, b3⟩ := K s₁ rfl X₀
    exact ⟨t, o, a1, b1, b2, b3⟩
theorem lw_pre_spec {args : Array Value} {s : State} (h : (Jvm.Cond.and given_1 narrow_1).before args s = true) (hr : rest_1_c.before args s = true) : ∃ (b : Addr) (xs : List Int32), lw_P b xs args s := by
  have hs := flat_of_before _ h
  have hq := flat_of_before _ hr
  have hc : (Cond.count 1).before args s = true := hs _ (by decide +kernel)
  have harr : (Cond.arrayOf (.arg 0) .int).before args s = true := hs _ (by decide +kernel)
  have hle : (Cond.le (.length (.arg 0)) (.int 3072)).before args s = true := hs _ (by decide +kernel)
  have hlen : (Cond.isInt (.length (.arg 0))).before args s = true := hq _ (by decide +kernel)
  have hall : (Cond.all (.arg 0) (.isInt (.elem (.arg 0) (.index 0)))).before args s = true := hq _ (by decide +kernel)
  obtain ⟨b, xs, hb, hx⟩ := State.ints_of_pre rfl harr hlen hall
  have hsm : xs.length < 2 ^ 31 := hx.choose_spec.2.2.2
  have hev : (Term.length (.arg 0)).eval args s none [] s = some (.int xs.length.toInt32) := hx.length_eval hb
  have hv := Cond.le_ints hev (show (Term.int 3072).eval args s none [] s = some (.int 3072) from rfl)
  have hd : xs.length.toInt32 ≤ 3072 := by
    simpa [Cond.before, Cond.holds, hv] using hle
  have hN : xs.length ≤ 3072 := (Int32.ofNat_le_ofNat hsm (by decide)).mp (show Int32.ofNat xs.length ≤ Int32.ofNat 3072 from hd)
  exact ⟨b, xs, Cond.one_arg hc (show args[0]? = some (.ref b) from hb), hx, hN, h⟩
theorem lw_comes (l : Launch) (hflags : l.flags = flags0) : Comes l x (Jvm.Cond.code x code maxLocals ret :: tables_1) room_1 (fun tb e args s => Calls_1 tb e args s ∧ rest_1 tb e args s ∧ Pre_1 tb e args s)
    (fun _ _ args s o t => lw_Q args s o t) := by
  intro p e ha hc hk s m args below hf hfit hheap happ hpre
  obtain ⟨b, xs, hP⟩ := lw_pre_spec hpre.2.2 hpre.2.1
  obtain ⟨k, o, h1, h2, h3, hQ⟩ := lw_walk l hflags b xs p e ha hc hk s m args below hf ((Spec.applies_iff_loose hf).mp happ).1 hP trivial
  exact ⟨k, o, h1, h2, h3, hQ⟩
theorem lw_frame {s t : State} {o : Outcome} {args : Array Value} (h : State.butDraws s t lw_cs (fun t1 => Framed s o t1 [] 601024 7293034)) :
    State.butDraws s t [Jvm.Choice.named "NaN.bits"] (fun t1 => Framed s o t1 (fieldLocs frame_1_writes args s ++ arrayLocs frame_1_arrays args s ++ staticLocs frame_1_statics s) 601024 7293034) := h
theorem lw_limb (L : Cond) (hL : ∀ (args : Array Value) (s t : State), L.after args s (.returned (some (.int 1))) t = true) :
    ArmFor flags0 classFile x code maxLocals ret World_1 tables_1 room_1 Calls_1 rest_1 Pre_1
      (fun tb e a s o t => postC L tb e a s o t ∧ State.butDraws s t [Jvm.Choice.named "NaN.bits"] (fun t1 => Framed s o t1 (fieldLocs frame_1_writes a s ++ arrayLocs frame_1_arrays a s ++ staticLocs frame_1_statics s) 601024 7293034)) := by
  intro l hflags _ _ p e ha hc hk s m args below hf hfit hheap happ hpre
  obtain ⟨k, o, h1, h2, h3, rfl, hF⟩ := lw_comes l hflags p e ha hc hk s m args below hf hfit hheap happ hpre
  exact ⟨k, _, h1, h2, h3, hL args s _, lw_frame hF⟩
theorem i_vc : Claimed_1_1 ∧ Claimed_1_2 := ⟨lw_limb limb_1_1 (fun args s t => by simp [limb_1_1, Cond.after, Cond.holds, Cond.value]), lw_limb limb_1_2 (fun args s t => Cond.after_iff.mpr (by
  first | (rw [show limb_1_2 = Cond.eq .result (.int 1) from rfl, Cond.eq_ints (x := 1) (y := 1) rfl rfl]; simp; done) | (simp [limb_1_2, Cond.value, Term.eval]; done)))⟩
