section
variable {G C : Nat → Nat} {xs : Nat → Int32}
theorem k_779 {D d : Nat} (hU : uqG G C) (hG : ∀ k, k < 132 → G k = 300 + k) (hN : ∀ x g, sbN x = some g → G x = g) (hd : 9 ≤ d) : ctrOK (PRd G C D xs) G rgs (wpM mDf mt d) 188 c_779 := by
  obtain ⟨e, rfl⟩ : ∃ e, d = e + 1 := ⟨d - 1, by omega⟩
  exact ver_ok (PRd_k hU) hG (by omega) rfl (rLLh_ok hU) (lkCL_ok (by
    simp only [List.forall_mem_cons]
    exact ⟨⟨rfl, k_777 hU hG hN (by omega)⟩, ⟨rfl, k_778 hU hG hN (by omega)⟩, fun _ h => absurd h List.not_mem_nil⟩)) (fun _ _ h => by cases h) v_779
theorem k_780 {D d : Nat} (hU : uqG G C) (hG : ∀ k, k < 132 → G k = 300 + k) (hN : ∀ x g, sbN x = some g → G x = g) (hd : 10 ≤ d) : ctrOK (PRd G C D xs) G rgs (wpM mDf mt d) 197 c_780 := by
  obtain ⟨e, rfl⟩ : ∃ e, d = e + 1 := ⟨d - 1, by omega⟩
  exact ver_ok (PRd_k hU) hG (by omega) rfl (rLLh_ok hU) (lkCL_ok (by
    simp only [List.forall_mem_cons]
    exact ⟨⟨rfl, k_710 hU hG hN (by omega)⟩, ⟨rfl, k_732 hU hG hN (by omega)⟩, ⟨rfl, k_777 hU hG hN (by omega)⟩, ⟨rfl, k_779 hU hG hN (by omega)⟩, fun _ h => absurd h List.not_mem_nil⟩)) (fun _ _ h => by cases h) v_780
theorem k_781 {D d : Nat} (hU : uqG G C) (hG : ∀ k, k < 132 → G k = 300 + k) (hN : ∀ x g, sbN x = some g → G x = g) (hd : 11 ≤ d) : ctrOK (PRd G C D xs) G rgs (wpM mDf mt d) 196 c_781 := by
  obtain ⟨e, rfl⟩ : ∃ e, d = e + 1 := ⟨d - 1, by omega⟩
  exact ver_ok (PRd_k hU) hG (by omega) rfl (rLLh_ok hU) (lkCL_ok (by
    simp only [List.forall_mem_cons]
    exact ⟨⟨rfl, k_780 hU hG hN (by omega)⟩, fun _ h => absurd h List.not_mem_nil⟩)) (fun _ _ h => by cases h) v_781
theorem k_782 {D d : Nat} (hU : uqG G C) (hG : ∀ k, k < 132 → G k = 300 + k) (hN : ∀ x g, sbN x = some g → G x = g) (hd : 8 ≤ d) : ctrOK (PRd G C D xs) G rgs (wpM mDf mt d) 254 c_782 := by
  obtain ⟨e, rfl⟩ : ∃ e, d = e + 1 := ⟨d - 1, by omega⟩
  exact ver_ok (PRd_k hU) hG (by omega) rfl (rLLh_ok hU) (lkCL_ok (by
    simp only [List.forall_mem_cons]
    exact ⟨⟨rfl, k_488 hU hG hN (by omega)⟩, ⟨rfl, k_489 hU hG hN (by omega)⟩, fun _ h => absurd h List.not_mem_nil⟩)) (fun _ _ h => by cases h) v_782
theorem k_783 {D d : Nat} (hU : uqG G C) (hG : ∀ k, k < 132 → G k = 300 + k) (hN : ∀ x g, sbN x = some g → G x = g) (hd : 7 ≤ d) : ctrOK (PRd G C D xs) G rgs (wpM mDf mt d) 287 c_783 := by
  obtain ⟨e, rfl⟩ : ∃ e, d = e + 1 := ⟨d - 1, by omega⟩
  exact ver_ok (PRd_k hU) hG (by omega) rfl (rLLh_ok hU) (lkCL_ok (by
    simp only [List.forall_mem_cons]
    exact ⟨⟨rfl, k_488 hU hG hN (by omega)⟩, fun _ h => absurd h List.not_mem_nil⟩)) (fun _ _ h => by cases h) v_783
theorem k_784 {D d : Nat} (hU : uqG G C) (hG : ∀ k, k < 132 → G k = 300 + k) (hN : ∀ x g, sbN x = some g → G x = g) (hd : 8 ≤ d) : ctrOK (PRd G C D xs) G rgs (wpM mDf mt d) 336 c_784 := by
  obtain ⟨e, rfl⟩ : ∃ e, d = e + 1 := ⟨d - 1, by omega⟩
  exact ver_ok (PRd_k hU) hG (by omega) rfl (rLLh_ok hU) (lkCL_ok (by
    simp only [List.forall_mem_cons]
    exact ⟨⟨rfl, k_738 hU hG hN (by omega)⟩, fun _ h => absurd h List.not_mem_nil⟩)) (fun _ _ h => by cases h) v_784
theorem k_785 {D d : Nat} (hU : uqG G C) (hG : ∀ k, k < 132 → G k = 300 + k) (hN : ∀ x g, sbN x = some g → G x = g) (hd : 9 ≤ d) : ctrOK (PRd G C D xs) G rgs (wpM mDf mt d) 337 c_785 := by
  obtain ⟨e, rfl⟩ : ∃ e, d = e + 1 := ⟨d - 1, by omega⟩
  exact ver_ok (PRd_k hU) hG (by omega) rfl (rLLh_ok hU) (lkCL_ok (by
    simp only [List.forall_mem_cons]
    exact ⟨⟨rfl, k_488 hU hG hN (by omega)⟩, ⟨rfl, k_490 hU hG hN (by omega)⟩, ⟨rfl, k_782 hU hG hN (by omega)⟩, ⟨rfl, k_783 hU hG hN (by omega)⟩, ⟨rfl, k_784 hU hG hN (by omega)⟩, fun _ h => absurd h List.not_mem_nil⟩)) (fun _ _ h => by cases h) v_785
theorem k_786 {D d : Nat} (hU : uqG G C) (hG : ∀ k, k < 132 → G k = 300 + k) (hN : ∀ x g, sbN x = some g → G x = g) (hd : 9 ≤ d) : ctrOK (PRd G C D xs) G rgs (wpM mDf mt d) 188 c_786 := by
  obtain ⟨e, rfl⟩ : ∃ e, d = e + 1 := ⟨d - 1, by omega⟩
  exact ver_ok (PRd_k hU) hG (by omega) rfl (rLLh_ok hU) (lkCL_ok (by
    simp only [List.forall_mem_cons]
    exact ⟨⟨rfl, k_777 hU hG hN (by omega)⟩, ⟨rfl, k_778 hU hG hN (by omega)⟩, fun _ h => absurd h List.not_mem_nil⟩)) (fun _ _ h => by cases h) v_786
theorem k_787 {D d : Nat} (hU : uqG G C) (hG : ∀ k, k < 132 → G k = 300 + k) (hN : ∀ x g, sbN x = some g → G x = g) (hd : 10 ≤ d) : ctrOK (PRd G C D xs) G rgs (wpM mDf mt d) 197 c_787 := by
  obtain ⟨e, rfl⟩ : ∃ e, d = e + 1 := ⟨d - 1, by omega⟩
  exact ver_ok (PRd_k hU) hG (by omega) rfl (rLLh_ok hU) (lkCL_ok (by
    simp only [List.forall_mem_cons]
    exact ⟨⟨rfl, k_786 hU hG hN (by omega)⟩, fun _ h => absurd h List.not_mem_nil⟩)) (fun _ _ h => by cases h) v_787
theorem k_788 {D d : Nat} (hU : uqG G C) (hG : ∀ k, k < 132 → G k = 300 + k) (hN : ∀ x g, sbN x = some g → G x = g) (hd : 11 ≤ d) : ctrOK (PRd G C D xs) G rgs (wpM mDf mt d) 196 c_788 := by
  obtain ⟨e, rfl⟩ : ∃ e, d = e + 1 := ⟨d - 1, by omega⟩
  exact ver_ok (PRd_k hU) hG (by omega) rfl (rLLh_ok hU) (lkCL_ok (by
    simp only [List.forall_mem_cons]
    exact ⟨⟨rfl, k_787 hU hG hN (by omega)⟩, fun _ h => absurd h List.not_mem_nil⟩)) (fun _ _ h => by cases h) v_788
theorem k_789 {D d : Nat} (hU : uqG G C) (hG : ∀ k, k < 132 → G k = 300 + k) (hN : ∀ x g, sbN x = some g → G x = g) (hd : 9 ≤ d) : ctrOK (PRd G C D xs) G rgs (wpM mDf mt d) 337 c_789 := by
  obtain ⟨e, rfl⟩ : ∃ e, d = e + 1 := ⟨d - 1, by omega⟩
  exact ver_ok (PRd_k hU) hG (by omega) rfl (rLLh_ok hU) (lkCL_ok (by
    simp only [List.forall_mem_cons]
    exact ⟨⟨rfl, k_7 hU hG hN (by omega)⟩, ⟨rfl, k_490 hU hG hN (by omega)⟩, ⟨rfl, k_495 hU hG hN (by omega)⟩, ⟨rfl, k_782 hU hG hN (by omega)⟩, ⟨rfl, k_783 hU hG hN (by omega)⟩, fun _ h => absurd h List.not_mem_nil⟩)) (fun _ _ h => by cases h) v_789
theorem k_790 {D d : Nat} (hU : uqG G C) (hG : ∀ k, k < 132 → G k = 300 + k) (hN : ∀ x g, sbN x = some g → G x = g) (hd : 9 ≤ d) : ctrOK (PRd G C D xs) G rgs (wpM mDf mt d) 188 c_790 := by
  obtain ⟨e, rfl⟩ : ∃ e, d = e + 1 := ⟨d - 1, by omega⟩
  exact ver_ok (PRd_k hU) hG (by omega) rfl (rLLh_ok hU) (lkCL_ok (by
    simp only [List.forall_mem_cons]
    exact ⟨⟨rfl, k_777 hU hG hN (by omega)⟩, ⟨rfl, k_778 hU hG hN (by omega)⟩, fun _ h => absurd h List.not_mem_nil⟩)) (fun _ _ h => by cases h) v_790
theorem k_791 {D d : Nat} (hU : uqG G C) (hG : ∀ k, k < 132 → G k = 300 + k) (hN : ∀ x g, sbN x = some g → G x = g) (hd : 10 ≤ d) : ctrOK (PRd G C D xs) G rgs (wpM mDf mt d) 197 c_791 := by
  obtain ⟨e, rfl⟩ : ∃ e, d = e + 1 := ⟨d - 1, by omega⟩
  exact ver_ok (PRd_k hU) hG (by omega) rfl (rLLh_ok hU) (lkCL_ok (by
    simp only [List.forall_mem_cons]
    exact ⟨⟨rfl, k_790 hU hG hN (by omega)⟩, fun _ h => absurd h List.not_mem_nil⟩)) (fun _ _ h => by cases h) v_791
theorem k_792 {D d : Nat} (hU : uqG G C) (hG : ∀ k, k < 132 → G k = 300 + k) (hN : ∀ x g, sbN x = some g → G x = g) (hd : 11 ≤ d) : ctrOK (PRd G C D xs) G rgs (wpM mDf mt d) 196 c_792 := by
  obtain ⟨e, rfl⟩ : ∃ e, d = e + 1 := ⟨d - 1, by omega⟩
  exact ver_ok (PRd_k hU) hG (by omega) rfl (rLLh_ok hU) (lkCL_ok (by
    simp only [List.forall_mem_cons]
    exact ⟨⟨rfl, k_791 hU hG hN (by omega)⟩, fun _ h => absurd h List.not_mem_nil⟩)) (fun _ _ h => by cases h) v_792
theorem k_793 {D d : Nat} (hU : uqG G C) (hG : ∀ k, k < 132 → G k = 300 + k) (hN : ∀ x g, sbN x = some g → G x = g) (hd : 9 ≤ d) : ctrOK (PRd G C D xs) G rgs (wpM mDf mt d) 337 c_793 := by
  obtain ⟨e, rfl⟩ : ∃ e, d = e + 1 := ⟨d - 1, by omega⟩
  exact ver_ok (PRd_k hU) hG (by omega) rfl (rLLh_ok hU) (lkCL_ok (by
    simp only [List.forall_mem_cons]
    exact ⟨⟨rfl, k_7 hU hG hN (by omega)⟩, ⟨rfl, k_490 hU hG hN (by omega)⟩, ⟨rfl, k_502 hU hG hN (by omega)⟩, ⟨rfl, k_782 hU hG hN (by omega)⟩, ⟨rfl, k_783 hU hG hN (by omega)⟩, fun _ h => absurd h List.not_mem_nil⟩)) (fun _ _ h => by cases h) v_793
theorem k_794 {D d : Nat} (hU : uqG G C) (hG : ∀ k, k < 132 → G k = 300 + k) (hN : ∀ x g, sbN x = some g → G x = g) (hd : 7 ≤ d) : ctrOK (PRd G C D xs) G rgs (wpM mDf mt d) 128 c_794 := by
  obtain ⟨e, rfl⟩ : ∃ e, d = e + 1 := ⟨d - 1, by omega⟩
  exact ver_ok (PRd_k hU) hG (by omega) rfl (rLLh_ok hU) (lkCL_ok (by
    simp only [List.forall_mem_cons]
    exact ⟨⟨rfl, k_484 hU hG hN (by omega)⟩, fun _ h => absurd h List.not_mem_nil⟩)) (fun _ _ h => by cases h) v_794
theorem k_795 {D d : Nat} (hU : uqG G C) (hG : ∀ k, k < 132 → G k = 300 + k) (hN : ∀ x g, sbN x = some g → G x = g) (hd : 9 ≤ d) : ctrOK (PRd G C D xs) G rgs (wpM mDf mt d) 188 c_795 := by
  obtain ⟨e, rfl⟩ : ∃ e, d = e + 1 := ⟨d - 1, by omega⟩
  exact ver_ok (PRd_k hU) hG (by omega) rfl (rLLh_ok hU) (lkCL_ok (by
    simp only [List.forall_mem_cons]
    exact ⟨⟨rfl, k_777 hU hG hN (by omega)⟩, ⟨rfl, k_794 hU hG hN (by omega)⟩, fun _ h => absurd h List.not_mem_nil⟩)) (fun _ _ h => by cases h) v_795
theorem k_796 {D d : Nat} (hU : uqG G C) (hG : ∀ k, k < 132 → G k = 300 + k) (hN : ∀ x g, sbN x = some g → G x = g) (hd : 10 ≤ d) : ctrOK (PRd G C D xs) G rgs (wpM mDf mt d) 197 c_796 := by
  obtain ⟨e, rfl⟩ : ∃ e, d = e + 1 := ⟨d - 1, by omega⟩
  exact ver_ok (PRd_k hU) hG (by omega) rfl (rLLh_ok hU) (lkCL_ok (by
    simp only [List.forall_mem_cons]
    exact ⟨⟨rfl, k_795 hU hG hN (by omega)⟩, fun _ h => absurd h List.not_mem_nil⟩)) (fun _ _ h => by cases h) v_796
theorem k_797 {D d : Nat} (hU : uqG G C) (hG : ∀ k, k < 132 → G k = 300 + k) (hN : ∀ x g, sbN x = some g → G x = g) (hd : 11 ≤ d) : ctrOK (PRd G C D xs) G rgs (wpM mDf mt d) 196 c_797 := by
  obtain ⟨e, rfl⟩ : ∃ e, d = e + 1 := ⟨d - 1, by omega⟩
  exact ver_ok (PRd_k hU) hG (by omega) rfl (rLLh_ok hU) (lkCL_ok (by
    simp only [List.forall_mem_cons]
    exact ⟨⟨rfl, k_796 hU hG hN (by omega)⟩, fun _ h => absurd h List.not_mem_nil⟩)) (fun _ _ h => by cases h) v_797
theorem k_798 {D d : Nat} (hU : uqG G C) (hG : ∀ k, k < 132 → G k = 300 + k) (hN : ∀ x g, sbN x = some g → G x = g) (hd : 7 ≤ d) : ctrOK (PRd G C D xs) G rgs (wpM mDf mt d) 287 c_798 := by
  obtain ⟨e, rfl⟩ : ∃ e, d = e + 1 := ⟨d - 1, by omega⟩
  exact ver_ok (PRd_k hU) hG (by omega) rfl (rLLh_ok hU) (lkCL_ok (by
    simp only [List.forall_mem_cons]
    exact ⟨⟨rfl, k_495 hU hG hN (by omega)⟩, fun _ h => absurd h List.not_mem_nil⟩)) (fun _ _ h => by cases h) v_798
theorem k_799 {D d : Nat} (hU : uqG G C) (hG : ∀ k, k < 132 → G k = 300 + k) (hN : ∀ x g, sbN x = some g → G x = g) (hd : 9 ≤ d) : ctrOK (PRd G C D xs) G rgs (wpM mDf mt d) 337 c_799 := by
  obtain ⟨e, rfl⟩ : ∃ e, d = e + 1 := ⟨d - 1, by omega⟩
  exact ver_ok (PRd_k hU) hG (by omega) rfl (rLLh_ok hU) (lkCL_ok (by
    simp only [List.forall_mem_cons]
    exact ⟨⟨rfl, k_497 hU hG hN (by omega)⟩, ⟨rfl, k_782 hU hG hN (by omega)⟩, ⟨rfl, k_798 hU hG hN (by omega)⟩, fun _ h => absurd h List.not_mem_nil⟩)) (fun _ _ h => by cases h) v_799
theorem k_800 {D d : Nat} (hU : uqG G C) (hG : ∀ k, k < 132 → G k = 300 + k) (hN : ∀ x g, sbN x = some g → G x = g) (hd : 7 ≤ d) : ctrOK (PRd G C D xs) G rgs (wpM mDf mt d) 128 c_800 := by
  obtain ⟨e, rfl⟩ : ∃ e, d = e + 1 := ⟨d - 1, by omega⟩
  exact ver_ok (PRd_k hU) hG (by omega) rfl (rLLh_ok hU) (lkCL_ok (by
    simp only [List.forall_mem_cons]
    exact ⟨⟨rfl, k_484 hU hG hN (by omega)⟩, fun _ h => absurd h List.not_mem_nil⟩)) (fun _ _ h => by cases h) v_800
theorem k_801 {D d : Nat} (hU : uqG G C) (hG : ∀ k, k < 132 → G k = 300 + k) (hN : ∀ x g, sbN x = some g → G x = g) (hd : 9 ≤ d) : ctrOK (PRd G C D xs) G rgs (wpM mDf mt d) 188 c_801 := by
  obtain ⟨e, rfl⟩ : ∃ e, d = e + 1 := ⟨d - 1, by omega⟩
  exact ver_ok (PRd_k hU) hG (by omega) rfl (rLLh_ok hU) (lkCL_ok (by
    simp only [List.forall_mem_cons]
    exact ⟨⟨rfl, k_777 hU hG hN (by omega)⟩, ⟨rfl, k_800 hU hG hN (by omega)⟩, fun _ h => absurd h List.not_mem_nil⟩)) (fun _ _ h => by cases h) v_801
theorem k_802 {D d : Nat} (hU : uqG G C) (hG : ∀ k, k < 132 → G k = 300 + k) (hN : ∀ x g, sbN x = some g → G x = g) (hd : 10 ≤ d) : ctrOK (PRd G C D xs) G rgs (wpM mDf mt d) 197 c_802 := by
  obtain ⟨e, rfl⟩ : ∃ e, d = e + 1 := ⟨d - 1, by omega⟩
  exact ver_ok (PRd_k hU) hG (by omega) rfl (rLLh_ok hU) (lkCL_ok (by
    simp only [List.forall_mem_cons]
    exact ⟨⟨rfl, k_801 hU hG hN (by omega)⟩, fun _ h => absurd h List.not_mem_nil⟩)) (fun _ _ h => by cases h) v_802
theorem k_803 {D d : Nat} (hU : uqG G C) (hG : ∀ k, k < 132 → G k = 300 + k) (hN : ∀ x g, sbN x = some g → G x = g) (hd : 11 ≤ d) : ctrOK (PRd G C D xs) G rgs (wpM mDf mt d) 196 c_803 := by
  obtain ⟨e, rfl⟩ : ∃ e, d = e + 1 := ⟨d - 1, by omega⟩
  exact ver_ok (PRd_k hU) hG (by omega) rfl (rLLh_ok hU) (lkCL_ok (by
    simp only [List.forall_mem_cons]
    exact ⟨⟨rfl, k_802 hU hG hN (by omega)⟩, fun _ h => absurd h List.not_mem_nil⟩)) (fun _ _ h => by cases h) v_803
theorem k_804 {D d : Nat} (hU : uqG G C) (hG : ∀ k, k < 132 → G k = 300 + k) (hN : ∀ x g, sbN x = some g → G x = g) (hd : 7 ≤ d) : ctrOK (PRd G C D xs) G rgs (wpM mDf mt d) 287 c_804 := by
  obtain ⟨e, rfl⟩ : ∃ e, d = e + 1 := ⟨d - 1, by omega⟩
  exact ver_ok (PRd_k hU) hG (by omega) rfl (rLLh_ok hU) (lkCL_ok (by
    simp only [List.forall_mem_cons]
    exact ⟨⟨rfl, k_502 hU hG hN (by omega)⟩, fun _ h => absurd h List.not_mem_nil⟩)) (fun _ _ h => by cases h) v_804
theorem k_805 {D d : Nat} (hU : uqG G C) (hG : ∀ k, k < 132 → G k = 300 + k) (hN : ∀ x g, sbN x = some g → G x = g) (hd : 9 ≤ d) : ctrOK (PRd G C D xs) G rgs (wpM mDf mt d) 337 c_805 := by
  obtain ⟨e, rfl⟩ : ∃ e, d = e + 1 := ⟨d - 1, by omega⟩
  exact ver_ok (PRd_k hU) hG (by omega) rfl (rLLh_ok hU) (lkCL_ok (by
    simp only [List.forall_mem_cons]
    exact ⟨⟨rfl, k_497 hU hG hN (by omega)⟩, ⟨rfl, k_782 hU hG hN (by omega)⟩, ⟨rfl, k_804 hU hG hN (by omega)⟩, fun _ h => absurd h List.not_mem_nil⟩)) (fun _ _ h => by cases h) v_805
theorem k_806 {D d : Nat} (hU : uqG G C) (hG : ∀ k, k < 132 → G k = 300 + k) (hN : ∀ x g, sbN x = some g → G x = g) (hd : 8 ≤ d) : ctrOK (PRd G C D xs) G rgs (wpM mDf mt d) 80 c_806 := by
  obtain ⟨e, rfl⟩ : ∃ e, d = e + 1 := ⟨d - 1, by omega⟩
  exact ver_ok (PRd_k hU) hG (by omega) rfl (rLLh_ok hU) (lkCL_ok (by
    simp only [List.forall_mem_cons]
    exact ⟨⟨rfl, k_776 hU hG hN (by omega)⟩, fun _ h => absurd h List.not_mem_nil⟩)) (fun _ _ h => by cases h) v_806
theorem k_807 {D d : Nat} (hU : uqG G C) (hG : ∀ k, k < 132 → G k = 300 + k) (hN : ∀ x g, sbN x = some g → G x = g) (hd : 9 ≤ d) : ctrOK (PRd G C D xs) G rgs (wpM mDf mt d) 188 c_807 := by
  obtain ⟨e, rfl⟩ : ∃ e, d = e + 1 := ⟨d - 1, by omega⟩
  exact ver_ok (PRd_k hU) hG (by omega) rfl (rLLh_ok hU) (lkCL_ok (by
    simp only [List.forall_mem_cons]
    exact ⟨⟨rfl, k_806 hU hG hN (by omega)⟩, fun _ h => absurd h List.not_mem_nil⟩)) (fun _ _ h => by cases h) v_807
theorem k_808 {D d : Nat} (hU : uqG G C) (hG : ∀ k, k < 132 → G k = 300 + k) (hN : ∀ x g, sbN x = some g → G x = g) (hd : 10 ≤ d) : ctrOK (PRd G C D xs) G rgs (wpM mDf mt d) 197 c_808 := by
  obtain ⟨e, rfl⟩ : ∃ e, d = e + 1 := ⟨d - 1, by omega⟩
  exact ver_ok (PRd_k hU) hG (by omega) rfl (rLLh_ok hU) (lkCL_ok (by
    simp only [List.forall_mem_cons]
    exact ⟨⟨rfl, k_807 hU hG hN (by omega)⟩, fun _ h => absurd h List.not_mem_nil⟩)) (fun _ _ h => by cases h) v_808
theorem k_809 {D d : Nat} (hU : uqG G C) (hG : ∀ k, k < 132 → G k = 300 + k) (hN : ∀ x g, sbN x = some g → G x = g) (hd : 11 ≤ d) : ctrOK (PRd G C D xs) G rgs (wpM mDf mt d) 196 c_809 := by
  obtain ⟨e, rfl⟩ : ∃ e, d = e + 1 := ⟨d - 1, by omega⟩
  exact ver_ok (PRd_k hU) hG (by omega) rfl (rLLh_ok hU) (lkCL_ok (by
    simp only [List.forall_mem_cons]
    exact ⟨⟨rfl, k_808 hU hG hN (by omega)⟩, fun _ h => absurd h List.not_mem_nil⟩)) (fun _ _ h => by cases h) v_809
theorem k_810 {D d : Nat} (hU : uqG G C) (hG : ∀ k, k < 132 → G k = 300 + k) (hN : ∀ x g, sbN x = some g → G x = g) (hd : 8 ≤ d) : ctrOK (PRd G C D xs) G rgs (wpM mDf mt d) 254 c_810 := by
  obtain ⟨e, rfl⟩ : ∃ e, d = e + 1 := ⟨d - 1, by omega⟩
  exact ver_ok (PRd_k hU) hG (by omega) rfl (rLLh_ok hU) (lkCL_ok (by
    simp only [List.forall_mem_cons]
    exact ⟨⟨rfl, k_489 hU hG hN (by omega)⟩, ⟨rfl, k_495 hU hG hN (by omega)⟩, fun _ h => absurd h List.not_mem_nil⟩)) (fun _ _ h => by cases h) v_810
theorem k_811 {D d : Nat} (hU : uqG G C) (hG : ∀ k, k < 132 → G k = 300 + k) (hN : ∀ x g, sbN x = some g → G x = g) (hd : 9 ≤ d) : ctrOK (PRd G C D xs) G rgs (wpM mDf mt d) 337 c_811 := by
  obtain ⟨e, rfl⟩ : ∃ e, d = e + 1 := ⟨d - 1, by omega⟩
  exact ver_ok (PRd_k hU) hG (by omega) rfl (rLLh_ok hU) (lkCL_ok (by
    simp only [List.forall_mem_cons]
    exact ⟨⟨rfl, k_497 hU hG hN (by omega)⟩, ⟨rfl, k_810 hU hG hN (by omega)⟩, fun _ h => absurd h List.not_mem_nil⟩)) (fun _ _ h => by cases h) v_811
theorem k_812 {D d : Nat} (hU : uqG G C) (hG : ∀ k, k < 132 → G k = 300 + k) (hN : ∀ x g, sbN x = some g → G x = g) (hd : 8 ≤ d) : ctrOK (PRd G C D xs) G rgs (wpM mDf mt d) 80 c_812 := by
  obtain ⟨e, rfl⟩ : ∃ e, d = e + 1 := ⟨d - 1, by omega⟩
  exact ver_ok (PRd_k hU) hG (by omega) rfl (rLLh_ok hU) (lkCL_ok (by
    simp only [List.forall_mem_cons]
    exact ⟨⟨rfl, k_776 hU hG hN (by omega)⟩, fun _ h => absurd h List.not_mem_nil⟩)) (fun _ _ h => by cases h) v_812
theorem k_813 {D d : Nat} (hU : uqG G C) (hG : ∀ k, k < 132 → G k = 300 + k) (hN : ∀ x g, sbN x = some g → G x = g) (hd : 9 ≤ d) : ctrOK (PRd G C D xs) G rgs (wpM mDf mt d) 188 c_813 := by
  obtain ⟨e, rfl⟩ : ∃ e, d = e + 1 := ⟨d - 1, by omega⟩
  exact ver_ok (PRd_k hU) hG (by omega) rfl (rLLh_ok hU) (lkCL_ok (by
    simp only [List.forall_mem_cons]
    exact ⟨⟨rfl, k_812 hU hG hN (by omega)⟩, fun _ h => absurd h List.not_mem_nil⟩)) (fun _ _ h => by cases h) v_813
theorem k_814 {D d : Nat} (hU : uqG G C) (hG : ∀ k, k < 132 → G k = 300 + k) (hN : ∀ x g, sbN x = some g → G x = g) (hd : 10 ≤ d) : ctrOK (PRd G C D xs) G rgs (wpM mDf mt d) 197 c_814 := by
  obtain ⟨e, rfl⟩ : ∃ e, d = e + 1 := ⟨d - 1, by omega⟩
  exact ver_ok (PRd_k hU) hG (by omega) rfl (rLLh_ok hU) (lkCL_ok (by
    simp only [List.forall_mem_cons]
    exact ⟨⟨rfl, k_813 hU hG hN (by omega)⟩, fun _ h => absurd h List.not_mem_nil⟩)) (fun _ _ h => by cases h) v_814
theorem k_815 {D d : Nat} (hU : uqG G C) (hG : ∀ k, k < 132 → G k = 300 + k) (hN : ∀ x g, sbN x = some g → G x = g) (hd : 11 ≤ d) : ctrOK (PRd G C D xs) G rgs (wpM mDf mt d) 196 c_815 := by
  obtain ⟨e, rfl⟩ : ∃ e, d = e + 1 := ⟨d - 1, by omega⟩
  exact ver_ok (PRd_k hU) hG (by omega) rfl (rLLh_ok hU) (lkCL_ok (by
    simp only [List.forall_mem_cons]
    exact ⟨⟨rfl, k_814 hU hG hN (by omega)⟩, fun _ h => absurd h List.not_mem_nil⟩)) (fun _ _ h => by cases h) v_815
theorem k_816 {D d : Nat} (hU : uqG G C) (hG : ∀ k, k < 132 → G k = 300 + k) (hN : ∀ x g, sbN x = some g → G x = g) (hd : 8 ≤ d) : ctrOK (PRd G C D xs) G rgs (wpM mDf mt d) 254 c_816 := by
  obtain ⟨e, rfl⟩ : ∃ e, d = e + 1 := ⟨d - 1, by omega⟩
  exact ver_ok (PRd_k hU) hG (by omega) rfl (rLLh_ok hU) (lkCL_ok (by
    simp only [List.forall_mem_cons]
    exact ⟨⟨rfl, k_489 hU hG hN (by omega)⟩, ⟨rfl, k_502 hU hG hN (by omega)⟩, fun _ h => absurd h List.not_mem_nil⟩)) (fun _ _ h => by cases h) v_816
theorem k_817 {D d : Nat} (hU : uqG G C) (hG : ∀ k, k < 132 → G k = 300 + k) (hN : ∀ x g, sbN x = some g → G x = g) (hd : 9 ≤ d) : ctrOK (PRd G C D xs) G rgs (wpM mDf mt d) 337 c_817 := by
  obtain ⟨e, rfl⟩ : ∃ e, d = e + 1 := ⟨d - 1, by omega⟩
  exact ver_ok (PRd_k hU) hG (by omega) rfl (rLLh_ok hU) (lkCL_ok (by
    simp only [List.forall_mem_cons]
    exact ⟨⟨rfl, k_497 hU hG hN (by omega)⟩, ⟨rfl, k_816 hU hG hN (by omega)⟩, fun _ h => absurd h List.not_mem_nil⟩)) (fun _ _ h => by cases h) v_817
theorem k_818 {D d : Nat} (hU : uqG G C) (hG : ∀ k, k < 132 → G k = 300 + k) (hN : ∀ x g, sbN x = some g → G x = g) (hd : 7 ≤ d) : ctrOK (PRd G C D xs) G rgs (wpM mDf mt d) 76 c_818 := by
  obtain ⟨e, rfl⟩ : ∃ e, d = e + 1 := ⟨d - 1, by omega⟩
  exact ver_ok (PRd_k hU) hG (by omega) rfl (rLLh_ok hU) (lkCL_ok (by
    simp only [List.forall_mem_cons]
    exact ⟨⟨rfl, k_484 hU hG hN (by omega)⟩, fun _ h => absurd h List.not_mem_nil⟩)) (fun _ _ h => by cases h) v_818
theorem k_819 {D d : Nat} (hU : uqG G C) (hG : ∀ k, k < 132 → G k = 300 + k) (hN : ∀ x g, sbN x = some g → G x = g) (hd : 8 ≤ d) : ctrOK (PRd G C D xs) G rgs (wpM mDf mt d) 80 c_819 := by
  obtain ⟨e, rfl⟩ : ∃ e, d = e + 1 := ⟨d - 1, by omega⟩
  exact ver_ok (PRd_k hU) hG (by omega) rfl (rLLh_ok hU) (lkCL_ok (by
    simp only [List.forall_mem_cons]
    exact ⟨⟨rfl, k_818 hU hG hN (by omega)⟩, fun _ h => absurd h List.not_mem_nil⟩)) (fun _ _ h => by cases h) v_819
theorem k_820 {D d : Nat} (hU : uqG G C) (hG : ∀ k, k < 132 → G k = 300 + k) (hN : ∀ x g, sbN x = some g → G x = g) (hd : 9 ≤ d) : ctrOK (PRd G C D xs) G rgs (wpM mDf mt d) 188 c_820 := by
  obtain ⟨e, rfl⟩ : ∃ e, d = e + 1 := ⟨d - 1, by omega⟩
  exact ver_ok (PRd_k hU) hG (by omega) rfl (rLLh_ok hU) (lkCL_ok (by
    simp only [List.forall_mem_cons]
    exact ⟨⟨rfl, k_819 hU hG hN (by omega)⟩, fun _ h => absurd h List.not_mem_nil⟩)) (fun _ _ h => by cases h) v_820
theorem k_821 {D d : Nat} (hU : uqG G C) (hG : ∀ k, k < 132 → G k = 300 + k) (hN : ∀ x g, sbN x = some g → G x = g) (hd : 10 ≤ d) : ctrOK (PRd G C D xs) G rgs (wpM mDf mt d) 197 c_821 := by
  obtain ⟨e, rfl⟩ : ∃ e, d = e + 1 := ⟨d - 1, by omega⟩
  exact ver_ok (PRd_k hU) hG (by omega) rfl (rLLh_ok hU) (lkCL_ok (by
    simp only [List.forall_mem_cons]
    exact ⟨⟨rfl, k_820 hU hG hN (by omega)⟩, fun _ h => absurd h List.not_mem_nil⟩)) (fun _ _ h => by cases h) v_821
theorem k_822 {D d : Nat} (hU : uqG G C) (hG : ∀ k, k < 132 → G k = 300 + k) (hN : ∀ x g, sbN x = some g → G x = g) (hd : 11 ≤ d) : ctrOK (PRd G C D xs) G rgs (wpM mDf mt d) 196 c_822 := by
  obtain ⟨e, rfl⟩ : ∃ e, d = e + 1 := ⟨d - 1, by omega⟩
  exact ver_ok (PRd_k hU) hG (by omega) rfl (rLLh_ok hU) (lkCL_ok (by
    simp only [List.forall_mem_cons]
    exact ⟨⟨rfl, k_821 hU hG hN (by omega)⟩, fun _ h => absurd h List.not_mem_nil⟩)) (fun _ _ h => by cases h) v_822
theorem k_823 {D d : Nat} (hU : uqG G C) (hG : ∀ k, k < 132 → G k = 300 + k) (hN : ∀ x g, sbN x = some g → G x = g) (hd : 8 ≤ d) : ctrOK (PRd G C D xs) G rgs (wpM mDf mt d) 254 c_823 := by
  obtain ⟨e, rfl⟩ : ∃ e, d = e + 1 := ⟨d - 1, by omega⟩
  exact ver_ok (PRd_k hU) hG (by omega) rfl (rLLh_ok hU) (lkCL_ok (by
    simp only [List.forall_mem_cons]
    exact ⟨⟨rfl, k_496 hU hG hN (by omega)⟩, fun _ h => absurd h List.not_mem_nil⟩)) (fun _ _ h => by cases h) v_823
theorem k_824 {D d : Nat} (hU : uqG G C) (hG : ∀ k, k < 132 → G k = 300 + k) (hN : ∀ x g, sbN x = some g → G x = g) (hd : 9 ≤ d) : ctrOK (PRd G C D xs) G rgs (wpM mDf mt d) 337 c_824 := by
  obtain ⟨e, rfl⟩ : ∃ e, d = e + 1 := ⟨d - 1, by omega⟩
  exact ver_ok (PRd_k hU) hG (by omega) rfl (rLLh_ok hU) (lkCL_ok (by
    simp only [List.forall_mem_cons]
    exact ⟨⟨rfl, k_497 hU hG hN (by omega)⟩, ⟨rfl, k_823 hU hG hN (by omega)⟩, fun _ h => absurd h List.not_mem_nil⟩)) (fun _ _ h => by cases h) v_824
theorem k_825 {D d : Nat} (hU : uqG G C) (hG : ∀ k, k < 132 → G k = 300 + k) (hN : ∀ x g, sbN x = some g → G x = g) (hd : 7 ≤ d) : ctrOK (PRd G C D xs) G rgs (wpM mDf mt d) 76 c_825 := by
  obtain ⟨e, rfl⟩ : ∃ e, d = e + 1 := ⟨d - 1, by omega⟩
  exact ver_ok (PRd_k hU) hG (by omega) rfl (rLLh_ok hU) (lkCL_ok (by
    simp only [List.forall_mem_cons]
    exact ⟨⟨rfl, k_484 hU hG hN (by omega)⟩, fun _ h => absurd h List.not_mem_nil⟩)) (fun _ _ h => by cases h) v_825
theorem k_826 {D d : Nat} (hU : uqG G C) (hG : ∀ k, k < 132 → G k = 300 + k) (hN : ∀ x g, sbN x = some g → G x = g) (hd : 8 ≤ d) : ctrOK (PRd G C D xs) G rgs (wpM mDf mt d) 80 c_826 := by
  obtain ⟨e, rfl⟩ : ∃ e, d = e + 1 := ⟨d - 1, by omega⟩
  exact ver_ok (PRd_k hU) hG (by omega) rfl (rLLh_ok hU) (lkCL_ok (by
    simp only [List.forall_mem_cons]
    exact ⟨⟨rfl, k_825 hU hG hN (by omega)⟩, fun _ h => absurd h List.not_mem_nil⟩)) (fun _ _ h => by cases h) v_826
theorem k_827 {D d : Nat} (hU : uqG G C) (hG : ∀ k, k < 132 → G k = 300 + k) (hN : ∀ x g, sbN x = some g → G x = g) (hd : 9 ≤ d) : ctrOK (PRd G C D xs) G rgs (wpM mDf mt d) 188 c_827 := by
  obtain ⟨e, rfl⟩ : ∃ e, d = e + 1 := ⟨d - 1, by omega⟩
  exact ver_ok (PRd_k hU) hG (by omega) rfl (rLLh_ok hU) (lkCL_ok (by
    simp only [List.forall_mem_cons]
    exact ⟨⟨rfl, k_826 hU hG hN (by omega)⟩, fun _ h => absurd h List.not_mem_nil⟩)) (fun _ _ h => by cases h) v_827
theorem k_828 {D d : Nat} (hU : uqG G C) (hG : ∀ k, k < 132 → G k = 300 + k) (hN : ∀ x g, sbN x = some g → G x = g) (hd : 10 ≤ d) : ctrOK (PRd G C D xs) G rgs (wpM mDf mt d) 197 c_828 := by
  obtain ⟨e, rfl⟩ : ∃ e, d = e + 1 := ⟨d - 1, by omega⟩
  exact ver_ok (PRd_k hU) hG (by omega) rfl (rLLh_ok hU) (lkCL_ok (by
    simp only [List.forall_mem_cons]
    exact ⟨⟨rfl, k_827 hU hG hN (by omega)⟩, fun _ h => absurd h List.not_mem_nil⟩)) (fun _ _ h => by cases h) v_828
theorem k_829 {D d : Nat} (hU : uqG G C) (hG : ∀ k, k < 132 → G k = 300 + k) (hN : ∀ x g, sbN x = some g → G x = g) (hd : 11 ≤ d) : ctrOK (PRd G C D xs) G rgs (wpM mDf mt d) 196 c_829 := by
  obtain ⟨e, rfl⟩ : ∃ e, d = e + 1 := ⟨d - 1, by omega⟩
  exact ver_ok (PRd_k hU) hG (by omega) rfl (rLLh_ok hU) (lkCL_ok (by
    simp only [List.forall_mem_cons]
    exact ⟨⟨rfl, k_828 hU hG hN (by omega)⟩, fun _ h => absurd h List.not_mem_nil⟩)) (fun _ _ h => by cases h) v_829
theorem k_830 {D d : Nat} (hU : uqG G C) (hG : ∀ k, k < 132 → G k = 300 + k) (hN : ∀ x g, sbN x = some g → G x = g) (hd : 8 ≤ d) : ctrOK (PRd G C D xs) G rgs (wpM mDf mt d) 254 c_830 := by
  obtain ⟨e, rfl⟩ : ∃ e, d = e + 1 := ⟨d - 1, by omega⟩
  exact ver_ok (PRd_k hU) hG (by omega) rfl (rLLh_ok hU) (lkCL_ok (by
    simp only [List.forall_mem_cons]
    exact ⟨⟨rfl, k_503 hU hG hN (by omega)⟩, fun _ h => absurd h List.not_mem_nil⟩)) (fun _ _ h => by cases h) v_830
theorem k_831 {D d : Nat} (hU : uqG G C) (hG : ∀ k, k < 132 → G k = 300 + k) (hN : ∀ x g, sbN x = some g → G x = g) (hd : 9 ≤ d) : ctrOK (PRd G C D xs) G rgs (wpM mDf mt d) 337 c_831 := by
  obtain ⟨e, rfl⟩ : ∃ e, d = e + 1 := ⟨d - 1, by omega⟩
  exact ver_ok (PRd_k hU) hG (by omega) rfl (rLLh_ok hU) (lkCL_ok (by
    simp only [List.forall_mem_cons]
    exact ⟨⟨rfl, k_497 hU hG hN (by omega)⟩, ⟨rfl, k_830 hU hG hN (by omega)⟩, fun _ h => absurd h List.not_mem_nil⟩)) (fun _ _ h => by cases h) v_831
theorem k_832 {D d : Nat} (hU : uqG G C) (hG : ∀ k, k < 132 → G k = 300 + k) (hN : ∀ x g, sbN x = some g → G x = g) (hd : 7 ≤ d) : ctrOK (PRd G C D xs) G rgs (wpM mDf mt d) 199 c_832 := by
  obtain ⟨e, rfl⟩ : ∃ e, d = e + 1 := ⟨d - 1, by omega⟩
  exact ver_ok (PRd_k hU) hG (by omega) rfl (rLLh_ok hU) (lkCL_ok (by
    simp only [List.forall_mem_cons]
    exact ⟨⟨rfl, k_476 hU hG hN (by omega)⟩, fun _ h => absurd h List.not_mem_nil⟩)) (fun _ _ h => by cases h) v_832
theorem k_833 {D d : Nat} (hU : uqG G C) (hG : ∀ k, k < 132 → G k = 300 + k) (hN : ∀ x g, sbN x = some g → G x = g) (hd : 8 ≤ d) : ctrOK (PRd G C D xs) G rgs (wpM mDf mt d) 198 c_833 := by
  obtain ⟨e, rfl⟩ : ∃ e, d = e + 1 := ⟨d - 1, by omega⟩
  exact ver_ok (PRd_k hU) hG (by omega) rfl (rLLh_ok hU) (lkCL_ok (by
    simp only [List.forall_mem_cons]
    exact ⟨⟨rfl, k_832 hU hG hN (by omega)⟩, fun _ h => absurd h List.not_mem_nil⟩)) (fun _ _ h => by cases h) v_833
theorem k_834 {D d : Nat} (hU : uqG G C) (hG : ∀ k, k < 132 → G k = 300 + k) (hN : ∀ x g, sbN x = some g → G x = g) (hd : 7 ≤ d) : ctrOK (PRd G C D xs) G rgs (wpM mDf mt d) 338 c_834 := by
  obtain ⟨e, rfl⟩ : ∃ e, d = e + 1 := ⟨d - 1, by omega⟩
  exact ver_ok (PRd_k hU) hG (by omega) rfl (rLLh_ok hU) (lkCL_ok (by
    simp only [List.forall_mem_cons]
    exact ⟨⟨rfl, k_482 hU hG hN (by omega)⟩, fun _ h => absurd h List.not_mem_nil⟩)) (fun _ _ h => by cases h) v_834
theorem k_835 {D d : Nat} (hU : uqG G C) (hG : ∀ k, k < 132 → G k = 300 + k) (hN : ∀ x g, sbN x = some g → G x = g) (hd : 10 ≤ d) : ctrOK (PRd G C D xs) G rgs (wpM mDf mt d) 199 c_835 := by
  obtain ⟨e, rfl⟩ : ∃ e, d = e + 1 := ⟨d - 1, by omega⟩
  exact ver_ok (PRd_k hU) hG (by omega) rfl (rLLh_ok hU) (lkCL_ok (by
    simp only [List.forall_mem_cons]
    exact ⟨⟨rfl, k_484 hU hG hN (by omega)⟩, ⟨rfl, k_732 hU hG hN (by omega)⟩, fun _ h => absurd h List.not_mem_nil⟩)) (fun _ _ h => by cases h) v_835
theorem k_836 {D d : Nat} (hU : uqG G C) (hG : ∀ k, k < 132 → G k = 300 + k) (hN : ∀ x g, sbN x = some g → G x = g) (hd : 11 ≤ d) : ctrOK (PRd G C D xs) G rgs (wpM mDf mt d) 198 c_836 := by
  obtain ⟨e, rfl⟩ : ∃ e, d = e + 1 := ⟨d - 1, by omega⟩
  exact ver_ok (PRd_k hU) hG (by omega) rfl (rLLh_ok hU) (lkCL_ok (by
    simp only [List.forall_mem_cons]
    exact ⟨⟨rfl, k_835 hU hG hN (by omega)⟩, fun _ h => absurd h List.not_mem_nil⟩)) (fun _ _ h => by cases h) v_836
theorem k_837 {D d : Nat} (hU : uqG G C) (hG : ∀ k, k < 132 → G k = 300 + k) (hN : ∀ x g, sbN x = some g → G x = g) (hd : 8 ≤ d) : ctrOK (PRd G C D xs) G rgs (wpM mDf mt d) 336 c_837 := by
  obtain ⟨e, rfl⟩ : ∃ e, d = e + 1 := ⟨d - 1, by omega⟩
  exact ver_ok (PRd_k hU) hG (by omega) rfl (rLLh_ok hU) (lkCL_ok (by
    simp only [List.forall_mem_cons]
    exact ⟨⟨rfl, k_738 hU hG hN (by omega)⟩, fun _ h => absurd h List.not_mem_nil⟩)) (fun _ _ h => by cases h) v_837
theorem k_838 {D d : Nat} (hU : uqG G C) (hG : ∀ k, k < 132 → G k = 300 + k) (hN : ∀ x g, sbN x = some g → G x = g) (hd : 9 ≤ d) : ctrOK (PRd G C D xs) G rgs (wpM mDf mt d) 338 c_838 := by
  obtain ⟨e, rfl⟩ : ∃ e, d = e + 1 := ⟨d - 1, by omega⟩
  exact ver_ok (PRd_k hU) hG (by omega) rfl (rLLh_ok hU) (lkCL_ok (by
    simp only [List.forall_mem_cons]
    exact ⟨⟨rfl, k_488 hU hG hN (by omega)⟩, ⟨rfl, k_490 hU hG hN (by omega)⟩, ⟨rfl, k_837 hU hG hN (by omega)⟩, fun _ h => absurd h List.not_mem_nil⟩)) (fun _ _ h => by cases h) v_838
end
