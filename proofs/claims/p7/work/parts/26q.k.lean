section
variable {G C : Nat → Nat} {xs : Nat → Int32}
theorem k_1019 {D d : Nat} (hU : uqG G C) (hG : ∀ k, k < 132 → G k = 300 + k) (hN : ∀ x g, sbN x = some g → G x = g) (hd : 7 ≤ d) : ctrOK (PRd G C D xs) G rgs (wpM mDf mt d) 348 c_1019 := by
  obtain ⟨e, rfl⟩ : ∃ e, d = e + 1 := ⟨d - 1, by omega⟩
  exact ver_ok (PRd_k hU) hG (by omega) rfl (rLLh_ok hU) (lkCL_ok (by
    simp only [List.forall_mem_cons]
    exact ⟨⟨rfl, k_972 hU hG hN (by omega)⟩, ⟨rfl, k_1010 hU hG hN (by omega)⟩, ⟨rfl, k_1015 hU hG hN (by omega)⟩, ⟨rfl, k_1018 hU hG hN (by omega)⟩, fun _ h => absurd h List.not_mem_nil⟩)) (fun _ _ h => by cases h) v_1019
theorem k_1020 {D d : Nat} (hU : uqG G C) (hG : ∀ k, k < 132 → G k = 300 + k) (hN : ∀ x g, sbN x = some g → G x = g) (hd : 8 ≤ d) : ctrOK (PRd G C D xs) G rgs (wpM mDf mt d) 350 c_1020 := by
  obtain ⟨e, rfl⟩ : ∃ e, d = e + 1 := ⟨d - 1, by omega⟩
  exact ver_ok (PRd_k hU) hG (by omega) rfl (rLLh_ok hU) (lkCL_ok (by
    simp only [List.forall_mem_cons]
    exact ⟨⟨rfl, k_1019 hU hG hN (by omega)⟩, fun _ h => absurd h List.not_mem_nil⟩)) (fun _ _ h => by cases h) v_1020
theorem k_1021 {D d : Nat} (hU : uqG G C) (hG : ∀ k, k < 132 → G k = 300 + k) (hN : ∀ x g, sbN x = some g → G x = g) (hd : 7 ≤ d) : ctrOK (PRd G C D xs) G rgs (wpM mDf mt d) 347 c_1021 := by
  obtain ⟨e, rfl⟩ : ∃ e, d = e + 1 := ⟨d - 1, by omega⟩
  exact ver_ok (PRd_k hU) hG (by omega) rfl (rLLh_ok hU) (lkCL_ok (by
    simp only [List.forall_mem_cons]
    exact ⟨⟨rfl, k_977 hU hG hN (by omega)⟩, ⟨rfl, k_1010 hU hG hN (by omega)⟩, ⟨rfl, k_1018 hU hG hN (by omega)⟩, fun _ h => absurd h List.not_mem_nil⟩)) (fun _ _ h => by cases h) v_1021
theorem k_1022 {D d : Nat} (hU : uqG G C) (hG : ∀ k, k < 132 → G k = 300 + k) (hN : ∀ x g, sbN x = some g → G x = g) (hd : 8 ≤ d) : ctrOK (PRd G C D xs) G rgs (wpM mDf mt d) 349 c_1022 := by
  obtain ⟨e, rfl⟩ : ∃ e, d = e + 1 := ⟨d - 1, by omega⟩
  exact ver_ok (PRd_k hU) hG (by omega) rfl (rLLh_ok hU) (lkCL_ok (by
    simp only [List.forall_mem_cons]
    exact ⟨⟨rfl, k_1021 hU hG hN (by omega)⟩, fun _ h => absurd h List.not_mem_nil⟩)) (fun _ _ h => by cases h) v_1022
theorem k_1023 {D d : Nat} (hU : uqG G C) (hG : ∀ k, k < 132 → G k = 300 + k) (hN : ∀ x g, sbN x = some g → G x = g) (hd : 11 ≤ d) : ctrOK (PRd G C D xs) G rgs (wpM mDf mt d) 373 c_1023 := by
  obtain ⟨e, rfl⟩ : ∃ e, d = e + 1 := ⟨d - 1, by omega⟩
  exact ver_ok (PRd_k hU) hG (by omega) rfl (rLLh_ok hU) (lkCL_ok (by
    simp only [List.forall_mem_cons]
    exact ⟨⟨rfl, k_976 hU hG hN (by omega)⟩, ⟨rfl, k_979 hU hG hN (by omega)⟩, ⟨rfl, k_986 hU hG hN (by omega)⟩, ⟨rfl, k_990 hU hG hN (by omega)⟩, ⟨rfl, k_997 hU hG hN (by omega)⟩, ⟨rfl, k_999 hU hG hN (by omega)⟩, ⟨rfl, k_1001 hU hG hN (by omega)⟩, ⟨rfl, k_1003 hU hG hN (by omega)⟩, ⟨rfl, k_1006 hU hG hN (by omega)⟩, ⟨rfl, k_1012 hU hG hN (by omega)⟩, ⟨rfl, k_1014 hU hG hN (by omega)⟩, ⟨rfl, k_1017 hU hG hN (by omega)⟩, ⟨rfl, k_1020 hU hG hN (by omega)⟩, ⟨rfl, k_1022 hU hG hN (by omega)⟩, fun _ h => absurd h List.not_mem_nil⟩)) hN v_1023
theorem k_1024 {D d : Nat} (hU : uqG G C) (hG : ∀ k, k < 132 → G k = 300 + k) (hN : ∀ x g, sbN x = some g → G x = g) (hd : 7 ≤ d) : ctrOK (PRd G C D xs) G rgs (wpM mDf mt d) 352 c_1024 := by
  obtain ⟨e, rfl⟩ : ∃ e, d = e + 1 := ⟨d - 1, by omega⟩
  exact ver_ok (PRd_k hU) hG (by omega) rfl (rLLh_ok hU) (lkCL_ok (by
    simp only [List.forall_mem_cons]
    exact ⟨⟨rfl, k_980 hU hG hN (by omega)⟩, fun _ h => absurd h List.not_mem_nil⟩)) (fun _ _ h => by cases h) v_1024
theorem k_1025 {D d : Nat} (hU : uqG G C) (hG : ∀ k, k < 132 → G k = 300 + k) (hN : ∀ x g, sbN x = some g → G x = g) (hd : 6 ≤ d) : ctrOK (PRd G C D xs) G rgs (wpM mDf mt d) 370 c_1025 := by
  obtain ⟨e, rfl⟩ : ∃ e, d = e + 1 := ⟨d - 1, by omega⟩
  exact ver_ok (PRd_k hU) hG (by omega) rfl (rLLh_ok hU) (fun _ _ _ h => by cases h) hN v_1025
theorem k_1026 {D d : Nat} (hU : uqG G C) (hG : ∀ k, k < 132 → G k = 300 + k) (hN : ∀ x g, sbN x = some g → G x = g) (hd : 8 ≤ d) : ctrOK (PRd G C D xs) G rgs (wpM mDf mt d) 400 c_1026 := by
  obtain ⟨e, rfl⟩ : ∃ e, d = e + 1 := ⟨d - 1, by omega⟩
  exact ver_ok (PRd_k hU) hG (by omega) rfl (rLLh_ok hU) (lkCL_ok (by
    simp only [List.forall_mem_cons]
    exact ⟨⟨rfl, k_1024 hU hG hN (by omega)⟩, ⟨rfl, k_1025 hU hG hN (by omega)⟩, fun _ h => absurd h List.not_mem_nil⟩)) hN v_1026
theorem k_1027 {D d : Nat} (hU : uqG G C) (hG : ∀ k, k < 132 → G k = 300 + k) (hN : ∀ x g, sbN x = some g → G x = g) (hd : 6 ≤ d) : ctrOK (PRd G C D xs) G rgs (wpM mDf mt d) 353 c_1027 := by
  obtain ⟨e, rfl⟩ : ∃ e, d = e + 1 := ⟨d - 1, by omega⟩
  exact ver_ok (PRd_k hU) hG (by omega) rfl (rLLh_ok hU) (fun _ _ _ h => by cases h) (fun _ _ h => by cases h) v_1027
theorem k_1028 {D d : Nat} (hU : uqG G C) (hG : ∀ k, k < 132 → G k = 300 + k) (hN : ∀ x g, sbN x = some g → G x = g) (hd : 9 ≤ d) : ctrOK (PRd G C D xs) G rgs (wpM mDf mt d) 365 c_1028 := by
  obtain ⟨e, rfl⟩ : ∃ e, d = e + 1 := ⟨d - 1, by omega⟩
  exact ver_ok (PRd_k hU) hG (by omega) rfl (rLLh_ok hU) (lkCL_ok (by
    simp only [List.forall_mem_cons]
    exact ⟨⟨rfl, k_977 hU hG hN (by omega)⟩, ⟨rfl, k_1026 hU hG hN (by omega)⟩, ⟨rfl, k_1027 hU hG hN (by omega)⟩, fun _ h => absurd h List.not_mem_nil⟩)) hN v_1028
theorem k_1029 {D d : Nat} (hU : uqG G C) (hG : ∀ k, k < 132 → G k = 300 + k) (hN : ∀ x g, sbN x = some g → G x = g) (hd : 10 ≤ d) : ctrOK (PRd G C D xs) G rgs (wpM mDf mt d) 388 c_1029 := by
  obtain ⟨e, rfl⟩ : ∃ e, d = e + 1 := ⟨d - 1, by omega⟩
  exact ver_ok (PRd_k hU) hG (by omega) rfl (rLLh_ok hU) (lkCL_ok (by
    simp only [List.forall_mem_cons]
    exact ⟨⟨rfl, k_1028 hU hG hN (by omega)⟩, fun _ h => absurd h List.not_mem_nil⟩)) hN v_1029
theorem k_1030 {D d : Nat} (hU : uqG G C) (hG : ∀ k, k < 132 → G k = 300 + k) (hN : ∀ x g, sbN x = some g → G x = g) (hd : 6 ≤ d) : ctrOK (PRd G C D xs) G rgs (wpM mDf mt d) 361 c_1030 := by
  obtain ⟨e, rfl⟩ : ∃ e, d = e + 1 := ⟨d - 1, by omega⟩
  exact ver_ok (PRd_k hU) hG (by omega) rfl (rLLh_ok hU) (fun _ _ _ h => by cases h) (fun _ _ h => by cases h) v_1030
theorem k_1031 {D d : Nat} (hU : uqG G C) (hG : ∀ k, k < 132 → G k = 300 + k) (hN : ∀ x g, sbN x = some g → G x = g) (hd : 9 ≤ d) : ctrOK (PRd G C D xs) G rgs (wpM mDf mt d) 382 c_1031 := by
  obtain ⟨e, rfl⟩ : ∃ e, d = e + 1 := ⟨d - 1, by omega⟩
  exact ver_ok (PRd_k hU) hG (by omega) rfl (rLLh_ok hU) (lkCL_ok (by
    simp only [List.forall_mem_cons]
    exact ⟨⟨rfl, k_972 hU hG hN (by omega)⟩, ⟨rfl, k_1026 hU hG hN (by omega)⟩, ⟨rfl, k_1027 hU hG hN (by omega)⟩, ⟨rfl, k_1030 hU hG hN (by omega)⟩, fun _ h => absurd h List.not_mem_nil⟩)) hN v_1031
theorem k_1032 {D d : Nat} (hU : uqG G C) (hG : ∀ k, k < 132 → G k = 300 + k) (hN : ∀ x g, sbN x = some g → G x = g) (hd : 10 ≤ d) : ctrOK (PRd G C D xs) G rgs (wpM mDf mt d) 394 c_1032 := by
  obtain ⟨e, rfl⟩ : ∃ e, d = e + 1 := ⟨d - 1, by omega⟩
  exact ver_ok (PRd_k hU) hG (by omega) rfl (rLLh_ok hU) (lkCL_ok (by
    simp only [List.forall_mem_cons]
    exact ⟨⟨rfl, k_1031 hU hG hN (by omega)⟩, fun _ h => absurd h List.not_mem_nil⟩)) hN v_1032
theorem k_1033 {D d : Nat} (hU : uqG G C) (hG : ∀ k, k < 132 → G k = 300 + k) (hN : ∀ x g, sbN x = some g → G x = g) (hd : 6 ≤ d) : ctrOK (PRd G C D xs) G rgs (wpM mDf mt d) 351 c_1033 := by
  obtain ⟨e, rfl⟩ : ∃ e, d = e + 1 := ⟨d - 1, by omega⟩
  exact ver_ok (PRd_k hU) hG (by omega) rfl (rLLh_ok hU) (fun _ _ _ h => by cases h) (fun _ _ h => by cases h) v_1033
theorem k_1034 {D d : Nat} (hU : uqG G C) (hG : ∀ k, k < 132 → G k = 300 + k) (hN : ∀ x g, sbN x = some g → G x = g) (hd : 7 ≤ d) : ctrOK (PRd G C D xs) G rgs (wpM mDf mt d) 348 c_1034 := by
  obtain ⟨e, rfl⟩ : ∃ e, d = e + 1 := ⟨d - 1, by omega⟩
  exact ver_ok (PRd_k hU) hG (by omega) rfl (rLLh_ok hU) (lkCL_ok (by
    simp only [List.forall_mem_cons]
    exact ⟨⟨rfl, k_972 hU hG hN (by omega)⟩, ⟨rfl, k_1027 hU hG hN (by omega)⟩, ⟨rfl, k_1030 hU hG hN (by omega)⟩, ⟨rfl, k_1033 hU hG hN (by omega)⟩, fun _ h => absurd h List.not_mem_nil⟩)) (fun _ _ h => by cases h) v_1034
theorem k_1035 {D d : Nat} (hU : uqG G C) (hG : ∀ k, k < 132 → G k = 300 + k) (hN : ∀ x g, sbN x = some g → G x = g) (hd : 8 ≤ d) : ctrOK (PRd G C D xs) G rgs (wpM mDf mt d) 350 c_1035 := by
  obtain ⟨e, rfl⟩ : ∃ e, d = e + 1 := ⟨d - 1, by omega⟩
  exact ver_ok (PRd_k hU) hG (by omega) rfl (rLLh_ok hU) (lkCL_ok (by
    simp only [List.forall_mem_cons]
    exact ⟨⟨rfl, k_1034 hU hG hN (by omega)⟩, fun _ h => absurd h List.not_mem_nil⟩)) (fun _ _ h => by cases h) v_1035
theorem k_1036 {D d : Nat} (hU : uqG G C) (hG : ∀ k, k < 132 → G k = 300 + k) (hN : ∀ x g, sbN x = some g → G x = g) (hd : 7 ≤ d) : ctrOK (PRd G C D xs) G rgs (wpM mDf mt d) 347 c_1036 := by
  obtain ⟨e, rfl⟩ : ∃ e, d = e + 1 := ⟨d - 1, by omega⟩
  exact ver_ok (PRd_k hU) hG (by omega) rfl (rLLh_ok hU) (lkCL_ok (by
    simp only [List.forall_mem_cons]
    exact ⟨⟨rfl, k_977 hU hG hN (by omega)⟩, ⟨rfl, k_1027 hU hG hN (by omega)⟩, ⟨rfl, k_1033 hU hG hN (by omega)⟩, fun _ h => absurd h List.not_mem_nil⟩)) (fun _ _ h => by cases h) v_1036
theorem k_1037 {D d : Nat} (hU : uqG G C) (hG : ∀ k, k < 132 → G k = 300 + k) (hN : ∀ x g, sbN x = some g → G x = g) (hd : 8 ≤ d) : ctrOK (PRd G C D xs) G rgs (wpM mDf mt d) 349 c_1037 := by
  obtain ⟨e, rfl⟩ : ∃ e, d = e + 1 := ⟨d - 1, by omega⟩
  exact ver_ok (PRd_k hU) hG (by omega) rfl (rLLh_ok hU) (lkCL_ok (by
    simp only [List.forall_mem_cons]
    exact ⟨⟨rfl, k_1036 hU hG hN (by omega)⟩, fun _ h => absurd h List.not_mem_nil⟩)) (fun _ _ h => by cases h) v_1037
theorem k_1038 {D d : Nat} (hU : uqG G C) (hG : ∀ k, k < 132 → G k = 300 + k) (hN : ∀ x g, sbN x = some g → G x = g) (hd : 11 ≤ d) : ctrOK (PRd G C D xs) G rgs (wpM mDf mt d) 374 c_1038 := by
  obtain ⟨e, rfl⟩ : ∃ e, d = e + 1 := ⟨d - 1, by omega⟩
  exact ver_ok (PRd_k hU) hG (by omega) rfl (rLLh_ok hU) (lkCL_ok (by
    simp only [List.forall_mem_cons]
    exact ⟨⟨rfl, k_990 hU hG hN (by omega)⟩, ⟨rfl, k_997 hU hG hN (by omega)⟩, ⟨rfl, k_1001 hU hG hN (by omega)⟩, ⟨rfl, k_1003 hU hG hN (by omega)⟩, ⟨rfl, k_1006 hU hG hN (by omega)⟩, ⟨rfl, k_1012 hU hG hN (by omega)⟩, ⟨rfl, k_1014 hU hG hN (by omega)⟩, ⟨rfl, k_1017 hU hG hN (by omega)⟩, ⟨rfl, k_1020 hU hG hN (by omega)⟩, ⟨rfl, k_1022 hU hG hN (by omega)⟩, ⟨rfl, k_1029 hU hG hN (by omega)⟩, ⟨rfl, k_1032 hU hG hN (by omega)⟩, ⟨rfl, k_1035 hU hG hN (by omega)⟩, ⟨rfl, k_1037 hU hG hN (by omega)⟩, fun _ h => absurd h List.not_mem_nil⟩)) hN v_1038
theorem k_1039 {D d : Nat} (hU : uqG G C) (hG : ∀ k, k < 132 → G k = 300 + k) (hN : ∀ x g, sbN x = some g → G x = g) (hd : 11 ≤ d) : ctrOK (PRd G C D xs) G rgs (wpM mDf mt d) 375 c_1039 := by
  obtain ⟨e, rfl⟩ : ∃ e, d = e + 1 := ⟨d - 1, by omega⟩
  exact ver_ok (PRd_k hU) hG (by omega) rfl (rLLh_ok hU) (lkCL_ok (by
    simp only [List.forall_mem_cons]
    exact ⟨⟨rfl, k_1006 hU hG hN (by omega)⟩, ⟨rfl, k_1012 hU hG hN (by omega)⟩, ⟨rfl, k_1014 hU hG hN (by omega)⟩, ⟨rfl, k_1017 hU hG hN (by omega)⟩, ⟨rfl, k_1020 hU hG hN (by omega)⟩, ⟨rfl, k_1022 hU hG hN (by omega)⟩, ⟨rfl, k_1029 hU hG hN (by omega)⟩, ⟨rfl, k_1032 hU hG hN (by omega)⟩, ⟨rfl, k_1035 hU hG hN (by omega)⟩, ⟨rfl, k_1037 hU hG hN (by omega)⟩, fun _ h => absurd h List.not_mem_nil⟩)) hN v_1039
theorem k_1040 {D d : Nat} (hU : uqG G C) (hG : ∀ k, k < 132 → G k = 300 + k) (hN : ∀ x g, sbN x = some g → G x = g) (hd : 9 ≤ d) : ctrOK (PRd G C D xs) G rgs (wpM mDf mt d) 161 c_1040 := by
  obtain ⟨e, rfl⟩ : ∃ e, d = e + 1 := ⟨d - 1, by omega⟩
  exact ver_ok (PRd_k hU) hG (by omega) rfl (rLLh_ok hU) (lkCL_ok (by
    simp only [List.forall_mem_cons]
    exact ⟨⟨rfl, k_1020 hU hG hN (by omega)⟩, ⟨rfl, k_1022 hU hG hN (by omega)⟩, fun _ h => absurd h List.not_mem_nil⟩)) (fun _ _ h => by cases h) v_1040
theorem k_1041 {D d : Nat} (hU : uqG G C) (hG : ∀ k, k < 132 → G k = 300 + k) (hN : ∀ x g, sbN x = some g → G x = g) (hd : 11 ≤ d) : ctrOK (PRd G C D xs) G rgs (wpM mDf mt d) 376 c_1041 := by
  obtain ⟨e, rfl⟩ : ∃ e, d = e + 1 := ⟨d - 1, by omega⟩
  exact ver_ok (PRd_k hU) hG (by omega) rfl (rLLh_ok hU) (lkCL_ok (by
    simp only [List.forall_mem_cons]
    exact ⟨⟨rfl, k_1020 hU hG hN (by omega)⟩, ⟨rfl, k_1022 hU hG hN (by omega)⟩, ⟨rfl, k_1029 hU hG hN (by omega)⟩, ⟨rfl, k_1032 hU hG hN (by omega)⟩, ⟨rfl, k_1035 hU hG hN (by omega)⟩, ⟨rfl, k_1037 hU hG hN (by omega)⟩, fun _ h => absurd h List.not_mem_nil⟩)) hN v_1041
theorem k_1042 {D d : Nat} (hU : uqG G C) (hG : ∀ k, k < 132 → G k = 300 + k) (hN : ∀ x g, sbN x = some g → G x = g) (hd : 9 ≤ d) : ctrOK (PRd G C D xs) G rgs (wpM mDf mt d) 161 c_1042 := by
  obtain ⟨e, rfl⟩ : ∃ e, d = e + 1 := ⟨d - 1, by omega⟩
  exact ver_ok (PRd_k hU) hG (by omega) rfl (rLLh_ok hU) (lkCL_ok (by
    simp only [List.forall_mem_cons]
    exact ⟨⟨rfl, k_1035 hU hG hN (by omega)⟩, ⟨rfl, k_1037 hU hG hN (by omega)⟩, fun _ h => absurd h List.not_mem_nil⟩)) (fun _ _ h => by cases h) v_1042
theorem k_1043 {D d : Nat} (hU : uqG G C) (hG : ∀ k, k < 132 → G k = 300 + k) (hN : ∀ x g, sbN x = some g → G x = g) (hd : 7 ≤ d) : ctrOK (PRd G C D xs) G rgs (wpM mDf mt d) 352 c_1043 := by
  obtain ⟨e, rfl⟩ : ∃ e, d = e + 1 := ⟨d - 1, by omega⟩
  exact ver_ok (PRd_k hU) hG (by omega) rfl (rLLh_ok hU) (lkCL_ok (by
    simp only [List.forall_mem_cons]
    exact ⟨⟨rfl, k_980 hU hG hN (by omega)⟩, fun _ h => absurd h List.not_mem_nil⟩)) (fun _ _ h => by cases h) v_1043
theorem k_1044 {D d : Nat} (hU : uqG G C) (hG : ∀ k, k < 132 → G k = 300 + k) (hN : ∀ x g, sbN x = some g → G x = g) (hd : 6 ≤ d) : ctrOK (PRd G C D xs) G rgs (wpM mDf mt d) 371 c_1044 := by
  obtain ⟨e, rfl⟩ : ∃ e, d = e + 1 := ⟨d - 1, by omega⟩
  exact ver_ok (PRd_k hU) hG (by omega) rfl (rLLh_ok hU) (fun _ _ _ h => by cases h) hN v_1044
theorem k_1045 {D d : Nat} (hU : uqG G C) (hG : ∀ k, k < 132 → G k = 300 + k) (hN : ∀ x g, sbN x = some g → G x = g) (hd : 8 ≤ d) : ctrOK (PRd G C D xs) G rgs (wpM mDf mt d) 401 c_1045 := by
  obtain ⟨e, rfl⟩ : ∃ e, d = e + 1 := ⟨d - 1, by omega⟩
  exact ver_ok (PRd_k hU) hG (by omega) rfl (rLLh_ok hU) (lkCL_ok (by
    simp only [List.forall_mem_cons]
    exact ⟨⟨rfl, k_1043 hU hG hN (by omega)⟩, ⟨rfl, k_1044 hU hG hN (by omega)⟩, fun _ h => absurd h List.not_mem_nil⟩)) hN v_1045
theorem k_1046 {D d : Nat} (hU : uqG G C) (hG : ∀ k, k < 132 → G k = 300 + k) (hN : ∀ x g, sbN x = some g → G x = g) (hd : 6 ≤ d) : ctrOK (PRd G C D xs) G rgs (wpM mDf mt d) 353 c_1046 := by
  obtain ⟨e, rfl⟩ : ∃ e, d = e + 1 := ⟨d - 1, by omega⟩
  exact ver_ok (PRd_k hU) hG (by omega) rfl (rLLh_ok hU) (fun _ _ _ h => by cases h) (fun _ _ h => by cases h) v_1046
theorem k_1047 {D d : Nat} (hU : uqG G C) (hG : ∀ k, k < 132 → G k = 300 + k) (hN : ∀ x g, sbN x = some g → G x = g) (hd : 9 ≤ d) : ctrOK (PRd G C D xs) G rgs (wpM mDf mt d) 366 c_1047 := by
  obtain ⟨e, rfl⟩ : ∃ e, d = e + 1 := ⟨d - 1, by omega⟩
  exact ver_ok (PRd_k hU) hG (by omega) rfl (rLLh_ok hU) (lkCL_ok (by
    simp only [List.forall_mem_cons]
    exact ⟨⟨rfl, k_977 hU hG hN (by omega)⟩, ⟨rfl, k_1045 hU hG hN (by omega)⟩, ⟨rfl, k_1046 hU hG hN (by omega)⟩, fun _ h => absurd h List.not_mem_nil⟩)) hN v_1047
theorem k_1048 {D d : Nat} (hU : uqG G C) (hG : ∀ k, k < 132 → G k = 300 + k) (hN : ∀ x g, sbN x = some g → G x = g) (hd : 10 ≤ d) : ctrOK (PRd G C D xs) G rgs (wpM mDf mt d) 389 c_1048 := by
  obtain ⟨e, rfl⟩ : ∃ e, d = e + 1 := ⟨d - 1, by omega⟩
  exact ver_ok (PRd_k hU) hG (by omega) rfl (rLLh_ok hU) (lkCL_ok (by
    simp only [List.forall_mem_cons]
    exact ⟨⟨rfl, k_1047 hU hG hN (by omega)⟩, fun _ h => absurd h List.not_mem_nil⟩)) hN v_1048
theorem k_1049 {D d : Nat} (hU : uqG G C) (hG : ∀ k, k < 132 → G k = 300 + k) (hN : ∀ x g, sbN x = some g → G x = g) (hd : 6 ≤ d) : ctrOK (PRd G C D xs) G rgs (wpM mDf mt d) 351 c_1049 := by
  obtain ⟨e, rfl⟩ : ∃ e, d = e + 1 := ⟨d - 1, by omega⟩
  exact ver_ok (PRd_k hU) hG (by omega) rfl (rLLh_ok hU) (fun _ _ _ h => by cases h) (fun _ _ h => by cases h) v_1049
theorem k_1050 {D d : Nat} (hU : uqG G C) (hG : ∀ k, k < 132 → G k = 300 + k) (hN : ∀ x g, sbN x = some g → G x = g) (hd : 6 ≤ d) : ctrOK (PRd G C D xs) G rgs (wpM mDf mt d) 361 c_1050 := by
  obtain ⟨e, rfl⟩ : ∃ e, d = e + 1 := ⟨d - 1, by omega⟩
  exact ver_ok (PRd_k hU) hG (by omega) rfl (rLLh_ok hU) (fun _ _ _ h => by cases h) (fun _ _ h => by cases h) v_1050
theorem k_1051 {D d : Nat} (hU : uqG G C) (hG : ∀ k, k < 132 → G k = 300 + k) (hN : ∀ x g, sbN x = some g → G x = g) (hd : 7 ≤ d) : ctrOK (PRd G C D xs) G rgs (wpM mDf mt d) 348 c_1051 := by
  obtain ⟨e, rfl⟩ : ∃ e, d = e + 1 := ⟨d - 1, by omega⟩
  exact ver_ok (PRd_k hU) hG (by omega) rfl (rLLh_ok hU) (lkCL_ok (by
    simp only [List.forall_mem_cons]
    exact ⟨⟨rfl, k_972 hU hG hN (by omega)⟩, ⟨rfl, k_1046 hU hG hN (by omega)⟩, ⟨rfl, k_1049 hU hG hN (by omega)⟩, ⟨rfl, k_1050 hU hG hN (by omega)⟩, fun _ h => absurd h List.not_mem_nil⟩)) (fun _ _ h => by cases h) v_1051
theorem k_1052 {D d : Nat} (hU : uqG G C) (hG : ∀ k, k < 132 → G k = 300 + k) (hN : ∀ x g, sbN x = some g → G x = g) (hd : 8 ≤ d) : ctrOK (PRd G C D xs) G rgs (wpM mDf mt d) 350 c_1052 := by
  obtain ⟨e, rfl⟩ : ∃ e, d = e + 1 := ⟨d - 1, by omega⟩
  exact ver_ok (PRd_k hU) hG (by omega) rfl (rLLh_ok hU) (lkCL_ok (by
    simp only [List.forall_mem_cons]
    exact ⟨⟨rfl, k_1051 hU hG hN (by omega)⟩, fun _ h => absurd h List.not_mem_nil⟩)) (fun _ _ h => by cases h) v_1052
theorem k_1053 {D d : Nat} (hU : uqG G C) (hG : ∀ k, k < 132 → G k = 300 + k) (hN : ∀ x g, sbN x = some g → G x = g) (hd : 9 ≤ d) : ctrOK (PRd G C D xs) G rgs (wpM mDf mt d) 383 c_1053 := by
  obtain ⟨e, rfl⟩ : ∃ e, d = e + 1 := ⟨d - 1, by omega⟩
  exact ver_ok (PRd_k hU) hG (by omega) rfl (rLLh_ok hU) (lkCL_ok (by
    simp only [List.forall_mem_cons]
    exact ⟨⟨rfl, k_972 hU hG hN (by omega)⟩, ⟨rfl, k_1045 hU hG hN (by omega)⟩, ⟨rfl, k_1046 hU hG hN (by omega)⟩, ⟨rfl, k_1050 hU hG hN (by omega)⟩, fun _ h => absurd h List.not_mem_nil⟩)) hN v_1053
theorem k_1054 {D d : Nat} (hU : uqG G C) (hG : ∀ k, k < 132 → G k = 300 + k) (hN : ∀ x g, sbN x = some g → G x = g) (hd : 10 ≤ d) : ctrOK (PRd G C D xs) G rgs (wpM mDf mt d) 395 c_1054 := by
  obtain ⟨e, rfl⟩ : ∃ e, d = e + 1 := ⟨d - 1, by omega⟩
  exact ver_ok (PRd_k hU) hG (by omega) rfl (rLLh_ok hU) (lkCL_ok (by
    simp only [List.forall_mem_cons]
    exact ⟨⟨rfl, k_1053 hU hG hN (by omega)⟩, fun _ h => absurd h List.not_mem_nil⟩)) hN v_1054
theorem k_1055 {D d : Nat} (hU : uqG G C) (hG : ∀ k, k < 132 → G k = 300 + k) (hN : ∀ x g, sbN x = some g → G x = g) (hd : 7 ≤ d) : ctrOK (PRd G C D xs) G rgs (wpM mDf mt d) 347 c_1055 := by
  obtain ⟨e, rfl⟩ : ∃ e, d = e + 1 := ⟨d - 1, by omega⟩
  exact ver_ok (PRd_k hU) hG (by omega) rfl (rLLh_ok hU) (lkCL_ok (by
    simp only [List.forall_mem_cons]
    exact ⟨⟨rfl, k_977 hU hG hN (by omega)⟩, ⟨rfl, k_1046 hU hG hN (by omega)⟩, ⟨rfl, k_1049 hU hG hN (by omega)⟩, fun _ h => absurd h List.not_mem_nil⟩)) (fun _ _ h => by cases h) v_1055
theorem k_1056 {D d : Nat} (hU : uqG G C) (hG : ∀ k, k < 132 → G k = 300 + k) (hN : ∀ x g, sbN x = some g → G x = g) (hd : 8 ≤ d) : ctrOK (PRd G C D xs) G rgs (wpM mDf mt d) 349 c_1056 := by
  obtain ⟨e, rfl⟩ : ∃ e, d = e + 1 := ⟨d - 1, by omega⟩
  exact ver_ok (PRd_k hU) hG (by omega) rfl (rLLh_ok hU) (lkCL_ok (by
    simp only [List.forall_mem_cons]
    exact ⟨⟨rfl, k_1055 hU hG hN (by omega)⟩, fun _ h => absurd h List.not_mem_nil⟩)) (fun _ _ h => by cases h) v_1056
theorem k_1057 {D d : Nat} (hU : uqG G C) (hG : ∀ k, k < 132 → G k = 300 + k) (hN : ∀ x g, sbN x = some g → G x = g) (hd : 11 ≤ d) : ctrOK (PRd G C D xs) G rgs (wpM mDf mt d) 377 c_1057 := by
  obtain ⟨e, rfl⟩ : ∃ e, d = e + 1 := ⟨d - 1, by omega⟩
  exact ver_ok (PRd_k hU) hG (by omega) rfl (rLLh_ok hU) (lkCL_ok (by
    simp only [List.forall_mem_cons]
    exact ⟨⟨rfl, k_1035 hU hG hN (by omega)⟩, ⟨rfl, k_1037 hU hG hN (by omega)⟩, ⟨rfl, k_1048 hU hG hN (by omega)⟩, ⟨rfl, k_1052 hU hG hN (by omega)⟩, ⟨rfl, k_1054 hU hG hN (by omega)⟩, ⟨rfl, k_1056 hU hG hN (by omega)⟩, fun _ h => absurd h List.not_mem_nil⟩)) hN v_1057
theorem k_1058 {D d : Nat} (hU : uqG G C) (hG : ∀ k, k < 132 → G k = 300 + k) (hN : ∀ x g, sbN x = some g → G x = g) (hd : 9 ≤ d) : ctrOK (PRd G C D xs) G rgs (wpM mDf mt d) 161 c_1058 := by
  obtain ⟨e, rfl⟩ : ∃ e, d = e + 1 := ⟨d - 1, by omega⟩
  exact ver_ok (PRd_k hU) hG (by omega) rfl (rLLh_ok hU) (lkCL_ok (by
    simp only [List.forall_mem_cons]
    exact ⟨⟨rfl, k_1052 hU hG hN (by omega)⟩, ⟨rfl, k_1056 hU hG hN (by omega)⟩, fun _ h => absurd h List.not_mem_nil⟩)) (fun _ _ h => by cases h) v_1058
theorem k_1059 {D d : Nat} (hU : uqG G C) (hG : ∀ k, k < 132 → G k = 300 + k) (hN : ∀ x g, sbN x = some g → G x = g) (hd : 7 ≤ d) : ctrOK (PRd G C D xs) G rgs (wpM mDf mt d) 352 c_1059 := by
  obtain ⟨e, rfl⟩ : ∃ e, d = e + 1 := ⟨d - 1, by omega⟩
  exact ver_ok (PRd_k hU) hG (by omega) rfl (rLLh_ok hU) (lkCL_ok (by
    simp only [List.forall_mem_cons]
    exact ⟨⟨rfl, k_980 hU hG hN (by omega)⟩, fun _ h => absurd h List.not_mem_nil⟩)) (fun _ _ h => by cases h) v_1059
theorem k_1060 {D d : Nat} (hU : uqG G C) (hG : ∀ k, k < 132 → G k = 300 + k) (hN : ∀ x g, sbN x = some g → G x = g) (hd : 6 ≤ d) : ctrOK (PRd G C D xs) G rgs (wpM mDf mt d) 372 c_1060 := by
  obtain ⟨e, rfl⟩ : ∃ e, d = e + 1 := ⟨d - 1, by omega⟩
  exact ver_ok (PRd_k hU) hG (by omega) rfl (rLLh_ok hU) (fun _ _ _ h => by cases h) hN v_1060
theorem k_1061 {D d : Nat} (hU : uqG G C) (hG : ∀ k, k < 132 → G k = 300 + k) (hN : ∀ x g, sbN x = some g → G x = g) (hd : 8 ≤ d) : ctrOK (PRd G C D xs) G rgs (wpM mDf mt d) 402 c_1061 := by
  obtain ⟨e, rfl⟩ : ∃ e, d = e + 1 := ⟨d - 1, by omega⟩
  exact ver_ok (PRd_k hU) hG (by omega) rfl (rLLh_ok hU) (lkCL_ok (by
    simp only [List.forall_mem_cons]
    exact ⟨⟨rfl, k_1059 hU hG hN (by omega)⟩, ⟨rfl, k_1060 hU hG hN (by omega)⟩, fun _ h => absurd h List.not_mem_nil⟩)) hN v_1061
theorem k_1062 {D d : Nat} (hU : uqG G C) (hG : ∀ k, k < 132 → G k = 300 + k) (hN : ∀ x g, sbN x = some g → G x = g) (hd : 6 ≤ d) : ctrOK (PRd G C D xs) G rgs (wpM mDf mt d) 353 c_1062 := by
  obtain ⟨e, rfl⟩ : ∃ e, d = e + 1 := ⟨d - 1, by omega⟩
  exact ver_ok (PRd_k hU) hG (by omega) rfl (rLLh_ok hU) (fun _ _ _ h => by cases h) (fun _ _ h => by cases h) v_1062
theorem k_1063 {D d : Nat} (hU : uqG G C) (hG : ∀ k, k < 132 → G k = 300 + k) (hN : ∀ x g, sbN x = some g → G x = g) (hd : 9 ≤ d) : ctrOK (PRd G C D xs) G rgs (wpM mDf mt d) 367 c_1063 := by
  obtain ⟨e, rfl⟩ : ∃ e, d = e + 1 := ⟨d - 1, by omega⟩
  exact ver_ok (PRd_k hU) hG (by omega) rfl (rLLh_ok hU) (lkCL_ok (by
    simp only [List.forall_mem_cons]
    exact ⟨⟨rfl, k_977 hU hG hN (by omega)⟩, ⟨rfl, k_1061 hU hG hN (by omega)⟩, ⟨rfl, k_1062 hU hG hN (by omega)⟩, fun _ h => absurd h List.not_mem_nil⟩)) hN v_1063
theorem k_1064 {D d : Nat} (hU : uqG G C) (hG : ∀ k, k < 132 → G k = 300 + k) (hN : ∀ x g, sbN x = some g → G x = g) (hd : 10 ≤ d) : ctrOK (PRd G C D xs) G rgs (wpM mDf mt d) 390 c_1064 := by
  obtain ⟨e, rfl⟩ : ∃ e, d = e + 1 := ⟨d - 1, by omega⟩
  exact ver_ok (PRd_k hU) hG (by omega) rfl (rLLh_ok hU) (lkCL_ok (by
    simp only [List.forall_mem_cons]
    exact ⟨⟨rfl, k_1063 hU hG hN (by omega)⟩, fun _ h => absurd h List.not_mem_nil⟩)) hN v_1064
theorem k_1065 {D d : Nat} (hU : uqG G C) (hG : ∀ k, k < 132 → G k = 300 + k) (hN : ∀ x g, sbN x = some g → G x = g) (hd : 6 ≤ d) : ctrOK (PRd G C D xs) G rgs (wpM mDf mt d) 351 c_1065 := by
  obtain ⟨e, rfl⟩ : ∃ e, d = e + 1 := ⟨d - 1, by omega⟩
  exact ver_ok (PRd_k hU) hG (by omega) rfl (rLLh_ok hU) (fun _ _ _ h => by cases h) (fun _ _ h => by cases h) v_1065
theorem k_1066 {D d : Nat} (hU : uqG G C) (hG : ∀ k, k < 132 → G k = 300 + k) (hN : ∀ x g, sbN x = some g → G x = g) (hd : 6 ≤ d) : ctrOK (PRd G C D xs) G rgs (wpM mDf mt d) 361 c_1066 := by
  obtain ⟨e, rfl⟩ : ∃ e, d = e + 1 := ⟨d - 1, by omega⟩
  exact ver_ok (PRd_k hU) hG (by omega) rfl (rLLh_ok hU) (fun _ _ _ h => by cases h) (fun _ _ h => by cases h) v_1066
theorem k_1067 {D d : Nat} (hU : uqG G C) (hG : ∀ k, k < 132 → G k = 300 + k) (hN : ∀ x g, sbN x = some g → G x = g) (hd : 7 ≤ d) : ctrOK (PRd G C D xs) G rgs (wpM mDf mt d) 348 c_1067 := by
  obtain ⟨e, rfl⟩ : ∃ e, d = e + 1 := ⟨d - 1, by omega⟩
  exact ver_ok (PRd_k hU) hG (by omega) rfl (rLLh_ok hU) (lkCL_ok (by
    simp only [List.forall_mem_cons]
    exact ⟨⟨rfl, k_972 hU hG hN (by omega)⟩, ⟨rfl, k_1062 hU hG hN (by omega)⟩, ⟨rfl, k_1065 hU hG hN (by omega)⟩, ⟨rfl, k_1066 hU hG hN (by omega)⟩, fun _ h => absurd h List.not_mem_nil⟩)) (fun _ _ h => by cases h) v_1067
theorem k_1068 {D d : Nat} (hU : uqG G C) (hG : ∀ k, k < 132 → G k = 300 + k) (hN : ∀ x g, sbN x = some g → G x = g) (hd : 8 ≤ d) : ctrOK (PRd G C D xs) G rgs (wpM mDf mt d) 350 c_1068 := by
  obtain ⟨e, rfl⟩ : ∃ e, d = e + 1 := ⟨d - 1, by omega⟩
  exact ver_ok (PRd_k hU) hG (by omega) rfl (rLLh_ok hU) (lkCL_ok (by
    simp only [List.forall_mem_cons]
    exact ⟨⟨rfl, k_1067 hU hG hN (by omega)⟩, fun _ h => absurd h List.not_mem_nil⟩)) (fun _ _ h => by cases h) v_1068
theorem k_1069 {D d : Nat} (hU : uqG G C) (hG : ∀ k, k < 132 → G k = 300 + k) (hN : ∀ x g, sbN x = some g → G x = g) (hd : 9 ≤ d) : ctrOK (PRd G C D xs) G rgs (wpM mDf mt d) 384 c_1069 := by
  obtain ⟨e, rfl⟩ : ∃ e, d = e + 1 := ⟨d - 1, by omega⟩
  exact ver_ok (PRd_k hU) hG (by omega) rfl (rLLh_ok hU) (lkCL_ok (by
    simp only [List.forall_mem_cons]
    exact ⟨⟨rfl, k_972 hU hG hN (by omega)⟩, ⟨rfl, k_1061 hU hG hN (by omega)⟩, ⟨rfl, k_1062 hU hG hN (by omega)⟩, ⟨rfl, k_1066 hU hG hN (by omega)⟩, fun _ h => absurd h List.not_mem_nil⟩)) hN v_1069
theorem k_1070 {D d : Nat} (hU : uqG G C) (hG : ∀ k, k < 132 → G k = 300 + k) (hN : ∀ x g, sbN x = some g → G x = g) (hd : 10 ≤ d) : ctrOK (PRd G C D xs) G rgs (wpM mDf mt d) 396 c_1070 := by
  obtain ⟨e, rfl⟩ : ∃ e, d = e + 1 := ⟨d - 1, by omega⟩
  exact ver_ok (PRd_k hU) hG (by omega) rfl (rLLh_ok hU) (lkCL_ok (by
    simp only [List.forall_mem_cons]
    exact ⟨⟨rfl, k_1069 hU hG hN (by omega)⟩, fun _ h => absurd h List.not_mem_nil⟩)) hN v_1070
theorem k_1071 {D d : Nat} (hU : uqG G C) (hG : ∀ k, k < 132 → G k = 300 + k) (hN : ∀ x g, sbN x = some g → G x = g) (hd : 7 ≤ d) : ctrOK (PRd G C D xs) G rgs (wpM mDf mt d) 347 c_1071 := by
  obtain ⟨e, rfl⟩ : ∃ e, d = e + 1 := ⟨d - 1, by omega⟩
  exact ver_ok (PRd_k hU) hG (by omega) rfl (rLLh_ok hU) (lkCL_ok (by
    simp only [List.forall_mem_cons]
    exact ⟨⟨rfl, k_977 hU hG hN (by omega)⟩, ⟨rfl, k_1062 hU hG hN (by omega)⟩, ⟨rfl, k_1065 hU hG hN (by omega)⟩, fun _ h => absurd h List.not_mem_nil⟩)) (fun _ _ h => by cases h) v_1071
theorem k_1072 {D d : Nat} (hU : uqG G C) (hG : ∀ k, k < 132 → G k = 300 + k) (hN : ∀ x g, sbN x = some g → G x = g) (hd : 8 ≤ d) : ctrOK (PRd G C D xs) G rgs (wpM mDf mt d) 349 c_1072 := by
  obtain ⟨e, rfl⟩ : ∃ e, d = e + 1 := ⟨d - 1, by omega⟩
  exact ver_ok (PRd_k hU) hG (by omega) rfl (rLLh_ok hU) (lkCL_ok (by
    simp only [List.forall_mem_cons]
    exact ⟨⟨rfl, k_1071 hU hG hN (by omega)⟩, fun _ h => absurd h List.not_mem_nil⟩)) (fun _ _ h => by cases h) v_1072
theorem k_1073 {D d : Nat} (hU : uqG G C) (hG : ∀ k, k < 132 → G k = 300 + k) (hN : ∀ x g, sbN x = some g → G x = g) (hd : 11 ≤ d) : ctrOK (PRd G C D xs) G rgs (wpM mDf mt d) 378 c_1073 := by
  obtain ⟨e, rfl⟩ : ∃ e, d = e + 1 := ⟨d - 1, by omega⟩
  exact ver_ok (PRd_k hU) hG (by omega) rfl (rLLh_ok hU) (lkCL_ok (by
    simp only [List.forall_mem_cons]
    exact ⟨⟨rfl, k_1052 hU hG hN (by omega)⟩, ⟨rfl, k_1056 hU hG hN (by omega)⟩, ⟨rfl, k_1064 hU hG hN (by omega)⟩, ⟨rfl, k_1068 hU hG hN (by omega)⟩, ⟨rfl, k_1070 hU hG hN (by omega)⟩, ⟨rfl, k_1072 hU hG hN (by omega)⟩, fun _ h => absurd h List.not_mem_nil⟩)) hN v_1073
theorem k_1074 {D d : Nat} (hU : uqG G C) (hG : ∀ k, k < 132 → G k = 300 + k) (hN : ∀ x g, sbN x = some g → G x = g) (hd : 9 ≤ d) : ctrOK (PRd G C D xs) G rgs (wpM mDf mt d) 161 c_1074 := by
  obtain ⟨e, rfl⟩ : ∃ e, d = e + 1 := ⟨d - 1, by omega⟩
  exact ver_ok (PRd_k hU) hG (by omega) rfl (rLLh_ok hU) (lkCL_ok (by
    simp only [List.forall_mem_cons]
    exact ⟨⟨rfl, k_1068 hU hG hN (by omega)⟩, ⟨rfl, k_1072 hU hG hN (by omega)⟩, fun _ h => absurd h List.not_mem_nil⟩)) (fun _ _ h => by cases h) v_1074
theorem k_1075 {D d : Nat} (hU : uqG G C) (hG : ∀ k, k < 132 → G k = 300 + k) (hN : ∀ x g, sbN x = some g → G x = g) (hd : 12 ≤ d) : ctrOK (PRd G C D xs) G rgs (wpM mDf mt d) 157 c_1075 := by
  obtain ⟨e, rfl⟩ : ∃ e, d = e + 1 := ⟨d - 1, by omega⟩
  exact ver_ok (PRd_k hU) hG (by omega) rfl (rLLh_ok hU) (lkCL_ok (by
    simp only [List.forall_mem_cons]
    exact ⟨⟨rfl, k_484 hU hG hN (by omega)⟩, ⟨rfl, k_969 hU hG hN (by omega)⟩, ⟨rfl, k_971 hU hG hN (by omega)⟩, ⟨rfl, k_976 hU hG hN (by omega)⟩, ⟨rfl, k_979 hU hG hN (by omega)⟩, ⟨rfl, k_986 hU hG hN (by omega)⟩, ⟨rfl, k_990 hU hG hN (by omega)⟩, ⟨rfl, k_997 hU hG hN (by omega)⟩, ⟨rfl, k_999 hU hG hN (by omega)⟩, ⟨rfl, k_1001 hU hG hN (by omega)⟩, ⟨rfl, k_1003 hU hG hN (by omega)⟩, ⟨rfl, k_1006 hU hG hN (by omega)⟩, ⟨rfl, k_1012 hU hG hN (by omega)⟩, ⟨rfl, k_1014 hU hG hN (by omega)⟩, ⟨rfl, k_1017 hU hG hN (by omega)⟩, ⟨rfl, k_1020 hU hG hN (by omega)⟩, ⟨rfl, k_1022 hU hG hN (by omega)⟩, ⟨rfl, k_1023 hU hG hN (by omega)⟩, ⟨rfl, k_1029 hU hG hN (by omega)⟩, ⟨rfl, k_1032 hU hG hN (by omega)⟩, ⟨rfl, k_1035 hU hG hN (by omega)⟩, ⟨rfl, k_1037 hU hG hN (by omega)⟩, ⟨rfl, k_1038 hU hG hN (by omega)⟩, ⟨rfl, k_1039 hU hG hN (by omega)⟩, ⟨rfl, k_1040 hU hG hN (by omega)⟩, ⟨rfl, k_1041 hU hG hN (by omega)⟩, ⟨rfl, k_1042 hU hG hN (by omega)⟩, ⟨rfl, k_1048 hU hG hN (by omega)⟩, ⟨rfl, k_1052 hU hG hN (by omega)⟩, ⟨rfl, k_1054 hU hG hN (by omega)⟩, ⟨rfl, k_1056 hU hG hN (by omega)⟩, ⟨rfl, k_1057 hU hG hN (by omega)⟩, ⟨rfl, k_1058 hU hG hN (by omega)⟩, ⟨rfl, k_1064 hU hG hN (by omega)⟩, ⟨rfl, k_1068 hU hG hN (by omega)⟩, ⟨rfl, k_1070 hU hG hN (by omega)⟩, ⟨rfl, k_1072 hU hG hN (by omega)⟩, ⟨rfl, k_1073 hU hG hN (by omega)⟩, ⟨rfl, k_1074 hU hG hN (by omega)⟩, fun _ h => absurd h List.not_mem_nil⟩)) hN v_1075
theorem k_1076 {D d : Nat} (hU : uqG G C) (hG : ∀ k, k < 132 → G k = 300 + k) (hN : ∀ x g, sbN x = some g → G x = g) (hd : 13 ≤ d) : ctrOK (PRd G C D xs) G rgs (wpM mDf mt d) 156 c_1076 := by
  obtain ⟨e, rfl⟩ : ∃ e, d = e + 1 := ⟨d - 1, by omega⟩
  exact ver_ok (PRd_k hU) hG (by omega) rfl (rLLh_ok hU) (lkCL_ok (by
    simp only [List.forall_mem_cons]
    exact ⟨⟨rfl, k_1075 hU hG hN (by omega)⟩, fun _ h => absurd h List.not_mem_nil⟩)) hN v_1076
theorem k_1077 {D d : Nat} (hU : uqG G C) (hG : ∀ k, k < 132 → G k = 300 + k) (hN : ∀ x g, sbN x = some g → G x = g) (hd : 7 ≤ d) : ctrOK (PRd G C D xs) G rgs (wpM mDf mt d) 157 c_1077 := by
  obtain ⟨e, rfl⟩ : ∃ e, d = e + 1 := ⟨d - 1, by omega⟩
  exact ver_ok (PRd_k hU) hG (by omega) rfl (rLLh_ok hU) (lkCL_ok (by
    simp only [List.forall_mem_cons]
    exact ⟨⟨rfl, k_476 hU hG hN (by omega)⟩, fun _ h => absurd h List.not_mem_nil⟩)) (fun _ _ h => by cases h) v_1077
theorem k_1078 {D d : Nat} (hU : uqG G C) (hG : ∀ k, k < 132 → G k = 300 + k) (hN : ∀ x g, sbN x = some g → G x = g) (hd : 8 ≤ d) : ctrOK (PRd G C D xs) G rgs (wpM mDf mt d) 156 c_1078 := by
  obtain ⟨e, rfl⟩ : ∃ e, d = e + 1 := ⟨d - 1, by omega⟩
  exact ver_ok (PRd_k hU) hG (by omega) rfl (rLLh_ok hU) (lkCL_ok (by
    simp only [List.forall_mem_cons]
    exact ⟨⟨rfl, k_1077 hU hG hN (by omega)⟩, fun _ h => absurd h List.not_mem_nil⟩)) (fun _ _ h => by cases h) v_1078
end
