section
variable {G C : Nat → Nat} {xs : Nat → Int32}
theorem k_63 {D d : Nat} (hU : uqG G C) (hG : ∀ k, k < 132 → G k = 300 + k) (hN : ∀ x g, sbN x = some g → G x = g) (hd : 7 ≤ d) : ctrOK (PRd G C D xs) G rgs (wpM mDf mt d) 41 c_63 := by
  obtain ⟨e, rfl⟩ : ∃ e, d = e + 1 := ⟨d - 1, by omega⟩
  exact ver_ok (PRd_k hU) hG (by omega) rfl (rLLh_ok hU) (lkCL_ok (by
    simp only [List.forall_mem_cons]
    exact ⟨⟨rfl, k_62 hU hG hN (by omega)⟩, fun _ h => absurd h List.not_mem_nil⟩)) (fun _ _ h => by cases h) v_63
theorem k_64 {D d : Nat} (hU : uqG G C) (hG : ∀ k, k < 132 → G k = 300 + k) (hN : ∀ x g, sbN x = some g → G x = g) (hd : 6 ≤ d) : ctrOK (PRd G C D xs) G rgs (wpM mDf mt d) 40 c_64 := by
  obtain ⟨e, rfl⟩ : ∃ e, d = e + 1 := ⟨d - 1, by omega⟩
  exact ver_ok (PRd_k hU) hG (by omega) rfl (rLLh_ok hU) (fun _ _ _ h => by cases h) (fun _ _ h => by cases h) v_64
theorem k_65 {D d : Nat} (hU : uqG G C) (hG : ∀ k, k < 132 → G k = 300 + k) (hN : ∀ x g, sbN x = some g → G x = g) (hd : 8 ≤ d) : ctrOK (PRd G C D xs) G rgs (wpM mDf mt d) 51 c_65 := by
  obtain ⟨e, rfl⟩ : ∃ e, d = e + 1 := ⟨d - 1, by omega⟩
  exact ver_ok (PRd_k hU) hG (by omega) rfl (rLLh_ok hU) (lkCL_ok (by
    simp only [List.forall_mem_cons]
    exact ⟨⟨rfl, k_26 hU hG hN (by omega)⟩, fun _ h => absurd h List.not_mem_nil⟩)) (fun _ _ h => by cases h) v_65
theorem k_66 {D d : Nat} (hU : uqG G C) (hG : ∀ k, k < 132 → G k = 300 + k) (hN : ∀ x g, sbN x = some g → G x = g) (hd : 9 ≤ d) : ctrOK (PRd G C D xs) G rgs (wpM mDf mt d) 50 c_66 := by
  obtain ⟨e, rfl⟩ : ∃ e, d = e + 1 := ⟨d - 1, by omega⟩
  exact ver_ok (PRd_k hU) hG (by omega) rfl (rLLh_ok hU) (lkCL_ok (by
    simp only [List.forall_mem_cons]
    exact ⟨⟨rfl, k_64 hU hG hN (by omega)⟩, ⟨rfl, k_65 hU hG hN (by omega)⟩, fun _ h => absurd h List.not_mem_nil⟩)) (fun _ _ h => by cases h) v_66
theorem k_67 {D d : Nat} (hU : uqG G C) (hG : ∀ k, k < 132 → G k = 300 + k) (hN : ∀ x g, sbN x = some g → G x = g) (hd : 10 ≤ d) : ctrOK (PRd G C D xs) G rgs (wpM mDf mt d) 49 c_67 := by
  obtain ⟨e, rfl⟩ : ∃ e, d = e + 1 := ⟨d - 1, by omega⟩
  exact ver_ok (PRd_k hU) hG (by omega) rfl (rLLh_ok hU) (lkCL_ok (by
    simp only [List.forall_mem_cons]
    exact ⟨⟨rfl, k_63 hU hG hN (by omega)⟩, ⟨rfl, k_66 hU hG hN (by omega)⟩, fun _ h => absurd h List.not_mem_nil⟩)) (fun _ _ h => by cases h) v_67
theorem k_68 {D d : Nat} (hU : uqG G C) (hG : ∀ k, k < 132 → G k = 300 + k) (hN : ∀ x g, sbN x = some g → G x = g) (hd : 11 ≤ d) : ctrOK (PRd G C D xs) G rgs (wpM mDf mt d) 48 c_68 := by
  obtain ⟨e, rfl⟩ : ∃ e, d = e + 1 := ⟨d - 1, by omega⟩
  exact ver_ok (PRd_k hU) hG (by omega) rfl (rLLh_ok hU) (lkCL_ok (by
    simp only [List.forall_mem_cons]
    exact ⟨⟨rfl, k_19 hU hG hN (by omega)⟩, ⟨rfl, k_30 hU hG hN (by omega)⟩, ⟨rfl, k_67 hU hG hN (by omega)⟩, fun _ h => absurd h List.not_mem_nil⟩)) (fun _ _ h => by cases h) v_68
theorem k_69 {D d : Nat} (hU : uqG G C) (hG : ∀ k, k < 132 → G k = 300 + k) (hN : ∀ x g, sbN x = some g → G x = g) (hd : 6 ≤ d) : ctrOK (PRd G C D xs) G rgs (wpM mDf mt d) 42 c_69 := by
  obtain ⟨e, rfl⟩ : ∃ e, d = e + 1 := ⟨d - 1, by omega⟩
  exact ver_ok (PRd_k hU) hG (by omega) rfl (rLLh_ok hU) (fun _ _ _ h => by cases h) (fun _ _ h => by cases h) v_69
theorem k_70 {D d : Nat} (hU : uqG G C) (hG : ∀ k, k < 132 → G k = 300 + k) (hN : ∀ x g, sbN x = some g → G x = g) (hd : 7 ≤ d) : ctrOK (PRd G C D xs) G rgs (wpM mDf mt d) 41 c_70 := by
  obtain ⟨e, rfl⟩ : ∃ e, d = e + 1 := ⟨d - 1, by omega⟩
  exact ver_ok (PRd_k hU) hG (by omega) rfl (rLLh_ok hU) (lkCL_ok (by
    simp only [List.forall_mem_cons]
    exact ⟨⟨rfl, k_69 hU hG hN (by omega)⟩, fun _ h => absurd h List.not_mem_nil⟩)) (fun _ _ h => by cases h) v_70
theorem k_71 {D d : Nat} (hU : uqG G C) (hG : ∀ k, k < 132 → G k = 300 + k) (hN : ∀ x g, sbN x = some g → G x = g) (hd : 6 ≤ d) : ctrOK (PRd G C D xs) G rgs (wpM mDf mt d) 40 c_71 := by
  obtain ⟨e, rfl⟩ : ∃ e, d = e + 1 := ⟨d - 1, by omega⟩
  exact ver_ok (PRd_k hU) hG (by omega) rfl (rLLh_ok hU) (fun _ _ _ h => by cases h) (fun _ _ h => by cases h) v_71
theorem k_72 {D d : Nat} (hU : uqG G C) (hG : ∀ k, k < 132 → G k = 300 + k) (hN : ∀ x g, sbN x = some g → G x = g) (hd : 8 ≤ d) : ctrOK (PRd G C D xs) G rgs (wpM mDf mt d) 51 c_72 := by
  obtain ⟨e, rfl⟩ : ∃ e, d = e + 1 := ⟨d - 1, by omega⟩
  exact ver_ok (PRd_k hU) hG (by omega) rfl (rLLh_ok hU) (lkCL_ok (by
    simp only [List.forall_mem_cons]
    exact ⟨⟨rfl, k_26 hU hG hN (by omega)⟩, fun _ h => absurd h List.not_mem_nil⟩)) (fun _ _ h => by cases h) v_72
theorem k_73 {D d : Nat} (hU : uqG G C) (hG : ∀ k, k < 132 → G k = 300 + k) (hN : ∀ x g, sbN x = some g → G x = g) (hd : 9 ≤ d) : ctrOK (PRd G C D xs) G rgs (wpM mDf mt d) 50 c_73 := by
  obtain ⟨e, rfl⟩ : ∃ e, d = e + 1 := ⟨d - 1, by omega⟩
  exact ver_ok (PRd_k hU) hG (by omega) rfl (rLLh_ok hU) (lkCL_ok (by
    simp only [List.forall_mem_cons]
    exact ⟨⟨rfl, k_71 hU hG hN (by omega)⟩, ⟨rfl, k_72 hU hG hN (by omega)⟩, fun _ h => absurd h List.not_mem_nil⟩)) (fun _ _ h => by cases h) v_73
theorem k_74 {D d : Nat} (hU : uqG G C) (hG : ∀ k, k < 132 → G k = 300 + k) (hN : ∀ x g, sbN x = some g → G x = g) (hd : 10 ≤ d) : ctrOK (PRd G C D xs) G rgs (wpM mDf mt d) 49 c_74 := by
  obtain ⟨e, rfl⟩ : ∃ e, d = e + 1 := ⟨d - 1, by omega⟩
  exact ver_ok (PRd_k hU) hG (by omega) rfl (rLLh_ok hU) (lkCL_ok (by
    simp only [List.forall_mem_cons]
    exact ⟨⟨rfl, k_70 hU hG hN (by omega)⟩, ⟨rfl, k_73 hU hG hN (by omega)⟩, fun _ h => absurd h List.not_mem_nil⟩)) (fun _ _ h => by cases h) v_74
theorem k_75 {D d : Nat} (hU : uqG G C) (hG : ∀ k, k < 132 → G k = 300 + k) (hN : ∀ x g, sbN x = some g → G x = g) (hd : 11 ≤ d) : ctrOK (PRd G C D xs) G rgs (wpM mDf mt d) 48 c_75 := by
  obtain ⟨e, rfl⟩ : ∃ e, d = e + 1 := ⟨d - 1, by omega⟩
  exact ver_ok (PRd_k hU) hG (by omega) rfl (rLLh_ok hU) (lkCL_ok (by
    simp only [List.forall_mem_cons]
    exact ⟨⟨rfl, k_19 hU hG hN (by omega)⟩, ⟨rfl, k_30 hU hG hN (by omega)⟩, ⟨rfl, k_74 hU hG hN (by omega)⟩, fun _ h => absurd h List.not_mem_nil⟩)) (fun _ _ h => by cases h) v_75
theorem k_76 {D d : Nat} (hU : uqG G C) (hG : ∀ k, k < 132 → G k = 300 + k) (hN : ∀ x g, sbN x = some g → G x = g) (hd : 13 ≤ d) : ctrOK (PRd G C D xs) G rgs (wpM mDf mt d) 46 c_76 := by
  obtain ⟨e, rfl⟩ : ∃ e, d = e + 1 := ⟨d - 1, by omega⟩
  exact ver_ok (PRd_k hU) hG (by omega) rfl (rLLh_ok hU) (lkCL_ok (by
    simp only [List.forall_mem_cons]
    exact ⟨⟨rfl, k_21 hU hG hN (by omega)⟩, ⟨rfl, k_31 hU hG hN (by omega)⟩, ⟨rfl, k_32 hU hG hN (by omega)⟩, ⟨rfl, k_33 hU hG hN (by omega)⟩, ⟨rfl, k_40 hU hG hN (by omega)⟩, ⟨rfl, k_47 hU hG hN (by omega)⟩, ⟨rfl, k_54 hU hG hN (by omega)⟩, ⟨rfl, k_61 hU hG hN (by omega)⟩, ⟨rfl, k_68 hU hG hN (by omega)⟩, ⟨rfl, k_75 hU hG hN (by omega)⟩, fun _ h => absurd h List.not_mem_nil⟩)) (fun _ _ h => by cases h) v_76
theorem k_77 {D d : Nat} (hU : uqG G C) (hG : ∀ k, k < 132 → G k = 300 + k) (hN : ∀ x g, sbN x = some g → G x = g) (hd : 6 ≤ d) : ctrOK (PRd G C D xs) G rgs (wpM mDf mt d) 57 c_77 := by
  obtain ⟨e, rfl⟩ : ∃ e, d = e + 1 := ⟨d - 1, by omega⟩
  exact ver_ok (PRd_k hU) hG (by omega) rfl (rLLh_ok hU) (fun _ _ _ h => by cases h) (fun _ _ h => by cases h) v_77
theorem k_78 {D d : Nat} (hU : uqG G C) (hG : ∀ k, k < 132 → G k = 300 + k) (hN : ∀ x g, sbN x = some g → G x = g) (hd : 6 ≤ d) : ctrOK (PRd G C D xs) G rgs (wpM mDf mt d) 42 c_78 := by
  obtain ⟨e, rfl⟩ : ∃ e, d = e + 1 := ⟨d - 1, by omega⟩
  exact ver_ok (PRd_k hU) hG (by omega) rfl (rLLh_ok hU) (fun _ _ _ h => by cases h) (fun _ _ h => by cases h) v_78
theorem k_79 {D d : Nat} (hU : uqG G C) (hG : ∀ k, k < 132 → G k = 300 + k) (hN : ∀ x g, sbN x = some g → G x = g) (hd : 7 ≤ d) : ctrOK (PRd G C D xs) G rgs (wpM mDf mt d) 41 c_79 := by
  obtain ⟨e, rfl⟩ : ∃ e, d = e + 1 := ⟨d - 1, by omega⟩
  exact ver_ok (PRd_k hU) hG (by omega) rfl (rLLh_ok hU) (lkCL_ok (by
    simp only [List.forall_mem_cons]
    exact ⟨⟨rfl, k_78 hU hG hN (by omega)⟩, fun _ h => absurd h List.not_mem_nil⟩)) (fun _ _ h => by cases h) v_79
theorem k_80 {D d : Nat} (hU : uqG G C) (hG : ∀ k, k < 132 → G k = 300 + k) (hN : ∀ x g, sbN x = some g → G x = g) (hd : 6 ≤ d) : ctrOK (PRd G C D xs) G rgs (wpM mDf mt d) 40 c_80 := by
  obtain ⟨e, rfl⟩ : ∃ e, d = e + 1 := ⟨d - 1, by omega⟩
  exact ver_ok (PRd_k hU) hG (by omega) rfl (rLLh_ok hU) (fun _ _ _ h => by cases h) (fun _ _ h => by cases h) v_80
theorem k_81 {D d : Nat} (hU : uqG G C) (hG : ∀ k, k < 132 → G k = 300 + k) (hN : ∀ x g, sbN x = some g → G x = g) (hd : 8 ≤ d) : ctrOK (PRd G C D xs) G rgs (wpM mDf mt d) 51 c_81 := by
  obtain ⟨e, rfl⟩ : ∃ e, d = e + 1 := ⟨d - 1, by omega⟩
  exact ver_ok (PRd_k hU) hG (by omega) rfl (rLLh_ok hU) (lkCL_ok (by
    simp only [List.forall_mem_cons]
    exact ⟨⟨rfl, k_26 hU hG hN (by omega)⟩, fun _ h => absurd h List.not_mem_nil⟩)) (fun _ _ h => by cases h) v_81
theorem k_82 {D d : Nat} (hU : uqG G C) (hG : ∀ k, k < 132 → G k = 300 + k) (hN : ∀ x g, sbN x = some g → G x = g) (hd : 9 ≤ d) : ctrOK (PRd G C D xs) G rgs (wpM mDf mt d) 50 c_82 := by
  obtain ⟨e, rfl⟩ : ∃ e, d = e + 1 := ⟨d - 1, by omega⟩
  exact ver_ok (PRd_k hU) hG (by omega) rfl (rLLh_ok hU) (lkCL_ok (by
    simp only [List.forall_mem_cons]
    exact ⟨⟨rfl, k_80 hU hG hN (by omega)⟩, ⟨rfl, k_81 hU hG hN (by omega)⟩, fun _ h => absurd h List.not_mem_nil⟩)) (fun _ _ h => by cases h) v_82
theorem k_83 {D d : Nat} (hU : uqG G C) (hG : ∀ k, k < 132 → G k = 300 + k) (hN : ∀ x g, sbN x = some g → G x = g) (hd : 10 ≤ d) : ctrOK (PRd G C D xs) G rgs (wpM mDf mt d) 49 c_83 := by
  obtain ⟨e, rfl⟩ : ∃ e, d = e + 1 := ⟨d - 1, by omega⟩
  exact ver_ok (PRd_k hU) hG (by omega) rfl (rLLh_ok hU) (lkCL_ok (by
    simp only [List.forall_mem_cons]
    exact ⟨⟨rfl, k_79 hU hG hN (by omega)⟩, ⟨rfl, k_82 hU hG hN (by omega)⟩, fun _ h => absurd h List.not_mem_nil⟩)) (fun _ _ h => by cases h) v_83
theorem k_84 {D d : Nat} (hU : uqG G C) (hG : ∀ k, k < 132 → G k = 300 + k) (hN : ∀ x g, sbN x = some g → G x = g) (hd : 12 ≤ d) : ctrOK (PRd G C D xs) G rgs (wpM mDf mt d) 58 c_84 := by
  obtain ⟨e, rfl⟩ : ∃ e, d = e + 1 := ⟨d - 1, by omega⟩
  exact ver_ok (PRd_k hU) hG (by omega) rfl (rLLh_ok hU) (lkCL_ok (by
    simp only [List.forall_mem_cons]
    exact ⟨⟨rfl, k_19 hU hG hN (by omega)⟩, ⟨rfl, k_30 hU hG hN (by omega)⟩, ⟨rfl, k_32 hU hG hN (by omega)⟩, fun _ h => absurd h List.not_mem_nil⟩)) (fun _ _ h => by cases h) v_84
theorem k_85 {D d : Nat} (hU : uqG G C) (hG : ∀ k, k < 132 → G k = 300 + k) (hN : ∀ x g, sbN x = some g → G x = g) (hd : 6 ≤ d) : ctrOK (PRd G C D xs) G rgs (wpM mDf mt d) 42 c_85 := by
  obtain ⟨e, rfl⟩ : ∃ e, d = e + 1 := ⟨d - 1, by omega⟩
  exact ver_ok (PRd_k hU) hG (by omega) rfl (rLLh_ok hU) (fun _ _ _ h => by cases h) (fun _ _ h => by cases h) v_85
theorem k_86 {D d : Nat} (hU : uqG G C) (hG : ∀ k, k < 132 → G k = 300 + k) (hN : ∀ x g, sbN x = some g → G x = g) (hd : 7 ≤ d) : ctrOK (PRd G C D xs) G rgs (wpM mDf mt d) 41 c_86 := by
  obtain ⟨e, rfl⟩ : ∃ e, d = e + 1 := ⟨d - 1, by omega⟩
  exact ver_ok (PRd_k hU) hG (by omega) rfl (rLLh_ok hU) (lkCL_ok (by
    simp only [List.forall_mem_cons]
    exact ⟨⟨rfl, k_85 hU hG hN (by omega)⟩, fun _ h => absurd h List.not_mem_nil⟩)) (fun _ _ h => by cases h) v_86
theorem k_87 {D d : Nat} (hU : uqG G C) (hG : ∀ k, k < 132 → G k = 300 + k) (hN : ∀ x g, sbN x = some g → G x = g) (hd : 6 ≤ d) : ctrOK (PRd G C D xs) G rgs (wpM mDf mt d) 40 c_87 := by
  obtain ⟨e, rfl⟩ : ∃ e, d = e + 1 := ⟨d - 1, by omega⟩
  exact ver_ok (PRd_k hU) hG (by omega) rfl (rLLh_ok hU) (fun _ _ _ h => by cases h) (fun _ _ h => by cases h) v_87
theorem k_88 {D d : Nat} (hU : uqG G C) (hG : ∀ k, k < 132 → G k = 300 + k) (hN : ∀ x g, sbN x = some g → G x = g) (hd : 8 ≤ d) : ctrOK (PRd G C D xs) G rgs (wpM mDf mt d) 51 c_88 := by
  obtain ⟨e, rfl⟩ : ∃ e, d = e + 1 := ⟨d - 1, by omega⟩
  exact ver_ok (PRd_k hU) hG (by omega) rfl (rLLh_ok hU) (lkCL_ok (by
    simp only [List.forall_mem_cons]
    exact ⟨⟨rfl, k_26 hU hG hN (by omega)⟩, fun _ h => absurd h List.not_mem_nil⟩)) (fun _ _ h => by cases h) v_88
theorem k_89 {D d : Nat} (hU : uqG G C) (hG : ∀ k, k < 132 → G k = 300 + k) (hN : ∀ x g, sbN x = some g → G x = g) (hd : 9 ≤ d) : ctrOK (PRd G C D xs) G rgs (wpM mDf mt d) 50 c_89 := by
  obtain ⟨e, rfl⟩ : ∃ e, d = e + 1 := ⟨d - 1, by omega⟩
  exact ver_ok (PRd_k hU) hG (by omega) rfl (rLLh_ok hU) (lkCL_ok (by
    simp only [List.forall_mem_cons]
    exact ⟨⟨rfl, k_87 hU hG hN (by omega)⟩, ⟨rfl, k_88 hU hG hN (by omega)⟩, fun _ h => absurd h List.not_mem_nil⟩)) (fun _ _ h => by cases h) v_89
theorem k_90 {D d : Nat} (hU : uqG G C) (hG : ∀ k, k < 132 → G k = 300 + k) (hN : ∀ x g, sbN x = some g → G x = g) (hd : 10 ≤ d) : ctrOK (PRd G C D xs) G rgs (wpM mDf mt d) 49 c_90 := by
  obtain ⟨e, rfl⟩ : ∃ e, d = e + 1 := ⟨d - 1, by omega⟩
  exact ver_ok (PRd_k hU) hG (by omega) rfl (rLLh_ok hU) (lkCL_ok (by
    simp only [List.forall_mem_cons]
    exact ⟨⟨rfl, k_86 hU hG hN (by omega)⟩, ⟨rfl, k_89 hU hG hN (by omega)⟩, fun _ h => absurd h List.not_mem_nil⟩)) (fun _ _ h => by cases h) v_90
theorem k_91 {D d : Nat} (hU : uqG G C) (hG : ∀ k, k < 132 → G k = 300 + k) (hN : ∀ x g, sbN x = some g → G x = g) (hd : 12 ≤ d) : ctrOK (PRd G C D xs) G rgs (wpM mDf mt d) 55 c_91 := by
  obtain ⟨e, rfl⟩ : ∃ e, d = e + 1 := ⟨d - 1, by omega⟩
  exact ver_ok (PRd_k hU) hG (by omega) rfl (rLLh_ok hU) (lkCL_ok (by
    simp only [List.forall_mem_cons]
    exact ⟨⟨rfl, k_32 hU hG hN (by omega)⟩, fun _ h => absurd h List.not_mem_nil⟩)) (fun _ _ h => by cases h) v_91
theorem k_92 {D d : Nat} (hU : uqG G C) (hG : ∀ k, k < 132 → G k = 300 + k) (hN : ∀ x g, sbN x = some g → G x = g) (hd : 6 ≤ d) : ctrOK (PRd G C D xs) G rgs (wpM mDf mt d) 60 c_92 := by
  obtain ⟨e, rfl⟩ : ∃ e, d = e + 1 := ⟨d - 1, by omega⟩
  exact ver_ok (PRd_k hU) hG (by omega) rfl (rLLh_ok hU) (fun _ _ _ h => by cases h) (fun _ _ h => by cases h) v_92
theorem k_93 {D d : Nat} (hU : uqG G C) (hG : ∀ k, k < 132 → G k = 300 + k) (hN : ∀ x g, sbN x = some g → G x = g) (hd : 6 ≤ d) : ctrOK (PRd G C D xs) G rgs (wpM mDf mt d) 42 c_93 := by
  obtain ⟨e, rfl⟩ : ∃ e, d = e + 1 := ⟨d - 1, by omega⟩
  exact ver_ok (PRd_k hU) hG (by omega) rfl (rLLh_ok hU) (fun _ _ _ h => by cases h) (fun _ _ h => by cases h) v_93
theorem k_94 {D d : Nat} (hU : uqG G C) (hG : ∀ k, k < 132 → G k = 300 + k) (hN : ∀ x g, sbN x = some g → G x = g) (hd : 7 ≤ d) : ctrOK (PRd G C D xs) G rgs (wpM mDf mt d) 41 c_94 := by
  obtain ⟨e, rfl⟩ : ∃ e, d = e + 1 := ⟨d - 1, by omega⟩
  exact ver_ok (PRd_k hU) hG (by omega) rfl (rLLh_ok hU) (lkCL_ok (by
    simp only [List.forall_mem_cons]
    exact ⟨⟨rfl, k_93 hU hG hN (by omega)⟩, fun _ h => absurd h List.not_mem_nil⟩)) (fun _ _ h => by cases h) v_94
theorem k_95 {D d : Nat} (hU : uqG G C) (hG : ∀ k, k < 132 → G k = 300 + k) (hN : ∀ x g, sbN x = some g → G x = g) (hd : 6 ≤ d) : ctrOK (PRd G C D xs) G rgs (wpM mDf mt d) 40 c_95 := by
  obtain ⟨e, rfl⟩ : ∃ e, d = e + 1 := ⟨d - 1, by omega⟩
  exact ver_ok (PRd_k hU) hG (by omega) rfl (rLLh_ok hU) (fun _ _ _ h => by cases h) (fun _ _ h => by cases h) v_95
theorem k_96 {D d : Nat} (hU : uqG G C) (hG : ∀ k, k < 132 → G k = 300 + k) (hN : ∀ x g, sbN x = some g → G x = g) (hd : 8 ≤ d) : ctrOK (PRd G C D xs) G rgs (wpM mDf mt d) 51 c_96 := by
  obtain ⟨e, rfl⟩ : ∃ e, d = e + 1 := ⟨d - 1, by omega⟩
  exact ver_ok (PRd_k hU) hG (by omega) rfl (rLLh_ok hU) (lkCL_ok (by
    simp only [List.forall_mem_cons]
    exact ⟨⟨rfl, k_26 hU hG hN (by omega)⟩, fun _ h => absurd h List.not_mem_nil⟩)) (fun _ _ h => by cases h) v_96
theorem k_97 {D d : Nat} (hU : uqG G C) (hG : ∀ k, k < 132 → G k = 300 + k) (hN : ∀ x g, sbN x = some g → G x = g) (hd : 9 ≤ d) : ctrOK (PRd G C D xs) G rgs (wpM mDf mt d) 50 c_97 := by
  obtain ⟨e, rfl⟩ : ∃ e, d = e + 1 := ⟨d - 1, by omega⟩
  exact ver_ok (PRd_k hU) hG (by omega) rfl (rLLh_ok hU) (lkCL_ok (by
    simp only [List.forall_mem_cons]
    exact ⟨⟨rfl, k_95 hU hG hN (by omega)⟩, ⟨rfl, k_96 hU hG hN (by omega)⟩, fun _ h => absurd h List.not_mem_nil⟩)) (fun _ _ h => by cases h) v_97
theorem k_98 {D d : Nat} (hU : uqG G C) (hG : ∀ k, k < 132 → G k = 300 + k) (hN : ∀ x g, sbN x = some g → G x = g) (hd : 10 ≤ d) : ctrOK (PRd G C D xs) G rgs (wpM mDf mt d) 49 c_98 := by
  obtain ⟨e, rfl⟩ : ∃ e, d = e + 1 := ⟨d - 1, by omega⟩
  exact ver_ok (PRd_k hU) hG (by omega) rfl (rLLh_ok hU) (lkCL_ok (by
    simp only [List.forall_mem_cons]
    exact ⟨⟨rfl, k_94 hU hG hN (by omega)⟩, ⟨rfl, k_97 hU hG hN (by omega)⟩, fun _ h => absurd h List.not_mem_nil⟩)) (fun _ _ h => by cases h) v_98
theorem k_99 {D d : Nat} (hU : uqG G C) (hG : ∀ k, k < 132 → G k = 300 + k) (hN : ∀ x g, sbN x = some g → G x = g) (hd : 13 ≤ d) : ctrOK (PRd G C D xs) G rgs (wpM mDf mt d) 59 c_99 := by
  obtain ⟨e, rfl⟩ : ∃ e, d = e + 1 := ⟨d - 1, by omega⟩
  exact ver_ok (PRd_k hU) hG (by omega) rfl (rLLh_ok hU) (lkCL_ok (by
    simp only [List.forall_mem_cons]
    exact ⟨⟨rfl, k_19 hU hG hN (by omega)⟩, ⟨rfl, k_30 hU hG hN (by omega)⟩, ⟨rfl, k_32 hU hG hN (by omega)⟩, ⟨rfl, k_91 hU hG hN (by omega)⟩, ⟨rfl, k_92 hU hG hN (by omega)⟩, ⟨rfl, k_98 hU hG hN (by omega)⟩, fun _ h => absurd h List.not_mem_nil⟩)) (fun _ _ h => by cases h) v_99
theorem k_100 {D d : Nat} (hU : uqG G C) (hG : ∀ k, k < 132 → G k = 300 + k) (hN : ∀ x g, sbN x = some g → G x = g) (hd : 6 ≤ d) : ctrOK (PRd G C D xs) G rgs (wpM mDf mt d) 42 c_100 := by
  obtain ⟨e, rfl⟩ : ∃ e, d = e + 1 := ⟨d - 1, by omega⟩
  exact ver_ok (PRd_k hU) hG (by omega) rfl (rLLh_ok hU) (fun _ _ _ h => by cases h) (fun _ _ h => by cases h) v_100
theorem k_101 {D d : Nat} (hU : uqG G C) (hG : ∀ k, k < 132 → G k = 300 + k) (hN : ∀ x g, sbN x = some g → G x = g) (hd : 7 ≤ d) : ctrOK (PRd G C D xs) G rgs (wpM mDf mt d) 41 c_101 := by
  obtain ⟨e, rfl⟩ : ∃ e, d = e + 1 := ⟨d - 1, by omega⟩
  exact ver_ok (PRd_k hU) hG (by omega) rfl (rLLh_ok hU) (lkCL_ok (by
    simp only [List.forall_mem_cons]
    exact ⟨⟨rfl, k_100 hU hG hN (by omega)⟩, fun _ h => absurd h List.not_mem_nil⟩)) (fun _ _ h => by cases h) v_101
theorem k_102 {D d : Nat} (hU : uqG G C) (hG : ∀ k, k < 132 → G k = 300 + k) (hN : ∀ x g, sbN x = some g → G x = g) (hd : 6 ≤ d) : ctrOK (PRd G C D xs) G rgs (wpM mDf mt d) 40 c_102 := by
  obtain ⟨e, rfl⟩ : ∃ e, d = e + 1 := ⟨d - 1, by omega⟩
  exact ver_ok (PRd_k hU) hG (by omega) rfl (rLLh_ok hU) (fun _ _ _ h => by cases h) (fun _ _ h => by cases h) v_102
theorem k_103 {D d : Nat} (hU : uqG G C) (hG : ∀ k, k < 132 → G k = 300 + k) (hN : ∀ x g, sbN x = some g → G x = g) (hd : 8 ≤ d) : ctrOK (PRd G C D xs) G rgs (wpM mDf mt d) 51 c_103 := by
  obtain ⟨e, rfl⟩ : ∃ e, d = e + 1 := ⟨d - 1, by omega⟩
  exact ver_ok (PRd_k hU) hG (by omega) rfl (rLLh_ok hU) (lkCL_ok (by
    simp only [List.forall_mem_cons]
    exact ⟨⟨rfl, k_26 hU hG hN (by omega)⟩, fun _ h => absurd h List.not_mem_nil⟩)) (fun _ _ h => by cases h) v_103
theorem k_104 {D d : Nat} (hU : uqG G C) (hG : ∀ k, k < 132 → G k = 300 + k) (hN : ∀ x g, sbN x = some g → G x = g) (hd : 9 ≤ d) : ctrOK (PRd G C D xs) G rgs (wpM mDf mt d) 50 c_104 := by
  obtain ⟨e, rfl⟩ : ∃ e, d = e + 1 := ⟨d - 1, by omega⟩
  exact ver_ok (PRd_k hU) hG (by omega) rfl (rLLh_ok hU) (lkCL_ok (by
    simp only [List.forall_mem_cons]
    exact ⟨⟨rfl, k_102 hU hG hN (by omega)⟩, ⟨rfl, k_103 hU hG hN (by omega)⟩, fun _ h => absurd h List.not_mem_nil⟩)) (fun _ _ h => by cases h) v_104
theorem k_105 {D d : Nat} (hU : uqG G C) (hG : ∀ k, k < 132 → G k = 300 + k) (hN : ∀ x g, sbN x = some g → G x = g) (hd : 10 ≤ d) : ctrOK (PRd G C D xs) G rgs (wpM mDf mt d) 49 c_105 := by
  obtain ⟨e, rfl⟩ : ∃ e, d = e + 1 := ⟨d - 1, by omega⟩
  exact ver_ok (PRd_k hU) hG (by omega) rfl (rLLh_ok hU) (lkCL_ok (by
    simp only [List.forall_mem_cons]
    exact ⟨⟨rfl, k_101 hU hG hN (by omega)⟩, ⟨rfl, k_104 hU hG hN (by omega)⟩, fun _ h => absurd h List.not_mem_nil⟩)) (fun _ _ h => by cases h) v_105
theorem k_106 {D d : Nat} (hU : uqG G C) (hG : ∀ k, k < 132 → G k = 300 + k) (hN : ∀ x g, sbN x = some g → G x = g) (hd : 6 ≤ d) : ctrOK (PRd G C D xs) G rgs (wpM mDf mt d) 42 c_106 := by
  obtain ⟨e, rfl⟩ : ∃ e, d = e + 1 := ⟨d - 1, by omega⟩
  exact ver_ok (PRd_k hU) hG (by omega) rfl (rLLh_ok hU) (fun _ _ _ h => by cases h) (fun _ _ h => by cases h) v_106
theorem k_107 {D d : Nat} (hU : uqG G C) (hG : ∀ k, k < 132 → G k = 300 + k) (hN : ∀ x g, sbN x = some g → G x = g) (hd : 7 ≤ d) : ctrOK (PRd G C D xs) G rgs (wpM mDf mt d) 41 c_107 := by
  obtain ⟨e, rfl⟩ : ∃ e, d = e + 1 := ⟨d - 1, by omega⟩
  exact ver_ok (PRd_k hU) hG (by omega) rfl (rLLh_ok hU) (lkCL_ok (by
    simp only [List.forall_mem_cons]
    exact ⟨⟨rfl, k_106 hU hG hN (by omega)⟩, fun _ h => absurd h List.not_mem_nil⟩)) (fun _ _ h => by cases h) v_107
theorem k_108 {D d : Nat} (hU : uqG G C) (hG : ∀ k, k < 132 → G k = 300 + k) (hN : ∀ x g, sbN x = some g → G x = g) (hd : 6 ≤ d) : ctrOK (PRd G C D xs) G rgs (wpM mDf mt d) 40 c_108 := by
  obtain ⟨e, rfl⟩ : ∃ e, d = e + 1 := ⟨d - 1, by omega⟩
  exact ver_ok (PRd_k hU) hG (by omega) rfl (rLLh_ok hU) (fun _ _ _ h => by cases h) (fun _ _ h => by cases h) v_108
theorem k_109 {D d : Nat} (hU : uqG G C) (hG : ∀ k, k < 132 → G k = 300 + k) (hN : ∀ x g, sbN x = some g → G x = g) (hd : 8 ≤ d) : ctrOK (PRd G C D xs) G rgs (wpM mDf mt d) 51 c_109 := by
  obtain ⟨e, rfl⟩ : ∃ e, d = e + 1 := ⟨d - 1, by omega⟩
  exact ver_ok (PRd_k hU) hG (by omega) rfl (rLLh_ok hU) (lkCL_ok (by
    simp only [List.forall_mem_cons]
    exact ⟨⟨rfl, k_26 hU hG hN (by omega)⟩, fun _ h => absurd h List.not_mem_nil⟩)) (fun _ _ h => by cases h) v_109
theorem k_110 {D d : Nat} (hU : uqG G C) (hG : ∀ k, k < 132 → G k = 300 + k) (hN : ∀ x g, sbN x = some g → G x = g) (hd : 9 ≤ d) : ctrOK (PRd G C D xs) G rgs (wpM mDf mt d) 50 c_110 := by
  obtain ⟨e, rfl⟩ : ∃ e, d = e + 1 := ⟨d - 1, by omega⟩
  exact ver_ok (PRd_k hU) hG (by omega) rfl (rLLh_ok hU) (lkCL_ok (by
    simp only [List.forall_mem_cons]
    exact ⟨⟨rfl, k_108 hU hG hN (by omega)⟩, ⟨rfl, k_109 hU hG hN (by omega)⟩, fun _ h => absurd h List.not_mem_nil⟩)) (fun _ _ h => by cases h) v_110
theorem k_111 {D d : Nat} (hU : uqG G C) (hG : ∀ k, k < 132 → G k = 300 + k) (hN : ∀ x g, sbN x = some g → G x = g) (hd : 10 ≤ d) : ctrOK (PRd G C D xs) G rgs (wpM mDf mt d) 49 c_111 := by
  obtain ⟨e, rfl⟩ : ∃ e, d = e + 1 := ⟨d - 1, by omega⟩
  exact ver_ok (PRd_k hU) hG (by omega) rfl (rLLh_ok hU) (lkCL_ok (by
    simp only [List.forall_mem_cons]
    exact ⟨⟨rfl, k_107 hU hG hN (by omega)⟩, ⟨rfl, k_110 hU hG hN (by omega)⟩, fun _ h => absurd h List.not_mem_nil⟩)) (fun _ _ h => by cases h) v_111
theorem k_112 {D d : Nat} (hU : uqG G C) (hG : ∀ k, k < 132 → G k = 300 + k) (hN : ∀ x g, sbN x = some g → G x = g) (hd : 6 ≤ d) : ctrOK (PRd G C D xs) G rgs (wpM mDf mt d) 62 c_112 := by
  obtain ⟨e, rfl⟩ : ∃ e, d = e + 1 := ⟨d - 1, by omega⟩
  exact ver_ok (PRd_k hU) hG (by omega) rfl (rLLh_ok hU) (fun _ _ _ h => by cases h) (fun _ _ h => by cases h) v_112
theorem k_113 {D d : Nat} (hU : uqG G C) (hG : ∀ k, k < 132 → G k = 300 + k) (hN : ∀ x g, sbN x = some g → G x = g) (hd : 12 ≤ d) : ctrOK (PRd G C D xs) G rgs (wpM mDf mt d) 61 c_113 := by
  obtain ⟨e, rfl⟩ : ∃ e, d = e + 1 := ⟨d - 1, by omega⟩
  exact ver_ok (PRd_k hU) hG (by omega) rfl (rLLh_ok hU) (lkCL_ok (by
    simp only [List.forall_mem_cons]
    exact ⟨⟨rfl, k_19 hU hG hN (by omega)⟩, ⟨rfl, k_30 hU hG hN (by omega)⟩, ⟨rfl, k_32 hU hG hN (by omega)⟩, ⟨rfl, k_111 hU hG hN (by omega)⟩, ⟨rfl, k_112 hU hG hN (by omega)⟩, fun _ h => absurd h List.not_mem_nil⟩)) (fun _ _ h => by cases h) v_113
theorem k_114 {D d : Nat} (hU : uqG G C) (hG : ∀ k, k < 132 → G k = 300 + k) (hN : ∀ x g, sbN x = some g → G x = g) (hd : 6 ≤ d) : ctrOK (PRd G C D xs) G rgs (wpM mDf mt d) 42 c_114 := by
  obtain ⟨e, rfl⟩ : ∃ e, d = e + 1 := ⟨d - 1, by omega⟩
  exact ver_ok (PRd_k hU) hG (by omega) rfl (rLLh_ok hU) (fun _ _ _ h => by cases h) (fun _ _ h => by cases h) v_114
theorem k_115 {D d : Nat} (hU : uqG G C) (hG : ∀ k, k < 132 → G k = 300 + k) (hN : ∀ x g, sbN x = some g → G x = g) (hd : 7 ≤ d) : ctrOK (PRd G C D xs) G rgs (wpM mDf mt d) 41 c_115 := by
  obtain ⟨e, rfl⟩ : ∃ e, d = e + 1 := ⟨d - 1, by omega⟩
  exact ver_ok (PRd_k hU) hG (by omega) rfl (rLLh_ok hU) (lkCL_ok (by
    simp only [List.forall_mem_cons]
    exact ⟨⟨rfl, k_114 hU hG hN (by omega)⟩, fun _ h => absurd h List.not_mem_nil⟩)) (fun _ _ h => by cases h) v_115
theorem k_116 {D d : Nat} (hU : uqG G C) (hG : ∀ k, k < 132 → G k = 300 + k) (hN : ∀ x g, sbN x = some g → G x = g) (hd : 6 ≤ d) : ctrOK (PRd G C D xs) G rgs (wpM mDf mt d) 40 c_116 := by
  obtain ⟨e, rfl⟩ : ∃ e, d = e + 1 := ⟨d - 1, by omega⟩
  exact ver_ok (PRd_k hU) hG (by omega) rfl (rLLh_ok hU) (fun _ _ _ h => by cases h) (fun _ _ h => by cases h) v_116
theorem k_117 {D d : Nat} (hU : uqG G C) (hG : ∀ k, k < 132 → G k = 300 + k) (hN : ∀ x g, sbN x = some g → G x = g) (hd : 8 ≤ d) : ctrOK (PRd G C D xs) G rgs (wpM mDf mt d) 51 c_117 := by
  obtain ⟨e, rfl⟩ : ∃ e, d = e + 1 := ⟨d - 1, by omega⟩
  exact ver_ok (PRd_k hU) hG (by omega) rfl (rLLh_ok hU) (lkCL_ok (by
    simp only [List.forall_mem_cons]
    exact ⟨⟨rfl, k_26 hU hG hN (by omega)⟩, fun _ h => absurd h List.not_mem_nil⟩)) (fun _ _ h => by cases h) v_117
theorem k_118 {D d : Nat} (hU : uqG G C) (hG : ∀ k, k < 132 → G k = 300 + k) (hN : ∀ x g, sbN x = some g → G x = g) (hd : 9 ≤ d) : ctrOK (PRd G C D xs) G rgs (wpM mDf mt d) 50 c_118 := by
  obtain ⟨e, rfl⟩ : ∃ e, d = e + 1 := ⟨d - 1, by omega⟩
  exact ver_ok (PRd_k hU) hG (by omega) rfl (rLLh_ok hU) (lkCL_ok (by
    simp only [List.forall_mem_cons]
    exact ⟨⟨rfl, k_116 hU hG hN (by omega)⟩, ⟨rfl, k_117 hU hG hN (by omega)⟩, fun _ h => absurd h List.not_mem_nil⟩)) (fun _ _ h => by cases h) v_118
theorem k_119 {D d : Nat} (hU : uqG G C) (hG : ∀ k, k < 132 → G k = 300 + k) (hN : ∀ x g, sbN x = some g → G x = g) (hd : 10 ≤ d) : ctrOK (PRd G C D xs) G rgs (wpM mDf mt d) 49 c_119 := by
  obtain ⟨e, rfl⟩ : ∃ e, d = e + 1 := ⟨d - 1, by omega⟩
  exact ver_ok (PRd_k hU) hG (by omega) rfl (rLLh_ok hU) (lkCL_ok (by
    simp only [List.forall_mem_cons]
    exact ⟨⟨rfl, k_115 hU hG hN (by omega)⟩, ⟨rfl, k_118 hU hG hN (by omega)⟩, fun _ h => absurd h List.not_mem_nil⟩)) (fun _ _ h => by cases h) v_119
theorem k_120 {D d : Nat} (hU : uqG G C) (hG : ∀ k, k < 132 → G k = 300 + k) (hN : ∀ x g, sbN x = some g → G x = g) (hd : 6 ≤ d) : ctrOK (PRd G C D xs) G rgs (wpM mDf mt d) 42 c_120 := by
  obtain ⟨e, rfl⟩ : ∃ e, d = e + 1 := ⟨d - 1, by omega⟩
  exact ver_ok (PRd_k hU) hG (by omega) rfl (rLLh_ok hU) (fun _ _ _ h => by cases h) (fun _ _ h => by cases h) v_120
theorem k_121 {D d : Nat} (hU : uqG G C) (hG : ∀ k, k < 132 → G k = 300 + k) (hN : ∀ x g, sbN x = some g → G x = g) (hd : 7 ≤ d) : ctrOK (PRd G C D xs) G rgs (wpM mDf mt d) 41 c_121 := by
  obtain ⟨e, rfl⟩ : ∃ e, d = e + 1 := ⟨d - 1, by omega⟩
  exact ver_ok (PRd_k hU) hG (by omega) rfl (rLLh_ok hU) (lkCL_ok (by
    simp only [List.forall_mem_cons]
    exact ⟨⟨rfl, k_120 hU hG hN (by omega)⟩, fun _ h => absurd h List.not_mem_nil⟩)) (fun _ _ h => by cases h) v_121
theorem k_122 {D d : Nat} (hU : uqG G C) (hG : ∀ k, k < 132 → G k = 300 + k) (hN : ∀ x g, sbN x = some g → G x = g) (hd : 6 ≤ d) : ctrOK (PRd G C D xs) G rgs (wpM mDf mt d) 40 c_122 := by
  obtain ⟨e, rfl⟩ : ∃ e, d = e + 1 := ⟨d - 1, by omega⟩
  exact ver_ok (PRd_k hU) hG (by omega) rfl (rLLh_ok hU) (fun _ _ _ h => by cases h) (fun _ _ h => by cases h) v_122
end
