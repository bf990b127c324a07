section
variable {G C : Nat → Nat} {xs : Nat → Int}
theorem k_420 {D d : Nat} (hU : uqG G C) (hG : ∀ k, k < 132 → G k = 300 + k) (hN : ∀ x g, sbN x = some g → G x = g) (hd : 6 ≤ d) : ctrOK (PRd C D xs) G rgs (wpM mDf mt d) 218 c_420 := by
  obtain ⟨e, rfl⟩ : ∃ e, d = e + 1 := ⟨d - 1, by omega⟩
  exact ver_ok (PRd_k hU) hG (by omega) rfl (rLLh_ok hU) (fun _ _ _ h => by cases h) (fun _ _ h => by cases h) v_420
theorem k_421 {D d : Nat} (hU : uqG G C) (hG : ∀ k, k < 132 → G k = 300 + k) (hN : ∀ x g, sbN x = some g → G x = g) (hd : 6 ≤ d) : ctrOK (PRd C D xs) G rgs (wpM mDf mt d) 17 c_421 := by
  obtain ⟨e, rfl⟩ : ∃ e, d = e + 1 := ⟨d - 1, by omega⟩
  exact ver_ok (PRd_k hU) hG (by omega) rfl (rLLh_ok hU) (fun _ _ _ h => by cases h) (fun _ _ h => by cases h) v_421
theorem k_422 {D d : Nat} (hU : uqG G C) (hG : ∀ k, k < 132 → G k = 300 + k) (hN : ∀ x g, sbN x = some g → G x = g) (hd : 6 ≤ d) : ctrOK (PRd C D xs) G rgs (wpM mDf mt d) 216 c_422 := by
  obtain ⟨e, rfl⟩ : ∃ e, d = e + 1 := ⟨d - 1, by omega⟩
  exact ver_ok (PRd_k hU) hG (by omega) rfl (rLLh_ok hU) (fun _ _ _ h => by cases h) (fun _ _ h => by cases h) v_422
theorem k_423 {D d : Nat} (hU : uqG G C) (hG : ∀ k, k < 132 → G k = 300 + k) (hN : ∀ x g, sbN x = some g → G x = g) (hd : 6 ≤ d) : ctrOK (PRd C D xs) G rgs (wpM mDf mt d) 18 c_423 := by
  obtain ⟨e, rfl⟩ : ∃ e, d = e + 1 := ⟨d - 1, by omega⟩
  exact ver_ok (PRd_k hU) hG (by omega) rfl (rLLh_ok hU) (fun _ _ _ h => by cases h) (fun _ _ h => by cases h) v_423
theorem k_424 {D d : Nat} (hU : uqG G C) (hG : ∀ k, k < 132 → G k = 300 + k) (hN : ∀ x g, sbN x = some g → G x = g) (hd : 6 ≤ d) : ctrOK (PRd C D xs) G rgs (wpM mDf mt d) 246 c_424 := by
  obtain ⟨e, rfl⟩ : ∃ e, d = e + 1 := ⟨d - 1, by omega⟩
  exact ver_ok (PRd_k hU) hG (by omega) rfl (rLLh_ok hU) (fun _ _ _ h => by cases h) (fun _ _ h => by cases h) v_424
theorem k_425 {D d : Nat} (hU : uqG G C) (hG : ∀ k, k < 132 → G k = 300 + k) (hN : ∀ x g, sbN x = some g → G x = g) (hd : 7 ≤ d) : ctrOK (PRd C D xs) G rgs (wpM mDf mt d) 245 c_425 := by
  obtain ⟨e, rfl⟩ : ∃ e, d = e + 1 := ⟨d - 1, by omega⟩
  exact ver_ok (PRd_k hU) hG (by omega) rfl (rLLh_ok hU) (lkCL_ok (by
    simp only [List.forall_mem_cons]
    exact ⟨⟨rfl, k_424 hU hG hN (by omega)⟩, fun _ h => absurd h List.not_mem_nil⟩)) (fun _ _ h => by cases h) v_425
theorem k_426 {D d : Nat} (hU : uqG G C) (hG : ∀ k, k < 132 → G k = 300 + k) (hN : ∀ x g, sbN x = some g → G x = g) (hd : 6 ≤ d) : ctrOK (PRd C D xs) G rgs (wpM mDf mt d) 19 c_426 := by
  obtain ⟨e, rfl⟩ : ∃ e, d = e + 1 := ⟨d - 1, by omega⟩
  exact ver_ok (PRd_k hU) hG (by omega) rfl (rLLh_ok hU) (fun _ _ _ h => by cases h) (fun _ _ h => by cases h) v_426
theorem k_427 {D d : Nat} (hU : uqG G C) (hG : ∀ k, k < 132 → G k = 300 + k) (hN : ∀ x g, sbN x = some g → G x = g) (hd : 7 ≤ d) : ctrOK (PRd C D xs) G rgs (wpM mDf mt d) 247 c_427 := by
  obtain ⟨e, rfl⟩ : ∃ e, d = e + 1 := ⟨d - 1, by omega⟩
  exact ver_ok (PRd_k hU) hG (by omega) rfl (rLLh_ok hU) (lkCL_ok (by
    simp only [List.forall_mem_cons]
    exact ⟨⟨rfl, k_424 hU hG hN (by omega)⟩, fun _ h => absurd h List.not_mem_nil⟩)) (fun _ _ h => by cases h) v_427
theorem k_428 {D d : Nat} (hU : uqG G C) (hG : ∀ k, k < 132 → G k = 300 + k) (hN : ∀ x g, sbN x = some g → G x = g) (hd : 6 ≤ d) : ctrOK (PRd C D xs) G rgs (wpM mDf mt d) 20 c_428 := by
  obtain ⟨e, rfl⟩ : ∃ e, d = e + 1 := ⟨d - 1, by omega⟩
  exact ver_ok (PRd_k hU) hG (by omega) rfl (rLLh_ok hU) (fun _ _ _ h => by cases h) (fun _ _ h => by cases h) v_428
theorem k_429 {D d : Nat} (hU : uqG G C) (hG : ∀ k, k < 132 → G k = 300 + k) (hN : ∀ x g, sbN x = some g → G x = g) (hd : 7 ≤ d) : ctrOK (PRd C D xs) G rgs (wpM mDf mt d) 248 c_429 := by
  obtain ⟨e, rfl⟩ : ∃ e, d = e + 1 := ⟨d - 1, by omega⟩
  exact ver_ok (PRd_k hU) hG (by omega) rfl (rLLh_ok hU) (lkCL_ok (by
    simp only [List.forall_mem_cons]
    exact ⟨⟨rfl, k_424 hU hG hN (by omega)⟩, fun _ h => absurd h List.not_mem_nil⟩)) (fun _ _ h => by cases h) v_429
theorem k_430 {D d : Nat} (hU : uqG G C) (hG : ∀ k, k < 132 → G k = 300 + k) (hN : ∀ x g, sbN x = some g → G x = g) (hd : 6 ≤ d) : ctrOK (PRd C D xs) G rgs (wpM mDf mt d) 21 c_430 := by
  obtain ⟨e, rfl⟩ : ∃ e, d = e + 1 := ⟨d - 1, by omega⟩
  exact ver_ok (PRd_k hU) hG (by omega) rfl (rLLh_ok hU) (fun _ _ _ h => by cases h) (fun _ _ h => by cases h) v_430
theorem k_431 {D d : Nat} (hU : uqG G C) (hG : ∀ k, k < 132 → G k = 300 + k) (hN : ∀ x g, sbN x = some g → G x = g) (hd : 7 ≤ d) : ctrOK (PRd C D xs) G rgs (wpM mDf mt d) 280 c_431 := by
  obtain ⟨e, rfl⟩ : ∃ e, d = e + 1 := ⟨d - 1, by omega⟩
  exact ver_ok (PRd_k hU) hG (by omega) rfl (rLLh_ok hU) (lkCL_ok (by
    simp only [List.forall_mem_cons]
    exact ⟨⟨rfl, k_424 hU hG hN (by omega)⟩, fun _ h => absurd h List.not_mem_nil⟩)) (fun _ _ h => by cases h) v_431
theorem k_432 {D d : Nat} (hU : uqG G C) (hG : ∀ k, k < 132 → G k = 300 + k) (hN : ∀ x g, sbN x = some g → G x = g) (hd : 6 ≤ d) : ctrOK (PRd C D xs) G rgs (wpM mDf mt d) 77 c_432 := by
  obtain ⟨e, rfl⟩ : ∃ e, d = e + 1 := ⟨d - 1, by omega⟩
  exact ver_ok (PRd_k hU) hG (by omega) rfl (rLLh_ok hU) (fun _ _ _ h => by cases h) (fun _ _ h => by cases h) v_432
theorem k_433 {D d : Nat} (hU : uqG G C) (hG : ∀ k, k < 132 → G k = 300 + k) (hN : ∀ x g, sbN x = some g → G x = g) (hd : 7 ≤ d) : ctrOK (PRd C D xs) G rgs (wpM mDf mt d) 76 c_433 := by
  obtain ⟨e, rfl⟩ : ∃ e, d = e + 1 := ⟨d - 1, by omega⟩
  exact ver_ok (PRd_k hU) hG (by omega) rfl (rLLh_ok hU) (lkCL_ok (by
    simp only [List.forall_mem_cons]
    exact ⟨⟨rfl, k_432 hU hG hN (by omega)⟩, fun _ h => absurd h List.not_mem_nil⟩)) (fun _ _ h => by cases h) v_433
theorem k_434 {D d : Nat} (hU : uqG G C) (hG : ∀ k, k < 132 → G k = 300 + k) (hN : ∀ x g, sbN x = some g → G x = g) (hd : 8 ≤ d) : ctrOK (PRd C D xs) G rgs (wpM mDf mt d) 75 c_434 := by
  obtain ⟨e, rfl⟩ : ∃ e, d = e + 1 := ⟨d - 1, by omega⟩
  exact ver_ok (PRd_k hU) hG (by omega) rfl (rLLh_ok hU) (lkCL_ok (by
    simp only [List.forall_mem_cons]
    exact ⟨⟨rfl, k_433 hU hG hN (by omega)⟩, fun _ h => absurd h List.not_mem_nil⟩)) (fun _ _ h => by cases h) v_434
theorem k_435 {D d : Nat} (hU : uqG G C) (hG : ∀ k, k < 132 → G k = 300 + k) (hN : ∀ x g, sbN x = some g → G x = g) (hd : 9 ≤ d) : ctrOK (PRd C D xs) G rgs (wpM mDf mt d) 74 c_435 := by
  obtain ⟨e, rfl⟩ : ∃ e, d = e + 1 := ⟨d - 1, by omega⟩
  exact ver_ok (PRd_k hU) hG (by omega) rfl (rLLh_ok hU) (lkCL_ok (by
    simp only [List.forall_mem_cons]
    exact ⟨⟨rfl, k_434 hU hG hN (by omega)⟩, fun _ h => absurd h List.not_mem_nil⟩)) (fun _ _ h => by cases h) v_435
theorem k_436 {D d : Nat} (hU : uqG G C) (hG : ∀ k, k < 132 → G k = 300 + k) (hN : ∀ x g, sbN x = some g → G x = g) (hd : 7 ≤ d) : ctrOK (PRd C D xs) G rgs (wpM mDf mt d) 250 c_436 := by
  obtain ⟨e, rfl⟩ : ∃ e, d = e + 1 := ⟨d - 1, by omega⟩
  exact ver_ok (PRd_k hU) hG (by omega) rfl (rLLh_ok hU) (lkCL_ok (by
    simp only [List.forall_mem_cons]
    exact ⟨⟨rfl, k_202 hU hG hN (by omega)⟩, fun _ h => absurd h List.not_mem_nil⟩)) (fun _ _ h => by cases h) v_436
theorem k_437 {D d : Nat} (hU : uqG G C) (hG : ∀ k, k < 132 → G k = 300 + k) (hN : ∀ x g, sbN x = some g → G x = g) (hd : 6 ≤ d) : ctrOK (PRd C D xs) G rgs (wpM mDf mt d) 251 c_437 := by
  obtain ⟨e, rfl⟩ : ∃ e, d = e + 1 := ⟨d - 1, by omega⟩
  exact ver_ok (PRd_k hU) hG (by omega) rfl (rLLh_ok hU) (fun _ _ _ h => by cases h) (fun _ _ h => by cases h) v_437
theorem k_438 {D d : Nat} (hU : uqG G C) (hG : ∀ k, k < 132 → G k = 300 + k) (hN : ∀ x g, sbN x = some g → G x = g) (hd : 8 ≤ d) : ctrOK (PRd C D xs) G rgs (wpM mDf mt d) 249 c_438 := by
  obtain ⟨e, rfl⟩ : ∃ e, d = e + 1 := ⟨d - 1, by omega⟩
  exact ver_ok (PRd_k hU) hG (by omega) rfl (rLLh_ok hU) (lkCL_ok (by
    simp only [List.forall_mem_cons]
    exact ⟨⟨rfl, k_436 hU hG hN (by omega)⟩, ⟨rfl, k_437 hU hG hN (by omega)⟩, fun _ h => absurd h List.not_mem_nil⟩)) (fun _ _ h => by cases h) v_438
theorem k_439 {D d : Nat} (hU : uqG G C) (hG : ∀ k, k < 132 → G k = 300 + k) (hN : ∀ x g, sbN x = some g → G x = g) (hd : 8 ≤ d) : ctrOK (PRd C D xs) G rgs (wpM mDf mt d) 80 c_439 := by
  obtain ⟨e, rfl⟩ : ∃ e, d = e + 1 := ⟨d - 1, by omega⟩
  exact ver_ok (PRd_k hU) hG (by omega) rfl (rLLh_ok hU) (lkCL_ok (by
    simp only [List.forall_mem_cons]
    exact ⟨⟨rfl, k_433 hU hG hN (by omega)⟩, fun _ h => absurd h List.not_mem_nil⟩)) (fun _ _ h => by cases h) v_439
theorem k_440 {D d : Nat} (hU : uqG G C) (hG : ∀ k, k < 132 → G k = 300 + k) (hN : ∀ x g, sbN x = some g → G x = g) (hd : 9 ≤ d) : ctrOK (PRd C D xs) G rgs (wpM mDf mt d) 79 c_440 := by
  obtain ⟨e, rfl⟩ : ∃ e, d = e + 1 := ⟨d - 1, by omega⟩
  exact ver_ok (PRd_k hU) hG (by omega) rfl (rLLh_ok hU) (lkCL_ok (by
    simp only [List.forall_mem_cons]
    exact ⟨⟨rfl, k_439 hU hG hN (by omega)⟩, fun _ h => absurd h List.not_mem_nil⟩)) (fun _ _ h => by cases h) v_440
theorem k_441 {D d : Nat} (hU : uqG G C) (hG : ∀ k, k < 132 → G k = 300 + k) (hN : ∀ x g, sbN x = some g → G x = g) (hd : 10 ≤ d) : ctrOK (PRd C D xs) G rgs (wpM mDf mt d) 78 c_441 := by
  obtain ⟨e, rfl⟩ : ∃ e, d = e + 1 := ⟨d - 1, by omega⟩
  exact ver_ok (PRd_k hU) hG (by omega) rfl (rLLh_ok hU) (lkCL_ok (by
    simp only [List.forall_mem_cons]
    exact ⟨⟨rfl, k_440 hU hG hN (by omega)⟩, fun _ h => absurd h List.not_mem_nil⟩)) (fun _ _ h => by cases h) v_441
theorem k_442 {D d : Nat} (hU : uqG G C) (hG : ∀ k, k < 132 → G k = 300 + k) (hN : ∀ x g, sbN x = some g → G x = g) (hd : 8 ≤ d) : ctrOK (PRd C D xs) G rgs (wpM mDf mt d) 254 c_442 := by
  obtain ⟨e, rfl⟩ : ∃ e, d = e + 1 := ⟨d - 1, by omega⟩
  exact ver_ok (PRd_k hU) hG (by omega) rfl (rLLh_ok hU) (lkCL_ok (by
    simp only [List.forall_mem_cons]
    exact ⟨⟨rfl, k_202 hU hG hN (by omega)⟩, ⟨rfl, k_436 hU hG hN (by omega)⟩, fun _ h => absurd h List.not_mem_nil⟩)) (fun _ _ h => by cases h) v_442
theorem k_443 {D d : Nat} (hU : uqG G C) (hG : ∀ k, k < 132 → G k = 300 + k) (hN : ∀ x g, sbN x = some g → G x = g) (hd : 9 ≤ d) : ctrOK (PRd C D xs) G rgs (wpM mDf mt d) 253 c_443 := by
  obtain ⟨e, rfl⟩ : ∃ e, d = e + 1 := ⟨d - 1, by omega⟩
  exact ver_ok (PRd_k hU) hG (by omega) rfl (rLLh_ok hU) (lkCL_ok (by
    simp only [List.forall_mem_cons]
    exact ⟨⟨rfl, k_437 hU hG hN (by omega)⟩, ⟨rfl, k_442 hU hG hN (by omega)⟩, fun _ h => absurd h List.not_mem_nil⟩)) (fun _ _ h => by cases h) v_443
theorem k_444 {D d : Nat} (hU : uqG G C) (hG : ∀ k, k < 132 → G k = 300 + k) (hN : ∀ x g, sbN x = some g → G x = g) (hd : 10 ≤ d) : ctrOK (PRd C D xs) G rgs (wpM mDf mt d) 252 c_444 := by
  obtain ⟨e, rfl⟩ : ∃ e, d = e + 1 := ⟨d - 1, by omega⟩
  exact ver_ok (PRd_k hU) hG (by omega) rfl (rLLh_ok hU) (lkCL_ok (by
    simp only [List.forall_mem_cons]
    exact ⟨⟨rfl, k_443 hU hG hN (by omega)⟩, fun _ h => absurd h List.not_mem_nil⟩)) (fun _ _ h => by cases h) v_444
theorem k_445 {D d : Nat} (hU : uqG G C) (hG : ∀ k, k < 132 → G k = 300 + k) (hN : ∀ x g, sbN x = some g → G x = g) (hd : 9 ≤ d) : ctrOK (PRd C D xs) G rgs (wpM mDf mt d) 82 c_445 := by
  obtain ⟨e, rfl⟩ : ∃ e, d = e + 1 := ⟨d - 1, by omega⟩
  exact ver_ok (PRd_k hU) hG (by omega) rfl (rLLh_ok hU) (lkCL_ok (by
    simp only [List.forall_mem_cons]
    exact ⟨⟨rfl, k_439 hU hG hN (by omega)⟩, fun _ h => absurd h List.not_mem_nil⟩)) (fun _ _ h => by cases h) v_445
theorem k_446 {D d : Nat} (hU : uqG G C) (hG : ∀ k, k < 132 → G k = 300 + k) (hN : ∀ x g, sbN x = some g → G x = g) (hd : 10 ≤ d) : ctrOK (PRd C D xs) G rgs (wpM mDf mt d) 81 c_446 := by
  obtain ⟨e, rfl⟩ : ∃ e, d = e + 1 := ⟨d - 1, by omega⟩
  exact ver_ok (PRd_k hU) hG (by omega) rfl (rLLh_ok hU) (lkCL_ok (by
    simp only [List.forall_mem_cons]
    exact ⟨⟨rfl, k_445 hU hG hN (by omega)⟩, fun _ h => absurd h List.not_mem_nil⟩)) (fun _ _ h => by cases h) v_446
theorem k_447 {D d : Nat} (hU : uqG G C) (hG : ∀ k, k < 132 → G k = 300 + k) (hN : ∀ x g, sbN x = some g → G x = g) (hd : 10 ≤ d) : ctrOK (PRd C D xs) G rgs (wpM mDf mt d) 255 c_447 := by
  obtain ⟨e, rfl⟩ : ∃ e, d = e + 1 := ⟨d - 1, by omega⟩
  exact ver_ok (PRd_k hU) hG (by omega) rfl (rLLh_ok hU) (lkCL_ok (by
    simp only [List.forall_mem_cons]
    exact ⟨⟨rfl, k_443 hU hG hN (by omega)⟩, fun _ h => absurd h List.not_mem_nil⟩)) (fun _ _ h => by cases h) v_447
theorem k_448 {D d : Nat} (hU : uqG G C) (hG : ∀ k, k < 132 → G k = 300 + k) (hN : ∀ x g, sbN x = some g → G x = g) (hd : 9 ≤ d) : ctrOK (PRd C D xs) G rgs (wpM mDf mt d) 84 c_448 := by
  obtain ⟨e, rfl⟩ : ∃ e, d = e + 1 := ⟨d - 1, by omega⟩
  exact ver_ok (PRd_k hU) hG (by omega) rfl (rLLh_ok hU) (lkCL_ok (by
    simp only [List.forall_mem_cons]
    exact ⟨⟨rfl, k_439 hU hG hN (by omega)⟩, fun _ h => absurd h List.not_mem_nil⟩)) (fun _ _ h => by cases h) v_448
theorem k_449 {D d : Nat} (hU : uqG G C) (hG : ∀ k, k < 132 → G k = 300 + k) (hN : ∀ x g, sbN x = some g → G x = g) (hd : 10 ≤ d) : ctrOK (PRd C D xs) G rgs (wpM mDf mt d) 83 c_449 := by
  obtain ⟨e, rfl⟩ : ∃ e, d = e + 1 := ⟨d - 1, by omega⟩
  exact ver_ok (PRd_k hU) hG (by omega) rfl (rLLh_ok hU) (lkCL_ok (by
    simp only [List.forall_mem_cons]
    exact ⟨⟨rfl, k_448 hU hG hN (by omega)⟩, fun _ h => absurd h List.not_mem_nil⟩)) (fun _ _ h => by cases h) v_449
theorem k_450 {D d : Nat} (hU : uqG G C) (hG : ∀ k, k < 132 → G k = 300 + k) (hN : ∀ x g, sbN x = some g → G x = g) (hd : 10 ≤ d) : ctrOK (PRd C D xs) G rgs (wpM mDf mt d) 256 c_450 := by
  obtain ⟨e, rfl⟩ : ∃ e, d = e + 1 := ⟨d - 1, by omega⟩
  exact ver_ok (PRd_k hU) hG (by omega) rfl (rLLh_ok hU) (lkCL_ok (by
    simp only [List.forall_mem_cons]
    exact ⟨⟨rfl, k_443 hU hG hN (by omega)⟩, fun _ h => absurd h List.not_mem_nil⟩)) (fun _ _ h => by cases h) v_450
theorem k_451 {D d : Nat} (hU : uqG G C) (hG : ∀ k, k < 132 → G k = 300 + k) (hN : ∀ x g, sbN x = some g → G x = g) (hd : 9 ≤ d) : ctrOK (PRd C D xs) G rgs (wpM mDf mt d) 86 c_451 := by
  obtain ⟨e, rfl⟩ : ∃ e, d = e + 1 := ⟨d - 1, by omega⟩
  exact ver_ok (PRd_k hU) hG (by omega) rfl (rLLh_ok hU) (lkCL_ok (by
    simp only [List.forall_mem_cons]
    exact ⟨⟨rfl, k_439 hU hG hN (by omega)⟩, fun _ h => absurd h List.not_mem_nil⟩)) (fun _ _ h => by cases h) v_451
theorem k_452 {D d : Nat} (hU : uqG G C) (hG : ∀ k, k < 132 → G k = 300 + k) (hN : ∀ x g, sbN x = some g → G x = g) (hd : 10 ≤ d) : ctrOK (PRd C D xs) G rgs (wpM mDf mt d) 85 c_452 := by
  obtain ⟨e, rfl⟩ : ∃ e, d = e + 1 := ⟨d - 1, by omega⟩
  exact ver_ok (PRd_k hU) hG (by omega) rfl (rLLh_ok hU) (lkCL_ok (by
    simp only [List.forall_mem_cons]
    exact ⟨⟨rfl, k_451 hU hG hN (by omega)⟩, fun _ h => absurd h List.not_mem_nil⟩)) (fun _ _ h => by cases h) v_452
theorem k_453 {D d : Nat} (hU : uqG G C) (hG : ∀ k, k < 132 → G k = 300 + k) (hN : ∀ x g, sbN x = some g → G x = g) (hd : 10 ≤ d) : ctrOK (PRd C D xs) G rgs (wpM mDf mt d) 257 c_453 := by
  obtain ⟨e, rfl⟩ : ∃ e, d = e + 1 := ⟨d - 1, by omega⟩
  exact ver_ok (PRd_k hU) hG (by omega) rfl (rLLh_ok hU) (lkCL_ok (by
    simp only [List.forall_mem_cons]
    exact ⟨⟨rfl, k_443 hU hG hN (by omega)⟩, fun _ h => absurd h List.not_mem_nil⟩)) (fun _ _ h => by cases h) v_453
theorem k_454 {D d : Nat} (hU : uqG G C) (hG : ∀ k, k < 132 → G k = 300 + k) (hN : ∀ x g, sbN x = some g → G x = g) (hd : 9 ≤ d) : ctrOK (PRd C D xs) G rgs (wpM mDf mt d) 88 c_454 := by
  obtain ⟨e, rfl⟩ : ∃ e, d = e + 1 := ⟨d - 1, by omega⟩
  exact ver_ok (PRd_k hU) hG (by omega) rfl (rLLh_ok hU) (lkCL_ok (by
    simp only [List.forall_mem_cons]
    exact ⟨⟨rfl, k_439 hU hG hN (by omega)⟩, fun _ h => absurd h List.not_mem_nil⟩)) (fun _ _ h => by cases h) v_454
theorem k_455 {D d : Nat} (hU : uqG G C) (hG : ∀ k, k < 132 → G k = 300 + k) (hN : ∀ x g, sbN x = some g → G x = g) (hd : 10 ≤ d) : ctrOK (PRd C D xs) G rgs (wpM mDf mt d) 87 c_455 := by
  obtain ⟨e, rfl⟩ : ∃ e, d = e + 1 := ⟨d - 1, by omega⟩
  exact ver_ok (PRd_k hU) hG (by omega) rfl (rLLh_ok hU) (lkCL_ok (by
    simp only [List.forall_mem_cons]
    exact ⟨⟨rfl, k_454 hU hG hN (by omega)⟩, fun _ h => absurd h List.not_mem_nil⟩)) (fun _ _ h => by cases h) v_455
theorem k_456 {D d : Nat} (hU : uqG G C) (hG : ∀ k, k < 132 → G k = 300 + k) (hN : ∀ x g, sbN x = some g → G x = g) (hd : 10 ≤ d) : ctrOK (PRd C D xs) G rgs (wpM mDf mt d) 258 c_456 := by
  obtain ⟨e, rfl⟩ : ∃ e, d = e + 1 := ⟨d - 1, by omega⟩
  exact ver_ok (PRd_k hU) hG (by omega) rfl (rLLh_ok hU) (lkCL_ok (by
    simp only [List.forall_mem_cons]
    exact ⟨⟨rfl, k_443 hU hG hN (by omega)⟩, fun _ h => absurd h List.not_mem_nil⟩)) (fun _ _ h => by cases h) v_456
theorem k_457 {D d : Nat} (hU : uqG G C) (hG : ∀ k, k < 132 → G k = 300 + k) (hN : ∀ x g, sbN x = some g → G x = g) (hd : 9 ≤ d) : ctrOK (PRd C D xs) G rgs (wpM mDf mt d) 90 c_457 := by
  obtain ⟨e, rfl⟩ : ∃ e, d = e + 1 := ⟨d - 1, by omega⟩
  exact ver_ok (PRd_k hU) hG (by omega) rfl (rLLh_ok hU) (lkCL_ok (by
    simp only [List.forall_mem_cons]
    exact ⟨⟨rfl, k_439 hU hG hN (by omega)⟩, fun _ h => absurd h List.not_mem_nil⟩)) (fun _ _ h => by cases h) v_457
theorem k_458 {D d : Nat} (hU : uqG G C) (hG : ∀ k, k < 132 → G k = 300 + k) (hN : ∀ x g, sbN x = some g → G x = g) (hd : 10 ≤ d) : ctrOK (PRd C D xs) G rgs (wpM mDf mt d) 89 c_458 := by
  obtain ⟨e, rfl⟩ : ∃ e, d = e + 1 := ⟨d - 1, by omega⟩
  exact ver_ok (PRd_k hU) hG (by omega) rfl (rLLh_ok hU) (lkCL_ok (by
    simp only [List.forall_mem_cons]
    exact ⟨⟨rfl, k_457 hU hG hN (by omega)⟩, fun _ h => absurd h List.not_mem_nil⟩)) (fun _ _ h => by cases h) v_458
theorem k_459 {D d : Nat} (hU : uqG G C) (hG : ∀ k, k < 132 → G k = 300 + k) (hN : ∀ x g, sbN x = some g → G x = g) (hd : 10 ≤ d) : ctrOK (PRd C D xs) G rgs (wpM mDf mt d) 259 c_459 := by
  obtain ⟨e, rfl⟩ : ∃ e, d = e + 1 := ⟨d - 1, by omega⟩
  exact ver_ok (PRd_k hU) hG (by omega) rfl (rLLh_ok hU) (lkCL_ok (by
    simp only [List.forall_mem_cons]
    exact ⟨⟨rfl, k_443 hU hG hN (by omega)⟩, fun _ h => absurd h List.not_mem_nil⟩)) (fun _ _ h => by cases h) v_459
theorem k_460 {D d : Nat} (hU : uqG G C) (hG : ∀ k, k < 132 → G k = 300 + k) (hN : ∀ x g, sbN x = some g → G x = g) (hd : 9 ≤ d) : ctrOK (PRd C D xs) G rgs (wpM mDf mt d) 92 c_460 := by
  obtain ⟨e, rfl⟩ : ∃ e, d = e + 1 := ⟨d - 1, by omega⟩
  exact ver_ok (PRd_k hU) hG (by omega) rfl (rLLh_ok hU) (lkCL_ok (by
    simp only [List.forall_mem_cons]
    exact ⟨⟨rfl, k_439 hU hG hN (by omega)⟩, fun _ h => absurd h List.not_mem_nil⟩)) (fun _ _ h => by cases h) v_460
theorem k_461 {D d : Nat} (hU : uqG G C) (hG : ∀ k, k < 132 → G k = 300 + k) (hN : ∀ x g, sbN x = some g → G x = g) (hd : 10 ≤ d) : ctrOK (PRd C D xs) G rgs (wpM mDf mt d) 91 c_461 := by
  obtain ⟨e, rfl⟩ : ∃ e, d = e + 1 := ⟨d - 1, by omega⟩
  exact ver_ok (PRd_k hU) hG (by omega) rfl (rLLh_ok hU) (lkCL_ok (by
    simp only [List.forall_mem_cons]
    exact ⟨⟨rfl, k_460 hU hG hN (by omega)⟩, fun _ h => absurd h List.not_mem_nil⟩)) (fun _ _ h => by cases h) v_461
theorem k_462 {D d : Nat} (hU : uqG G C) (hG : ∀ k, k < 132 → G k = 300 + k) (hN : ∀ x g, sbN x = some g → G x = g) (hd : 10 ≤ d) : ctrOK (PRd C D xs) G rgs (wpM mDf mt d) 260 c_462 := by
  obtain ⟨e, rfl⟩ : ∃ e, d = e + 1 := ⟨d - 1, by omega⟩
  exact ver_ok (PRd_k hU) hG (by omega) rfl (rLLh_ok hU) (lkCL_ok (by
    simp only [List.forall_mem_cons]
    exact ⟨⟨rfl, k_443 hU hG hN (by omega)⟩, fun _ h => absurd h List.not_mem_nil⟩)) (fun _ _ h => by cases h) v_462
theorem k_463 {D d : Nat} (hU : uqG G C) (hG : ∀ k, k < 132 → G k = 300 + k) (hN : ∀ x g, sbN x = some g → G x = g) (hd : 9 ≤ d) : ctrOK (PRd C D xs) G rgs (wpM mDf mt d) 94 c_463 := by
  obtain ⟨e, rfl⟩ : ∃ e, d = e + 1 := ⟨d - 1, by omega⟩
  exact ver_ok (PRd_k hU) hG (by omega) rfl (rLLh_ok hU) (lkCL_ok (by
    simp only [List.forall_mem_cons]
    exact ⟨⟨rfl, k_439 hU hG hN (by omega)⟩, fun _ h => absurd h List.not_mem_nil⟩)) (fun _ _ h => by cases h) v_463
theorem k_464 {D d : Nat} (hU : uqG G C) (hG : ∀ k, k < 132 → G k = 300 + k) (hN : ∀ x g, sbN x = some g → G x = g) (hd : 10 ≤ d) : ctrOK (PRd C D xs) G rgs (wpM mDf mt d) 93 c_464 := by
  obtain ⟨e, rfl⟩ : ∃ e, d = e + 1 := ⟨d - 1, by omega⟩
  exact ver_ok (PRd_k hU) hG (by omega) rfl (rLLh_ok hU) (lkCL_ok (by
    simp only [List.forall_mem_cons]
    exact ⟨⟨rfl, k_463 hU hG hN (by omega)⟩, fun _ h => absurd h List.not_mem_nil⟩)) (fun _ _ h => by cases h) v_464
theorem k_465 {D d : Nat} (hU : uqG G C) (hG : ∀ k, k < 132 → G k = 300 + k) (hN : ∀ x g, sbN x = some g → G x = g) (hd : 9 ≤ d) : ctrOK (PRd C D xs) G rgs (wpM mDf mt d) 261 c_465 := by
  obtain ⟨e, rfl⟩ : ∃ e, d = e + 1 := ⟨d - 1, by omega⟩
  exact ver_ok (PRd_k hU) hG (by omega) rfl (rLLh_ok hU) (lkCL_ok (by
    simp only [List.forall_mem_cons]
    exact ⟨⟨rfl, k_437 hU hG hN (by omega)⟩, ⟨rfl, k_442 hU hG hN (by omega)⟩, fun _ h => absurd h List.not_mem_nil⟩)) (fun _ _ h => by cases h) v_465
theorem k_466 {D d : Nat} (hU : uqG G C) (hG : ∀ k, k < 132 → G k = 300 + k) (hN : ∀ x g, sbN x = some g → G x = g) (hd : 9 ≤ d) : ctrOK (PRd C D xs) G rgs (wpM mDf mt d) 96 c_466 := by
  obtain ⟨e, rfl⟩ : ∃ e, d = e + 1 := ⟨d - 1, by omega⟩
  exact ver_ok (PRd_k hU) hG (by omega) rfl (rLLh_ok hU) (lkCL_ok (by
    simp only [List.forall_mem_cons]
    exact ⟨⟨rfl, k_439 hU hG hN (by omega)⟩, fun _ h => absurd h List.not_mem_nil⟩)) (fun _ _ h => by cases h) v_466
theorem k_467 {D d : Nat} (hU : uqG G C) (hG : ∀ k, k < 132 → G k = 300 + k) (hN : ∀ x g, sbN x = some g → G x = g) (hd : 10 ≤ d) : ctrOK (PRd C D xs) G rgs (wpM mDf mt d) 95 c_467 := by
  obtain ⟨e, rfl⟩ : ∃ e, d = e + 1 := ⟨d - 1, by omega⟩
  exact ver_ok (PRd_k hU) hG (by omega) rfl (rLLh_ok hU) (lkCL_ok (by
    simp only [List.forall_mem_cons]
    exact ⟨⟨rfl, k_466 hU hG hN (by omega)⟩, fun _ h => absurd h List.not_mem_nil⟩)) (fun _ _ h => by cases h) v_467
theorem k_468 {D d : Nat} (hU : uqG G C) (hG : ∀ k, k < 132 → G k = 300 + k) (hN : ∀ x g, sbN x = some g → G x = g) (hd : 9 ≤ d) : ctrOK (PRd C D xs) G rgs (wpM mDf mt d) 262 c_468 := by
  obtain ⟨e, rfl⟩ : ∃ e, d = e + 1 := ⟨d - 1, by omega⟩
  exact ver_ok (PRd_k hU) hG (by omega) rfl (rLLh_ok hU) (lkCL_ok (by
    simp only [List.forall_mem_cons]
    exact ⟨⟨rfl, k_437 hU hG hN (by omega)⟩, ⟨rfl, k_442 hU hG hN (by omega)⟩, fun _ h => absurd h List.not_mem_nil⟩)) (fun _ _ h => by cases h) v_468
theorem k_469 {D d : Nat} (hU : uqG G C) (hG : ∀ k, k < 132 → G k = 300 + k) (hN : ∀ x g, sbN x = some g → G x = g) (hd : 6 ≤ d) : ctrOK (PRd C D xs) G rgs (wpM mDf mt d) 99 c_469 := by
  obtain ⟨e, rfl⟩ : ∃ e, d = e + 1 := ⟨d - 1, by omega⟩
  exact ver_ok (PRd_k hU) hG (by omega) rfl (rLLh_ok hU) (fun _ _ _ h => by cases h) (fun _ _ h => by cases h) v_469
theorem k_470 {D d : Nat} (hU : uqG G C) (hG : ∀ k, k < 132 → G k = 300 + k) (hN : ∀ x g, sbN x = some g → G x = g) (hd : 6 ≤ d) : ctrOK (PRd C D xs) G rgs (wpM mDf mt d) 100 c_470 := by
  obtain ⟨e, rfl⟩ : ∃ e, d = e + 1 := ⟨d - 1, by omega⟩
  exact ver_ok (PRd_k hU) hG (by omega) rfl (rLLh_ok hU) (fun _ _ _ h => by cases h) (fun _ _ h => by cases h) v_470
theorem k_471 {D d : Nat} (hU : uqG G C) (hG : ∀ k, k < 132 → G k = 300 + k) (hN : ∀ x g, sbN x = some g → G x = g) (hd : 9 ≤ d) : ctrOK (PRd C D xs) G rgs (wpM mDf mt d) 98 c_471 := by
  obtain ⟨e, rfl⟩ : ∃ e, d = e + 1 := ⟨d - 1, by omega⟩
  exact ver_ok (PRd_k hU) hG (by omega) rfl (rLLh_ok hU) (lkCL_ok (by
    simp only [List.forall_mem_cons]
    exact ⟨⟨rfl, k_433 hU hG hN (by omega)⟩, ⟨rfl, k_439 hU hG hN (by omega)⟩, ⟨rfl, k_469 hU hG hN (by omega)⟩, ⟨rfl, k_470 hU hG hN (by omega)⟩, fun _ h => absurd h List.not_mem_nil⟩)) (fun _ _ h => by cases h) v_471
theorem k_472 {D d : Nat} (hU : uqG G C) (hG : ∀ k, k < 132 → G k = 300 + k) (hN : ∀ x g, sbN x = some g → G x = g) (hd : 10 ≤ d) : ctrOK (PRd C D xs) G rgs (wpM mDf mt d) 97 c_472 := by
  obtain ⟨e, rfl⟩ : ∃ e, d = e + 1 := ⟨d - 1, by omega⟩
  exact ver_ok (PRd_k hU) hG (by omega) rfl (rLLh_ok hU) (lkCL_ok (by
    simp only [List.forall_mem_cons]
    exact ⟨⟨rfl, k_471 hU hG hN (by omega)⟩, fun _ h => absurd h List.not_mem_nil⟩)) (fun _ _ h => by cases h) v_472
theorem k_473 {D d : Nat} (hU : uqG G C) (hG : ∀ k, k < 132 → G k = 300 + k) (hN : ∀ x g, sbN x = some g → G x = g) (hd : 7 ≤ d) : ctrOK (PRd C D xs) G rgs (wpM mDf mt d) 264 c_473 := by
  obtain ⟨e, rfl⟩ : ∃ e, d = e + 1 := ⟨d - 1, by omega⟩
  exact ver_ok (PRd_k hU) hG (by omega) rfl (rLLh_ok hU) (lkCL_ok (by
    simp only [List.forall_mem_cons]
    exact ⟨⟨rfl, k_202 hU hG hN (by omega)⟩, fun _ h => absurd h List.not_mem_nil⟩)) (fun _ _ h => by cases h) v_473
theorem k_474 {D d : Nat} (hU : uqG G C) (hG : ∀ k, k < 132 → G k = 300 + k) (hN : ∀ x g, sbN x = some g → G x = g) (hd : 9 ≤ d) : ctrOK (PRd C D xs) G rgs (wpM mDf mt d) 263 c_474 := by
  obtain ⟨e, rfl⟩ : ∃ e, d = e + 1 := ⟨d - 1, by omega⟩
  exact ver_ok (PRd_k hU) hG (by omega) rfl (rLLh_ok hU) (lkCL_ok (by
    simp only [List.forall_mem_cons]
    exact ⟨⟨rfl, k_7 hU hG hN (by omega)⟩, ⟨rfl, k_202 hU hG hN (by omega)⟩, ⟨rfl, k_437 hU hG hN (by omega)⟩, ⟨rfl, k_442 hU hG hN (by omega)⟩, ⟨rfl, k_473 hU hG hN (by omega)⟩, fun _ h => absurd h List.not_mem_nil⟩)) (fun _ _ h => by cases h) v_474
theorem k_475 {D d : Nat} (hU : uqG G C) (hG : ∀ k, k < 132 → G k = 300 + k) (hN : ∀ x g, sbN x = some g → G x = g) (hd : 6 ≤ d) : ctrOK (PRd C D xs) G rgs (wpM mDf mt d) 103 c_475 := by
  obtain ⟨e, rfl⟩ : ∃ e, d = e + 1 := ⟨d - 1, by omega⟩
  exact ver_ok (PRd_k hU) hG (by omega) rfl (rLLh_ok hU) (fun _ _ _ h => by cases h) (fun _ _ h => by cases h) v_475
theorem k_476 {D d : Nat} (hU : uqG G C) (hG : ∀ k, k < 132 → G k = 300 + k) (hN : ∀ x g, sbN x = some g → G x = g) (hd : 8 ≤ d) : ctrOK (PRd C D xs) G rgs (wpM mDf mt d) 102 c_476 := by
  obtain ⟨e, rfl⟩ : ∃ e, d = e + 1 := ⟨d - 1, by omega⟩
  exact ver_ok (PRd_k hU) hG (by omega) rfl (rLLh_ok hU) (lkCL_ok (by
    simp only [List.forall_mem_cons]
    exact ⟨⟨rfl, k_433 hU hG hN (by omega)⟩, ⟨rfl, k_475 hU hG hN (by omega)⟩, fun _ h => absurd h List.not_mem_nil⟩)) (fun _ _ h => by cases h) v_476
theorem k_477 {D d : Nat} (hU : uqG G C) (hG : ∀ k, k < 132 → G k = 300 + k) (hN : ∀ x g, sbN x = some g → G x = g) (hd : 9 ≤ d) : ctrOK (PRd C D xs) G rgs (wpM mDf mt d) 101 c_477 := by
  obtain ⟨e, rfl⟩ : ∃ e, d = e + 1 := ⟨d - 1, by omega⟩
  exact ver_ok (PRd_k hU) hG (by omega) rfl (rLLh_ok hU) (lkCL_ok (by
    simp only [List.forall_mem_cons]
    exact ⟨⟨rfl, k_476 hU hG hN (by omega)⟩, fun _ h => absurd h List.not_mem_nil⟩)) (fun _ _ h => by cases h) v_477
theorem k_478 {D d : Nat} (hU : uqG G C) (hG : ∀ k, k < 132 → G k = 300 + k) (hN : ∀ x g, sbN x = some g → G x = g) (hd : 6 ≤ d) : ctrOK (PRd C D xs) G rgs (wpM mDf mt d) 266 c_478 := by
  obtain ⟨e, rfl⟩ : ∃ e, d = e + 1 := ⟨d - 1, by omega⟩
  exact ver_ok (PRd_k hU) hG (by omega) rfl (rLLh_ok hU) (fun _ _ _ h => by cases h) (fun _ _ h => by cases h) v_478
theorem k_479 {D d : Nat} (hU : uqG G C) (hG : ∀ k, k < 132 → G k = 300 + k) (hN : ∀ x g, sbN x = some g → G x = g) (hd : 8 ≤ d) : ctrOK (PRd C D xs) G rgs (wpM mDf mt d) 265 c_479 := by
  obtain ⟨e, rfl⟩ : ∃ e, d = e + 1 := ⟨d - 1, by omega⟩
  exact ver_ok (PRd_k hU) hG (by omega) rfl (rLLh_ok hU) (lkCL_ok (by
    simp only [List.forall_mem_cons]
    exact ⟨⟨rfl, k_436 hU hG hN (by omega)⟩, ⟨rfl, k_437 hU hG hN (by omega)⟩, ⟨rfl, k_478 hU hG hN (by omega)⟩, fun _ h => absurd h List.not_mem_nil⟩)) (fun _ _ h => by cases h) v_479
end
