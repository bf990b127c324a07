section
variable {G C : Nat → Nat} {xs : Nat → Int}
theorem k_360 {D d : Nat} (hU : uqG G C) (hG : ∀ k, k < 132 → G k = 300 + k) (hN : ∀ x g, sbN x = some g → G x = g) (hd : 6 ≤ d) : ctrOK (PRd C D xs) G rgs (wpM mDf mt d) 42 c_360 := by
  obtain ⟨e, rfl⟩ : ∃ e, d = e + 1 := ⟨d - 1, by omega⟩
  exact ver_ok (PRd_k hU) hG (by omega) rfl (rLLh_ok hU) (fun _ _ _ h => by cases h) (fun _ _ h => by cases h) v_360
theorem k_361 {D d : Nat} (hU : uqG G C) (hG : ∀ k, k < 132 → G k = 300 + k) (hN : ∀ x g, sbN x = some g → G x = g) (hd : 7 ≤ d) : ctrOK (PRd C D xs) G rgs (wpM mDf mt d) 41 c_361 := by
  obtain ⟨e, rfl⟩ : ∃ e, d = e + 1 := ⟨d - 1, by omega⟩
  exact ver_ok (PRd_k hU) hG (by omega) rfl (rLLh_ok hU) (lkCL_ok (by
    simp only [List.forall_mem_cons]
    exact ⟨⟨rfl, k_360 hU hG hN (by omega)⟩, fun _ h => absurd h List.not_mem_nil⟩)) (fun _ _ h => by cases h) v_361
theorem k_362 {D d : Nat} (hU : uqG G C) (hG : ∀ k, k < 132 → G k = 300 + k) (hN : ∀ x g, sbN x = some g → G x = g) (hd : 6 ≤ d) : ctrOK (PRd C D xs) G rgs (wpM mDf mt d) 40 c_362 := by
  obtain ⟨e, rfl⟩ : ∃ e, d = e + 1 := ⟨d - 1, by omega⟩
  exact ver_ok (PRd_k hU) hG (by omega) rfl (rLLh_ok hU) (fun _ _ _ h => by cases h) (fun _ _ h => by cases h) v_362
theorem k_363 {D d : Nat} (hU : uqG G C) (hG : ∀ k, k < 132 → G k = 300 + k) (hN : ∀ x g, sbN x = some g → G x = g) (hd : 8 ≤ d) : ctrOK (PRd C D xs) G rgs (wpM mDf mt d) 51 c_363 := by
  obtain ⟨e, rfl⟩ : ∃ e, d = e + 1 := ⟨d - 1, by omega⟩
  exact ver_ok (PRd_k hU) hG (by omega) rfl (rLLh_ok hU) (lkCL_ok (by
    simp only [List.forall_mem_cons]
    exact ⟨⟨rfl, k_26 hU hG hN (by omega)⟩, fun _ h => absurd h List.not_mem_nil⟩)) (fun _ _ h => by cases h) v_363
theorem k_364 {D d : Nat} (hU : uqG G C) (hG : ∀ k, k < 132 → G k = 300 + k) (hN : ∀ x g, sbN x = some g → G x = g) (hd : 9 ≤ d) : ctrOK (PRd C D xs) G rgs (wpM mDf mt d) 50 c_364 := by
  obtain ⟨e, rfl⟩ : ∃ e, d = e + 1 := ⟨d - 1, by omega⟩
  exact ver_ok (PRd_k hU) hG (by omega) rfl (rLLh_ok hU) (lkCL_ok (by
    simp only [List.forall_mem_cons]
    exact ⟨⟨rfl, k_362 hU hG hN (by omega)⟩, ⟨rfl, k_363 hU hG hN (by omega)⟩, fun _ h => absurd h List.not_mem_nil⟩)) (fun _ _ h => by cases h) v_364
theorem k_365 {D d : Nat} (hU : uqG G C) (hG : ∀ k, k < 132 → G k = 300 + k) (hN : ∀ x g, sbN x = some g → G x = g) (hd : 10 ≤ d) : ctrOK (PRd C D xs) G rgs (wpM mDf mt d) 229 c_365 := by
  obtain ⟨e, rfl⟩ : ∃ e, d = e + 1 := ⟨d - 1, by omega⟩
  exact ver_ok (PRd_k hU) hG (by omega) rfl (rLLh_ok hU) (lkCL_ok (by
    simp only [List.forall_mem_cons]
    exact ⟨⟨rfl, k_361 hU hG hN (by omega)⟩, ⟨rfl, k_364 hU hG hN (by omega)⟩, fun _ h => absurd h List.not_mem_nil⟩)) (fun _ _ h => by cases h) v_365
theorem k_366 {D d : Nat} (hU : uqG G C) (hG : ∀ k, k < 132 → G k = 300 + k) (hN : ∀ x g, sbN x = some g → G x = g) (hd : 13 ≤ d) : ctrOK (PRd C D xs) G rgs (wpM mDf mt d) 239 c_366 := by
  obtain ⟨e, rfl⟩ : ∃ e, d = e + 1 := ⟨d - 1, by omega⟩
  exact ver_ok (PRd_k hU) hG (by omega) rfl (rLLh_ok hU) (lkCL_ok (by
    simp only [List.forall_mem_cons]
    exact ⟨⟨rfl, k_352 hU hG hN (by omega)⟩, ⟨rfl, k_359 hU hG hN (by omega)⟩, ⟨rfl, k_365 hU hG hN (by omega)⟩, fun _ h => absurd h List.not_mem_nil⟩)) (fun _ _ h => by cases h) v_366
theorem k_367 {D d : Nat} (hU : uqG G C) (hG : ∀ k, k < 132 → G k = 300 + k) (hN : ∀ x g, sbN x = some g → G x = g) (hd : 14 ≤ d) : ctrOK (PRd C D xs) G rgs (wpM mDf mt d) 243 c_367 := by
  obtain ⟨e, rfl⟩ : ∃ e, d = e + 1 := ⟨d - 1, by omega⟩
  exact ver_ok (PRd_k hU) hG (by omega) rfl (rLLh_ok hU) (lkCL_ok (by
    simp only [List.forall_mem_cons]
    exact ⟨⟨rfl, k_213 hU hG hN (by omega)⟩, ⟨rfl, k_271 hU hG hN (by omega)⟩, ⟨rfl, k_278 hU hG hN (by omega)⟩, ⟨rfl, k_366 hU hG hN (by omega)⟩, fun _ h => absurd h List.not_mem_nil⟩)) (fun _ _ h => by cases h) v_367
theorem k_368 {D d : Nat} (hU : uqG G C) (hG : ∀ k, k < 132 → G k = 300 + k) (hN : ∀ x g, sbN x = some g → G x = g) (hd : 8 ≤ d) : ctrOK (PRd C D xs) G rgs (wpM mDf mt d) 231 c_368 := by
  obtain ⟨e, rfl⟩ : ∃ e, d = e + 1 := ⟨d - 1, by omega⟩
  exact ver_ok (PRd_k hU) hG (by omega) rfl (rLLh_ok hU) (lkCL_ok (by
    simp only [List.forall_mem_cons]
    exact ⟨⟨rfl, k_202 hU hG hN (by omega)⟩, ⟨rfl, k_213 hU hG hN (by omega)⟩, ⟨rfl, k_278 hU hG hN (by omega)⟩, fun _ h => absurd h List.not_mem_nil⟩)) (fun _ _ h => by cases h) v_368
theorem k_369 {D d : Nat} (hU : uqG G C) (hG : ∀ k, k < 132 → G k = 300 + k) (hN : ∀ x g, sbN x = some g → G x = g) (hd : 9 ≤ d) : ctrOK (PRd C D xs) G rgs (wpM mDf mt d) 244 c_369 := by
  obtain ⟨e, rfl⟩ : ∃ e, d = e + 1 := ⟨d - 1, by omega⟩
  exact ver_ok (PRd_k hU) hG (by omega) rfl (rLLh_ok hU) (lkCL_ok (by
    simp only [List.forall_mem_cons]
    exact ⟨⟨rfl, k_213 hU hG hN (by omega)⟩, ⟨rfl, k_271 hU hG hN (by omega)⟩, ⟨rfl, k_278 hU hG hN (by omega)⟩, ⟨rfl, k_353 hU hG hN (by omega)⟩, ⟨rfl, k_368 hU hG hN (by omega)⟩, fun _ h => absurd h List.not_mem_nil⟩)) (fun _ _ h => by cases h) v_369
theorem k_370 {D d : Nat} (hU : uqG G C) (hG : ∀ k, k < 132 → G k = 300 + k) (hN : ∀ x g, sbN x = some g → G x = g) (hd : 15 ≤ d) : ctrOK (PRd C D xs) G rgs (wpM mDf mt d) 240 c_370 := by
  obtain ⟨e, rfl⟩ : ∃ e, d = e + 1 := ⟨d - 1, by omega⟩
  exact ver_ok (PRd_k hU) hG (by omega) rfl (rLLh_ok hU) (lkCL_ok (by
    simp only [List.forall_mem_cons]
    exact ⟨⟨rfl, k_213 hU hG hN (by omega)⟩, ⟨rfl, k_271 hU hG hN (by omega)⟩, ⟨rfl, k_344 hU hG hN (by omega)⟩, ⟨rfl, k_350 hU hG hN (by omega)⟩, ⟨rfl, k_351 hU hG hN (by omega)⟩, ⟨rfl, k_352 hU hG hN (by omega)⟩, ⟨rfl, k_353 hU hG hN (by omega)⟩, ⟨rfl, k_367 hU hG hN (by omega)⟩, ⟨rfl, k_369 hU hG hN (by omega)⟩, fun _ h => absurd h List.not_mem_nil⟩)) (fun _ _ h => by cases h) v_370
theorem k_371 {D d : Nat} (hU : uqG G C) (hG : ∀ k, k < 132 → G k = 300 + k) (hN : ∀ x g, sbN x = some g → G x = g) (hd : 6 ≤ d) : ctrOK (PRd C D xs) G rgs (wpM mDf mt d) 242 c_371 := by
  obtain ⟨e, rfl⟩ : ∃ e, d = e + 1 := ⟨d - 1, by omega⟩
  exact ver_ok (PRd_k hU) hG (by omega) rfl (rLLh_ok hU) (fun _ _ _ h => by cases h) (fun _ _ h => by cases h) v_371
theorem k_372 {D d : Nat} (hU : uqG G C) (hG : ∀ k, k < 132 → G k = 300 + k) (hN : ∀ x g, sbN x = some g → G x = g) (hd : 7 ≤ d) : ctrOK (PRd C D xs) G rgs (wpM mDf mt d) 223 c_372 := by
  obtain ⟨e, rfl⟩ : ∃ e, d = e + 1 := ⟨d - 1, by omega⟩
  exact ver_ok (PRd_k hU) hG (by omega) rfl (rLLh_ok hU) (lkCL_ok (by
    simp only [List.forall_mem_cons]
    exact ⟨⟨rfl, k_201 hU hG hN (by omega)⟩, ⟨rfl, k_202 hU hG hN (by omega)⟩, ⟨rfl, k_203 hU hG hN (by omega)⟩, fun _ h => absurd h List.not_mem_nil⟩)) (fun _ _ h => by cases h) v_372
theorem k_373 {D d : Nat} (hU : uqG G C) (hG : ∀ k, k < 132 → G k = 300 + k) (hN : ∀ x g, sbN x = some g → G x = g) (hd : 16 ≤ d) : ctrOK (PRd C D xs) G rgs (wpM mDf mt d) 239 c_373 := by
  obtain ⟨e, rfl⟩ : ∃ e, d = e + 1 := ⟨d - 1, by omega⟩
  exact ver_ok (PRd_k hU) hG (by omega) rfl (rLLh_ok hU) (lkCL_ok (by
    simp only [List.forall_mem_cons]
    exact ⟨⟨rfl, k_353 hU hG hN (by omega)⟩, ⟨rfl, k_359 hU hG hN (by omega)⟩, ⟨rfl, k_365 hU hG hN (by omega)⟩, ⟨rfl, k_370 hU hG hN (by omega)⟩, ⟨rfl, k_371 hU hG hN (by omega)⟩, ⟨rfl, k_372 hU hG hN (by omega)⟩, fun _ h => absurd h List.not_mem_nil⟩)) (fun _ _ h => by cases h) v_373
theorem k_374 {D d : Nat} (hU : uqG G C) (hG : ∀ k, k < 132 → G k = 300 + k) (hN : ∀ x g, sbN x = some g → G x = g) (hd : 17 ≤ d) : ctrOK (PRd C D xs) G rgs (wpM mDf mt d) 243 c_374 := by
  obtain ⟨e, rfl⟩ : ∃ e, d = e + 1 := ⟨d - 1, by omega⟩
  exact ver_ok (PRd_k hU) hG (by omega) rfl (rLLh_ok hU) (lkCL_ok (by
    simp only [List.forall_mem_cons]
    exact ⟨⟨rfl, k_213 hU hG hN (by omega)⟩, ⟨rfl, k_271 hU hG hN (by omega)⟩, ⟨rfl, k_278 hU hG hN (by omega)⟩, ⟨rfl, k_373 hU hG hN (by omega)⟩, fun _ h => absurd h List.not_mem_nil⟩)) (fun _ _ h => by cases h) v_374
theorem k_375 {D d : Nat} (hU : uqG G C) (hG : ∀ k, k < 132 → G k = 300 + k) (hN : ∀ x g, sbN x = some g → G x = g) (hd : 9 ≤ d) : ctrOK (PRd C D xs) G rgs (wpM mDf mt d) 244 c_375 := by
  obtain ⟨e, rfl⟩ : ∃ e, d = e + 1 := ⟨d - 1, by omega⟩
  exact ver_ok (PRd_k hU) hG (by omega) rfl (rLLh_ok hU) (lkCL_ok (by
    simp only [List.forall_mem_cons]
    exact ⟨⟨rfl, k_213 hU hG hN (by omega)⟩, ⟨rfl, k_271 hU hG hN (by omega)⟩, ⟨rfl, k_278 hU hG hN (by omega)⟩, ⟨rfl, k_353 hU hG hN (by omega)⟩, ⟨rfl, k_368 hU hG hN (by omega)⟩, fun _ h => absurd h List.not_mem_nil⟩)) (fun _ _ h => by cases h) v_375
theorem k_376 {D d : Nat} (hU : uqG G C) (hG : ∀ k, k < 132 → G k = 300 + k) (hN : ∀ x g, sbN x = some g → G x = g) (hd : 18 ≤ d) : ctrOK (PRd C D xs) G rgs (wpM mDf mt d) 240 c_376 := by
  obtain ⟨e, rfl⟩ : ∃ e, d = e + 1 := ⟨d - 1, by omega⟩
  exact ver_ok (PRd_k hU) hG (by omega) rfl (rLLh_ok hU) (lkCL_ok (by
    simp only [List.forall_mem_cons]
    exact ⟨⟨rfl, k_213 hU hG hN (by omega)⟩, ⟨rfl, k_271 hU hG hN (by omega)⟩, ⟨rfl, k_344 hU hG hN (by omega)⟩, ⟨rfl, k_350 hU hG hN (by omega)⟩, ⟨rfl, k_351 hU hG hN (by omega)⟩, ⟨rfl, k_353 hU hG hN (by omega)⟩, ⟨rfl, k_370 hU hG hN (by omega)⟩, ⟨rfl, k_371 hU hG hN (by omega)⟩, ⟨rfl, k_374 hU hG hN (by omega)⟩, ⟨rfl, k_375 hU hG hN (by omega)⟩, fun _ h => absurd h List.not_mem_nil⟩)) (fun _ _ h => by cases h) v_376
theorem k_377 {D d : Nat} (hU : uqG G C) (hG : ∀ k, k < 132 → G k = 300 + k) (hN : ∀ x g, sbN x = some g → G x = g) (hd : 19 ≤ d) : ctrOK (PRd C D xs) G rgs (wpM mDf mt d) 239 c_377 := by
  obtain ⟨e, rfl⟩ : ∃ e, d = e + 1 := ⟨d - 1, by omega⟩
  exact ver_ok (PRd_k hU) hG (by omega) rfl (rLLh_ok hU) (lkCL_ok (by
    simp only [List.forall_mem_cons]
    exact ⟨⟨rfl, k_353 hU hG hN (by omega)⟩, ⟨rfl, k_359 hU hG hN (by omega)⟩, ⟨rfl, k_365 hU hG hN (by omega)⟩, ⟨rfl, k_371 hU hG hN (by omega)⟩, ⟨rfl, k_372 hU hG hN (by omega)⟩, ⟨rfl, k_376 hU hG hN (by omega)⟩, fun _ h => absurd h List.not_mem_nil⟩)) (fun _ _ h => by cases h) v_377
theorem k_378 {D d : Nat} (hU : uqG G C) (hG : ∀ k, k < 132 → G k = 300 + k) (hN : ∀ x g, sbN x = some g → G x = g) (hd : 20 ≤ d) : ctrOK (PRd C D xs) G rgs (wpM mDf mt d) 243 c_378 := by
  obtain ⟨e, rfl⟩ : ∃ e, d = e + 1 := ⟨d - 1, by omega⟩
  exact ver_ok (PRd_k hU) hG (by omega) rfl (rLLh_ok hU) (lkCL_ok (by
    simp only [List.forall_mem_cons]
    exact ⟨⟨rfl, k_213 hU hG hN (by omega)⟩, ⟨rfl, k_271 hU hG hN (by omega)⟩, ⟨rfl, k_278 hU hG hN (by omega)⟩, ⟨rfl, k_377 hU hG hN (by omega)⟩, fun _ h => absurd h List.not_mem_nil⟩)) (fun _ _ h => by cases h) v_378
theorem k_379 {D d : Nat} (hU : uqG G C) (hG : ∀ k, k < 132 → G k = 300 + k) (hN : ∀ x g, sbN x = some g → G x = g) (hd : 9 ≤ d) : ctrOK (PRd C D xs) G rgs (wpM mDf mt d) 244 c_379 := by
  obtain ⟨e, rfl⟩ : ∃ e, d = e + 1 := ⟨d - 1, by omega⟩
  exact ver_ok (PRd_k hU) hG (by omega) rfl (rLLh_ok hU) (lkCL_ok (by
    simp only [List.forall_mem_cons]
    exact ⟨⟨rfl, k_213 hU hG hN (by omega)⟩, ⟨rfl, k_271 hU hG hN (by omega)⟩, ⟨rfl, k_278 hU hG hN (by omega)⟩, ⟨rfl, k_353 hU hG hN (by omega)⟩, ⟨rfl, k_368 hU hG hN (by omega)⟩, fun _ h => absurd h List.not_mem_nil⟩)) (fun _ _ h => by cases h) v_379
theorem k_380 {D d : Nat} (hU : uqG G C) (hG : ∀ k, k < 132 → G k = 300 + k) (hN : ∀ x g, sbN x = some g → G x = g) (hd : 21 ≤ d) : ctrOK (PRd C D xs) G rgs (wpM mDf mt d) 240 c_380 := by
  obtain ⟨e, rfl⟩ : ∃ e, d = e + 1 := ⟨d - 1, by omega⟩
  exact ver_ok (PRd_k hU) hG (by omega) rfl (rLLh_ok hU) (lkCL_ok (by
    simp only [List.forall_mem_cons]
    exact ⟨⟨rfl, k_213 hU hG hN (by omega)⟩, ⟨rfl, k_271 hU hG hN (by omega)⟩, ⟨rfl, k_344 hU hG hN (by omega)⟩, ⟨rfl, k_350 hU hG hN (by omega)⟩, ⟨rfl, k_351 hU hG hN (by omega)⟩, ⟨rfl, k_353 hU hG hN (by omega)⟩, ⟨rfl, k_371 hU hG hN (by omega)⟩, ⟨rfl, k_376 hU hG hN (by omega)⟩, ⟨rfl, k_378 hU hG hN (by omega)⟩, ⟨rfl, k_379 hU hG hN (by omega)⟩, fun _ h => absurd h List.not_mem_nil⟩)) (fun _ _ h => by cases h) v_380
theorem k_381 {D d : Nat} (hU : uqG G C) (hG : ∀ k, k < 132 → G k = 300 + k) (hN : ∀ x g, sbN x = some g → G x = g) (hd : 22 ≤ d) : ctrOK (PRd C D xs) G rgs (wpM mDf mt d) 239 c_381 := by
  obtain ⟨e, rfl⟩ : ∃ e, d = e + 1 := ⟨d - 1, by omega⟩
  exact ver_ok (PRd_k hU) hG (by omega) rfl (rLLh_ok hU) (lkCL_ok (by
    simp only [List.forall_mem_cons]
    exact ⟨⟨rfl, k_353 hU hG hN (by omega)⟩, ⟨rfl, k_359 hU hG hN (by omega)⟩, ⟨rfl, k_365 hU hG hN (by omega)⟩, ⟨rfl, k_371 hU hG hN (by omega)⟩, ⟨rfl, k_372 hU hG hN (by omega)⟩, ⟨rfl, k_380 hU hG hN (by omega)⟩, fun _ h => absurd h List.not_mem_nil⟩)) (fun _ _ h => by cases h) v_381
theorem k_382 {D d : Nat} (hU : uqG G C) (hG : ∀ k, k < 132 → G k = 300 + k) (hN : ∀ x g, sbN x = some g → G x = g) (hd : 23 ≤ d) : ctrOK (PRd C D xs) G rgs (wpM mDf mt d) 243 c_382 := by
  obtain ⟨e, rfl⟩ : ∃ e, d = e + 1 := ⟨d - 1, by omega⟩
  exact ver_ok (PRd_k hU) hG (by omega) rfl (rLLh_ok hU) (lkCL_ok (by
    simp only [List.forall_mem_cons]
    exact ⟨⟨rfl, k_213 hU hG hN (by omega)⟩, ⟨rfl, k_271 hU hG hN (by omega)⟩, ⟨rfl, k_278 hU hG hN (by omega)⟩, ⟨rfl, k_381 hU hG hN (by omega)⟩, fun _ h => absurd h List.not_mem_nil⟩)) (fun _ _ h => by cases h) v_382
theorem k_383 {D d : Nat} (hU : uqG G C) (hG : ∀ k, k < 132 → G k = 300 + k) (hN : ∀ x g, sbN x = some g → G x = g) (hd : 9 ≤ d) : ctrOK (PRd C D xs) G rgs (wpM mDf mt d) 244 c_383 := by
  obtain ⟨e, rfl⟩ : ∃ e, d = e + 1 := ⟨d - 1, by omega⟩
  exact ver_ok (PRd_k hU) hG (by omega) rfl (rLLh_ok hU) (lkCL_ok (by
    simp only [List.forall_mem_cons]
    exact ⟨⟨rfl, k_213 hU hG hN (by omega)⟩, ⟨rfl, k_271 hU hG hN (by omega)⟩, ⟨rfl, k_278 hU hG hN (by omega)⟩, ⟨rfl, k_353 hU hG hN (by omega)⟩, ⟨rfl, k_368 hU hG hN (by omega)⟩, fun _ h => absurd h List.not_mem_nil⟩)) (fun _ _ h => by cases h) v_383
theorem k_384 {D d : Nat} (hU : uqG G C) (hG : ∀ k, k < 132 → G k = 300 + k) (hN : ∀ x g, sbN x = some g → G x = g) (hd : 24 ≤ d) : ctrOK (PRd C D xs) G rgs (wpM mDf mt d) 240 c_384 := by
  obtain ⟨e, rfl⟩ : ∃ e, d = e + 1 := ⟨d - 1, by omega⟩
  exact ver_ok (PRd_k hU) hG (by omega) rfl (rLLh_ok hU) (lkCL_ok (by
    simp only [List.forall_mem_cons]
    exact ⟨⟨rfl, k_213 hU hG hN (by omega)⟩, ⟨rfl, k_271 hU hG hN (by omega)⟩, ⟨rfl, k_344 hU hG hN (by omega)⟩, ⟨rfl, k_350 hU hG hN (by omega)⟩, ⟨rfl, k_351 hU hG hN (by omega)⟩, ⟨rfl, k_353 hU hG hN (by omega)⟩, ⟨rfl, k_371 hU hG hN (by omega)⟩, ⟨rfl, k_380 hU hG hN (by omega)⟩, ⟨rfl, k_382 hU hG hN (by omega)⟩, ⟨rfl, k_383 hU hG hN (by omega)⟩, fun _ h => absurd h List.not_mem_nil⟩)) (fun _ _ h => by cases h) v_384
theorem k_385 {D d : Nat} (hU : uqG G C) (hG : ∀ k, k < 132 → G k = 300 + k) (hN : ∀ x g, sbN x = some g → G x = g) (hd : 25 ≤ d) : ctrOK (PRd C D xs) G rgs (wpM mDf mt d) 239 c_385 := by
  obtain ⟨e, rfl⟩ : ∃ e, d = e + 1 := ⟨d - 1, by omega⟩
  exact ver_ok (PRd_k hU) hG (by omega) rfl (rLLh_ok hU) (lkCL_ok (by
    simp only [List.forall_mem_cons]
    exact ⟨⟨rfl, k_353 hU hG hN (by omega)⟩, ⟨rfl, k_359 hU hG hN (by omega)⟩, ⟨rfl, k_365 hU hG hN (by omega)⟩, ⟨rfl, k_371 hU hG hN (by omega)⟩, ⟨rfl, k_372 hU hG hN (by omega)⟩, ⟨rfl, k_384 hU hG hN (by omega)⟩, fun _ h => absurd h List.not_mem_nil⟩)) (fun _ _ h => by cases h) v_385
theorem k_386 {D d : Nat} (hU : uqG G C) (hG : ∀ k, k < 132 → G k = 300 + k) (hN : ∀ x g, sbN x = some g → G x = g) (hd : 26 ≤ d) : ctrOK (PRd C D xs) G rgs (wpM mDf mt d) 243 c_386 := by
  obtain ⟨e, rfl⟩ : ∃ e, d = e + 1 := ⟨d - 1, by omega⟩
  exact ver_ok (PRd_k hU) hG (by omega) rfl (rLLh_ok hU) (lkCL_ok (by
    simp only [List.forall_mem_cons]
    exact ⟨⟨rfl, k_213 hU hG hN (by omega)⟩, ⟨rfl, k_271 hU hG hN (by omega)⟩, ⟨rfl, k_278 hU hG hN (by omega)⟩, ⟨rfl, k_385 hU hG hN (by omega)⟩, fun _ h => absurd h List.not_mem_nil⟩)) (fun _ _ h => by cases h) v_386
theorem k_387 {D d : Nat} (hU : uqG G C) (hG : ∀ k, k < 132 → G k = 300 + k) (hN : ∀ x g, sbN x = some g → G x = g) (hd : 9 ≤ d) : ctrOK (PRd C D xs) G rgs (wpM mDf mt d) 244 c_387 := by
  obtain ⟨e, rfl⟩ : ∃ e, d = e + 1 := ⟨d - 1, by omega⟩
  exact ver_ok (PRd_k hU) hG (by omega) rfl (rLLh_ok hU) (lkCL_ok (by
    simp only [List.forall_mem_cons]
    exact ⟨⟨rfl, k_213 hU hG hN (by omega)⟩, ⟨rfl, k_271 hU hG hN (by omega)⟩, ⟨rfl, k_278 hU hG hN (by omega)⟩, ⟨rfl, k_353 hU hG hN (by omega)⟩, ⟨rfl, k_368 hU hG hN (by omega)⟩, fun _ h => absurd h List.not_mem_nil⟩)) (fun _ _ h => by cases h) v_387
theorem k_388 {D d : Nat} (hU : uqG G C) (hG : ∀ k, k < 132 → G k = 300 + k) (hN : ∀ x g, sbN x = some g → G x = g) (hd : 27 ≤ d) : ctrOK (PRd C D xs) G rgs (wpM mDf mt d) 240 c_388 := by
  obtain ⟨e, rfl⟩ : ∃ e, d = e + 1 := ⟨d - 1, by omega⟩
  exact ver_ok (PRd_k hU) hG (by omega) rfl (rLLh_ok hU) (lkCL_ok (by
    simp only [List.forall_mem_cons]
    exact ⟨⟨rfl, k_213 hU hG hN (by omega)⟩, ⟨rfl, k_271 hU hG hN (by omega)⟩, ⟨rfl, k_344 hU hG hN (by omega)⟩, ⟨rfl, k_350 hU hG hN (by omega)⟩, ⟨rfl, k_351 hU hG hN (by omega)⟩, ⟨rfl, k_353 hU hG hN (by omega)⟩, ⟨rfl, k_371 hU hG hN (by omega)⟩, ⟨rfl, k_384 hU hG hN (by omega)⟩, ⟨rfl, k_386 hU hG hN (by omega)⟩, ⟨rfl, k_387 hU hG hN (by omega)⟩, fun _ h => absurd h List.not_mem_nil⟩)) (fun _ _ h => by cases h) v_388
theorem k_389 {D d : Nat} (hU : uqG G C) (hG : ∀ k, k < 132 → G k = 300 + k) (hN : ∀ x g, sbN x = some g → G x = g) (hd : 28 ≤ d) : ctrOK (PRd C D xs) G rgs (wpM mDf mt d) 239 c_389 := by
  obtain ⟨e, rfl⟩ : ∃ e, d = e + 1 := ⟨d - 1, by omega⟩
  exact ver_ok (PRd_k hU) hG (by omega) rfl (rLLh_ok hU) (lkCL_ok (by
    simp only [List.forall_mem_cons]
    exact ⟨⟨rfl, k_353 hU hG hN (by omega)⟩, ⟨rfl, k_359 hU hG hN (by omega)⟩, ⟨rfl, k_365 hU hG hN (by omega)⟩, ⟨rfl, k_371 hU hG hN (by omega)⟩, ⟨rfl, k_372 hU hG hN (by omega)⟩, ⟨rfl, k_388 hU hG hN (by omega)⟩, fun _ h => absurd h List.not_mem_nil⟩)) (fun _ _ h => by cases h) v_389
theorem k_390 {D d : Nat} (hU : uqG G C) (hG : ∀ k, k < 132 → G k = 300 + k) (hN : ∀ x g, sbN x = some g → G x = g) (hd : 29 ≤ d) : ctrOK (PRd C D xs) G rgs (wpM mDf mt d) 243 c_390 := by
  obtain ⟨e, rfl⟩ : ∃ e, d = e + 1 := ⟨d - 1, by omega⟩
  exact ver_ok (PRd_k hU) hG (by omega) rfl (rLLh_ok hU) (lkCL_ok (by
    simp only [List.forall_mem_cons]
    exact ⟨⟨rfl, k_213 hU hG hN (by omega)⟩, ⟨rfl, k_271 hU hG hN (by omega)⟩, ⟨rfl, k_278 hU hG hN (by omega)⟩, ⟨rfl, k_389 hU hG hN (by omega)⟩, fun _ h => absurd h List.not_mem_nil⟩)) (fun _ _ h => by cases h) v_390
theorem k_391 {D d : Nat} (hU : uqG G C) (hG : ∀ k, k < 132 → G k = 300 + k) (hN : ∀ x g, sbN x = some g → G x = g) (hd : 9 ≤ d) : ctrOK (PRd C D xs) G rgs (wpM mDf mt d) 244 c_391 := by
  obtain ⟨e, rfl⟩ : ∃ e, d = e + 1 := ⟨d - 1, by omega⟩
  exact ver_ok (PRd_k hU) hG (by omega) rfl (rLLh_ok hU) (lkCL_ok (by
    simp only [List.forall_mem_cons]
    exact ⟨⟨rfl, k_213 hU hG hN (by omega)⟩, ⟨rfl, k_271 hU hG hN (by omega)⟩, ⟨rfl, k_278 hU hG hN (by omega)⟩, ⟨rfl, k_353 hU hG hN (by omega)⟩, ⟨rfl, k_368 hU hG hN (by omega)⟩, fun _ h => absurd h List.not_mem_nil⟩)) (fun _ _ h => by cases h) v_391
theorem k_392 {D d : Nat} (hU : uqG G C) (hG : ∀ k, k < 132 → G k = 300 + k) (hN : ∀ x g, sbN x = some g → G x = g) (hd : 30 ≤ d) : ctrOK (PRd C D xs) G rgs (wpM mDf mt d) 240 c_392 := by
  obtain ⟨e, rfl⟩ : ∃ e, d = e + 1 := ⟨d - 1, by omega⟩
  exact ver_ok (PRd_k hU) hG (by omega) rfl (rLLh_ok hU) (lkCL_ok (by
    simp only [List.forall_mem_cons]
    exact ⟨⟨rfl, k_213 hU hG hN (by omega)⟩, ⟨rfl, k_271 hU hG hN (by omega)⟩, ⟨rfl, k_344 hU hG hN (by omega)⟩, ⟨rfl, k_350 hU hG hN (by omega)⟩, ⟨rfl, k_351 hU hG hN (by omega)⟩, ⟨rfl, k_353 hU hG hN (by omega)⟩, ⟨rfl, k_371 hU hG hN (by omega)⟩, ⟨rfl, k_388 hU hG hN (by omega)⟩, ⟨rfl, k_390 hU hG hN (by omega)⟩, ⟨rfl, k_391 hU hG hN (by omega)⟩, fun _ h => absurd h List.not_mem_nil⟩)) (fun _ _ h => by cases h) v_392
theorem k_393 {D d : Nat} (hU : uqG G C) (hG : ∀ k, k < 132 → G k = 300 + k) (hN : ∀ x g, sbN x = some g → G x = g) (hd : 31 ≤ d) : ctrOK (PRd C D xs) G rgs (wpM mDf mt d) 239 c_393 := by
  obtain ⟨e, rfl⟩ : ∃ e, d = e + 1 := ⟨d - 1, by omega⟩
  exact ver_ok (PRd_k hU) hG (by omega) rfl (rLLh_ok hU) (lkCL_ok (by
    simp only [List.forall_mem_cons]
    exact ⟨⟨rfl, k_353 hU hG hN (by omega)⟩, ⟨rfl, k_359 hU hG hN (by omega)⟩, ⟨rfl, k_365 hU hG hN (by omega)⟩, ⟨rfl, k_371 hU hG hN (by omega)⟩, ⟨rfl, k_372 hU hG hN (by omega)⟩, ⟨rfl, k_392 hU hG hN (by omega)⟩, fun _ h => absurd h List.not_mem_nil⟩)) (fun _ _ h => by cases h) v_393
theorem k_394 {D d : Nat} (hU : uqG G C) (hG : ∀ k, k < 132 → G k = 300 + k) (hN : ∀ x g, sbN x = some g → G x = g) (hd : 32 ≤ d) : ctrOK (PRd C D xs) G rgs (wpM mDf mt d) 243 c_394 := by
  obtain ⟨e, rfl⟩ : ∃ e, d = e + 1 := ⟨d - 1, by omega⟩
  exact ver_ok (PRd_k hU) hG (by omega) rfl (rLLh_ok hU) (lkCL_ok (by
    simp only [List.forall_mem_cons]
    exact ⟨⟨rfl, k_213 hU hG hN (by omega)⟩, ⟨rfl, k_271 hU hG hN (by omega)⟩, ⟨rfl, k_278 hU hG hN (by omega)⟩, ⟨rfl, k_393 hU hG hN (by omega)⟩, fun _ h => absurd h List.not_mem_nil⟩)) (fun _ _ h => by cases h) v_394
theorem k_395 {D d : Nat} (hU : uqG G C) (hG : ∀ k, k < 132 → G k = 300 + k) (hN : ∀ x g, sbN x = some g → G x = g) (hd : 9 ≤ d) : ctrOK (PRd C D xs) G rgs (wpM mDf mt d) 244 c_395 := by
  obtain ⟨e, rfl⟩ : ∃ e, d = e + 1 := ⟨d - 1, by omega⟩
  exact ver_ok (PRd_k hU) hG (by omega) rfl (rLLh_ok hU) (lkCL_ok (by
    simp only [List.forall_mem_cons]
    exact ⟨⟨rfl, k_213 hU hG hN (by omega)⟩, ⟨rfl, k_271 hU hG hN (by omega)⟩, ⟨rfl, k_278 hU hG hN (by omega)⟩, ⟨rfl, k_353 hU hG hN (by omega)⟩, ⟨rfl, k_368 hU hG hN (by omega)⟩, fun _ h => absurd h List.not_mem_nil⟩)) (fun _ _ h => by cases h) v_395
theorem k_396 {D d : Nat} (hU : uqG G C) (hG : ∀ k, k < 132 → G k = 300 + k) (hN : ∀ x g, sbN x = some g → G x = g) (hd : 33 ≤ d) : ctrOK (PRd C D xs) G rgs (wpM mDf mt d) 240 c_396 := by
  obtain ⟨e, rfl⟩ : ∃ e, d = e + 1 := ⟨d - 1, by omega⟩
  exact ver_ok (PRd_k hU) hG (by omega) rfl (rLLh_ok hU) (lkCL_ok (by
    simp only [List.forall_mem_cons]
    exact ⟨⟨rfl, k_213 hU hG hN (by omega)⟩, ⟨rfl, k_271 hU hG hN (by omega)⟩, ⟨rfl, k_344 hU hG hN (by omega)⟩, ⟨rfl, k_350 hU hG hN (by omega)⟩, ⟨rfl, k_351 hU hG hN (by omega)⟩, ⟨rfl, k_353 hU hG hN (by omega)⟩, ⟨rfl, k_371 hU hG hN (by omega)⟩, ⟨rfl, k_392 hU hG hN (by omega)⟩, ⟨rfl, k_394 hU hG hN (by omega)⟩, ⟨rfl, k_395 hU hG hN (by omega)⟩, fun _ h => absurd h List.not_mem_nil⟩)) (fun _ _ h => by cases h) v_396
theorem k_397 {D d : Nat} (hU : uqG G C) (hG : ∀ k, k < 132 → G k = 300 + k) (hN : ∀ x g, sbN x = some g → G x = g) (hd : 34 ≤ d) : ctrOK (PRd C D xs) G rgs (wpM mDf mt d) 239 c_397 := by
  obtain ⟨e, rfl⟩ : ∃ e, d = e + 1 := ⟨d - 1, by omega⟩
  exact ver_ok (PRd_k hU) hG (by omega) rfl (rLLh_ok hU) (lkCL_ok (by
    simp only [List.forall_mem_cons]
    exact ⟨⟨rfl, k_353 hU hG hN (by omega)⟩, ⟨rfl, k_359 hU hG hN (by omega)⟩, ⟨rfl, k_365 hU hG hN (by omega)⟩, ⟨rfl, k_371 hU hG hN (by omega)⟩, ⟨rfl, k_372 hU hG hN (by omega)⟩, ⟨rfl, k_396 hU hG hN (by omega)⟩, fun _ h => absurd h List.not_mem_nil⟩)) (fun _ _ h => by cases h) v_397
theorem k_398 {D d : Nat} (hU : uqG G C) (hG : ∀ k, k < 132 → G k = 300 + k) (hN : ∀ x g, sbN x = some g → G x = g) (hd : 35 ≤ d) : ctrOK (PRd C D xs) G rgs (wpM mDf mt d) 243 c_398 := by
  obtain ⟨e, rfl⟩ : ∃ e, d = e + 1 := ⟨d - 1, by omega⟩
  exact ver_ok (PRd_k hU) hG (by omega) rfl (rLLh_ok hU) (lkCL_ok (by
    simp only [List.forall_mem_cons]
    exact ⟨⟨rfl, k_213 hU hG hN (by omega)⟩, ⟨rfl, k_271 hU hG hN (by omega)⟩, ⟨rfl, k_278 hU hG hN (by omega)⟩, ⟨rfl, k_397 hU hG hN (by omega)⟩, fun _ h => absurd h List.not_mem_nil⟩)) (fun _ _ h => by cases h) v_398
theorem k_399 {D d : Nat} (hU : uqG G C) (hG : ∀ k, k < 132 → G k = 300 + k) (hN : ∀ x g, sbN x = some g → G x = g) (hd : 9 ≤ d) : ctrOK (PRd C D xs) G rgs (wpM mDf mt d) 244 c_399 := by
  obtain ⟨e, rfl⟩ : ∃ e, d = e + 1 := ⟨d - 1, by omega⟩
  exact ver_ok (PRd_k hU) hG (by omega) rfl (rLLh_ok hU) (lkCL_ok (by
    simp only [List.forall_mem_cons]
    exact ⟨⟨rfl, k_213 hU hG hN (by omega)⟩, ⟨rfl, k_271 hU hG hN (by omega)⟩, ⟨rfl, k_278 hU hG hN (by omega)⟩, ⟨rfl, k_353 hU hG hN (by omega)⟩, ⟨rfl, k_368 hU hG hN (by omega)⟩, fun _ h => absurd h List.not_mem_nil⟩)) (fun _ _ h => by cases h) v_399
theorem k_400 {D d : Nat} (hU : uqG G C) (hG : ∀ k, k < 132 → G k = 300 + k) (hN : ∀ x g, sbN x = some g → G x = g) (hd : 36 ≤ d) : ctrOK (PRd C D xs) G rgs (wpM mDf mt d) 240 c_400 := by
  obtain ⟨e, rfl⟩ : ∃ e, d = e + 1 := ⟨d - 1, by omega⟩
  exact ver_ok (PRd_k hU) hG (by omega) rfl (rLLh_ok hU) (lkCL_ok (by
    simp only [List.forall_mem_cons]
    exact ⟨⟨rfl, k_213 hU hG hN (by omega)⟩, ⟨rfl, k_271 hU hG hN (by omega)⟩, ⟨rfl, k_344 hU hG hN (by omega)⟩, ⟨rfl, k_350 hU hG hN (by omega)⟩, ⟨rfl, k_351 hU hG hN (by omega)⟩, ⟨rfl, k_353 hU hG hN (by omega)⟩, ⟨rfl, k_371 hU hG hN (by omega)⟩, ⟨rfl, k_396 hU hG hN (by omega)⟩, ⟨rfl, k_398 hU hG hN (by omega)⟩, ⟨rfl, k_399 hU hG hN (by omega)⟩, fun _ h => absurd h List.not_mem_nil⟩)) (fun _ _ h => by cases h) v_400
theorem k_401 {D d : Nat} (hU : uqG G C) (hG : ∀ k, k < 132 → G k = 300 + k) (hN : ∀ x g, sbN x = some g → G x = g) (hd : 37 ≤ d) : ctrOK (PRd C D xs) G rgs (wpM mDf mt d) 239 c_401 := by
  obtain ⟨e, rfl⟩ : ∃ e, d = e + 1 := ⟨d - 1, by omega⟩
  exact ver_ok (PRd_k hU) hG (by omega) rfl (rLLh_ok hU) (lkCL_ok (by
    simp only [List.forall_mem_cons]
    exact ⟨⟨rfl, k_353 hU hG hN (by omega)⟩, ⟨rfl, k_359 hU hG hN (by omega)⟩, ⟨rfl, k_365 hU hG hN (by omega)⟩, ⟨rfl, k_371 hU hG hN (by omega)⟩, ⟨rfl, k_372 hU hG hN (by omega)⟩, ⟨rfl, k_400 hU hG hN (by omega)⟩, fun _ h => absurd h List.not_mem_nil⟩)) (fun _ _ h => by cases h) v_401
theorem k_402 {D d : Nat} (hU : uqG G C) (hG : ∀ k, k < 132 → G k = 300 + k) (hN : ∀ x g, sbN x = some g → G x = g) (hd : 38 ≤ d) : ctrOK (PRd C D xs) G rgs (wpM mDf mt d) 243 c_402 := by
  obtain ⟨e, rfl⟩ : ∃ e, d = e + 1 := ⟨d - 1, by omega⟩
  exact ver_ok (PRd_k hU) hG (by omega) rfl (rLLh_ok hU) (lkCL_ok (by
    simp only [List.forall_mem_cons]
    exact ⟨⟨rfl, k_213 hU hG hN (by omega)⟩, ⟨rfl, k_271 hU hG hN (by omega)⟩, ⟨rfl, k_278 hU hG hN (by omega)⟩, ⟨rfl, k_401 hU hG hN (by omega)⟩, fun _ h => absurd h List.not_mem_nil⟩)) (fun _ _ h => by cases h) v_402
theorem k_403 {D d : Nat} (hU : uqG G C) (hG : ∀ k, k < 132 → G k = 300 + k) (hN : ∀ x g, sbN x = some g → G x = g) (hd : 9 ≤ d) : ctrOK (PRd C D xs) G rgs (wpM mDf mt d) 244 c_403 := by
  obtain ⟨e, rfl⟩ : ∃ e, d = e + 1 := ⟨d - 1, by omega⟩
  exact ver_ok (PRd_k hU) hG (by omega) rfl (rLLh_ok hU) (lkCL_ok (by
    simp only [List.forall_mem_cons]
    exact ⟨⟨rfl, k_213 hU hG hN (by omega)⟩, ⟨rfl, k_271 hU hG hN (by omega)⟩, ⟨rfl, k_278 hU hG hN (by omega)⟩, ⟨rfl, k_353 hU hG hN (by omega)⟩, ⟨rfl, k_368 hU hG hN (by omega)⟩, fun _ h => absurd h List.not_mem_nil⟩)) (fun _ _ h => by cases h) v_403
theorem k_404 {D d : Nat} (hU : uqG G C) (hG : ∀ k, k < 132 → G k = 300 + k) (hN : ∀ x g, sbN x = some g → G x = g) (hd : 39 ≤ d) : ctrOK (PRd C D xs) G rgs (wpM mDf mt d) 240 c_404 := by
  obtain ⟨e, rfl⟩ : ∃ e, d = e + 1 := ⟨d - 1, by omega⟩
  exact ver_ok (PRd_k hU) hG (by omega) rfl (rLLh_ok hU) (lkCL_ok (by
    simp only [List.forall_mem_cons]
    exact ⟨⟨rfl, k_213 hU hG hN (by omega)⟩, ⟨rfl, k_271 hU hG hN (by omega)⟩, ⟨rfl, k_344 hU hG hN (by omega)⟩, ⟨rfl, k_350 hU hG hN (by omega)⟩, ⟨rfl, k_351 hU hG hN (by omega)⟩, ⟨rfl, k_353 hU hG hN (by omega)⟩, ⟨rfl, k_371 hU hG hN (by omega)⟩, ⟨rfl, k_400 hU hG hN (by omega)⟩, ⟨rfl, k_402 hU hG hN (by omega)⟩, ⟨rfl, k_403 hU hG hN (by omega)⟩, fun _ h => absurd h List.not_mem_nil⟩)) (fun _ _ h => by cases h) v_404
theorem k_405 {D d : Nat} (hU : uqG G C) (hG : ∀ k, k < 132 → G k = 300 + k) (hN : ∀ x g, sbN x = some g → G x = g) (hd : 40 ≤ d) : ctrOK (PRd C D xs) G rgs (wpM mDf mt d) 239 c_405 := by
  obtain ⟨e, rfl⟩ : ∃ e, d = e + 1 := ⟨d - 1, by omega⟩
  exact ver_ok (PRd_k hU) hG (by omega) rfl (rLLh_ok hU) (lkCL_ok (by
    simp only [List.forall_mem_cons]
    exact ⟨⟨rfl, k_353 hU hG hN (by omega)⟩, ⟨rfl, k_359 hU hG hN (by omega)⟩, ⟨rfl, k_365 hU hG hN (by omega)⟩, ⟨rfl, k_371 hU hG hN (by omega)⟩, ⟨rfl, k_372 hU hG hN (by omega)⟩, ⟨rfl, k_404 hU hG hN (by omega)⟩, fun _ h => absurd h List.not_mem_nil⟩)) (fun _ _ h => by cases h) v_405
theorem k_406 {D d : Nat} (hU : uqG G C) (hG : ∀ k, k < 132 → G k = 300 + k) (hN : ∀ x g, sbN x = some g → G x = g) (hd : 41 ≤ d) : ctrOK (PRd C D xs) G rgs (wpM mDf mt d) 243 c_406 := by
  obtain ⟨e, rfl⟩ : ∃ e, d = e + 1 := ⟨d - 1, by omega⟩
  exact ver_ok (PRd_k hU) hG (by omega) rfl (rLLh_ok hU) (lkCL_ok (by
    simp only [List.forall_mem_cons]
    exact ⟨⟨rfl, k_213 hU hG hN (by omega)⟩, ⟨rfl, k_271 hU hG hN (by omega)⟩, ⟨rfl, k_278 hU hG hN (by omega)⟩, ⟨rfl, k_405 hU hG hN (by omega)⟩, fun _ h => absurd h List.not_mem_nil⟩)) (fun _ _ h => by cases h) v_406
theorem k_407 {D d : Nat} (hU : uqG G C) (hG : ∀ k, k < 132 → G k = 300 + k) (hN : ∀ x g, sbN x = some g → G x = g) (hd : 9 ≤ d) : ctrOK (PRd C D xs) G rgs (wpM mDf mt d) 244 c_407 := by
  obtain ⟨e, rfl⟩ : ∃ e, d = e + 1 := ⟨d - 1, by omega⟩
  exact ver_ok (PRd_k hU) hG (by omega) rfl (rLLh_ok hU) (lkCL_ok (by
    simp only [List.forall_mem_cons]
    exact ⟨⟨rfl, k_213 hU hG hN (by omega)⟩, ⟨rfl, k_271 hU hG hN (by omega)⟩, ⟨rfl, k_278 hU hG hN (by omega)⟩, ⟨rfl, k_353 hU hG hN (by omega)⟩, ⟨rfl, k_368 hU hG hN (by omega)⟩, fun _ h => absurd h List.not_mem_nil⟩)) (fun _ _ h => by cases h) v_407
theorem k_408 {D d : Nat} (hU : uqG G C) (hG : ∀ k, k < 132 → G k = 300 + k) (hN : ∀ x g, sbN x = some g → G x = g) (hd : 42 ≤ d) : ctrOK (PRd C D xs) G rgs (wpM mDf mt d) 240 c_408 := by
  obtain ⟨e, rfl⟩ : ∃ e, d = e + 1 := ⟨d - 1, by omega⟩
  exact ver_ok (PRd_k hU) hG (by omega) rfl (rLLh_ok hU) (lkCL_ok (by
    simp only [List.forall_mem_cons]
    exact ⟨⟨rfl, k_213 hU hG hN (by omega)⟩, ⟨rfl, k_271 hU hG hN (by omega)⟩, ⟨rfl, k_344 hU hG hN (by omega)⟩, ⟨rfl, k_350 hU hG hN (by omega)⟩, ⟨rfl, k_351 hU hG hN (by omega)⟩, ⟨rfl, k_353 hU hG hN (by omega)⟩, ⟨rfl, k_371 hU hG hN (by omega)⟩, ⟨rfl, k_404 hU hG hN (by omega)⟩, ⟨rfl, k_406 hU hG hN (by omega)⟩, ⟨rfl, k_407 hU hG hN (by omega)⟩, fun _ h => absurd h List.not_mem_nil⟩)) (fun _ _ h => by cases h) v_408
theorem k_409 {D d : Nat} (hU : uqG G C) (hG : ∀ k, k < 132 → G k = 300 + k) (hN : ∀ x g, sbN x = some g → G x = g) (hd : 43 ≤ d) : ctrOK (PRd C D xs) G rgs (wpM mDf mt d) 239 c_409 := by
  obtain ⟨e, rfl⟩ : ∃ e, d = e + 1 := ⟨d - 1, by omega⟩
  exact ver_ok (PRd_k hU) hG (by omega) rfl (rLLh_ok hU) (lkCL_ok (by
    simp only [List.forall_mem_cons]
    exact ⟨⟨rfl, k_353 hU hG hN (by omega)⟩, ⟨rfl, k_359 hU hG hN (by omega)⟩, ⟨rfl, k_365 hU hG hN (by omega)⟩, ⟨rfl, k_371 hU hG hN (by omega)⟩, ⟨rfl, k_372 hU hG hN (by omega)⟩, ⟨rfl, k_408 hU hG hN (by omega)⟩, fun _ h => absurd h List.not_mem_nil⟩)) (fun _ _ h => by cases h) v_409
theorem k_410 {D d : Nat} (hU : uqG G C) (hG : ∀ k, k < 132 → G k = 300 + k) (hN : ∀ x g, sbN x = some g → G x = g) (hd : 44 ≤ d) : ctrOK (PRd C D xs) G rgs (wpM mDf mt d) 238 c_410 := by
  obtain ⟨e, rfl⟩ : ∃ e, d = e + 1 := ⟨d - 1, by omega⟩
  exact ver_ok (PRd_k hU) hG (by omega) rfl (rLLh_ok hU) (lkCL_ok (by
    simp only [List.forall_mem_cons]
    exact ⟨⟨rfl, k_213 hU hG hN (by omega)⟩, ⟨rfl, k_278 hU hG hN (by omega)⟩, ⟨rfl, k_409 hU hG hN (by omega)⟩, fun _ h => absurd h List.not_mem_nil⟩)) (fun _ _ h => by cases h) v_410
theorem k_411 {D d : Nat} (hU : uqG G C) (hG : ∀ k, k < 132 → G k = 300 + k) (hN : ∀ x g, sbN x = some g → G x = g) (hd : 45 ≤ d) : ctrOK (PRd C D xs) G rgs (wpM mDf mt d) 234 c_411 := by
  obtain ⟨e, rfl⟩ : ∃ e, d = e + 1 := ⟨d - 1, by omega⟩
  exact ver_ok (PRd_k hU) hG (by omega) rfl (rLLh_ok hU) (lkCL_ok (by
    simp only [List.forall_mem_cons]
    exact ⟨⟨rfl, k_213 hU hG hN (by omega)⟩, ⟨rfl, k_277 hU hG hN (by omega)⟩, ⟨rfl, k_279 hU hG hN (by omega)⟩, ⟨rfl, k_285 hU hG hN (by omega)⟩, ⟨rfl, k_293 hU hG hN (by omega)⟩, ⟨rfl, k_299 hU hG hN (by omega)⟩, ⟨rfl, k_307 hU hG hN (by omega)⟩, ⟨rfl, k_313 hU hG hN (by omega)⟩, ⟨rfl, k_410 hU hG hN (by omega)⟩, fun _ h => absurd h List.not_mem_nil⟩)) (fun _ _ h => by cases h) v_411
theorem k_412 {D d : Nat} (hU : uqG G C) (hG : ∀ k, k < 132 → G k = 300 + k) (hN : ∀ x g, sbN x = some g → G x = g) (hd : 46 ≤ d) : ctrOK (PRd C D xs) G rgs (wpM mDf mt d) 222 c_412 := by
  obtain ⟨e, rfl⟩ : ∃ e, d = e + 1 := ⟨d - 1, by omega⟩
  exact ver_ok (PRd_k hU) hG (by omega) rfl (rLLh_ok hU) (lkCL_ok (by
    simp only [List.forall_mem_cons]
    exact ⟨⟨rfl, k_204 hU hG hN (by omega)⟩, ⟨rfl, k_213 hU hG hN (by omega)⟩, ⟨rfl, k_270 hU hG hN (by omega)⟩, ⟨rfl, k_271 hU hG hN (by omega)⟩, ⟨rfl, k_411 hU hG hN (by omega)⟩, fun _ h => absurd h List.not_mem_nil⟩)) (fun _ _ h => by cases h) v_412
theorem k_413 {D d : Nat} (hU : uqG G C) (hG : ∀ k, k < 132 → G k = 300 + k) (hN : ∀ x g, sbN x = some g → G x = g) (hd : 47 ≤ d) : ctrOK (PRd C D xs) G rgs (wpM mDf mt d) 219 c_413 := by
  obtain ⟨e, rfl⟩ : ∃ e, d = e + 1 := ⟨d - 1, by omega⟩
  exact ver_ok (PRd_k hU) hG (by omega) rfl (rLLh_ok hU) (lkCL_ok (by
    simp only [List.forall_mem_cons]
    exact ⟨⟨rfl, k_6 hU hG hN (by omega)⟩, ⟨rfl, k_7 hU hG hN (by omega)⟩, ⟨rfl, k_412 hU hG hN (by omega)⟩, fun _ h => absurd h List.not_mem_nil⟩)) (fun _ _ h => by cases h) v_413
theorem k_414 {D d : Nat} (hU : uqG G C) (hG : ∀ k, k < 132 → G k = 300 + k) (hN : ∀ x g, sbN x = some g → G x = g) (hd : 6 ≤ d) : ctrOK (PRd C D xs) G rgs (wpM mDf mt d) 32 c_414 := by
  obtain ⟨e, rfl⟩ : ∃ e, d = e + 1 := ⟨d - 1, by omega⟩
  exact ver_ok (PRd_k hU) hG (by omega) rfl (rLLh_ok hU) (fun _ _ _ h => by cases h) (fun _ _ h => by cases h) v_414
theorem k_415 {D d : Nat} (hU : uqG G C) (hG : ∀ k, k < 132 → G k = 300 + k) (hN : ∀ x g, sbN x = some g → G x = g) (hd : 7 ≤ d) : ctrOK (PRd C D xs) G rgs (wpM mDf mt d) 31 c_415 := by
  obtain ⟨e, rfl⟩ : ∃ e, d = e + 1 := ⟨d - 1, by omega⟩
  exact ver_ok (PRd_k hU) hG (by omega) rfl (rLLh_ok hU) (lkCL_ok (by
    simp only [List.forall_mem_cons]
    exact ⟨⟨rfl, k_414 hU hG hN (by omega)⟩, fun _ h => absurd h List.not_mem_nil⟩)) (fun _ _ h => by cases h) v_415
theorem k_416 {D d : Nat} (hU : uqG G C) (hG : ∀ k, k < 132 → G k = 300 + k) (hN : ∀ x g, sbN x = some g → G x = g) (hd : 7 ≤ d) : ctrOK (PRd C D xs) G rgs (wpM mDf mt d) 219 c_416 := by
  obtain ⟨e, rfl⟩ : ∃ e, d = e + 1 := ⟨d - 1, by omega⟩
  exact ver_ok (PRd_k hU) hG (by omega) rfl (rLLh_ok hU) (lkCL_ok (by
    simp only [List.forall_mem_cons]
    exact ⟨⟨rfl, k_6 hU hG hN (by omega)⟩, ⟨rfl, k_7 hU hG hN (by omega)⟩, fun _ h => absurd h List.not_mem_nil⟩)) (fun _ _ h => by cases h) v_416
theorem k_417 {D d : Nat} (hU : uqG G C) (hG : ∀ k, k < 132 → G k = 300 + k) (hN : ∀ x g, sbN x = some g → G x = g) (hd : 6 ≤ d) : ctrOK (PRd C D xs) G rgs (wpM mDf mt d) 15 c_417 := by
  obtain ⟨e, rfl⟩ : ∃ e, d = e + 1 := ⟨d - 1, by omega⟩
  exact ver_ok (PRd_k hU) hG (by omega) rfl (rLLh_ok hU) (fun _ _ _ h => by cases h) (fun _ _ h => by cases h) v_417
theorem k_418 {D d : Nat} (hU : uqG G C) (hG : ∀ k, k < 132 → G k = 300 + k) (hN : ∀ x g, sbN x = some g → G x = g) (hd : 6 ≤ d) : ctrOK (PRd C D xs) G rgs (wpM mDf mt d) 217 c_418 := by
  obtain ⟨e, rfl⟩ : ∃ e, d = e + 1 := ⟨d - 1, by omega⟩
  exact ver_ok (PRd_k hU) hG (by omega) rfl (rLLh_ok hU) (fun _ _ _ h => by cases h) (fun _ _ h => by cases h) v_418
theorem k_419 {D d : Nat} (hU : uqG G C) (hG : ∀ k, k < 132 → G k = 300 + k) (hN : ∀ x g, sbN x = some g → G x = g) (hd : 6 ≤ d) : ctrOK (PRd C D xs) G rgs (wpM mDf mt d) 16 c_419 := by
  obtain ⟨e, rfl⟩ : ∃ e, d = e + 1 := ⟨d - 1, by omega⟩
  exact ver_ok (PRd_k hU) hG (by omega) rfl (rLLh_ok hU) (fun _ _ _ h => by cases h) (fun _ _ h => by cases h) v_419
end
