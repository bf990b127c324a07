section
variable {G C : Nat → Nat} {xs : Nat → Int32}
theorem k_374 {D d : Nat} (hU : uqG G C) (hG : ∀ k, k < 132 → G k = 300 + k) (hN : ∀ x g, sbN x = some g → G x = g) (hd : 6 ≤ d) : ctrOK (PRd G C D xs) G rgs (wpM mDf mt d) 242 c_374 := by
  obtain ⟨e, rfl⟩ : ∃ e, d = e + 1 := ⟨d - 1, by omega⟩
  exact ver_ok (PRd_k hU) hG (by omega) rfl (rLLh_ok hU) (fun _ _ _ h => by cases h) (fun _ _ h => by cases h) v_374
theorem k_375 {D d : Nat} (hU : uqG G C) (hG : ∀ k, k < 132 → G k = 300 + k) (hN : ∀ x g, sbN x = some g → G x = g) (hd : 9 ≤ d) : ctrOK (PRd G C D xs) G rgs (wpM mDf mt d) 244 c_375 := by
  obtain ⟨e, rfl⟩ : ∃ e, d = e + 1 := ⟨d - 1, by omega⟩
  exact ver_ok (PRd_k hU) hG (by omega) rfl (rLLh_ok hU) (lkCL_ok (by
    simp only [List.forall_mem_cons]
    exact ⟨⟨rfl, k_193 hU hG hN (by omega)⟩, ⟨rfl, k_201 hU hG hN (by omega)⟩, ⟨rfl, k_203 hU hG hN (by omega)⟩, ⟨rfl, k_229 hU hG hN (by omega)⟩, ⟨rfl, k_231 hU hG hN (by omega)⟩, ⟨rfl, k_287 hU hG hN (by omega)⟩, ⟨rfl, k_374 hU hG hN (by omega)⟩, fun _ h => absurd h List.not_mem_nil⟩)) (fun _ _ h => by cases h) v_375
theorem k_377 {D d : Nat} (hU : uqG G C) (hG : ∀ k, k < 132 → G k = 300 + k) (hN : ∀ x g, sbN x = some g → G x = g) (hd : 6 ≤ d) : ctrOK (PRd G C D xs) G rgs (wpM mDf mt d) 42 c_377 := by
  obtain ⟨e, rfl⟩ : ∃ e, d = e + 1 := ⟨d - 1, by omega⟩
  exact ver_ok (PRd_k hU) hG (by omega) rfl (rLLh_ok hU) (fun _ _ _ h => by cases h) (fun _ _ h => by cases h) v_377
theorem k_378 {D d : Nat} (hU : uqG G C) (hG : ∀ k, k < 132 → G k = 300 + k) (hN : ∀ x g, sbN x = some g → G x = g) (hd : 7 ≤ d) : ctrOK (PRd G C D xs) G rgs (wpM mDf mt d) 41 c_378 := by
  obtain ⟨e, rfl⟩ : ∃ e, d = e + 1 := ⟨d - 1, by omega⟩
  exact ver_ok (PRd_k hU) hG (by omega) rfl (rLLh_ok hU) (lkCL_ok (by
    simp only [List.forall_mem_cons]
    exact ⟨⟨rfl, k_377 hU hG hN (by omega)⟩, fun _ h => absurd h List.not_mem_nil⟩)) (fun _ _ h => by cases h) v_378
theorem k_379 {D d : Nat} (hU : uqG G C) (hG : ∀ k, k < 132 → G k = 300 + k) (hN : ∀ x g, sbN x = some g → G x = g) (hd : 6 ≤ d) : ctrOK (PRd G C D xs) G rgs (wpM mDf mt d) 40 c_379 := by
  obtain ⟨e, rfl⟩ : ∃ e, d = e + 1 := ⟨d - 1, by omega⟩
  exact ver_ok (PRd_k hU) hG (by omega) rfl (rLLh_ok hU) (fun _ _ _ h => by cases h) (fun _ _ h => by cases h) v_379
theorem k_380 {D d : Nat} (hU : uqG G C) (hG : ∀ k, k < 132 → G k = 300 + k) (hN : ∀ x g, sbN x = some g → G x = g) (hd : 8 ≤ d) : ctrOK (PRd G C D xs) G rgs (wpM mDf mt d) 51 c_380 := by
  obtain ⟨e, rfl⟩ : ∃ e, d = e + 1 := ⟨d - 1, by omega⟩
  exact ver_ok (PRd_k hU) hG (by omega) rfl (rLLh_ok hU) (lkCL_ok (by
    simp only [List.forall_mem_cons]
    exact ⟨⟨rfl, k_26 hU hG hN (by omega)⟩, fun _ h => absurd h List.not_mem_nil⟩)) (fun _ _ h => by cases h) v_380
theorem k_381 {D d : Nat} (hU : uqG G C) (hG : ∀ k, k < 132 → G k = 300 + k) (hN : ∀ x g, sbN x = some g → G x = g) (hd : 9 ≤ d) : ctrOK (PRd G C D xs) G rgs (wpM mDf mt d) 50 c_381 := by
  obtain ⟨e, rfl⟩ : ∃ e, d = e + 1 := ⟨d - 1, by omega⟩
  exact ver_ok (PRd_k hU) hG (by omega) rfl (rLLh_ok hU) (lkCL_ok (by
    simp only [List.forall_mem_cons]
    exact ⟨⟨rfl, k_379 hU hG hN (by omega)⟩, ⟨rfl, k_380 hU hG hN (by omega)⟩, fun _ h => absurd h List.not_mem_nil⟩)) (fun _ _ h => by cases h) v_381
theorem k_382 {D d : Nat} (hU : uqG G C) (hG : ∀ k, k < 132 → G k = 300 + k) (hN : ∀ x g, sbN x = some g → G x = g) (hd : 10 ≤ d) : ctrOK (PRd G C D xs) G rgs (wpM mDf mt d) 229 c_382 := by
  obtain ⟨e, rfl⟩ : ∃ e, d = e + 1 := ⟨d - 1, by omega⟩
  exact ver_ok (PRd_k hU) hG (by omega) rfl (rLLh_ok hU) (lkCL_ok (by
    simp only [List.forall_mem_cons]
    exact ⟨⟨rfl, k_378 hU hG hN (by omega)⟩, ⟨rfl, k_381 hU hG hN (by omega)⟩, fun _ h => absurd h List.not_mem_nil⟩)) (fun _ _ h => by cases h) v_382
theorem k_383 {D d : Nat} (hU : uqG G C) (hG : ∀ k, k < 132 → G k = 300 + k) (hN : ∀ x g, sbN x = some g → G x = g) (hd : 6 ≤ d) : ctrOK (PRd G C D xs) G rgs (wpM mDf mt d) 42 c_383 := by
  obtain ⟨e, rfl⟩ : ∃ e, d = e + 1 := ⟨d - 1, by omega⟩
  exact ver_ok (PRd_k hU) hG (by omega) rfl (rLLh_ok hU) (fun _ _ _ h => by cases h) (fun _ _ h => by cases h) v_383
theorem k_384 {D d : Nat} (hU : uqG G C) (hG : ∀ k, k < 132 → G k = 300 + k) (hN : ∀ x g, sbN x = some g → G x = g) (hd : 7 ≤ d) : ctrOK (PRd G C D xs) G rgs (wpM mDf mt d) 41 c_384 := by
  obtain ⟨e, rfl⟩ : ∃ e, d = e + 1 := ⟨d - 1, by omega⟩
  exact ver_ok (PRd_k hU) hG (by omega) rfl (rLLh_ok hU) (lkCL_ok (by
    simp only [List.forall_mem_cons]
    exact ⟨⟨rfl, k_383 hU hG hN (by omega)⟩, fun _ h => absurd h List.not_mem_nil⟩)) (fun _ _ h => by cases h) v_384
theorem k_385 {D d : Nat} (hU : uqG G C) (hG : ∀ k, k < 132 → G k = 300 + k) (hN : ∀ x g, sbN x = some g → G x = g) (hd : 6 ≤ d) : ctrOK (PRd G C D xs) G rgs (wpM mDf mt d) 40 c_385 := by
  obtain ⟨e, rfl⟩ : ∃ e, d = e + 1 := ⟨d - 1, by omega⟩
  exact ver_ok (PRd_k hU) hG (by omega) rfl (rLLh_ok hU) (fun _ _ _ h => by cases h) (fun _ _ h => by cases h) v_385
theorem k_386 {D d : Nat} (hU : uqG G C) (hG : ∀ k, k < 132 → G k = 300 + k) (hN : ∀ x g, sbN x = some g → G x = g) (hd : 8 ≤ d) : ctrOK (PRd G C D xs) G rgs (wpM mDf mt d) 51 c_386 := by
  obtain ⟨e, rfl⟩ : ∃ e, d = e + 1 := ⟨d - 1, by omega⟩
  exact ver_ok (PRd_k hU) hG (by omega) rfl (rLLh_ok hU) (lkCL_ok (by
    simp only [List.forall_mem_cons]
    exact ⟨⟨rfl, k_26 hU hG hN (by omega)⟩, fun _ h => absurd h List.not_mem_nil⟩)) (fun _ _ h => by cases h) v_386
theorem k_387 {D d : Nat} (hU : uqG G C) (hG : ∀ k, k < 132 → G k = 300 + k) (hN : ∀ x g, sbN x = some g → G x = g) (hd : 9 ≤ d) : ctrOK (PRd G C D xs) G rgs (wpM mDf mt d) 50 c_387 := by
  obtain ⟨e, rfl⟩ : ∃ e, d = e + 1 := ⟨d - 1, by omega⟩
  exact ver_ok (PRd_k hU) hG (by omega) rfl (rLLh_ok hU) (lkCL_ok (by
    simp only [List.forall_mem_cons]
    exact ⟨⟨rfl, k_385 hU hG hN (by omega)⟩, ⟨rfl, k_386 hU hG hN (by omega)⟩, fun _ h => absurd h List.not_mem_nil⟩)) (fun _ _ h => by cases h) v_387
theorem k_388 {D d : Nat} (hU : uqG G C) (hG : ∀ k, k < 132 → G k = 300 + k) (hN : ∀ x g, sbN x = some g → G x = g) (hd : 10 ≤ d) : ctrOK (PRd G C D xs) G rgs (wpM mDf mt d) 229 c_388 := by
  obtain ⟨e, rfl⟩ : ∃ e, d = e + 1 := ⟨d - 1, by omega⟩
  exact ver_ok (PRd_k hU) hG (by omega) rfl (rLLh_ok hU) (lkCL_ok (by
    simp only [List.forall_mem_cons]
    exact ⟨⟨rfl, k_384 hU hG hN (by omega)⟩, ⟨rfl, k_387 hU hG hN (by omega)⟩, fun _ h => absurd h List.not_mem_nil⟩)) (fun _ _ h => by cases h) v_388
theorem k_389 {D d : Nat} (hU : uqG G C) (hG : ∀ k, k < 132 → G k = 300 + k) (hN : ∀ x g, sbN x = some g → G x = g) (hd : 6 ≤ d) : ctrOK (PRd G C D xs) G rgs (wpM mDf mt d) 229 c_389 := by
  obtain ⟨e, rfl⟩ : ∃ e, d = e + 1 := ⟨d - 1, by omega⟩
  exact ver_ok (PRd_k hU) hG (by omega) rfl (rLLh_ok hU) (fun _ _ _ h => by cases h) (fun _ _ h => by cases h) v_389
theorem k_390 {D d : Nat} (hU : uqG G C) (hG : ∀ k, k < 132 → G k = 300 + k) (hN : ∀ x g, sbN x = some g → G x = g) (hd : 6 ≤ d) : ctrOK (PRd G C D xs) G rgs (wpM mDf mt d) 229 c_390 := by
  obtain ⟨e, rfl⟩ : ∃ e, d = e + 1 := ⟨d - 1, by omega⟩
  exact ver_ok (PRd_k hU) hG (by omega) rfl (rLLh_ok hU) (fun _ _ _ h => by cases h) (fun _ _ h => by cases h) v_390
theorem k_391 {D d : Nat} (hU : uqG G C) (hG : ∀ k, k < 132 → G k = 300 + k) (hN : ∀ x g, sbN x = some g → G x = g) (hd : 6 ≤ d) : ctrOK (PRd G C D xs) G rgs (wpM mDf mt d) 242 c_391 := by
  obtain ⟨e, rfl⟩ : ∃ e, d = e + 1 := ⟨d - 1, by omega⟩
  exact ver_ok (PRd_k hU) hG (by omega) rfl (rLLh_ok hU) (fun _ _ _ h => by cases h) (fun _ _ h => by cases h) v_391
theorem k_393 {D d : Nat} (hU : uqG G C) (hG : ∀ k, k < 132 → G k = 300 + k) (hN : ∀ x g, sbN x = some g → G x = g) (hd : 6 ≤ d) : ctrOK (PRd G C D xs) G rgs (wpM mDf mt d) 229 c_393 := by
  obtain ⟨e, rfl⟩ : ∃ e, d = e + 1 := ⟨d - 1, by omega⟩
  exact ver_ok (PRd_k hU) hG (by omega) rfl (rLLh_ok hU) (fun _ _ _ h => by cases h) (fun _ _ h => by cases h) v_393
theorem k_394 {D d : Nat} (hU : uqG G C) (hG : ∀ k, k < 132 → G k = 300 + k) (hN : ∀ x g, sbN x = some g → G x = g) (hd : 6 ≤ d) : ctrOK (PRd G C D xs) G rgs (wpM mDf mt d) 229 c_394 := by
  obtain ⟨e, rfl⟩ : ∃ e, d = e + 1 := ⟨d - 1, by omega⟩
  exact ver_ok (PRd_k hU) hG (by omega) rfl (rLLh_ok hU) (fun _ _ _ h => by cases h) (fun _ _ h => by cases h) v_394
theorem k_395 {D d : Nat} (hU : uqG G C) (hG : ∀ k, k < 132 → G k = 300 + k) (hN : ∀ x g, sbN x = some g → G x = g) (hd : 6 ≤ d) : ctrOK (PRd G C D xs) G rgs (wpM mDf mt d) 229 c_395 := by
  obtain ⟨e, rfl⟩ : ∃ e, d = e + 1 := ⟨d - 1, by omega⟩
  exact ver_ok (PRd_k hU) hG (by omega) rfl (rLLh_ok hU) (fun _ _ _ h => by cases h) (fun _ _ h => by cases h) v_395
theorem k_396 {D d : Nat} (hU : uqG G C) (hG : ∀ k, k < 132 → G k = 300 + k) (hN : ∀ x g, sbN x = some g → G x = g) (hd : 6 ≤ d) : ctrOK (PRd G C D xs) G rgs (wpM mDf mt d) 229 c_396 := by
  obtain ⟨e, rfl⟩ : ∃ e, d = e + 1 := ⟨d - 1, by omega⟩
  exact ver_ok (PRd_k hU) hG (by omega) rfl (rLLh_ok hU) (fun _ _ _ h => by cases h) (fun _ _ h => by cases h) v_396
theorem k_397 {D d : Nat} (hU : uqG G C) (hG : ∀ k, k < 132 → G k = 300 + k) (hN : ∀ x g, sbN x = some g → G x = g) (hd : 6 ≤ d) : ctrOK (PRd G C D xs) G rgs (wpM mDf mt d) 229 c_397 := by
  obtain ⟨e, rfl⟩ : ∃ e, d = e + 1 := ⟨d - 1, by omega⟩
  exact ver_ok (PRd_k hU) hG (by omega) rfl (rLLh_ok hU) (fun _ _ _ h => by cases h) (fun _ _ h => by cases h) v_397
theorem k_398 {D d : Nat} (hU : uqG G C) (hG : ∀ k, k < 132 → G k = 300 + k) (hN : ∀ x g, sbN x = some g → G x = g) (hd : 7 ≤ d) : ctrOK (PRd G C D xs) G rgs (wpM mDf mt d) 241 c_398 := by
  obtain ⟨e, rfl⟩ : ∃ e, d = e + 1 := ⟨d - 1, by omega⟩
  exact ver_ok (PRd_k hU) hG (by omega) rfl (rLLh_ok hU) (lkCL_ok (by
    simp only [List.forall_mem_cons]
    exact ⟨⟨rfl, k_393 hU hG hN (by omega)⟩, ⟨rfl, k_394 hU hG hN (by omega)⟩, ⟨rfl, k_395 hU hG hN (by omega)⟩, ⟨rfl, k_396 hU hG hN (by omega)⟩, ⟨rfl, k_397 hU hG hN (by omega)⟩, fun _ h => absurd h List.not_mem_nil⟩)) (fun _ _ h => by cases h) v_398
theorem k_399 {D d : Nat} (hU : uqG G C) (hG : ∀ k, k < 132 → G k = 300 + k) (hN : ∀ x g, sbN x = some g → G x = g) (hd : 6 ≤ d) : ctrOK (PRd G C D xs) G rgs (wpM mDf mt d) 229 c_399 := by
  obtain ⟨e, rfl⟩ : ∃ e, d = e + 1 := ⟨d - 1, by omega⟩
  exact ver_ok (PRd_k hU) hG (by omega) rfl (rLLh_ok hU) (fun _ _ _ h => by cases h) (fun _ _ h => by cases h) v_399
theorem k_400 {D d : Nat} (hU : uqG G C) (hG : ∀ k, k < 132 → G k = 300 + k) (hN : ∀ x g, sbN x = some g → G x = g) (hd : 6 ≤ d) : ctrOK (PRd G C D xs) G rgs (wpM mDf mt d) 233 c_400 := by
  obtain ⟨e, rfl⟩ : ∃ e, d = e + 1 := ⟨d - 1, by omega⟩
  exact ver_ok (PRd_k hU) hG (by omega) rfl (rLLh_ok hU) (fun _ _ _ h => by cases h) (fun _ _ h => by cases h) v_400
theorem k_409 {D d : Nat} (hU : uqG G C) (hG : ∀ k, k < 132 → G k = 300 + k) (hN : ∀ x g, sbN x = some g → G x = g) (hd : 6 ≤ d) : ctrOK (PRd G C D xs) G rgs (wpM mDf mt d) 220 c_409 := by
  obtain ⟨e, rfl⟩ : ∃ e, d = e + 1 := ⟨d - 1, by omega⟩
  exact ver_ok (PRd_k hU) hG (by omega) rfl (rLLh_ok hU) (fun _ _ _ h => by cases h) (fun _ _ h => by cases h) v_409
theorem k_436 {D d : Nat} (hU : uqG G C) (hG : ∀ k, k < 132 → G k = 300 + k) (hN : ∀ x g, sbN x = some g → G x = g) (hd : 6 ≤ d) : ctrOK (PRd G C D xs) G rgs (wpM mDf mt d) 32 c_436 := by
  obtain ⟨e, rfl⟩ : ∃ e, d = e + 1 := ⟨d - 1, by omega⟩
  exact ver_ok (PRd_k hU) hG (by omega) rfl (rLLh_ok hU) (fun _ _ _ h => by cases h) (fun _ _ h => by cases h) v_436
theorem k_437 {D d : Nat} (hU : uqG G C) (hG : ∀ k, k < 132 → G k = 300 + k) (hN : ∀ x g, sbN x = some g → G x = g) (hd : 7 ≤ d) : ctrOK (PRd G C D xs) G rgs (wpM mDf mt d) 31 c_437 := by
  obtain ⟨e, rfl⟩ : ∃ e, d = e + 1 := ⟨d - 1, by omega⟩
  exact ver_ok (PRd_k hU) hG (by omega) rfl (rLLh_ok hU) (lkCL_ok (by
    simp only [List.forall_mem_cons]
    exact ⟨⟨rfl, k_436 hU hG hN (by omega)⟩, fun _ h => absurd h List.not_mem_nil⟩)) (fun _ _ h => by cases h) v_437
theorem k_438 {D d : Nat} (hU : uqG G C) (hG : ∀ k, k < 132 → G k = 300 + k) (hN : ∀ x g, sbN x = some g → G x = g) (hd : 7 ≤ d) : ctrOK (PRd G C D xs) G rgs (wpM mDf mt d) 219 c_438 := by
  obtain ⟨e, rfl⟩ : ∃ e, d = e + 1 := ⟨d - 1, by omega⟩
  exact ver_ok (PRd_k hU) hG (by omega) rfl (rLLh_ok hU) (lkCL_ok (by
    simp only [List.forall_mem_cons]
    exact ⟨⟨rfl, k_6 hU hG hN (by omega)⟩, ⟨rfl, k_7 hU hG hN (by omega)⟩, fun _ h => absurd h List.not_mem_nil⟩)) (fun _ _ h => by cases h) v_438
theorem hand_439 {D d : Nat} (h : ∀ D', D' + 1 = D → ctrOK (PRd G C D' xs) G rgs (wpM mDf mt d) 65 c_441) : ctrOK (PRd G C D xs) G rgs (wpM mDf mt d) 65 c_439 := hand_g (a := [(155, (0, [(4, 1), (5, 2048)]), (0, [(7, 1)])), (156, (0, [(4, 1), (6, 2048)]), (0, [(5, 1)])), (157, (0, [(4, 1), (5, 2048)]), (0, [(8, 1)])), (168, (0, []), (0, [(13, 1)])), (167, (0, [(1, 2)]), (0, [(14, 1)])), (340, (0, [(1, 268435456), (4, 1), (5, 2048), (13, 4398046511104), (14, 4294967296)]), (0, [(15, 1)]))]) (b := []) (X := (11, [(1, -1)])) (Y := (0, [])) (c := c_441) (c' := c_439) rfl rfl rfl (by decide) (by decide) (by decide) (fun ρ hF => by
  have q : (0 : Int) ≤ (10 + (-1 * ρ 1 + 0)) := hF _ (List.mem_of_getElem? (i := 1) rfl)
  show (0 : Int) ≤ (11 + (-1 * ρ 1 + 0))
  omega) h
theorem hand_440 {D d : Nat} (h : ∀ D', D' + 1 = D → ctrOK (PRd G C D' xs) G rgs (wpM mDf mt d) 64 c_442) : ctrOK (PRd G C D xs) G rgs (wpM mDf mt d) 64 c_440 := hand_g (a := [(155, (0, [(4, 1), (5, 2048)]), (0, [(7, 1)])), (156, (0, [(4, 1), (6, 2048)]), (0, [(5, 1)])), (157, (0, [(4, 1), (5, 2048)]), (0, [(8, 1)])), (168, (0, []), (0, [(13, 1)])), (167, (1, [(1, 2)]), (0, [(14, 1)])), (340, (0, [(1, 268435456), (4, 1), (5, 2048), (13, 4398046511104), (14, 4294967296)]), (0, [(15, 1)]))]) (b := []) (X := (11, [(1, -1)])) (Y := (0, [])) (c := c_442) (c' := c_440) rfl rfl rfl (by decide) (by decide) (by decide) (fun ρ hF => by
  have q : (0 : Int) ≤ (10 + (-1 * ρ 1 + 0)) := hF _ (List.mem_of_getElem? (i := 1) rfl)
  show (0 : Int) ≤ (11 + (-1 * ρ 1 + 0))
  omega) h
theorem Parser_st {D : Nat} (hU : uqG G C) (hG : ∀ k, k < 132 → G k = 300 + k) (hN : ∀ x g, sbN x = some g → G x = g) (hh439 : ∀ e, 11 + 2 * D ≤ e → ctrOK (PRd G C D xs) G rgs (wpM mDf mt e) 65 c_439) (hh440 : ∀ e, 11 + 2 * D ≤ e → ctrOK (PRd G C D xs) G rgs (wpM mDf mt e) 64 c_440) : (∀ d, 12 + 2 * D ≤ d → ctrOK (PRd G C D xs) G rgs (wpM mDf mt d) 65 c_441) ∧ (∀ d, 13 + 2 * D ≤ d → ctrOK (PRd G C D xs) G rgs (wpM mDf mt d) 64 c_442) := by
  have m441 : ∀ d, 12 + 2 * D ≤ d → ctrOK (PRd G C D xs) G rgs (wpM mDf mt d) 65 c_441 := fun d hd => by
    obtain ⟨e, rfl⟩ : ∃ e, d = e + 1 := ⟨d - 1, by omega⟩
    exact ver_ok (PRd_k hU) hG (by omega) rfl (rLLh_ok hU) (lkCL_ok (by
      simp only [List.forall_mem_cons]
      exact ⟨⟨rfl, k_19 hU hG hN (by omega)⟩, ⟨rfl, k_30 hU hG hN (by omega)⟩, ⟨rfl, k_32 hU hG hN (by omega)⟩, ⟨rfl, k_77 hU hG hN (by omega)⟩, ⟨rfl, k_125 hU hG hN (by omega)⟩, ⟨rfl, k_156 hU hG hN (by omega)⟩, ⟨rfl, k_159 hU hG hN (by omega)⟩, ⟨rfl, k_160 hU hG hN (by omega)⟩, ⟨rfl, k_161 hU hG hN (by omega)⟩, ⟨rfl, hh439 _ (by omega)⟩, ⟨rfl, hh440 _ (by omega)⟩, fun _ h => absurd h List.not_mem_nil⟩)) (fun _ _ h => by cases h) v_441
  have m442 : ∀ d, 13 + 2 * D ≤ d → ctrOK (PRd G C D xs) G rgs (wpM mDf mt d) 64 c_442 := fun d hd => by
    obtain ⟨e, rfl⟩ : ∃ e, d = e + 1 := ⟨d - 1, by omega⟩
    exact ver_ok (PRd_k hU) hG (by omega) rfl (rLLh_ok hU) (lkCL_ok (by
      simp only [List.forall_mem_cons]
      exact ⟨⟨rfl, k_19 hU hG hN (by omega)⟩, ⟨rfl, k_160 hU hG hN (by omega)⟩, ⟨rfl, k_168 hU hG hN (by omega)⟩, ⟨rfl, k_174 hU hG hN (by omega)⟩, ⟨rfl, m441 _ (by omega)⟩, fun _ h => absurd h List.not_mem_nil⟩)) (fun _ _ h => by cases h) v_442
  exact ⟨m441, m442⟩
theorem Parser_all (hU : uqG G C) (hG : ∀ k, k < 132 → G k = 300 + k) (hN : ∀ x g, sbN x = some g → G x = g) : ∀ D : Nat, (∀ d, 12 + 2 * D ≤ d → ctrOK (PRd G C D xs) G rgs (wpM mDf mt d) 65 c_441) ∧ (∀ d, 13 + 2 * D ≤ d → ctrOK (PRd G C D xs) G rgs (wpM mDf mt d) 64 c_442)
  | 0 => Parser_st hU hG hN (fun e _ => hand_439 (fun D' h => absurd h (by omega))) (fun e _ => hand_440 (fun D' h => absurd h (by omega)))
  | D + 1 => Parser_st hU hG hN (fun e he => hand_439 (fun D' h => by
    have hD : D' = D := by omega
    rw [hD]
    exact (Parser_all hU hG hN D).1 e (by omega))) (fun e he => hand_440 (fun D' h => by
    have hD : D' = D := by omega
    rw [hD]
    exact (Parser_all hU hG hN D).2 e (by omega)))
theorem k_442 {D d : Nat} (hU : uqG G C) (hG : ∀ k, k < 132 → G k = 300 + k) (hN : ∀ x g, sbN x = some g → G x = g) (hd : 35 ≤ d) : ctrOK (PRd G C D xs) G rgs (wpM mDf mt d) 64 c_442 := base_up (E := 11) (a := [(155, (0, [(4, 1), (5, 2048)]), (0, [(7, 1)])), (156, (0, [(4, 1), (6, 2048)]), (0, [(5, 1)])), (157, (0, [(4, 1), (5, 2048)]), (0, [(8, 1)])), (168, (0, []), (0, [(13, 1)])), (167, (1, [(1, 2)]), (0, [(14, 1)])), (340, (0, [(1, 268435456), (4, 1), (5, 2048), (13, 4398046511104), (14, 4294967296)]), (0, [(15, 1)]))]) (b := []) (X := (11, [(1, -1)])) (Y := (0, [])) rfl (by decide) (by decide) (by decide) (fun ρ hF => by
  have q : (0 : Int) ≤ (0 + (1 * ρ 1 + 0)) := hF _ (List.mem_of_getElem? (i := 0) rfl)
  show (11 + (-1 * ρ 1 + 0)) ≤ ((11 : Nat) : Int)
  omega) ((Parser_all hU hG hN 11).2 d (by omega))
theorem k_443 {D d : Nat} (hU : uqG G C) (hG : ∀ k, k < 132 → G k = 300 + k) (hN : ∀ x g, sbN x = some g → G x = g) (hD : 700 ≤ D) (hd : 36 ≤ d) : ctrOK (PRd G C D xs) G rgs (wpM mDf mt d) 63 c_443 := by
  obtain ⟨e, rfl⟩ : ∃ e, d = e + 1 := ⟨d - 1, by omega⟩
  exact ver_ok (PRd_k hU) hG (by omega) rfl (rLL_ok hU hD) (lkCL_ok (by
    simp only [List.forall_mem_cons]
    exact ⟨⟨rfl, k_19 hU hG hN (by omega)⟩, ⟨rfl, k_30 hU hG hN (by omega)⟩, ⟨rfl, k_176 hU hG hN (by omega)⟩, ⟨rfl, k_442 hU hG hN (by omega)⟩, fun _ h => absurd h List.not_mem_nil⟩)) (fun _ _ h => by cases h) v_443
theorem k_444 {D d : Nat} (hU : uqG G C) (hG : ∀ k, k < 132 → G k = 300 + k) (hN : ∀ x g, sbN x = some g → G x = g) (hD : 700 ≤ D) (hd : 37 ≤ d) : ctrOK (PRd G C D xs) G rgs (wpM mDf mt d) 33 c_444 := by
  obtain ⟨e, rfl⟩ : ∃ e, d = e + 1 := ⟨d - 1, by omega⟩
  exact ver_ok (PRd_k hU) hG (by omega) rfl (rLLh_ok hU) (lkCL_ok (by
    simp only [List.forall_mem_cons]
    exact ⟨⟨rfl, k_19 hU hG hN (by omega)⟩, ⟨rfl, k_20 hU hG hN (by omega)⟩, ⟨rfl, k_30 hU hG hN (by omega)⟩, ⟨rfl, k_76 hU hG hN (by omega)⟩, ⟨rfl, k_77 hU hG hN (by omega)⟩, ⟨rfl, k_83 hU hG hN (by omega)⟩, ⟨rfl, k_84 hU hG hN (by omega)⟩, ⟨rfl, k_90 hU hG hN (by omega)⟩, ⟨rfl, k_99 hU hG hN (by omega)⟩, ⟨rfl, k_105 hU hG hN (by omega)⟩, ⟨rfl, k_113 hU hG hN (by omega)⟩, ⟨rfl, k_119 hU hG hN (by omega)⟩, ⟨rfl, k_443 hU hG hN hD (by omega)⟩, fun _ h => absurd h List.not_mem_nil⟩)) (fun _ _ h => by cases h) v_444
theorem k_445 {D d : Nat} (hU : uqG G C) (hG : ∀ k, k < 132 → G k = 300 + k) (hN : ∀ x g, sbN x = some g → G x = g) (hD : 700 ≤ D) (hd : 38 ≤ d) : ctrOK (PRd G C D xs) G rgs (wpM mDf mt d) 32 c_445 := by
  obtain ⟨e, rfl⟩ : ∃ e, d = e + 1 := ⟨d - 1, by omega⟩
  exact ver_ok (PRd_k hU) hG (by omega) rfl (rLLh_ok hU) (lkCL_ok (by
    simp only [List.forall_mem_cons]
    exact ⟨⟨rfl, k_181 hU hG hN (by omega)⟩, ⟨rfl, k_184 hU hG hN (by omega)⟩, ⟨rfl, k_444 hU hG hN hD (by omega)⟩, fun _ h => absurd h List.not_mem_nil⟩)) (fun _ _ h => by cases h) v_445
theorem k_446 {D d : Nat} (hU : uqG G C) (hG : ∀ k, k < 132 → G k = 300 + k) (hN : ∀ x g, sbN x = some g → G x = g) (hD : 700 ≤ D) (hd : 39 ≤ d) : ctrOK (PRd G C D xs) G rgs (wpM mDf mt d) 31 c_446 := by
  obtain ⟨e, rfl⟩ : ∃ e, d = e + 1 := ⟨d - 1, by omega⟩
  exact ver_ok (PRd_k hU) hG (by omega) rfl (rLLh_ok hU) (lkCL_ok (by
    simp only [List.forall_mem_cons]
    exact ⟨⟨rfl, k_445 hU hG hN hD (by omega)⟩, fun _ h => absurd h List.not_mem_nil⟩)) (fun _ _ h => by cases h) v_446
theorem hand_447 {D d : Nat} (h : ∀ D', D' + 1 = D → ctrOK (PRd G C D' xs) G rgs (wpM mDf mt d) 240 c_450) : ctrOK (PRd G C D xs) G rgs (wpM mDf mt d) 240 c_447 := hand_g (a := [(180, (0, [(2, 1), (3, 2048)]), (0, [(4, 1)])), (156, (0, [(1, 2048), (2, 1)]), (0, [(3, 1)])), (157, (0, [(2, 1), (3, 2048)]), (0, [(5, 1)])), (181, (0, [(2, 1), (3, 2048)]), (0, [(5, 1)])), (170, (0, [(2, 1)]), (0, [])), (168, (0, []), (0, [(11, 1)])), (167, (0, [(10, 2)]), (0, [(12, 1)])), (340, (0, [(2, 1), (3, 2048), (10, 268435456), (11, 4398046511104), (12, 4294967296)]), (0, [(13, 1)]))]) (b := [(65, (0, [(9, 700)]), (0, [])), (60, (700, [(8, 1), (9, -700)]), (0, [(14, 1)]))]) (X := (11, [(10, -1)])) (Y := (0, [])) (c := c_450) (c' := c_447) rfl rfl rfl (by decide) (by decide) (by decide) (fun ρ hF => by
  have q : (0 : Int) ≤ (10 + (-1 * ρ 10 + 0)) := hF _ (List.mem_of_getElem? (i := 19) rfl)
  show (0 : Int) ≤ (11 + (-1 * ρ 10 + 0))
  omega) h
theorem hand_448 {D d : Nat} (h : ∀ D', D' + 1 = D → ctrOK (PRd G C D' xs) G rgs (wpM mDf mt d) 239 c_451) : ctrOK (PRd G C D xs) G rgs (wpM mDf mt d) 239 c_448 := hand_g (a := [(180, (0, [(2, 1), (3, 2048)]), (0, [(4, 1)])), (156, (0, [(1, 2048), (2, 1)]), (0, [(3, 1)])), (157, (0, [(2, 1), (3, 2048)]), (0, [(5, 1)])), (181, (0, [(2, 1), (3, 2048)]), (0, [(5, 1)])), (170, (0, [(2, 1)]), (0, [])), (168, (0, []), (0, [(11, 1)])), (167, (1, [(10, 2)]), (0, [(12, 1)])), (340, (0, [(2, 1), (3, 2048), (10, 268435456), (11, 4398046511104), (12, 4294967296)]), (0, [(13, 1)]))]) (b := [(65, (0, [(9, 700)]), (0, [])), (60, (700, [(8, 1), (9, -700)]), (0, [(14, 1)]))]) (X := (11, [(10, -1)])) (Y := (0, [])) (c := c_451) (c' := c_448) rfl rfl rfl (by decide) (by decide) (by decide) (fun ρ hF => by
  have q : (0 : Int) ≤ (10 + (-1 * ρ 10 + 0)) := hF _ (List.mem_of_getElem? (i := 19) rfl)
  show (0 : Int) ≤ (11 + (-1 * ρ 10 + 0))
  omega) h
theorem VendingRoutesModel_st {D : Nat} (hU : uqG G C) (hG : ∀ k, k < 132 → G k = 300 + k) (hN : ∀ x g, sbN x = some g → G x = g) (hh447 : ∀ e, 11 + 3 * D ≤ e → ctrOK (PRd G C D xs) G rgs (wpM mDf mt e) 240 c_447) (hh448 : ∀ e, 11 + 3 * D ≤ e → ctrOK (PRd G C D xs) G rgs (wpM mDf mt e) 239 c_448) : (∀ d, 12 + 3 * D ≤ d → ctrOK (PRd G C D xs) G rgs (wpM mDf mt d) 243 c_449) ∧ (∀ d, 13 + 3 * D ≤ d → ctrOK (PRd G C D xs) G rgs (wpM mDf mt d) 240 c_450) ∧ (∀ d, 14 + 3 * D ≤ d → ctrOK (PRd G C D xs) G rgs (wpM mDf mt d) 239 c_451) := by
  have m449 : ∀ d, 12 + 3 * D ≤ d → ctrOK (PRd G C D xs) G rgs (wpM mDf mt d) 243 c_449 := fun d hd => by
    obtain ⟨e, rfl⟩ : ∃ e, d = e + 1 := ⟨d - 1, by omega⟩
    exact ver_ok (PRd_k hU) hG (by omega) rfl (rLLh_ok hU) (lkCL_ok (by
      simp only [List.forall_mem_cons]
      exact ⟨⟨rfl, k_193 hU hG hN (by omega)⟩, ⟨rfl, k_201 hU hG hN (by omega)⟩, ⟨rfl, k_206 hU hG hN (by omega)⟩, ⟨rfl, k_229 hU hG hN (by omega)⟩, ⟨rfl, k_287 hU hG hN (by omega)⟩, ⟨rfl, k_400 hU hG hN (by omega)⟩, ⟨rfl, hh448 _ (by omega)⟩, fun _ h => absurd h List.not_mem_nil⟩)) (fun _ _ h => by cases h) v_449
  have m450 : ∀ d, 13 + 3 * D ≤ d → ctrOK (PRd G C D xs) G rgs (wpM mDf mt d) 240 c_450 := fun d hd => by
    obtain ⟨e, rfl⟩ : ∃ e, d = e + 1 := ⟨d - 1, by omega⟩
    exact ver_ok (PRd_k hU) hG (by omega) rfl (rLLh_ok hU) (lkCL_ok (by
      simp only [List.forall_mem_cons]
      exact ⟨⟨rfl, k_201 hU hG hN (by omega)⟩, ⟨rfl, k_206 hU hG hN (by omega)⟩, ⟨rfl, k_287 hU hG hN (by omega)⟩, ⟨rfl, k_363 hU hG hN (by omega)⟩, ⟨rfl, k_369 hU hG hN (by omega)⟩, ⟨rfl, k_370 hU hG hN (by omega)⟩, ⟨rfl, k_374 hU hG hN (by omega)⟩, ⟨rfl, k_375 hU hG hN (by omega)⟩, ⟨rfl, k_391 hU hG hN (by omega)⟩, ⟨rfl, hh447 _ (by omega)⟩, ⟨rfl, m449 _ (by omega)⟩, fun _ h => absurd h List.not_mem_nil⟩)) (fun _ _ h => by cases h) v_450
  have m451 : ∀ d, 14 + 3 * D ≤ d → ctrOK (PRd G C D xs) G rgs (wpM mDf mt d) 239 c_451 := fun d hd => by
    obtain ⟨e, rfl⟩ : ∃ e, d = e + 1 := ⟨d - 1, by omega⟩
    exact ver_ok (PRd_k hU) hG (by omega) rfl (rLLh_ok hU) (lkCL_ok (by
      simp only [List.forall_mem_cons]
      exact ⟨⟨rfl, k_193 hU hG hN (by omega)⟩, ⟨rfl, k_374 hU hG hN (by omega)⟩, ⟨rfl, k_382 hU hG hN (by omega)⟩, ⟨rfl, k_388 hU hG hN (by omega)⟩, ⟨rfl, k_389 hU hG hN (by omega)⟩, ⟨rfl, k_390 hU hG hN (by omega)⟩, ⟨rfl, k_391 hU hG hN (by omega)⟩, ⟨rfl, m450 _ (by omega)⟩, fun _ h => absurd h List.not_mem_nil⟩)) (fun _ _ h => by cases h) v_451
  exact ⟨m449, m450, m451⟩
theorem VendingRoutesModel_all (hU : uqG G C) (hG : ∀ k, k < 132 → G k = 300 + k) (hN : ∀ x g, sbN x = some g → G x = g) : ∀ D : Nat, (∀ d, 12 + 3 * D ≤ d → ctrOK (PRd G C D xs) G rgs (wpM mDf mt d) 243 c_449) ∧ (∀ d, 13 + 3 * D ≤ d → ctrOK (PRd G C D xs) G rgs (wpM mDf mt d) 240 c_450) ∧ (∀ d, 14 + 3 * D ≤ d → ctrOK (PRd G C D xs) G rgs (wpM mDf mt d) 239 c_451)
  | 0 => VendingRoutesModel_st hU hG hN (fun e _ => hand_447 (fun D' h => absurd h (by omega))) (fun e _ => hand_448 (fun D' h => absurd h (by omega)))
  | D + 1 => VendingRoutesModel_st hU hG hN (fun e he => hand_447 (fun D' h => by
    have hD : D' = D := by omega
    rw [hD]
    exact (VendingRoutesModel_all hU hG hN D).2.1 e (by omega))) (fun e he => hand_448 (fun D' h => by
    have hD : D' = D := by omega
    rw [hD]
    exact (VendingRoutesModel_all hU hG hN D).2.2 e (by omega)))
theorem k_451 {D d : Nat} (hU : uqG G C) (hG : ∀ k, k < 132 → G k = 300 + k) (hN : ∀ x g, sbN x = some g → G x = g) (hd : 47 ≤ d) : ctrOK (PRd G C D xs) G rgs (wpM mDf mt d) 239 c_451 := base_up (E := 11) (a := [(180, (0, [(2, 1), (3, 2048)]), (0, [(4, 1)])), (156, (0, [(1, 2048), (2, 1)]), (0, [(3, 1)])), (157, (0, [(2, 1), (3, 2048)]), (0, [(5, 1)])), (181, (0, [(2, 1), (3, 2048)]), (0, [(5, 1)])), (170, (0, [(2, 1)]), (0, [])), (168, (0, []), (0, [(11, 1)])), (167, (1, [(10, 2)]), (0, [(12, 1)])), (340, (0, [(2, 1), (3, 2048), (10, 268435456), (11, 4398046511104), (12, 4294967296)]), (0, [(13, 1)]))]) (b := [(65, (0, [(9, 700)]), (0, [])), (60, (700, [(8, 1), (9, -700)]), (0, [(14, 1)]))]) (X := (11, [(10, -1)])) (Y := (0, [])) rfl (by decide) (by decide) (by decide) (fun ρ hF => by
  have q : (0 : Int) ≤ (0 + (1 * ρ 10 + 0)) := hF _ (List.mem_of_getElem? (i := 18) rfl)
  show (11 + (-1 * ρ 10 + 0)) ≤ ((11 : Nat) : Int)
  omega) ((VendingRoutesModel_all hU hG hN 11).2.2 d (by omega))
theorem k_452 {D d : Nat} (hU : uqG G C) (hG : ∀ k, k < 132 → G k = 300 + k) (hN : ∀ x g, sbN x = some g → G x = g) (hd : 8 ≤ d) : ctrOK (PRd G C D xs) G rgs (wpM mDf mt d) 240 c_452 := by
  obtain ⟨e, rfl⟩ : ∃ e, d = e + 1 := ⟨d - 1, by omega⟩
  exact ver_ok (PRd_k hU) hG (by omega) rfl (rLLh_ok hU) (lkCL_ok (by
    simp only [List.forall_mem_cons]
    exact ⟨⟨rfl, k_206 hU hG hN (by omega)⟩, ⟨rfl, k_398 hU hG hN (by omega)⟩, ⟨rfl, k_399 hU hG hN (by omega)⟩, ⟨rfl, k_400 hU hG hN (by omega)⟩, fun _ h => absurd h List.not_mem_nil⟩)) (fun _ _ h => by cases h) v_452
theorem k_453 {D d : Nat} (hU : uqG G C) (hG : ∀ k, k < 132 → G k = 300 + k) (hN : ∀ x g, sbN x = some g → G x = g) (hd : 9 ≤ d) : ctrOK (PRd G C D xs) G rgs (wpM mDf mt d) 239 c_453 := by
  obtain ⟨e, rfl⟩ : ∃ e, d = e + 1 := ⟨d - 1, by omega⟩
  exact ver_ok (PRd_k hU) hG (by omega) rfl (rLLh_ok hU) (lkCL_ok (by
    simp only [List.forall_mem_cons]
    exact ⟨⟨rfl, k_389 hU hG hN (by omega)⟩, ⟨rfl, k_390 hU hG hN (by omega)⟩, ⟨rfl, k_452 hU hG hN (by omega)⟩, fun _ h => absurd h List.not_mem_nil⟩)) (fun _ _ h => by cases h) v_453
theorem k_454 {D d : Nat} (hU : uqG G C) (hG : ∀ k, k < 132 → G k = 300 + k) (hN : ∀ x g, sbN x = some g → G x = g) (hD : 700 ≤ D) (hd : 48 ≤ d) : ctrOK (PRd G C D xs) G rgs (wpM mDf mt d) 238 c_454 := by
  obtain ⟨e, rfl⟩ : ∃ e, d = e + 1 := ⟨d - 1, by omega⟩
  exact ver_ok (PRd_k hU) hG (by omega) rfl (rLL_ok hU hD) (lkCL_ok (by
    simp only [List.forall_mem_cons]
    exact ⟨⟨rfl, k_193 hU hG hN (by omega)⟩, ⟨rfl, k_201 hU hG hN (by omega)⟩, ⟨rfl, k_229 hU hG hN (by omega)⟩, ⟨rfl, k_451 hU hG hN (by omega)⟩, ⟨rfl, k_453 hU hG hN (by omega)⟩, fun _ h => absurd h List.not_mem_nil⟩)) (fun _ _ h => by cases h) v_454
theorem k_455 {D d : Nat} (hU : uqG G C) (hG : ∀ k, k < 132 → G k = 300 + k) (hN : ∀ x g, sbN x = some g → G x = g) (hD : 700 ≤ D) (hd : 49 ≤ d) : ctrOK (PRd G C D xs) G rgs (wpM mDf mt d) 234 c_455 := by
  obtain ⟨e, rfl⟩ : ∃ e, d = e + 1 := ⟨d - 1, by omega⟩
  exact ver_ok (PRd_k hU) hG (by omega) rfl (rLLh_ok hU) (lkCL_ok (by
    simp only [List.forall_mem_cons]
    exact ⟨⟨rfl, k_201 hU hG hN (by omega)⟩, ⟨rfl, k_293 hU hG hN (by omega)⟩, ⟨rfl, k_294 hU hG hN (by omega)⟩, ⟨rfl, k_300 hU hG hN (by omega)⟩, ⟨rfl, k_310 hU hG hN (by omega)⟩, ⟨rfl, k_316 hU hG hN (by omega)⟩, ⟨rfl, k_326 hU hG hN (by omega)⟩, ⟨rfl, k_332 hU hG hN (by omega)⟩, ⟨rfl, k_454 hU hG hN hD (by omega)⟩, fun _ h => absurd h List.not_mem_nil⟩)) (fun _ _ h => by cases h) v_455
theorem k_456 {D d : Nat} (hU : uqG G C) (hG : ∀ k, k < 132 → G k = 300 + k) (hN : ∀ x g, sbN x = some g → G x = g) (hD : 700 ≤ D) (hd : 50 ≤ d) : ctrOK (PRd G C D xs) G rgs (wpM mDf mt d) 222 c_456 := by
  obtain ⟨e, rfl⟩ : ∃ e, d = e + 1 := ⟨d - 1, by omega⟩
  exact ver_ok (PRd_k hU) hG (by omega) rfl (rLLh_ok hU) (lkCL_ok (by
    simp only [List.forall_mem_cons]
    exact ⟨⟨rfl, k_193 hU hG hN (by omega)⟩, ⟨rfl, k_201 hU hG hN (by omega)⟩, ⟨rfl, k_206 hU hG hN (by omega)⟩, ⟨rfl, k_286 hU hG hN (by omega)⟩, ⟨rfl, k_287 hU hG hN (by omega)⟩, ⟨rfl, k_400 hU hG hN (by omega)⟩, ⟨rfl, k_455 hU hG hN hD (by omega)⟩, fun _ h => absurd h List.not_mem_nil⟩)) (fun _ _ h => by cases h) v_456
theorem k_457 {D d : Nat} (hU : uqG G C) (hG : ∀ k, k < 132 → G k = 300 + k) (hN : ∀ x g, sbN x = some g → G x = g) (hD : 700 ≤ D) (hd : 51 ≤ d) : ctrOK (PRd G C D xs) G rgs (wpM mDf mt d) 219 c_457 := by
  obtain ⟨e, rfl⟩ : ∃ e, d = e + 1 := ⟨d - 1, by omega⟩
  exact ver_ok (PRd_k hU) hG (by omega) rfl (rLLh_ok hU) (lkCL_ok (by
    simp only [List.forall_mem_cons]
    exact ⟨⟨rfl, k_7 hU hG hN (by omega)⟩, ⟨rfl, k_187 hU hG hN (by omega)⟩, ⟨rfl, k_456 hU hG hN hD (by omega)⟩, fun _ h => absurd h List.not_mem_nil⟩)) (fun _ _ h => by cases h) v_457
theorem k_458 {D d : Nat} (hU : uqG G C) (hG : ∀ k, k < 132 → G k = 300 + k) (hN : ∀ x g, sbN x = some g → G x = g) (hd : 6 ≤ d) : ctrOK (PRd G C D xs) G rgs (wpM mDf mt d) 32 c_458 := by
  obtain ⟨e, rfl⟩ : ∃ e, d = e + 1 := ⟨d - 1, by omega⟩
  exact ver_ok (PRd_k hU) hG (by omega) rfl (rLLh_ok hU) (fun _ _ _ h => by cases h) (fun _ _ h => by cases h) v_458
theorem k_459 {D d : Nat} (hU : uqG G C) (hG : ∀ k, k < 132 → G k = 300 + k) (hN : ∀ x g, sbN x = some g → G x = g) (hd : 7 ≤ d) : ctrOK (PRd G C D xs) G rgs (wpM mDf mt d) 31 c_459 := by
  obtain ⟨e, rfl⟩ : ∃ e, d = e + 1 := ⟨d - 1, by omega⟩
  exact ver_ok (PRd_k hU) hG (by omega) rfl (rLLh_ok hU) (lkCL_ok (by
    simp only [List.forall_mem_cons]
    exact ⟨⟨rfl, k_458 hU hG hN (by omega)⟩, fun _ h => absurd h List.not_mem_nil⟩)) (fun _ _ h => by cases h) v_459
theorem k_460 {D d : Nat} (hU : uqG G C) (hG : ∀ k, k < 132 → G k = 300 + k) (hN : ∀ x g, sbN x = some g → G x = g) (hd : 7 ≤ d) : ctrOK (PRd G C D xs) G rgs (wpM mDf mt d) 219 c_460 := by
  obtain ⟨e, rfl⟩ : ∃ e, d = e + 1 := ⟨d - 1, by omega⟩
  exact ver_ok (PRd_k hU) hG (by omega) rfl (rLLh_ok hU) (lkCL_ok (by
    simp only [List.forall_mem_cons]
    exact ⟨⟨rfl, k_7 hU hG hN (by omega)⟩, ⟨rfl, k_409 hU hG hN (by omega)⟩, fun _ h => absurd h List.not_mem_nil⟩)) (fun _ _ h => by cases h) v_460
theorem k_461 {D d : Nat} (hU : uqG G C) (hG : ∀ k, k < 132 → G k = 300 + k) (hN : ∀ x g, sbN x = some g → G x = g) (hd : 6 ≤ d) : ctrOK (PRd G C D xs) G rgs (wpM mDf mt d) 15 c_461 := by
  obtain ⟨e, rfl⟩ : ∃ e, d = e + 1 := ⟨d - 1, by omega⟩
  exact ver_ok (PRd_k hU) hG (by omega) rfl (rLLh_ok hU) (fun _ _ _ h => by cases h) (fun _ _ h => by cases h) v_461
theorem k_462 {D d : Nat} (hU : uqG G C) (hG : ∀ k, k < 132 → G k = 300 + k) (hN : ∀ x g, sbN x = some g → G x = g) (hd : 6 ≤ d) : ctrOK (PRd G C D xs) G rgs (wpM mDf mt d) 217 c_462 := by
  obtain ⟨e, rfl⟩ : ∃ e, d = e + 1 := ⟨d - 1, by omega⟩
  exact ver_ok (PRd_k hU) hG (by omega) rfl (rLLh_ok hU) (fun _ _ _ h => by cases h) (fun _ _ h => by cases h) v_462
theorem k_463 {D d : Nat} (hU : uqG G C) (hG : ∀ k, k < 132 → G k = 300 + k) (hN : ∀ x g, sbN x = some g → G x = g) (hd : 6 ≤ d) : ctrOK (PRd G C D xs) G rgs (wpM mDf mt d) 16 c_463 := by
  obtain ⟨e, rfl⟩ : ∃ e, d = e + 1 := ⟨d - 1, by omega⟩
  exact ver_ok (PRd_k hU) hG (by omega) rfl (rLLh_ok hU) (fun _ _ _ h => by cases h) (fun _ _ h => by cases h) v_463
theorem k_464 {D d : Nat} (hU : uqG G C) (hG : ∀ k, k < 132 → G k = 300 + k) (hN : ∀ x g, sbN x = some g → G x = g) (hd : 6 ≤ d) : ctrOK (PRd G C D xs) G rgs (wpM mDf mt d) 218 c_464 := by
  obtain ⟨e, rfl⟩ : ∃ e, d = e + 1 := ⟨d - 1, by omega⟩
  exact ver_ok (PRd_k hU) hG (by omega) rfl (rLLh_ok hU) (fun _ _ _ h => by cases h) (fun _ _ h => by cases h) v_464
theorem k_465 {D d : Nat} (hU : uqG G C) (hG : ∀ k, k < 132 → G k = 300 + k) (hN : ∀ x g, sbN x = some g → G x = g) (hd : 6 ≤ d) : ctrOK (PRd G C D xs) G rgs (wpM mDf mt d) 17 c_465 := by
  obtain ⟨e, rfl⟩ : ∃ e, d = e + 1 := ⟨d - 1, by omega⟩
  exact ver_ok (PRd_k hU) hG (by omega) rfl (rLLh_ok hU) (fun _ _ _ h => by cases h) (fun _ _ h => by cases h) v_465
theorem k_466 {D d : Nat} (hU : uqG G C) (hG : ∀ k, k < 132 → G k = 300 + k) (hN : ∀ x g, sbN x = some g → G x = g) (hd : 6 ≤ d) : ctrOK (PRd G C D xs) G rgs (wpM mDf mt d) 216 c_466 := by
  obtain ⟨e, rfl⟩ : ∃ e, d = e + 1 := ⟨d - 1, by omega⟩
  exact ver_ok (PRd_k hU) hG (by omega) rfl (rLLh_ok hU) (fun _ _ _ h => by cases h) (fun _ _ h => by cases h) v_466
theorem k_467 {D d : Nat} (hU : uqG G C) (hG : ∀ k, k < 132 → G k = 300 + k) (hN : ∀ x g, sbN x = some g → G x = g) (hd : 6 ≤ d) : ctrOK (PRd G C D xs) G rgs (wpM mDf mt d) 18 c_467 := by
  obtain ⟨e, rfl⟩ : ∃ e, d = e + 1 := ⟨d - 1, by omega⟩
  exact ver_ok (PRd_k hU) hG (by omega) rfl (rLLh_ok hU) (fun _ _ _ h => by cases h) (fun _ _ h => by cases h) v_467
theorem k_468 {D d : Nat} (hU : uqG G C) (hG : ∀ k, k < 132 → G k = 300 + k) (hN : ∀ x g, sbN x = some g → G x = g) (hd : 6 ≤ d) : ctrOK (PRd G C D xs) G rgs (wpM mDf mt d) 246 c_468 := by
  obtain ⟨e, rfl⟩ : ∃ e, d = e + 1 := ⟨d - 1, by omega⟩
  exact ver_ok (PRd_k hU) hG (by omega) rfl (rLLh_ok hU) (fun _ _ _ h => by cases h) (fun _ _ h => by cases h) v_468
theorem k_469 {D d : Nat} (hU : uqG G C) (hG : ∀ k, k < 132 → G k = 300 + k) (hN : ∀ x g, sbN x = some g → G x = g) (hd : 7 ≤ d) : ctrOK (PRd G C D xs) G rgs (wpM mDf mt d) 245 c_469 := by
  obtain ⟨e, rfl⟩ : ∃ e, d = e + 1 := ⟨d - 1, by omega⟩
  exact ver_ok (PRd_k hU) hG (by omega) rfl (rLLh_ok hU) (lkCL_ok (by
    simp only [List.forall_mem_cons]
    exact ⟨⟨rfl, k_468 hU hG hN (by omega)⟩, fun _ h => absurd h List.not_mem_nil⟩)) (fun _ _ h => by cases h) v_469
theorem k_470 {D d : Nat} (hU : uqG G C) (hG : ∀ k, k < 132 → G k = 300 + k) (hN : ∀ x g, sbN x = some g → G x = g) (hd : 6 ≤ d) : ctrOK (PRd G C D xs) G rgs (wpM mDf mt d) 19 c_470 := by
  obtain ⟨e, rfl⟩ : ∃ e, d = e + 1 := ⟨d - 1, by omega⟩
  exact ver_ok (PRd_k hU) hG (by omega) rfl (rLLh_ok hU) (fun _ _ _ h => by cases h) (fun _ _ h => by cases h) v_470
theorem k_471 {D d : Nat} (hU : uqG G C) (hG : ∀ k, k < 132 → G k = 300 + k) (hN : ∀ x g, sbN x = some g → G x = g) (hd : 7 ≤ d) : ctrOK (PRd G C D xs) G rgs (wpM mDf mt d) 247 c_471 := by
  obtain ⟨e, rfl⟩ : ∃ e, d = e + 1 := ⟨d - 1, by omega⟩
  exact ver_ok (PRd_k hU) hG (by omega) rfl (rLLh_ok hU) (lkCL_ok (by
    simp only [List.forall_mem_cons]
    exact ⟨⟨rfl, k_468 hU hG hN (by omega)⟩, fun _ h => absurd h List.not_mem_nil⟩)) (fun _ _ h => by cases h) v_471
theorem k_472 {D d : Nat} (hU : uqG G C) (hG : ∀ k, k < 132 → G k = 300 + k) (hN : ∀ x g, sbN x = some g → G x = g) (hd : 6 ≤ d) : ctrOK (PRd G C D xs) G rgs (wpM mDf mt d) 20 c_472 := by
  obtain ⟨e, rfl⟩ : ∃ e, d = e + 1 := ⟨d - 1, by omega⟩
  exact ver_ok (PRd_k hU) hG (by omega) rfl (rLLh_ok hU) (fun _ _ _ h => by cases h) (fun _ _ h => by cases h) v_472
theorem k_473 {D d : Nat} (hU : uqG G C) (hG : ∀ k, k < 132 → G k = 300 + k) (hN : ∀ x g, sbN x = some g → G x = g) (hd : 7 ≤ d) : ctrOK (PRd G C D xs) G rgs (wpM mDf mt d) 248 c_473 := by
  obtain ⟨e, rfl⟩ : ∃ e, d = e + 1 := ⟨d - 1, by omega⟩
  exact ver_ok (PRd_k hU) hG (by omega) rfl (rLLh_ok hU) (lkCL_ok (by
    simp only [List.forall_mem_cons]
    exact ⟨⟨rfl, k_468 hU hG hN (by omega)⟩, fun _ h => absurd h List.not_mem_nil⟩)) (fun _ _ h => by cases h) v_473
theorem k_474 {D d : Nat} (hU : uqG G C) (hG : ∀ k, k < 132 → G k = 300 + k) (hN : ∀ x g, sbN x = some g → G x = g) (hd : 6 ≤ d) : ctrOK (PRd G C D xs) G rgs (wpM mDf mt d) 21 c_474 := by
  obtain ⟨e, rfl⟩ : ∃ e, d = e + 1 := ⟨d - 1, by omega⟩
  exact ver_ok (PRd_k hU) hG (by omega) rfl (rLLh_ok hU) (fun _ _ _ h => by cases h) (fun _ _ h => by cases h) v_474
theorem k_475 {D d : Nat} (hU : uqG G C) (hG : ∀ k, k < 132 → G k = 300 + k) (hN : ∀ x g, sbN x = some g → G x = g) (hd : 7 ≤ d) : ctrOK (PRd G C D xs) G rgs (wpM mDf mt d) 280 c_475 := by
  obtain ⟨e, rfl⟩ : ∃ e, d = e + 1 := ⟨d - 1, by omega⟩
  exact ver_ok (PRd_k hU) hG (by omega) rfl (rLLh_ok hU) (lkCL_ok (by
    simp only [List.forall_mem_cons]
    exact ⟨⟨rfl, k_468 hU hG hN (by omega)⟩, fun _ h => absurd h List.not_mem_nil⟩)) (fun _ _ h => by cases h) v_475
theorem k_476 {D d : Nat} (hU : uqG G C) (hG : ∀ k, k < 132 → G k = 300 + k) (hN : ∀ x g, sbN x = some g → G x = g) (hd : 6 ≤ d) : ctrOK (PRd G C D xs) G rgs (wpM mDf mt d) 77 c_476 := by
  obtain ⟨e, rfl⟩ : ∃ e, d = e + 1 := ⟨d - 1, by omega⟩
  exact ver_ok (PRd_k hU) hG (by omega) rfl (rLLh_ok hU) (fun _ _ _ h => by cases h) (fun _ _ h => by cases h) v_476
end
