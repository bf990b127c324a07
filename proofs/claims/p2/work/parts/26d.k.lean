section
variable {G C : Nat → Nat} {xs : Nat → Int}
theorem k_180 {D d : Nat} (hU : uqG G C) (hG : ∀ k, k < 132 → G k = 300 + k) (hN : ∀ x g, sbN x = some g → G x = g) (hd : 21 ≤ d) : ctrOK (PRd C D xs) G rgs (wpM mDf mt d) 64 c_180 := by
  obtain ⟨e, rfl⟩ : ∃ e, d = e + 1 := ⟨d - 1, by omega⟩
  exact ver_ok (PRd_k hU) hG (by omega) rfl (rLLh_ok hU) (lkCL_ok (by
    simp only [List.forall_mem_cons]
    exact ⟨⟨rfl, k_19 hU hG hN (by omega)⟩, ⟨rfl, k_159 hU hG hN (by omega)⟩, ⟨rfl, k_167 hU hG hN (by omega)⟩, ⟨rfl, k_173 hU hG hN (by omega)⟩, ⟨rfl, k_179 hU hG hN (by omega)⟩, fun _ h => absurd h List.not_mem_nil⟩)) (fun _ _ h => by cases h) v_180
theorem k_181 {D d : Nat} (hU : uqG G C) (hG : ∀ k, k < 132 → G k = 300 + k) (hN : ∀ x g, sbN x = some g → G x = g) (hd : 22 ≤ d) : ctrOK (PRd C D xs) G rgs (wpM mDf mt d) 65 c_181 := by
  obtain ⟨e, rfl⟩ : ∃ e, d = e + 1 := ⟨d - 1, by omega⟩
  exact ver_ok (PRd_k hU) hG (by omega) rfl (rLLh_ok hU) (lkCL_ok (by
    simp only [List.forall_mem_cons]
    exact ⟨⟨rfl, k_19 hU hG hN (by omega)⟩, ⟨rfl, k_30 hU hG hN (by omega)⟩, ⟨rfl, k_32 hU hG hN (by omega)⟩, ⟨rfl, k_77 hU hG hN (by omega)⟩, ⟨rfl, k_124 hU hG hN (by omega)⟩, ⟨rfl, k_155 hU hG hN (by omega)⟩, ⟨rfl, k_158 hU hG hN (by omega)⟩, ⟨rfl, k_159 hU hG hN (by omega)⟩, ⟨rfl, k_160 hU hG hN (by omega)⟩, ⟨rfl, k_179 hU hG hN (by omega)⟩, ⟨rfl, k_180 hU hG hN (by omega)⟩, fun _ h => absurd h List.not_mem_nil⟩)) (fun _ _ h => by cases h) v_181
theorem k_182 {D d : Nat} (hU : uqG G C) (hG : ∀ k, k < 132 → G k = 300 + k) (hN : ∀ x g, sbN x = some g → G x = g) (hd : 23 ≤ d) : ctrOK (PRd C D xs) G rgs (wpM mDf mt d) 64 c_182 := by
  obtain ⟨e, rfl⟩ : ∃ e, d = e + 1 := ⟨d - 1, by omega⟩
  exact ver_ok (PRd_k hU) hG (by omega) rfl (rLLh_ok hU) (lkCL_ok (by
    simp only [List.forall_mem_cons]
    exact ⟨⟨rfl, k_19 hU hG hN (by omega)⟩, ⟨rfl, k_159 hU hG hN (by omega)⟩, ⟨rfl, k_167 hU hG hN (by omega)⟩, ⟨rfl, k_173 hU hG hN (by omega)⟩, ⟨rfl, k_181 hU hG hN (by omega)⟩, fun _ h => absurd h List.not_mem_nil⟩)) (fun _ _ h => by cases h) v_182
theorem k_183 {D d : Nat} (hU : uqG G C) (hG : ∀ k, k < 132 → G k = 300 + k) (hN : ∀ x g, sbN x = some g → G x = g) (hd : 24 ≤ d) : ctrOK (PRd C D xs) G rgs (wpM mDf mt d) 65 c_183 := by
  obtain ⟨e, rfl⟩ : ∃ e, d = e + 1 := ⟨d - 1, by omega⟩
  exact ver_ok (PRd_k hU) hG (by omega) rfl (rLLh_ok hU) (lkCL_ok (by
    simp only [List.forall_mem_cons]
    exact ⟨⟨rfl, k_19 hU hG hN (by omega)⟩, ⟨rfl, k_30 hU hG hN (by omega)⟩, ⟨rfl, k_32 hU hG hN (by omega)⟩, ⟨rfl, k_77 hU hG hN (by omega)⟩, ⟨rfl, k_124 hU hG hN (by omega)⟩, ⟨rfl, k_155 hU hG hN (by omega)⟩, ⟨rfl, k_158 hU hG hN (by omega)⟩, ⟨rfl, k_159 hU hG hN (by omega)⟩, ⟨rfl, k_160 hU hG hN (by omega)⟩, ⟨rfl, k_181 hU hG hN (by omega)⟩, ⟨rfl, k_182 hU hG hN (by omega)⟩, fun _ h => absurd h List.not_mem_nil⟩)) (fun _ _ h => by cases h) v_183
theorem k_184 {D d : Nat} (hU : uqG G C) (hG : ∀ k, k < 132 → G k = 300 + k) (hN : ∀ x g, sbN x = some g → G x = g) (hd : 25 ≤ d) : ctrOK (PRd C D xs) G rgs (wpM mDf mt d) 64 c_184 := by
  obtain ⟨e, rfl⟩ : ∃ e, d = e + 1 := ⟨d - 1, by omega⟩
  exact ver_ok (PRd_k hU) hG (by omega) rfl (rLLh_ok hU) (lkCL_ok (by
    simp only [List.forall_mem_cons]
    exact ⟨⟨rfl, k_19 hU hG hN (by omega)⟩, ⟨rfl, k_159 hU hG hN (by omega)⟩, ⟨rfl, k_167 hU hG hN (by omega)⟩, ⟨rfl, k_173 hU hG hN (by omega)⟩, ⟨rfl, k_183 hU hG hN (by omega)⟩, fun _ h => absurd h List.not_mem_nil⟩)) (fun _ _ h => by cases h) v_184
theorem k_185 {D d : Nat} (hU : uqG G C) (hG : ∀ k, k < 132 → G k = 300 + k) (hN : ∀ x g, sbN x = some g → G x = g) (hd : 26 ≤ d) : ctrOK (PRd C D xs) G rgs (wpM mDf mt d) 65 c_185 := by
  obtain ⟨e, rfl⟩ : ∃ e, d = e + 1 := ⟨d - 1, by omega⟩
  exact ver_ok (PRd_k hU) hG (by omega) rfl (rLLh_ok hU) (lkCL_ok (by
    simp only [List.forall_mem_cons]
    exact ⟨⟨rfl, k_19 hU hG hN (by omega)⟩, ⟨rfl, k_30 hU hG hN (by omega)⟩, ⟨rfl, k_32 hU hG hN (by omega)⟩, ⟨rfl, k_77 hU hG hN (by omega)⟩, ⟨rfl, k_124 hU hG hN (by omega)⟩, ⟨rfl, k_155 hU hG hN (by omega)⟩, ⟨rfl, k_158 hU hG hN (by omega)⟩, ⟨rfl, k_159 hU hG hN (by omega)⟩, ⟨rfl, k_160 hU hG hN (by omega)⟩, ⟨rfl, k_183 hU hG hN (by omega)⟩, ⟨rfl, k_184 hU hG hN (by omega)⟩, fun _ h => absurd h List.not_mem_nil⟩)) (fun _ _ h => by cases h) v_185
theorem k_186 {D d : Nat} (hU : uqG G C) (hG : ∀ k, k < 132 → G k = 300 + k) (hN : ∀ x g, sbN x = some g → G x = g) (hd : 27 ≤ d) : ctrOK (PRd C D xs) G rgs (wpM mDf mt d) 64 c_186 := by
  obtain ⟨e, rfl⟩ : ∃ e, d = e + 1 := ⟨d - 1, by omega⟩
  exact ver_ok (PRd_k hU) hG (by omega) rfl (rLLh_ok hU) (lkCL_ok (by
    simp only [List.forall_mem_cons]
    exact ⟨⟨rfl, k_19 hU hG hN (by omega)⟩, ⟨rfl, k_159 hU hG hN (by omega)⟩, ⟨rfl, k_167 hU hG hN (by omega)⟩, ⟨rfl, k_173 hU hG hN (by omega)⟩, ⟨rfl, k_185 hU hG hN (by omega)⟩, fun _ h => absurd h List.not_mem_nil⟩)) (fun _ _ h => by cases h) v_186
theorem k_187 {D d : Nat} (hU : uqG G C) (hG : ∀ k, k < 132 → G k = 300 + k) (hN : ∀ x g, sbN x = some g → G x = g) (hd : 28 ≤ d) : ctrOK (PRd C D xs) G rgs (wpM mDf mt d) 65 c_187 := by
  obtain ⟨e, rfl⟩ : ∃ e, d = e + 1 := ⟨d - 1, by omega⟩
  exact ver_ok (PRd_k hU) hG (by omega) rfl (rLLh_ok hU) (lkCL_ok (by
    simp only [List.forall_mem_cons]
    exact ⟨⟨rfl, k_19 hU hG hN (by omega)⟩, ⟨rfl, k_30 hU hG hN (by omega)⟩, ⟨rfl, k_32 hU hG hN (by omega)⟩, ⟨rfl, k_77 hU hG hN (by omega)⟩, ⟨rfl, k_124 hU hG hN (by omega)⟩, ⟨rfl, k_155 hU hG hN (by omega)⟩, ⟨rfl, k_158 hU hG hN (by omega)⟩, ⟨rfl, k_159 hU hG hN (by omega)⟩, ⟨rfl, k_160 hU hG hN (by omega)⟩, ⟨rfl, k_185 hU hG hN (by omega)⟩, ⟨rfl, k_186 hU hG hN (by omega)⟩, fun _ h => absurd h List.not_mem_nil⟩)) (fun _ _ h => by cases h) v_187
theorem k_188 {D d : Nat} (hU : uqG G C) (hG : ∀ k, k < 132 → G k = 300 + k) (hN : ∀ x g, sbN x = some g → G x = g) (hd : 29 ≤ d) : ctrOK (PRd C D xs) G rgs (wpM mDf mt d) 64 c_188 := by
  obtain ⟨e, rfl⟩ : ∃ e, d = e + 1 := ⟨d - 1, by omega⟩
  exact ver_ok (PRd_k hU) hG (by omega) rfl (rLLh_ok hU) (lkCL_ok (by
    simp only [List.forall_mem_cons]
    exact ⟨⟨rfl, k_19 hU hG hN (by omega)⟩, ⟨rfl, k_159 hU hG hN (by omega)⟩, ⟨rfl, k_167 hU hG hN (by omega)⟩, ⟨rfl, k_173 hU hG hN (by omega)⟩, ⟨rfl, k_187 hU hG hN (by omega)⟩, fun _ h => absurd h List.not_mem_nil⟩)) (fun _ _ h => by cases h) v_188
theorem k_189 {D d : Nat} (hU : uqG G C) (hG : ∀ k, k < 132 → G k = 300 + k) (hN : ∀ x g, sbN x = some g → G x = g) (hd : 30 ≤ d) : ctrOK (PRd C D xs) G rgs (wpM mDf mt d) 65 c_189 := by
  obtain ⟨e, rfl⟩ : ∃ e, d = e + 1 := ⟨d - 1, by omega⟩
  exact ver_ok (PRd_k hU) hG (by omega) rfl (rLLh_ok hU) (lkCL_ok (by
    simp only [List.forall_mem_cons]
    exact ⟨⟨rfl, k_19 hU hG hN (by omega)⟩, ⟨rfl, k_30 hU hG hN (by omega)⟩, ⟨rfl, k_32 hU hG hN (by omega)⟩, ⟨rfl, k_77 hU hG hN (by omega)⟩, ⟨rfl, k_124 hU hG hN (by omega)⟩, ⟨rfl, k_155 hU hG hN (by omega)⟩, ⟨rfl, k_158 hU hG hN (by omega)⟩, ⟨rfl, k_159 hU hG hN (by omega)⟩, ⟨rfl, k_160 hU hG hN (by omega)⟩, ⟨rfl, k_187 hU hG hN (by omega)⟩, ⟨rfl, k_188 hU hG hN (by omega)⟩, fun _ h => absurd h List.not_mem_nil⟩)) (fun _ _ h => by cases h) v_189
theorem k_190 {D d : Nat} (hU : uqG G C) (hG : ∀ k, k < 132 → G k = 300 + k) (hN : ∀ x g, sbN x = some g → G x = g) (hd : 31 ≤ d) : ctrOK (PRd C D xs) G rgs (wpM mDf mt d) 64 c_190 := by
  obtain ⟨e, rfl⟩ : ∃ e, d = e + 1 := ⟨d - 1, by omega⟩
  exact ver_ok (PRd_k hU) hG (by omega) rfl (rLLh_ok hU) (lkCL_ok (by
    simp only [List.forall_mem_cons]
    exact ⟨⟨rfl, k_19 hU hG hN (by omega)⟩, ⟨rfl, k_159 hU hG hN (by omega)⟩, ⟨rfl, k_167 hU hG hN (by omega)⟩, ⟨rfl, k_173 hU hG hN (by omega)⟩, ⟨rfl, k_189 hU hG hN (by omega)⟩, fun _ h => absurd h List.not_mem_nil⟩)) (fun _ _ h => by cases h) v_190
theorem k_191 {D d : Nat} (hU : uqG G C) (hG : ∀ k, k < 132 → G k = 300 + k) (hN : ∀ x g, sbN x = some g → G x = g) (hd : 32 ≤ d) : ctrOK (PRd C D xs) G rgs (wpM mDf mt d) 65 c_191 := by
  obtain ⟨e, rfl⟩ : ∃ e, d = e + 1 := ⟨d - 1, by omega⟩
  exact ver_ok (PRd_k hU) hG (by omega) rfl (rLLh_ok hU) (lkCL_ok (by
    simp only [List.forall_mem_cons]
    exact ⟨⟨rfl, k_19 hU hG hN (by omega)⟩, ⟨rfl, k_30 hU hG hN (by omega)⟩, ⟨rfl, k_32 hU hG hN (by omega)⟩, ⟨rfl, k_77 hU hG hN (by omega)⟩, ⟨rfl, k_124 hU hG hN (by omega)⟩, ⟨rfl, k_155 hU hG hN (by omega)⟩, ⟨rfl, k_158 hU hG hN (by omega)⟩, ⟨rfl, k_159 hU hG hN (by omega)⟩, ⟨rfl, k_160 hU hG hN (by omega)⟩, ⟨rfl, k_189 hU hG hN (by omega)⟩, ⟨rfl, k_190 hU hG hN (by omega)⟩, fun _ h => absurd h List.not_mem_nil⟩)) (fun _ _ h => by cases h) v_191
theorem k_192 {D d : Nat} (hU : uqG G C) (hG : ∀ k, k < 132 → G k = 300 + k) (hN : ∀ x g, sbN x = some g → G x = g) (hd : 33 ≤ d) : ctrOK (PRd C D xs) G rgs (wpM mDf mt d) 64 c_192 := by
  obtain ⟨e, rfl⟩ : ∃ e, d = e + 1 := ⟨d - 1, by omega⟩
  exact ver_ok (PRd_k hU) hG (by omega) rfl (rLLh_ok hU) (lkCL_ok (by
    simp only [List.forall_mem_cons]
    exact ⟨⟨rfl, k_19 hU hG hN (by omega)⟩, ⟨rfl, k_159 hU hG hN (by omega)⟩, ⟨rfl, k_167 hU hG hN (by omega)⟩, ⟨rfl, k_173 hU hG hN (by omega)⟩, ⟨rfl, k_191 hU hG hN (by omega)⟩, fun _ h => absurd h List.not_mem_nil⟩)) (fun _ _ h => by cases h) v_192
theorem k_193 {D d : Nat} (hU : uqG G C) (hG : ∀ k, k < 132 → G k = 300 + k) (hN : ∀ x g, sbN x = some g → G x = g) (hd : 6 ≤ d) : ctrOK (PRd C D xs) G rgs (wpM mDf mt d) 70 c_193 := by
  obtain ⟨e, rfl⟩ : ∃ e, d = e + 1 := ⟨d - 1, by omega⟩
  exact ver_ok (PRd_k hU) hG (by omega) rfl (rLLh_ok hU) (fun _ _ _ h => by cases h) (fun _ _ h => by cases h) v_193
theorem k_194 {D d : Nat} (hU : uqG G C) (hG : ∀ k, k < 132 → G k = 300 + k) (hN : ∀ x g, sbN x = some g → G x = g) (hd : 34 ≤ d) : ctrOK (PRd C D xs) G rgs (wpM mDf mt d) 63 c_194 := by
  obtain ⟨e, rfl⟩ : ∃ e, d = e + 1 := ⟨d - 1, by omega⟩
  exact ver_ok (PRd_k hU) hG (by omega) rfl (rLLh_ok hU) (lkCL_ok (by
    simp only [List.forall_mem_cons]
    exact ⟨⟨rfl, k_19 hU hG hN (by omega)⟩, ⟨rfl, k_30 hU hG hN (by omega)⟩, ⟨rfl, k_192 hU hG hN (by omega)⟩, ⟨rfl, k_193 hU hG hN (by omega)⟩, fun _ h => absurd h List.not_mem_nil⟩)) (fun _ _ h => by cases h) v_194
theorem k_195 {D d : Nat} (hU : uqG G C) (hG : ∀ k, k < 132 → G k = 300 + k) (hN : ∀ x g, sbN x = some g → G x = g) (hd : 35 ≤ d) : ctrOK (PRd C D xs) G rgs (wpM mDf mt d) 33 c_195 := by
  obtain ⟨e, rfl⟩ : ∃ e, d = e + 1 := ⟨d - 1, by omega⟩
  exact ver_ok (PRd_k hU) hG (by omega) rfl (rLLh_ok hU) (lkCL_ok (by
    simp only [List.forall_mem_cons]
    exact ⟨⟨rfl, k_19 hU hG hN (by omega)⟩, ⟨rfl, k_20 hU hG hN (by omega)⟩, ⟨rfl, k_30 hU hG hN (by omega)⟩, ⟨rfl, k_76 hU hG hN (by omega)⟩, ⟨rfl, k_77 hU hG hN (by omega)⟩, ⟨rfl, k_83 hU hG hN (by omega)⟩, ⟨rfl, k_84 hU hG hN (by omega)⟩, ⟨rfl, k_90 hU hG hN (by omega)⟩, ⟨rfl, k_98 hU hG hN (by omega)⟩, ⟨rfl, k_104 hU hG hN (by omega)⟩, ⟨rfl, k_112 hU hG hN (by omega)⟩, ⟨rfl, k_118 hU hG hN (by omega)⟩, ⟨rfl, k_194 hU hG hN (by omega)⟩, fun _ h => absurd h List.not_mem_nil⟩)) (fun _ _ h => by cases h) v_195
theorem k_196 {D d : Nat} (hU : uqG G C) (hG : ∀ k, k < 132 → G k = 300 + k) (hN : ∀ x g, sbN x = some g → G x = g) (hd : 6 ≤ d) : ctrOK (PRd C D xs) G rgs (wpM mDf mt d) 73 c_196 := by
  obtain ⟨e, rfl⟩ : ∃ e, d = e + 1 := ⟨d - 1, by omega⟩
  exact ver_ok (PRd_k hU) hG (by omega) rfl (rLLh_ok hU) (fun _ _ _ h => by cases h) (fun _ _ h => by cases h) v_196
theorem k_197 {D d : Nat} (hU : uqG G C) (hG : ∀ k, k < 132 → G k = 300 + k) (hN : ∀ x g, sbN x = some g → G x = g) (hd : 7 ≤ d) : ctrOK (PRd C D xs) G rgs (wpM mDf mt d) 72 c_197 := by
  obtain ⟨e, rfl⟩ : ∃ e, d = e + 1 := ⟨d - 1, by omega⟩
  exact ver_ok (PRd_k hU) hG (by omega) rfl (rLLh_ok hU) (lkCL_ok (by
    simp only [List.forall_mem_cons]
    exact ⟨⟨rfl, k_196 hU hG hN (by omega)⟩, fun _ h => absurd h List.not_mem_nil⟩)) (fun _ _ h => by cases h) v_197
theorem k_198 {D d : Nat} (hU : uqG G C) (hG : ∀ k, k < 132 → G k = 300 + k) (hN : ∀ x g, sbN x = some g → G x = g) (hd : 8 ≤ d) : ctrOK (PRd C D xs) G rgs (wpM mDf mt d) 71 c_198 := by
  obtain ⟨e, rfl⟩ : ∃ e, d = e + 1 := ⟨d - 1, by omega⟩
  exact ver_ok (PRd_k hU) hG (by omega) rfl (rLLh_ok hU) (lkCL_ok (by
    simp only [List.forall_mem_cons]
    exact ⟨⟨rfl, k_197 hU hG hN (by omega)⟩, fun _ h => absurd h List.not_mem_nil⟩)) (fun _ _ h => by cases h) v_198
theorem k_199 {D d : Nat} (hU : uqG G C) (hG : ∀ k, k < 132 → G k = 300 + k) (hN : ∀ x g, sbN x = some g → G x = g) (hd : 36 ≤ d) : ctrOK (PRd C D xs) G rgs (wpM mDf mt d) 32 c_199 := by
  obtain ⟨e, rfl⟩ : ∃ e, d = e + 1 := ⟨d - 1, by omega⟩
  exact ver_ok (PRd_k hU) hG (by omega) rfl (rLLh_ok hU) (lkCL_ok (by
    simp only [List.forall_mem_cons]
    exact ⟨⟨rfl, k_195 hU hG hN (by omega)⟩, ⟨rfl, k_198 hU hG hN (by omega)⟩, fun _ h => absurd h List.not_mem_nil⟩)) (fun _ _ h => by cases h) v_199
theorem k_200 {D d : Nat} (hU : uqG G C) (hG : ∀ k, k < 132 → G k = 300 + k) (hN : ∀ x g, sbN x = some g → G x = g) (hd : 37 ≤ d) : ctrOK (PRd C D xs) G rgs (wpM mDf mt d) 31 c_200 := by
  obtain ⟨e, rfl⟩ : ∃ e, d = e + 1 := ⟨d - 1, by omega⟩
  exact ver_ok (PRd_k hU) hG (by omega) rfl (rLLh_ok hU) (lkCL_ok (by
    simp only [List.forall_mem_cons]
    exact ⟨⟨rfl, k_199 hU hG hN (by omega)⟩, fun _ h => absurd h List.not_mem_nil⟩)) (fun _ _ h => by cases h) v_200
theorem k_201 {D d : Nat} (hU : uqG G C) (hG : ∀ k, k < 132 → G k = 300 + k) (hN : ∀ x g, sbN x = some g → G x = g) (hd : 6 ≤ d) : ctrOK (PRd C D xs) G rgs (wpM mDf mt d) 224 c_201 := by
  obtain ⟨e, rfl⟩ : ∃ e, d = e + 1 := ⟨d - 1, by omega⟩
  exact ver_ok (PRd_k hU) hG (by omega) rfl (rLLh_ok hU) (fun _ _ _ h => by cases h) (fun _ _ h => by cases h) v_201
theorem k_202 {D d : Nat} (hU : uqG G C) (hG : ∀ k, k < 132 → G k = 300 + k) (hN : ∀ x g, sbN x = some g → G x = g) (hd : 6 ≤ d) : ctrOK (PRd C D xs) G rgs (wpM mDf mt d) 220 c_202 := by
  obtain ⟨e, rfl⟩ : ∃ e, d = e + 1 := ⟨d - 1, by omega⟩
  exact ver_ok (PRd_k hU) hG (by omega) rfl (rLLh_ok hU) (fun _ _ _ h => by cases h) (fun _ _ h => by cases h) v_202
theorem k_203 {D d : Nat} (hU : uqG G C) (hG : ∀ k, k < 132 → G k = 300 + k) (hN : ∀ x g, sbN x = some g → G x = g) (hd : 6 ≤ d) : ctrOK (PRd C D xs) G rgs (wpM mDf mt d) 225 c_203 := by
  obtain ⟨e, rfl⟩ : ∃ e, d = e + 1 := ⟨d - 1, by omega⟩
  exact ver_ok (PRd_k hU) hG (by omega) rfl (rLLh_ok hU) (fun _ _ _ h => by cases h) (fun _ _ h => by cases h) v_203
theorem k_204 {D d : Nat} (hU : uqG G C) (hG : ∀ k, k < 132 → G k = 300 + k) (hN : ∀ x g, sbN x = some g → G x = g) (hd : 7 ≤ d) : ctrOK (PRd C D xs) G rgs (wpM mDf mt d) 223 c_204 := by
  obtain ⟨e, rfl⟩ : ∃ e, d = e + 1 := ⟨d - 1, by omega⟩
  exact ver_ok (PRd_k hU) hG (by omega) rfl (rLLh_ok hU) (lkCL_ok (by
    simp only [List.forall_mem_cons]
    exact ⟨⟨rfl, k_201 hU hG hN (by omega)⟩, ⟨rfl, k_202 hU hG hN (by omega)⟩, ⟨rfl, k_203 hU hG hN (by omega)⟩, fun _ h => absurd h List.not_mem_nil⟩)) (fun _ _ h => by cases h) v_204
theorem k_205 {D d : Nat} (hU : uqG G C) (hG : ∀ k, k < 132 → G k = 300 + k) (hN : ∀ x g, sbN x = some g → G x = g) (hd : 6 ≤ d) : ctrOK (PRd C D xs) G rgs (wpM mDf mt d) 42 c_205 := by
  obtain ⟨e, rfl⟩ : ∃ e, d = e + 1 := ⟨d - 1, by omega⟩
  exact ver_ok (PRd_k hU) hG (by omega) rfl (rLLh_ok hU) (fun _ _ _ h => by cases h) (fun _ _ h => by cases h) v_205
theorem k_206 {D d : Nat} (hU : uqG G C) (hG : ∀ k, k < 132 → G k = 300 + k) (hN : ∀ x g, sbN x = some g → G x = g) (hd : 7 ≤ d) : ctrOK (PRd C D xs) G rgs (wpM mDf mt d) 41 c_206 := by
  obtain ⟨e, rfl⟩ : ∃ e, d = e + 1 := ⟨d - 1, by omega⟩
  exact ver_ok (PRd_k hU) hG (by omega) rfl (rLLh_ok hU) (lkCL_ok (by
    simp only [List.forall_mem_cons]
    exact ⟨⟨rfl, k_205 hU hG hN (by omega)⟩, fun _ h => absurd h List.not_mem_nil⟩)) (fun _ _ h => by cases h) v_206
theorem k_207 {D d : Nat} (hU : uqG G C) (hG : ∀ k, k < 132 → G k = 300 + k) (hN : ∀ x g, sbN x = some g → G x = g) (hd : 6 ≤ d) : ctrOK (PRd C D xs) G rgs (wpM mDf mt d) 40 c_207 := by
  obtain ⟨e, rfl⟩ : ∃ e, d = e + 1 := ⟨d - 1, by omega⟩
  exact ver_ok (PRd_k hU) hG (by omega) rfl (rLLh_ok hU) (fun _ _ _ h => by cases h) (fun _ _ h => by cases h) v_207
theorem k_208 {D d : Nat} (hU : uqG G C) (hG : ∀ k, k < 132 → G k = 300 + k) (hN : ∀ x g, sbN x = some g → G x = g) (hd : 8 ≤ d) : ctrOK (PRd C D xs) G rgs (wpM mDf mt d) 51 c_208 := by
  obtain ⟨e, rfl⟩ : ∃ e, d = e + 1 := ⟨d - 1, by omega⟩
  exact ver_ok (PRd_k hU) hG (by omega) rfl (rLLh_ok hU) (lkCL_ok (by
    simp only [List.forall_mem_cons]
    exact ⟨⟨rfl, k_26 hU hG hN (by omega)⟩, fun _ h => absurd h List.not_mem_nil⟩)) (fun _ _ h => by cases h) v_208
theorem k_209 {D d : Nat} (hU : uqG G C) (hG : ∀ k, k < 132 → G k = 300 + k) (hN : ∀ x g, sbN x = some g → G x = g) (hd : 9 ≤ d) : ctrOK (PRd C D xs) G rgs (wpM mDf mt d) 50 c_209 := by
  obtain ⟨e, rfl⟩ : ∃ e, d = e + 1 := ⟨d - 1, by omega⟩
  exact ver_ok (PRd_k hU) hG (by omega) rfl (rLLh_ok hU) (lkCL_ok (by
    simp only [List.forall_mem_cons]
    exact ⟨⟨rfl, k_207 hU hG hN (by omega)⟩, ⟨rfl, k_208 hU hG hN (by omega)⟩, fun _ h => absurd h List.not_mem_nil⟩)) (fun _ _ h => by cases h) v_209
theorem k_210 {D d : Nat} (hU : uqG G C) (hG : ∀ k, k < 132 → G k = 300 + k) (hN : ∀ x g, sbN x = some g → G x = g) (hd : 10 ≤ d) : ctrOK (PRd C D xs) G rgs (wpM mDf mt d) 229 c_210 := by
  obtain ⟨e, rfl⟩ : ∃ e, d = e + 1 := ⟨d - 1, by omega⟩
  exact ver_ok (PRd_k hU) hG (by omega) rfl (rLLh_ok hU) (lkCL_ok (by
    simp only [List.forall_mem_cons]
    exact ⟨⟨rfl, k_206 hU hG hN (by omega)⟩, ⟨rfl, k_209 hU hG hN (by omega)⟩, fun _ h => absurd h List.not_mem_nil⟩)) (fun _ _ h => by cases h) v_210
theorem k_211 {D d : Nat} (hU : uqG G C) (hG : ∀ k, k < 132 → G k = 300 + k) (hN : ∀ x g, sbN x = some g → G x = g) (hd : 7 ≤ d) : ctrOK (PRd C D xs) G rgs (wpM mDf mt d) 223 c_211 := by
  obtain ⟨e, rfl⟩ : ∃ e, d = e + 1 := ⟨d - 1, by omega⟩
  exact ver_ok (PRd_k hU) hG (by omega) rfl (rLLh_ok hU) (lkCL_ok (by
    simp only [List.forall_mem_cons]
    exact ⟨⟨rfl, k_201 hU hG hN (by omega)⟩, ⟨rfl, k_202 hU hG hN (by omega)⟩, ⟨rfl, k_203 hU hG hN (by omega)⟩, fun _ h => absurd h List.not_mem_nil⟩)) (fun _ _ h => by cases h) v_211
theorem k_212 {D d : Nat} (hU : uqG G C) (hG : ∀ k, k < 132 → G k = 300 + k) (hN : ∀ x g, sbN x = some g → G x = g) (hd : 11 ≤ d) : ctrOK (PRd C D xs) G rgs (wpM mDf mt d) 228 c_212 := by
  obtain ⟨e, rfl⟩ : ∃ e, d = e + 1 := ⟨d - 1, by omega⟩
  exact ver_ok (PRd_k hU) hG (by omega) rfl (rLLh_ok hU) (lkCL_ok (by
    simp only [List.forall_mem_cons]
    exact ⟨⟨rfl, k_210 hU hG hN (by omega)⟩, ⟨rfl, k_211 hU hG hN (by omega)⟩, fun _ h => absurd h List.not_mem_nil⟩)) (fun _ _ h => by cases h) v_212
theorem k_213 {D d : Nat} (hU : uqG G C) (hG : ∀ k, k < 132 → G k = 300 + k) (hN : ∀ x g, sbN x = some g → G x = g) (hd : 6 ≤ d) : ctrOK (PRd C D xs) G rgs (wpM mDf mt d) 230 c_213 := by
  obtain ⟨e, rfl⟩ : ∃ e, d = e + 1 := ⟨d - 1, by omega⟩
  exact ver_ok (PRd_k hU) hG (by omega) rfl (rLLh_ok hU) (fun _ _ _ h => by cases h) (fun _ _ h => by cases h) v_213
theorem k_214 {D d : Nat} (hU : uqG G C) (hG : ∀ k, k < 132 → G k = 300 + k) (hN : ∀ x g, sbN x = some g → G x = g) (hd : 12 ≤ d) : ctrOK (PRd C D xs) G rgs (wpM mDf mt d) 227 c_214 := by
  obtain ⟨e, rfl⟩ : ∃ e, d = e + 1 := ⟨d - 1, by omega⟩
  exact ver_ok (PRd_k hU) hG (by omega) rfl (rLLh_ok hU) (lkCL_ok (by
    simp only [List.forall_mem_cons]
    exact ⟨⟨rfl, k_212 hU hG hN (by omega)⟩, ⟨rfl, k_213 hU hG hN (by omega)⟩, fun _ h => absurd h List.not_mem_nil⟩)) (fun _ _ h => by cases h) v_214
theorem k_215 {D d : Nat} (hU : uqG G C) (hG : ∀ k, k < 132 → G k = 300 + k) (hN : ∀ x g, sbN x = some g → G x = g) (hd : 8 ≤ d) : ctrOK (PRd C D xs) G rgs (wpM mDf mt d) 231 c_215 := by
  obtain ⟨e, rfl⟩ : ∃ e, d = e + 1 := ⟨d - 1, by omega⟩
  exact ver_ok (PRd_k hU) hG (by omega) rfl (rLLh_ok hU) (lkCL_ok (by
    simp only [List.forall_mem_cons]
    exact ⟨⟨rfl, k_202 hU hG hN (by omega)⟩, ⟨rfl, k_211 hU hG hN (by omega)⟩, ⟨rfl, k_213 hU hG hN (by omega)⟩, fun _ h => absurd h List.not_mem_nil⟩)) (fun _ _ h => by cases h) v_215
theorem k_216 {D d : Nat} (hU : uqG G C) (hG : ∀ k, k < 132 → G k = 300 + k) (hN : ∀ x g, sbN x = some g → G x = g) (hd : 6 ≤ d) : ctrOK (PRd C D xs) G rgs (wpM mDf mt d) 42 c_216 := by
  obtain ⟨e, rfl⟩ : ∃ e, d = e + 1 := ⟨d - 1, by omega⟩
  exact ver_ok (PRd_k hU) hG (by omega) rfl (rLLh_ok hU) (fun _ _ _ h => by cases h) (fun _ _ h => by cases h) v_216
theorem k_217 {D d : Nat} (hU : uqG G C) (hG : ∀ k, k < 132 → G k = 300 + k) (hN : ∀ x g, sbN x = some g → G x = g) (hd : 7 ≤ d) : ctrOK (PRd C D xs) G rgs (wpM mDf mt d) 41 c_217 := by
  obtain ⟨e, rfl⟩ : ∃ e, d = e + 1 := ⟨d - 1, by omega⟩
  exact ver_ok (PRd_k hU) hG (by omega) rfl (rLLh_ok hU) (lkCL_ok (by
    simp only [List.forall_mem_cons]
    exact ⟨⟨rfl, k_216 hU hG hN (by omega)⟩, fun _ h => absurd h List.not_mem_nil⟩)) (fun _ _ h => by cases h) v_217
theorem k_218 {D d : Nat} (hU : uqG G C) (hG : ∀ k, k < 132 → G k = 300 + k) (hN : ∀ x g, sbN x = some g → G x = g) (hd : 6 ≤ d) : ctrOK (PRd C D xs) G rgs (wpM mDf mt d) 40 c_218 := by
  obtain ⟨e, rfl⟩ : ∃ e, d = e + 1 := ⟨d - 1, by omega⟩
  exact ver_ok (PRd_k hU) hG (by omega) rfl (rLLh_ok hU) (fun _ _ _ h => by cases h) (fun _ _ h => by cases h) v_218
theorem k_219 {D d : Nat} (hU : uqG G C) (hG : ∀ k, k < 132 → G k = 300 + k) (hN : ∀ x g, sbN x = some g → G x = g) (hd : 8 ≤ d) : ctrOK (PRd C D xs) G rgs (wpM mDf mt d) 51 c_219 := by
  obtain ⟨e, rfl⟩ : ∃ e, d = e + 1 := ⟨d - 1, by omega⟩
  exact ver_ok (PRd_k hU) hG (by omega) rfl (rLLh_ok hU) (lkCL_ok (by
    simp only [List.forall_mem_cons]
    exact ⟨⟨rfl, k_26 hU hG hN (by omega)⟩, fun _ h => absurd h List.not_mem_nil⟩)) (fun _ _ h => by cases h) v_219
theorem k_220 {D d : Nat} (hU : uqG G C) (hG : ∀ k, k < 132 → G k = 300 + k) (hN : ∀ x g, sbN x = some g → G x = g) (hd : 9 ≤ d) : ctrOK (PRd C D xs) G rgs (wpM mDf mt d) 50 c_220 := by
  obtain ⟨e, rfl⟩ : ∃ e, d = e + 1 := ⟨d - 1, by omega⟩
  exact ver_ok (PRd_k hU) hG (by omega) rfl (rLLh_ok hU) (lkCL_ok (by
    simp only [List.forall_mem_cons]
    exact ⟨⟨rfl, k_218 hU hG hN (by omega)⟩, ⟨rfl, k_219 hU hG hN (by omega)⟩, fun _ h => absurd h List.not_mem_nil⟩)) (fun _ _ h => by cases h) v_220
theorem k_221 {D d : Nat} (hU : uqG G C) (hG : ∀ k, k < 132 → G k = 300 + k) (hN : ∀ x g, sbN x = some g → G x = g) (hd : 10 ≤ d) : ctrOK (PRd C D xs) G rgs (wpM mDf mt d) 229 c_221 := by
  obtain ⟨e, rfl⟩ : ∃ e, d = e + 1 := ⟨d - 1, by omega⟩
  exact ver_ok (PRd_k hU) hG (by omega) rfl (rLLh_ok hU) (lkCL_ok (by
    simp only [List.forall_mem_cons]
    exact ⟨⟨rfl, k_217 hU hG hN (by omega)⟩, ⟨rfl, k_220 hU hG hN (by omega)⟩, fun _ h => absurd h List.not_mem_nil⟩)) (fun _ _ h => by cases h) v_221
theorem k_222 {D d : Nat} (hU : uqG G C) (hG : ∀ k, k < 132 → G k = 300 + k) (hN : ∀ x g, sbN x = some g → G x = g) (hd : 11 ≤ d) : ctrOK (PRd C D xs) G rgs (wpM mDf mt d) 228 c_222 := by
  obtain ⟨e, rfl⟩ : ∃ e, d = e + 1 := ⟨d - 1, by omega⟩
  exact ver_ok (PRd_k hU) hG (by omega) rfl (rLLh_ok hU) (lkCL_ok (by
    simp only [List.forall_mem_cons]
    exact ⟨⟨rfl, k_211 hU hG hN (by omega)⟩, ⟨rfl, k_221 hU hG hN (by omega)⟩, fun _ h => absurd h List.not_mem_nil⟩)) (fun _ _ h => by cases h) v_222
theorem k_223 {D d : Nat} (hU : uqG G C) (hG : ∀ k, k < 132 → G k = 300 + k) (hN : ∀ x g, sbN x = some g → G x = g) (hd : 12 ≤ d) : ctrOK (PRd C D xs) G rgs (wpM mDf mt d) 227 c_223 := by
  obtain ⟨e, rfl⟩ : ∃ e, d = e + 1 := ⟨d - 1, by omega⟩
  exact ver_ok (PRd_k hU) hG (by omega) rfl (rLLh_ok hU) (lkCL_ok (by
    simp only [List.forall_mem_cons]
    exact ⟨⟨rfl, k_213 hU hG hN (by omega)⟩, ⟨rfl, k_222 hU hG hN (by omega)⟩, fun _ h => absurd h List.not_mem_nil⟩)) (fun _ _ h => by cases h) v_223
theorem k_224 {D d : Nat} (hU : uqG G C) (hG : ∀ k, k < 132 → G k = 300 + k) (hN : ∀ x g, sbN x = some g → G x = g) (hd : 13 ≤ d) : ctrOK (PRd C D xs) G rgs (wpM mDf mt d) 232 c_224 := by
  obtain ⟨e, rfl⟩ : ∃ e, d = e + 1 := ⟨d - 1, by omega⟩
  exact ver_ok (PRd_k hU) hG (by omega) rfl (rLLh_ok hU) (lkCL_ok (by
    simp only [List.forall_mem_cons]
    exact ⟨⟨rfl, k_215 hU hG hN (by omega)⟩, ⟨rfl, k_223 hU hG hN (by omega)⟩, fun _ h => absurd h List.not_mem_nil⟩)) (fun _ _ h => by cases h) v_224
theorem k_225 {D d : Nat} (hU : uqG G C) (hG : ∀ k, k < 132 → G k = 300 + k) (hN : ∀ x g, sbN x = some g → G x = g) (hd : 6 ≤ d) : ctrOK (PRd C D xs) G rgs (wpM mDf mt d) 42 c_225 := by
  obtain ⟨e, rfl⟩ : ∃ e, d = e + 1 := ⟨d - 1, by omega⟩
  exact ver_ok (PRd_k hU) hG (by omega) rfl (rLLh_ok hU) (fun _ _ _ h => by cases h) (fun _ _ h => by cases h) v_225
theorem k_226 {D d : Nat} (hU : uqG G C) (hG : ∀ k, k < 132 → G k = 300 + k) (hN : ∀ x g, sbN x = some g → G x = g) (hd : 7 ≤ d) : ctrOK (PRd C D xs) G rgs (wpM mDf mt d) 41 c_226 := by
  obtain ⟨e, rfl⟩ : ∃ e, d = e + 1 := ⟨d - 1, by omega⟩
  exact ver_ok (PRd_k hU) hG (by omega) rfl (rLLh_ok hU) (lkCL_ok (by
    simp only [List.forall_mem_cons]
    exact ⟨⟨rfl, k_225 hU hG hN (by omega)⟩, fun _ h => absurd h List.not_mem_nil⟩)) (fun _ _ h => by cases h) v_226
theorem k_227 {D d : Nat} (hU : uqG G C) (hG : ∀ k, k < 132 → G k = 300 + k) (hN : ∀ x g, sbN x = some g → G x = g) (hd : 6 ≤ d) : ctrOK (PRd C D xs) G rgs (wpM mDf mt d) 40 c_227 := by
  obtain ⟨e, rfl⟩ : ∃ e, d = e + 1 := ⟨d - 1, by omega⟩
  exact ver_ok (PRd_k hU) hG (by omega) rfl (rLLh_ok hU) (fun _ _ _ h => by cases h) (fun _ _ h => by cases h) v_227
theorem k_228 {D d : Nat} (hU : uqG G C) (hG : ∀ k, k < 132 → G k = 300 + k) (hN : ∀ x g, sbN x = some g → G x = g) (hd : 8 ≤ d) : ctrOK (PRd C D xs) G rgs (wpM mDf mt d) 51 c_228 := by
  obtain ⟨e, rfl⟩ : ∃ e, d = e + 1 := ⟨d - 1, by omega⟩
  exact ver_ok (PRd_k hU) hG (by omega) rfl (rLLh_ok hU) (lkCL_ok (by
    simp only [List.forall_mem_cons]
    exact ⟨⟨rfl, k_26 hU hG hN (by omega)⟩, fun _ h => absurd h List.not_mem_nil⟩)) (fun _ _ h => by cases h) v_228
theorem k_229 {D d : Nat} (hU : uqG G C) (hG : ∀ k, k < 132 → G k = 300 + k) (hN : ∀ x g, sbN x = some g → G x = g) (hd : 9 ≤ d) : ctrOK (PRd C D xs) G rgs (wpM mDf mt d) 50 c_229 := by
  obtain ⟨e, rfl⟩ : ∃ e, d = e + 1 := ⟨d - 1, by omega⟩
  exact ver_ok (PRd_k hU) hG (by omega) rfl (rLLh_ok hU) (lkCL_ok (by
    simp only [List.forall_mem_cons]
    exact ⟨⟨rfl, k_227 hU hG hN (by omega)⟩, ⟨rfl, k_228 hU hG hN (by omega)⟩, fun _ h => absurd h List.not_mem_nil⟩)) (fun _ _ h => by cases h) v_229
theorem k_230 {D d : Nat} (hU : uqG G C) (hG : ∀ k, k < 132 → G k = 300 + k) (hN : ∀ x g, sbN x = some g → G x = g) (hd : 10 ≤ d) : ctrOK (PRd C D xs) G rgs (wpM mDf mt d) 229 c_230 := by
  obtain ⟨e, rfl⟩ : ∃ e, d = e + 1 := ⟨d - 1, by omega⟩
  exact ver_ok (PRd_k hU) hG (by omega) rfl (rLLh_ok hU) (lkCL_ok (by
    simp only [List.forall_mem_cons]
    exact ⟨⟨rfl, k_226 hU hG hN (by omega)⟩, ⟨rfl, k_229 hU hG hN (by omega)⟩, fun _ h => absurd h List.not_mem_nil⟩)) (fun _ _ h => by cases h) v_230
theorem k_231 {D d : Nat} (hU : uqG G C) (hG : ∀ k, k < 132 → G k = 300 + k) (hN : ∀ x g, sbN x = some g → G x = g) (hd : 11 ≤ d) : ctrOK (PRd C D xs) G rgs (wpM mDf mt d) 228 c_231 := by
  obtain ⟨e, rfl⟩ : ∃ e, d = e + 1 := ⟨d - 1, by omega⟩
  exact ver_ok (PRd_k hU) hG (by omega) rfl (rLLh_ok hU) (lkCL_ok (by
    simp only [List.forall_mem_cons]
    exact ⟨⟨rfl, k_211 hU hG hN (by omega)⟩, ⟨rfl, k_230 hU hG hN (by omega)⟩, fun _ h => absurd h List.not_mem_nil⟩)) (fun _ _ h => by cases h) v_231
theorem k_232 {D d : Nat} (hU : uqG G C) (hG : ∀ k, k < 132 → G k = 300 + k) (hN : ∀ x g, sbN x = some g → G x = g) (hd : 12 ≤ d) : ctrOK (PRd C D xs) G rgs (wpM mDf mt d) 227 c_232 := by
  obtain ⟨e, rfl⟩ : ∃ e, d = e + 1 := ⟨d - 1, by omega⟩
  exact ver_ok (PRd_k hU) hG (by omega) rfl (rLLh_ok hU) (lkCL_ok (by
    simp only [List.forall_mem_cons]
    exact ⟨⟨rfl, k_213 hU hG hN (by omega)⟩, ⟨rfl, k_231 hU hG hN (by omega)⟩, fun _ h => absurd h List.not_mem_nil⟩)) (fun _ _ h => by cases h) v_232
theorem k_233 {D d : Nat} (hU : uqG G C) (hG : ∀ k, k < 132 → G k = 300 + k) (hN : ∀ x g, sbN x = some g → G x = g) (hd : 13 ≤ d) : ctrOK (PRd C D xs) G rgs (wpM mDf mt d) 232 c_233 := by
  obtain ⟨e, rfl⟩ : ∃ e, d = e + 1 := ⟨d - 1, by omega⟩
  exact ver_ok (PRd_k hU) hG (by omega) rfl (rLLh_ok hU) (lkCL_ok (by
    simp only [List.forall_mem_cons]
    exact ⟨⟨rfl, k_215 hU hG hN (by omega)⟩, ⟨rfl, k_232 hU hG hN (by omega)⟩, fun _ h => absurd h List.not_mem_nil⟩)) (fun _ _ h => by cases h) v_233
theorem k_234 {D d : Nat} (hU : uqG G C) (hG : ∀ k, k < 132 → G k = 300 + k) (hN : ∀ x g, sbN x = some g → G x = g) (hd : 6 ≤ d) : ctrOK (PRd C D xs) G rgs (wpM mDf mt d) 42 c_234 := by
  obtain ⟨e, rfl⟩ : ∃ e, d = e + 1 := ⟨d - 1, by omega⟩
  exact ver_ok (PRd_k hU) hG (by omega) rfl (rLLh_ok hU) (fun _ _ _ h => by cases h) (fun _ _ h => by cases h) v_234
theorem k_235 {D d : Nat} (hU : uqG G C) (hG : ∀ k, k < 132 → G k = 300 + k) (hN : ∀ x g, sbN x = some g → G x = g) (hd : 7 ≤ d) : ctrOK (PRd C D xs) G rgs (wpM mDf mt d) 41 c_235 := by
  obtain ⟨e, rfl⟩ : ∃ e, d = e + 1 := ⟨d - 1, by omega⟩
  exact ver_ok (PRd_k hU) hG (by omega) rfl (rLLh_ok hU) (lkCL_ok (by
    simp only [List.forall_mem_cons]
    exact ⟨⟨rfl, k_234 hU hG hN (by omega)⟩, fun _ h => absurd h List.not_mem_nil⟩)) (fun _ _ h => by cases h) v_235
theorem k_236 {D d : Nat} (hU : uqG G C) (hG : ∀ k, k < 132 → G k = 300 + k) (hN : ∀ x g, sbN x = some g → G x = g) (hd : 6 ≤ d) : ctrOK (PRd C D xs) G rgs (wpM mDf mt d) 40 c_236 := by
  obtain ⟨e, rfl⟩ : ∃ e, d = e + 1 := ⟨d - 1, by omega⟩
  exact ver_ok (PRd_k hU) hG (by omega) rfl (rLLh_ok hU) (fun _ _ _ h => by cases h) (fun _ _ h => by cases h) v_236
theorem k_237 {D d : Nat} (hU : uqG G C) (hG : ∀ k, k < 132 → G k = 300 + k) (hN : ∀ x g, sbN x = some g → G x = g) (hd : 8 ≤ d) : ctrOK (PRd C D xs) G rgs (wpM mDf mt d) 51 c_237 := by
  obtain ⟨e, rfl⟩ : ∃ e, d = e + 1 := ⟨d - 1, by omega⟩
  exact ver_ok (PRd_k hU) hG (by omega) rfl (rLLh_ok hU) (lkCL_ok (by
    simp only [List.forall_mem_cons]
    exact ⟨⟨rfl, k_26 hU hG hN (by omega)⟩, fun _ h => absurd h List.not_mem_nil⟩)) (fun _ _ h => by cases h) v_237
theorem k_238 {D d : Nat} (hU : uqG G C) (hG : ∀ k, k < 132 → G k = 300 + k) (hN : ∀ x g, sbN x = some g → G x = g) (hd : 9 ≤ d) : ctrOK (PRd C D xs) G rgs (wpM mDf mt d) 50 c_238 := by
  obtain ⟨e, rfl⟩ : ∃ e, d = e + 1 := ⟨d - 1, by omega⟩
  exact ver_ok (PRd_k hU) hG (by omega) rfl (rLLh_ok hU) (lkCL_ok (by
    simp only [List.forall_mem_cons]
    exact ⟨⟨rfl, k_236 hU hG hN (by omega)⟩, ⟨rfl, k_237 hU hG hN (by omega)⟩, fun _ h => absurd h List.not_mem_nil⟩)) (fun _ _ h => by cases h) v_238
theorem k_239 {D d : Nat} (hU : uqG G C) (hG : ∀ k, k < 132 → G k = 300 + k) (hN : ∀ x g, sbN x = some g → G x = g) (hd : 10 ≤ d) : ctrOK (PRd C D xs) G rgs (wpM mDf mt d) 229 c_239 := by
  obtain ⟨e, rfl⟩ : ∃ e, d = e + 1 := ⟨d - 1, by omega⟩
  exact ver_ok (PRd_k hU) hG (by omega) rfl (rLLh_ok hU) (lkCL_ok (by
    simp only [List.forall_mem_cons]
    exact ⟨⟨rfl, k_235 hU hG hN (by omega)⟩, ⟨rfl, k_238 hU hG hN (by omega)⟩, fun _ h => absurd h List.not_mem_nil⟩)) (fun _ _ h => by cases h) v_239
end
