section P1E
theorem ops_all (k : Nat) (hk : k < 64) : ∃ ks, opsOK 6 ks = true ∧ k ∈ ks := by
  have h : (0 ≤ k ∧ k < 1) ∨ (1 ≤ k ∧ k < 2) ∨ (2 ≤ k ∧ k < 16) ∨ (16 ≤ k ∧ k < 22) ∨ (22 ≤ k ∧ k < 28) ∨ (28 ≤ k ∧ k < 34) ∨ (34 ≤ k ∧ k < 40) ∨ (40 ≤ k ∧ k < 46) ∨ (46 ≤ k ∧ k < 52) ∨ (52 ≤ k ∧ k < 58) ∨ (58 ≤ k ∧ k < 64) := by omega
  rcases h with h | h | h | h | h | h | h | h | h | h | h
  · exact ⟨_, o_0, List.mem_range'_1.mpr ⟨h.1, h.2⟩⟩
  · exact ⟨_, o_1, List.mem_range'_1.mpr ⟨h.1, h.2⟩⟩
  · exact ⟨_, o_2, List.mem_range'_1.mpr ⟨h.1, h.2⟩⟩
  · exact ⟨_, o_3, List.mem_range'_1.mpr ⟨h.1, h.2⟩⟩
  · exact ⟨_, o_4, List.mem_range'_1.mpr ⟨h.1, h.2⟩⟩
  · exact ⟨_, o_5, List.mem_range'_1.mpr ⟨h.1, h.2⟩⟩
  · exact ⟨_, o_6, List.mem_range'_1.mpr ⟨h.1, h.2⟩⟩
  · exact ⟨_, o_7, List.mem_range'_1.mpr ⟨h.1, h.2⟩⟩
  · exact ⟨_, o_8, List.mem_range'_1.mpr ⟨h.1, h.2⟩⟩
  · exact ⟨_, o_9, List.mem_range'_1.mpr ⟨h.1, h.2⟩⟩
  · exact ⟨_, o_10, List.mem_range'_1.mpr ⟨h.1, h.2⟩⟩
theorem law_pure {L : Nat} (hL : L ≤ 6) (f : Nat → Int32) : run (some (65, L, f)) mDf mt (wpM mDf mt 1999) m_law 1999 (2 ^ 40) 0 [(0, .ref 65)] [] h00 0 0 lwPost := by
  by_cases h6 : L < 6
  · exact law_short h6
  · obtain rfl : L = 6 := by omega
    obtain ⟨k, hk, he⟩ := and63 (f 0)
    obtain ⟨ks, h1, h2⟩ := ops_all k hk
    exact of_ops (Nat.le_refl 6) h1 h2 (fun _ => he)
end P1E
