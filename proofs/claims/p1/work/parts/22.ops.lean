/-! The law on a new object: each of its 64 cases on every script that fits. -/
section P1
variable {f : Nat → Int32}
def svT (j : Nat) : Value := .retAddr (1000 + j)
def postL : mPb := fun e v _ _ => match e, v with
  | none, some (.int x) => decide (x = 1)
  | _, _ => false
def opsOK (L : Nat) (ks : List Nat) : Bool := ks.all fun k => runB (some (65, L, svT, Int32.ofNat k)) mDf mt (wpB mDf mt 40000 30) m_law postL 1000 0 [(0, .ref 65)] [] (66, []) 0 0 []
theorem rD_0 : rD (66, []) h00 := by
  unfold rD
  refine ⟨by simp [h00], fun x => ?_⟩
  dsimp only
  by_cases hx : x < 66
  · rw [show gj [] x = some (.inl (999, 0, .inl fun _ => 0)) from if_pos hx]
    dsimp only
    rw [if_pos (by decide)]
    unfold h00
    rw [List.getElem?_replicate, if_pos hx]
  · rw [show gj [] x = none from if_neg hx]
    dsimp only
    unfold h00
    rw [List.getElem?_replicate, if_neg hx]
theorem pOK_L : pOK f postL lwPost := by
  intro e v j K hp _ _ h _
  unfold postL at hp
  split at hp
  next x => exact ⟨rfl, by rw [of_decide_eq_true hp]⟩
  next => cases hp
theorem of_ops {L : Nat} {ks : List Nat} (hL : L ≤ 6) (ho : opsOK L ks = true) {k : Nat} (hk : k ∈ ks) (hf : 6 ≤ L → f 0 &&& 63 = Int32.ofNat k) : run (some (65, L, f)) mDf mt (wpM mDf mt 1999) m_law 1999 (2 ^ 40) 0 [(0, .ref 65)] [] h00 0 0 lwPost := by
  have h1 := List.all_eq_true.mp ho k hk
  have hs : scR f (some (65, L, svT, Int32.ofNat k)) (some (65, L, f)) := ⟨rfl, rfl, fun j hj => ⟨by
    unfold svT
    rw [sg_t (by omega), Nat.add_sub_cancel_left], by simp only [svT, nS, decide_eq_true_eq]; omega⟩, hf⟩
  exact runB_ok (wpB_ok (Nat.le_of_ble_eq_true rfl) 30 1999 (by omega)) (by omega) 1000 hs pOK_L h1 (fun q hq => by cases hq) h00 rD_0 (2 ^ 40) (Nat.le_of_ble_eq_true rfl)
theorem and63 (x : Int32) : ∃ k, k < 64 ∧ x &&& 63 = Int32.ofNat k := by
  refine ⟨(x &&& 63).toBitVec.toNat, ?_, ?_⟩
  · show (x.toBitVec &&& (63 : Int32).toBitVec).toNat < 64
    rw [BitVec.toNat_and]
    exact Nat.lt_of_le_of_lt Nat.and_le_right (by decide)
  · apply Int32.toBitVec_inj.mp
    show _ = BitVec.ofNat 32 _
    simp
theorem o_s : (List.range 6).all (fun L => opsOK L [0]) = true := by decide +kernel
theorem law_short {L : Nat} (hL : L < 6) : run (some (65, L, f)) mDf mt (wpM mDf mt 1999) m_law 1999 (2 ^ 40) 0 [(0, .ref 65)] [] h00 0 0 lwPost :=
  of_ops (by omega) (ks := [0]) (List.all_eq_true.mp o_s L (List.mem_range.mpr hL)) (List.mem_singleton.mpr rfl) (fun h => absurd h (by omega))
end P1
