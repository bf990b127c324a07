section LMS
variable {G C : Nat → Nat} {h : mH} {D : Nat} {xs : Nat → Int32}
/-- split0 -/
theorem lem_0_ok (hU : uqG G C) : lem_0.1.2.1 = [] ∧ lemOK (PRd G C D xs) G rgs lem_0 := by
  refine ⟨rfl, fun ρ h ha hT => ?_⟩
  obtain ⟨-, -, hF, hG, hH, hA, hP⟩ := ha
  rcases (by omega : ρ 0 ≤ 0 ∨ 1 ≤ ρ 0) with hc | hc
  · refine ⟨_, List.mem_cons_self, ρ, fun _ _ => rfl, fun q hq => absurd hq List.not_mem_nil, trivial, fun f hf => ?_, fun q hq => absurd hq List.not_mem_nil, fun q hq => absurd hq List.not_mem_nil, fun q hq => absurd hq List.not_mem_nil, fun q hq => ?_⟩
    · simp only [List.mem_cons, List.not_mem_nil, or_false] at hf
      subst hf
      show (0 : Int) ≤ ((0) + ((-1) * ρ 0 + 0))
      omega
    · exact absurd hq List.not_mem_nil
  · refine ⟨_, (List.mem_cons_of_mem _ List.mem_cons_self), ρ, fun _ _ => rfl, fun q hq => absurd hq List.not_mem_nil, trivial, fun f hf => ?_, fun q hq => absurd hq List.not_mem_nil, fun q hq => absurd hq List.not_mem_nil, fun q hq => absurd hq List.not_mem_nil, fun q hq => ?_⟩
    · simp only [List.mem_cons, List.not_mem_nil, or_false] at hf
      subst hf
      show (0 : Int) ≤ ((-1) + ((1) * ρ 0 + 0))
      omega
    · exact absurd hq List.not_mem_nil
/-- noErr -/
theorem lem_1_ok (hU : uqG G C) : lem_1.1.2.1 = [] ∧ lemOK (PRd G C D xs) G rgs lem_1 := by
  refine ⟨rfl, fun ρ h ha hT => ?_⟩
  obtain ⟨-, -, hF, hG, hH, hA, hP⟩ := ha
  have f0 : (0 : Int) ≤ ((-1) + ((1) * ρ 1 + 0)) := hF _ (List.mem_of_getElem? (i := 0) rfl)
  have f1 : (0 : Int) ≤ ((0) + ((-1) * ρ 1 + 0)) := hF _ (List.mem_of_getElem? (i := 1) rfl)
  exact absurd f0 (by omega)
/-- empty40 -/
theorem lem_2_ok (hU : uqG G C) : lem_2.1.2.1 = [] ∧ lemOK (PRd G C D xs) G rgs lem_2 := by
  refine ⟨rfl, fun ρ h ha hT => ?_⟩
  obtain ⟨-, -, hF, hG, hH, hA, hP⟩ := ha
  refine ⟨_, List.mem_cons_self, ρ, fun _ _ => rfl, fun q hq => absurd hq List.not_mem_nil, trivial, fun f hf => ?_, fun q hq => absurd hq List.not_mem_nil, fun q hq => absurd hq List.not_mem_nil, fun q hq => absurd hq List.not_mem_nil, fun q hq => ?_⟩
  · exact absurd hf List.not_mem_nil
  · simp only [List.mem_cons, List.not_mem_nil, or_false] at hq
    subst hq
    show GDv (vw C h) 118 123 1777 ((0) + ((1) * ρ 0 + 0)) ((0) + 0)
    exact GD_no (by omega)
/-- empty41 -/
theorem lem_3_ok (hU : uqG G C) : lem_3.1.2.1 = [] ∧ lemOK (PRd G C D xs) G rgs lem_3 := by
  refine ⟨rfl, fun ρ h ha hT => ?_⟩
  obtain ⟨-, -, hF, hG, hH, hA, hP⟩ := ha
  refine ⟨_, List.mem_cons_self, ρ, fun _ _ => rfl, fun q hq => absurd hq List.not_mem_nil, trivial, fun f hf => ?_, fun q hq => absurd hq List.not_mem_nil, fun q hq => absurd hq List.not_mem_nil, fun q hq => absurd hq List.not_mem_nil, fun q hq => ?_⟩
  · exact absurd hf List.not_mem_nil
  · simp only [List.mem_cons, List.not_mem_nil, or_false] at hq
    subst hq
    show GDv (vw C h) 119 123 1777 ((0) + ((1) * ρ 0 + 0)) ((0) + 0)
    exact GD_no (by omega)
/-- empty42 -/
theorem lem_4_ok (hU : uqG G C) : lem_4.1.2.1 = [] ∧ lemOK (PRd G C D xs) G rgs lem_4 := by
  refine ⟨rfl, fun ρ h ha hT => ?_⟩
  obtain ⟨-, -, hF, hG, hH, hA, hP⟩ := ha
  refine ⟨_, List.mem_cons_self, ρ, fun _ _ => rfl, fun q hq => absurd hq List.not_mem_nil, trivial, fun f hf => ?_, fun q hq => absurd hq List.not_mem_nil, fun q hq => absurd hq List.not_mem_nil, fun q hq => absurd hq List.not_mem_nil, fun q hq => ?_⟩
  · exact absurd hf List.not_mem_nil
  · simp only [List.mem_cons, List.not_mem_nil, or_false] at hq
    subst hq
    show GDv (vw C h) 121 123 10662 ((0) + ((1) * ρ 0 + 0)) ((0) + 0)
    exact GD_no (by omega)
/-- empty43 -/
theorem lem_5_ok (hU : uqG G C) : lem_5.1.2.1 = [] ∧ lemOK (PRd G C D xs) G rgs lem_5 := by
  refine ⟨rfl, fun ρ h ha hT => ?_⟩
  obtain ⟨-, -, hF, hG, hH, hA, hP⟩ := ha
  refine ⟨_, List.mem_cons_self, ρ, fun _ _ => rfl, fun q hq => absurd hq List.not_mem_nil, trivial, fun f hf => ?_, fun q hq => absurd hq List.not_mem_nil, fun q hq => absurd hq List.not_mem_nil, fun q hq => absurd hq List.not_mem_nil, fun q hq => ?_⟩
  · exact absurd hf List.not_mem_nil
  · simp only [List.mem_cons, List.not_mem_nil, or_false] at hq
    subst hq
    show GDv (vw C h) 122 123 3554 ((0) + ((1) * ρ 0 + 0)) ((0) + 0)
    exact GD_no (by omega)
/-- empty44 -/
theorem lem_6_ok (hU : uqG G C) : lem_6.1.2.1 = [] ∧ lemOK (PRd G C D xs) G rgs lem_6 := by
  refine ⟨rfl, fun ρ h ha hT => ?_⟩
  obtain ⟨-, -, hF, hG, hH, hA, hP⟩ := ha
  refine ⟨_, List.mem_cons_self, ρ, fun _ _ => rfl, fun q hq => absurd hq List.not_mem_nil, trivial, fun f hf => ?_, fun q hq => absurd hq List.not_mem_nil, fun q hq => absurd hq List.not_mem_nil, fun q hq => absurd hq List.not_mem_nil, fun q hq => ?_⟩
  · exact absurd hf List.not_mem_nil
  · simp only [List.mem_cons, List.not_mem_nil, or_false] at hq
    subst hq
    show GDv (vw C h) 120 124 1777 ((0) + ((1) * ρ 0 + 0)) ((0) + 0)
    exact GD_no (by omega)
/-- empty45 -/
theorem lem_7_ok (hU : uqG G C) : lem_7.1.2.1 = [] ∧ lemOK (PRd G C D xs) G rgs lem_7 := by
  refine ⟨rfl, fun ρ h ha hT => ?_⟩
  obtain ⟨-, -, hF, hG, hH, hA, hP⟩ := ha
  refine ⟨_, List.mem_cons_self, ρ, fun _ _ => rfl, fun q hq => absurd hq List.not_mem_nil, trivial, fun f hf => ?_, fun q hq => absurd hq List.not_mem_nil, fun q hq => absurd hq List.not_mem_nil, fun q hq => absurd hq List.not_mem_nil, fun q hq => ?_⟩
  · exact absurd hf List.not_mem_nil
  · simp only [List.mem_cons, List.not_mem_nil, or_false] at hq
    subst hq
    show GDv (vw C h) 118 124 1777 ((0) + ((1) * ρ 0 + 0)) ((0) + 0)
    exact GD_no (by omega)
/-- empty43x -/
theorem lem_8_ok (hU : uqG G C) : lem_8.1.2.1 = [] ∧ lemOK (PRd G C D xs) G rgs lem_8 := by
  refine ⟨rfl, fun ρ h ha hT => ?_⟩
  obtain ⟨-, -, hF, hG, hH, hA, hP⟩ := ha
  refine ⟨_, List.mem_cons_self, ρ, fun _ _ => rfl, fun q hq => absurd hq List.not_mem_nil, trivial, fun f hf => ?_, fun q hq => absurd hq List.not_mem_nil, fun q hq => absurd hq List.not_mem_nil, fun q hq => absurd hq List.not_mem_nil, fun q hq => ?_⟩
  · exact absurd hf List.not_mem_nil
  · simp only [List.mem_cons, List.not_mem_nil, or_false] at hq
    subst hq
    show GDv (vw C h) 122 123 3554 ((0) + ((1777) * ρ 0 + 0)) ((0) + 0)
    exact GD_no (by omega)
/-- extWork -/
theorem lem_9_ok (hU : uqG G C) : lem_9.1.2.1 = [] ∧ lemOK (PRd G C D xs) G rgs lem_9 := by
  refine ⟨rfl, fun ρ h ha hT => ?_⟩
  obtain ⟨-, -, hF, hG, hH, hA, hP⟩ := ha
  have f0 : (0 : Int) ≤ ((0) + ((1) * ρ 3 + 0)) := hF _ (List.mem_of_getElem? (i := 0) rfl)
  have f1 : (0 : Int) ≤ ((1776) + ((-1) * ρ 3 + 0)) := hF _ (List.mem_of_getElem? (i := 1) rfl)
  have f2 : (0 : Int) ≤ ((0) + ((1) * ρ 2 + 0)) := hF _ (List.mem_of_getElem? (i := 2) rfl)
  have g1 : G (ρ 1).toNat = 119 := by
    have q := (hG _ (List.mem_of_getElem? (i := 1) rfl)).2
    rwa [show ev ρ (0, [(1, 1)]) = ρ 1 from ev_v] at q
  have g2 : G (ρ 4).toNat = 118 := by
    have q := (hG _ (List.mem_of_getElem? (i := 2) rfl)).2
    rwa [show ev ρ (0, [(4, 1)]) = ρ 4 from ev_v] at q
  have b0 : (0 : Int) ≤ ((0) + ((1777) * ρ 2 + ((1) * ρ 3 + 0))) := b_aA (hA _ (List.mem_of_getElem? (i := 0) rfl))
  have b1 : (0 : Int) ≤ ((0) + ((1) * ρ 3 + 0)) := b_aA (hA _ (List.mem_of_getElem? (i := 1) rfl))
  have a0 : vw C h 119 ((1777 * ρ 2 + ρ 3).toNat) = ρ 5 := vw_aA hU (hA _ (List.mem_of_getElem? (i := 0) rfl)) ev_v g1 (by omega) (by omega) (i := (1777 * ρ 2 + ρ 3).toNat) (show ((((1777 * ρ 2 + ρ 3).toNat : Nat)) : Int) = ((0) + ((1777) * ρ 2 + ((1) * ρ 3 + 0))) by omega) ev_v
  have a1 : vw C h 118 ((ρ 3).toNat) = ρ 5 := vw_aA hU (hA _ (List.mem_of_getElem? (i := 1) rfl)) ev_v g2 (by omega) (by omega) (i := (ρ 3).toNat) (show ((((ρ 3).toNat : Nat)) : Int) = ((0) + ((1) * ρ 3 + 0)) by omega) ev_v
  have p0 : GDv (vw C h) 118 123 1777 ((0) + 0) ((1777) + 0) := hP _ (List.mem_of_getElem? (i := 0) rfl)
  have p1 : GDv (vw C h) 119 123 1777 ((0) + 0) ((0) + ((1777) * ρ 2 + ((1) * ρ 3 + 0))) := hP _ (List.mem_of_getElem? (i := 1) rfl)
  refine ⟨_, List.mem_cons_self, ρ, fun _ _ => rfl, fun q hq => absurd hq List.not_mem_nil, trivial, fun f hf => ?_, fun q hq => absurd hq List.not_mem_nil, fun q hq => absurd hq List.not_mem_nil, fun q hq => absurd hq List.not_mem_nil, fun q hq => ?_⟩
  · exact absurd hf List.not_mem_nil
  · simp only [List.mem_cons, List.not_mem_nil, or_false] at hq
    subst hq
    show GDv (vw C h) 119 123 1777 ((0) + 0) ((1) + ((1777) * ρ 2 + ((1) * ρ 3 + 0)))
    exact GD_ext p1 p0 (i := (1777 * ρ 2 + ρ 3).toNat) (k := (ρ 3).toNat) (a0.trans a1.symm) (by omega) (by omega) (by omega) (by omega) (by omega) (by omega)
/-- extHist -/
theorem lem_10_ok (hU : uqG G C) : lem_10.1.2.1 = [] ∧ lemOK (PRd G C D xs) G rgs lem_10 := by
  refine ⟨rfl, fun ρ h ha hT => ?_⟩
  obtain ⟨-, -, hF, hG, hH, hA, hP⟩ := ha
  have f0 : (0 : Int) ≤ ((0) + ((1) * ρ 3 + 0)) := hF _ (List.mem_of_getElem? (i := 0) rfl)
  have f1 : (0 : Int) ≤ ((1776) + ((-1) * ρ 3 + 0)) := hF _ (List.mem_of_getElem? (i := 1) rfl)
  have f2 : (0 : Int) ≤ ((0) + ((1) * ρ 2 + 0)) := hF _ (List.mem_of_getElem? (i := 2) rfl)
  have g1 : G (ρ 1).toNat = 121 := by
    have q := (hG _ (List.mem_of_getElem? (i := 1) rfl)).2
    rwa [show ev ρ (0, [(1, 1)]) = ρ 1 from ev_v] at q
  have g2 : G (ρ 4).toNat = 118 := by
    have q := (hG _ (List.mem_of_getElem? (i := 2) rfl)).2
    rwa [show ev ρ (0, [(4, 1)]) = ρ 4 from ev_v] at q
  have b0 : (0 : Int) ≤ ((0) + ((1777) * ρ 2 + ((1) * ρ 3 + 0))) := b_aA (hA _ (List.mem_of_getElem? (i := 0) rfl))
  have b1 : (0 : Int) ≤ ((0) + ((1) * ρ 3 + 0)) := b_aA (hA _ (List.mem_of_getElem? (i := 1) rfl))
  have a0 : vw C h 121 ((1777 * ρ 2 + ρ 3).toNat) = ρ 5 := vw_aA hU (hA _ (List.mem_of_getElem? (i := 0) rfl)) ev_v g1 (by omega) (by omega) (i := (1777 * ρ 2 + ρ 3).toNat) (show ((((1777 * ρ 2 + ρ 3).toNat : Nat)) : Int) = ((0) + ((1777) * ρ 2 + ((1) * ρ 3 + 0))) by omega) ev_v
  have a1 : vw C h 118 ((ρ 3).toNat) = ρ 5 := vw_aA hU (hA _ (List.mem_of_getElem? (i := 1) rfl)) ev_v g2 (by omega) (by omega) (i := (ρ 3).toNat) (show ((((ρ 3).toNat : Nat)) : Int) = ((0) + ((1) * ρ 3 + 0)) by omega) ev_v
  have p0 : GDv (vw C h) 118 123 1777 ((0) + 0) ((1777) + 0) := hP _ (List.mem_of_getElem? (i := 0) rfl)
  have p1 : GDv (vw C h) 121 123 10662 ((0) + 0) ((0) + ((1777) * ρ 2 + ((1) * ρ 3 + 0))) := hP _ (List.mem_of_getElem? (i := 1) rfl)
  refine ⟨_, List.mem_cons_self, ρ, fun _ _ => rfl, fun q hq => absurd hq List.not_mem_nil, trivial, fun f hf => ?_, fun q hq => absurd hq List.not_mem_nil, fun q hq => absurd hq List.not_mem_nil, fun q hq => absurd hq List.not_mem_nil, fun q hq => ?_⟩
  · exact absurd hf List.not_mem_nil
  · simp only [List.mem_cons, List.not_mem_nil, or_false] at hq
    subst hq
    show GDv (vw C h) 121 123 10662 ((0) + 0) ((1) + ((1777) * ρ 2 + ((1) * ρ 3 + 0)))
    exact GD_ext p1 p0 (i := (1777 * ρ 2 + ρ 3).toNat) (k := (ρ 3).toNat) (a0.trans a1.symm) (by omega) (by omega) (by omega) (by omega) (by omega) (by omega)
/-- extStored -/
theorem lem_11_ok (hU : uqG G C) : lem_11.1.2.1 = [] ∧ lemOK (PRd G C D xs) G rgs lem_11 := by
  refine ⟨rfl, fun ρ h ha hT => ?_⟩
  obtain ⟨-, -, hF, hG, hH, hA, hP⟩ := ha
  have f0 : (0 : Int) ≤ ((0) + ((1) * ρ 3 + 0)) := hF _ (List.mem_of_getElem? (i := 0) rfl)
  have f1 : (0 : Int) ≤ ((1776) + ((-1) * ρ 3 + 0)) := hF _ (List.mem_of_getElem? (i := 1) rfl)
  have f2 : (0 : Int) ≤ ((0) + ((1) * ρ 2 + 0)) := hF _ (List.mem_of_getElem? (i := 2) rfl)
  have g1 : G (ρ 1).toNat = 122 := by
    have q := (hG _ (List.mem_of_getElem? (i := 1) rfl)).2
    rwa [show ev ρ (0, [(1, 1)]) = ρ 1 from ev_v] at q
  have g2 : G (ρ 4).toNat = 118 := by
    have q := (hG _ (List.mem_of_getElem? (i := 2) rfl)).2
    rwa [show ev ρ (0, [(4, 1)]) = ρ 4 from ev_v] at q
  have b0 : (0 : Int) ≤ ((0) + ((1777) * ρ 2 + ((1) * ρ 3 + 0))) := b_aA (hA _ (List.mem_of_getElem? (i := 0) rfl))
  have b1 : (0 : Int) ≤ ((0) + ((1) * ρ 3 + 0)) := b_aA (hA _ (List.mem_of_getElem? (i := 1) rfl))
  have a0 : vw C h 122 ((1777 * ρ 2 + ρ 3).toNat) = ρ 5 := vw_aA hU (hA _ (List.mem_of_getElem? (i := 0) rfl)) ev_v g1 (by omega) (by omega) (i := (1777 * ρ 2 + ρ 3).toNat) (show ((((1777 * ρ 2 + ρ 3).toNat : Nat)) : Int) = ((0) + ((1777) * ρ 2 + ((1) * ρ 3 + 0))) by omega) ev_v
  have a1 : vw C h 118 ((ρ 3).toNat) = ρ 5 := vw_aA hU (hA _ (List.mem_of_getElem? (i := 1) rfl)) ev_v g2 (by omega) (by omega) (i := (ρ 3).toNat) (show ((((ρ 3).toNat : Nat)) : Int) = ((0) + ((1) * ρ 3 + 0)) by omega) ev_v
  have p0 : GDv (vw C h) 118 123 1777 ((0) + 0) ((1777) + 0) := hP _ (List.mem_of_getElem? (i := 0) rfl)
  have p1 : GDv (vw C h) 122 123 3554 ((0) + ((1777) * ρ 2 + 0)) ((0) + ((1) * ρ 3 + 0)) := hP _ (List.mem_of_getElem? (i := 1) rfl)
  refine ⟨_, List.mem_cons_self, ρ, fun _ _ => rfl, fun q hq => absurd hq List.not_mem_nil, trivial, fun f hf => ?_, fun q hq => absurd hq List.not_mem_nil, fun q hq => absurd hq List.not_mem_nil, fun q hq => absurd hq List.not_mem_nil, fun q hq => ?_⟩
  · exact absurd hf List.not_mem_nil
  · simp only [List.mem_cons, List.not_mem_nil, or_false] at hq
    subst hq
    show GDv (vw C h) 122 123 3554 ((0) + ((1777) * ρ 2 + 0)) ((1) + ((1) * ρ 3 + 0))
    exact GD_ext p1 p0 (i := (1777 * ρ 2 + ρ 3).toNat) (k := (ρ 3).toNat) (a0.trans a1.symm) (by omega) (by omega) (by omega) (by omega) (by omega) (by omega)
/-- backHist -/
theorem lem_12_ok (hU : uqG G C) : lem_12.1.2.1 = [] ∧ lemOK (PRd G C D xs) G rgs lem_12 := by
  refine ⟨rfl, fun ρ h ha hT => ?_⟩
  obtain ⟨-, -, hF, hG, hH, hA, hP⟩ := ha
  have f0 : (0 : Int) ≤ ((0) + ((1) * ρ 3 + 0)) := hF _ (List.mem_of_getElem? (i := 0) rfl)
  have f1 : (0 : Int) ≤ ((1776) + ((-1) * ρ 3 + 0)) := hF _ (List.mem_of_getElem? (i := 1) rfl)
  have f2 : (0 : Int) ≤ ((0) + ((1) * ρ 2 + 0)) := hF _ (List.mem_of_getElem? (i := 2) rfl)
  have g1 : G (ρ 1).toNat = 121 := by
    have q := (hG _ (List.mem_of_getElem? (i := 1) rfl)).2
    rwa [show ev ρ (0, [(1, 1)]) = ρ 1 from ev_v] at q
  have g2 : G (ρ 4).toNat = 118 := by
    have q := (hG _ (List.mem_of_getElem? (i := 2) rfl)).2
    rwa [show ev ρ (0, [(4, 1)]) = ρ 4 from ev_v] at q
  have b0 : (0 : Int) ≤ ((0) + ((1777) * ρ 2 + ((1) * ρ 3 + 0))) := b_aA (hA _ (List.mem_of_getElem? (i := 0) rfl))
  have b1 : (0 : Int) ≤ ((0) + ((1) * ρ 3 + 0)) := b_aA (hA _ (List.mem_of_getElem? (i := 1) rfl))
  have a0 : vw C h 121 ((1777 * ρ 2 + ρ 3).toNat) = ρ 5 := vw_aA hU (hA _ (List.mem_of_getElem? (i := 0) rfl)) ev_v g1 (by omega) (by omega) (i := (1777 * ρ 2 + ρ 3).toNat) (show ((((1777 * ρ 2 + ρ 3).toNat : Nat)) : Int) = ((0) + ((1777) * ρ 2 + ((1) * ρ 3 + 0))) by omega) ev_v
  have a1 : vw C h 118 ((ρ 3).toNat) = ρ 5 := vw_aA hU (hA _ (List.mem_of_getElem? (i := 1) rfl)) ev_v g2 (by omega) (by omega) (i := (ρ 3).toNat) (show ((((ρ 3).toNat : Nat)) : Int) = ((0) + ((1) * ρ 3 + 0)) by omega) ev_v
  have p0 : GDv (vw C h) 121 123 10662 ((0) + ((1777) * ρ 2 + 0)) ((1777) + 0) := hP _ (List.mem_of_getElem? (i := 0) rfl)
  have p1 : GDv (vw C h) 118 123 1777 ((0) + 0) ((0) + ((1) * ρ 3 + 0)) := hP _ (List.mem_of_getElem? (i := 1) rfl)
  have h9 : (1777 * ρ 2 + ρ 3).toNat < 10662 := lt_aA hT (hA _ (List.mem_of_getElem? (i := 0) rfl)) ev_v g1 rfl (show ((((1777 * ρ 2 + ρ 3).toNat : Nat)) : Int) = ((0) + ((1777) * ρ 2 + ((1) * ρ 3 + 0))) by omega)
  refine ⟨_, List.mem_cons_self, ρ, fun _ _ => rfl, fun q hq => absurd hq List.not_mem_nil, trivial, fun f hf => ?_, fun q hq => absurd hq List.not_mem_nil, fun q hq => absurd hq List.not_mem_nil, fun q hq => absurd hq List.not_mem_nil, fun q hq => ?_⟩
  · exact absurd hf List.not_mem_nil
  · simp only [List.mem_cons, List.not_mem_nil, or_false] at hq
    subst hq
    show GDv (vw C h) 118 123 1777 ((0) + 0) ((1) + ((1) * ρ 3 + 0))
    exact GD_ext p1 p0 (i := (ρ 3).toNat) (k := (1777 * ρ 2 + ρ 3).toNat) (a1.trans a0.symm) (by omega) (by omega) (by omega) h9 (by omega) (by omega)
/-- backStored -/
theorem lem_13_ok (hU : uqG G C) : lem_13.1.2.1 = [] ∧ lemOK (PRd G C D xs) G rgs lem_13 := by
  refine ⟨rfl, fun ρ h ha hT => ?_⟩
  obtain ⟨-, -, hF, hG, hH, hA, hP⟩ := ha
  have f0 : (0 : Int) ≤ ((0) + ((1) * ρ 3 + 0)) := hF _ (List.mem_of_getElem? (i := 0) rfl)
  have f1 : (0 : Int) ≤ ((1776) + ((-1) * ρ 3 + 0)) := hF _ (List.mem_of_getElem? (i := 1) rfl)
  have f2 : (0 : Int) ≤ ((0) + ((1) * ρ 2 + 0)) := hF _ (List.mem_of_getElem? (i := 2) rfl)
  have g1 : G (ρ 1).toNat = 122 := by
    have q := (hG _ (List.mem_of_getElem? (i := 1) rfl)).2
    rwa [show ev ρ (0, [(1, 1)]) = ρ 1 from ev_v] at q
  have g2 : G (ρ 4).toNat = 118 := by
    have q := (hG _ (List.mem_of_getElem? (i := 2) rfl)).2
    rwa [show ev ρ (0, [(4, 1)]) = ρ 4 from ev_v] at q
  have b0 : (0 : Int) ≤ ((0) + ((1777) * ρ 2 + ((1) * ρ 3 + 0))) := b_aA (hA _ (List.mem_of_getElem? (i := 0) rfl))
  have b1 : (0 : Int) ≤ ((0) + ((1) * ρ 3 + 0)) := b_aA (hA _ (List.mem_of_getElem? (i := 1) rfl))
  have a0 : vw C h 122 ((1777 * ρ 2 + ρ 3).toNat) = ρ 5 := vw_aA hU (hA _ (List.mem_of_getElem? (i := 0) rfl)) ev_v g1 (by omega) (by omega) (i := (1777 * ρ 2 + ρ 3).toNat) (show ((((1777 * ρ 2 + ρ 3).toNat : Nat)) : Int) = ((0) + ((1777) * ρ 2 + ((1) * ρ 3 + 0))) by omega) ev_v
  have a1 : vw C h 118 ((ρ 3).toNat) = ρ 5 := vw_aA hU (hA _ (List.mem_of_getElem? (i := 1) rfl)) ev_v g2 (by omega) (by omega) (i := (ρ 3).toNat) (show ((((ρ 3).toNat : Nat)) : Int) = ((0) + ((1) * ρ 3 + 0)) by omega) ev_v
  have p0 : GDv (vw C h) 122 123 3554 ((0) + ((1777) * ρ 2 + 0)) ((1777) + 0) := hP _ (List.mem_of_getElem? (i := 0) rfl)
  have p1 : GDv (vw C h) 118 123 1777 ((0) + 0) ((0) + ((1) * ρ 3 + 0)) := hP _ (List.mem_of_getElem? (i := 1) rfl)
  have h9 : (1777 * ρ 2 + ρ 3).toNat < 3554 := lt_aA hT (hA _ (List.mem_of_getElem? (i := 0) rfl)) ev_v g1 rfl (show ((((1777 * ρ 2 + ρ 3).toNat : Nat)) : Int) = ((0) + ((1777) * ρ 2 + ((1) * ρ 3 + 0))) by omega)
  refine ⟨_, List.mem_cons_self, ρ, fun _ _ => rfl, fun q hq => absurd hq List.not_mem_nil, trivial, fun f hf => ?_, fun q hq => absurd hq List.not_mem_nil, fun q hq => absurd hq List.not_mem_nil, fun q hq => absurd hq List.not_mem_nil, fun q hq => ?_⟩
  · exact absurd hf List.not_mem_nil
  · simp only [List.mem_cons, List.not_mem_nil, or_false] at hq
    subst hq
    show GDv (vw C h) 118 123 1777 ((0) + 0) ((1) + ((1) * ρ 3 + 0))
    exact GD_ext p1 p0 (i := (ρ 3).toNat) (k := (1777 * ρ 2 + ρ 3).toNat) (a1.trans a0.symm) (by omega) (by omega) (by omega) h9 (by omega) (by omega)
/-- partHist -/
theorem lem_14_ok (hU : uqG G C) : lem_14.1.2.1 = [] ∧ lemOK (PRd G C D xs) G rgs lem_14 := by
  refine ⟨rfl, fun ρ h ha hT => ?_⟩
  obtain ⟨-, -, hF, hG, hH, hA, hP⟩ := ha
  have f0 : (0 : Int) ≤ ((0) + ((1) * ρ 0 + 0)) := hF _ (List.mem_of_getElem? (i := 0) rfl)
  have p0 : GDv (vw C h) 121 123 10662 ((0) + 0) ((1777) + ((1777) * ρ 0 + 0)) := hP _ (List.mem_of_getElem? (i := 0) rfl)
  refine ⟨_, List.mem_cons_self, ρ, fun _ _ => rfl, fun q hq => absurd hq List.not_mem_nil, trivial, fun f hf => ?_, fun q hq => absurd hq List.not_mem_nil, fun q hq => absurd hq List.not_mem_nil, fun q hq => absurd hq List.not_mem_nil, fun q hq => ?_⟩
  · exact absurd hf List.not_mem_nil
  · simp only [List.mem_cons, List.not_mem_nil, or_false] at hq
    rcases hq with rfl | rfl
    · show GDv (vw C h) 121 123 10662 ((0) + ((1777) * ρ 0 + 0)) ((1777) + 0)
      exact GD_sub p0 (by omega) (by omega)
    · show GDv (vw C h) 121 123 10662 ((0) + 0) ((0) + ((1777) * ρ 0 + 0))
      exact GD_sub p0 (by omega) (by omega)
/-- cutHist -/
theorem lem_15_ok (hU : uqG G C) : lem_15.1.2.1 = [] ∧ lemOK (PRd G C D xs) G rgs lem_15 := by
  refine ⟨rfl, fun ρ h ha hT => ?_⟩
  obtain ⟨-, -, hF, hG, hH, hA, hP⟩ := ha
  have p0 : GDv (vw C h) 121 123 10662 ((0) + 0) ((10662) + 0) := hP _ (List.mem_of_getElem? (i := 0) rfl)
  refine ⟨_, List.mem_cons_self, ρ, fun _ _ => rfl, fun q hq => absurd hq List.not_mem_nil, trivial, fun f hf => ?_, fun q hq => absurd hq List.not_mem_nil, fun q hq => absurd hq List.not_mem_nil, fun q hq => absurd hq List.not_mem_nil, fun q hq => ?_⟩
  · exact absurd hf List.not_mem_nil
  · simp only [List.mem_cons, List.not_mem_nil, or_false] at hq
    rcases hq with rfl | rfl
    · show GDv (vw C h) 121 123 10662 ((0) + 0) ((0) + 0)
      exact GD_no (by omega)
    · show GDv (vw C h) 121 123 10662 ((1777) + 0) ((8885) + 0)
      exact GD_sub p0 (by omega) (by omega)
/-- shiftHist -/
theorem lem_16_ok (hU : uqG G C) : lem_16.1.2.1 = [] ∧ lemOK (PRd G C D xs) G rgs lem_16 := by
  refine ⟨rfl, fun ρ h ha hT => ?_⟩
  obtain ⟨-, -, hF, hG, hH, hA, hP⟩ := ha
  have f0 : (0 : Int) ≤ ((-1777) + ((1) * ρ 1 + 0)) := hF _ (List.mem_of_getElem? (i := 0) rfl)
  have f1 : (0 : Int) ≤ ((10661) + ((-1) * ρ 1 + 0)) := hF _ (List.mem_of_getElem? (i := 1) rfl)
  have g1 : G (ρ 2).toNat = 121 := by
    have q := (hG _ (List.mem_of_getElem? (i := 1) rfl)).2
    rwa [show ev ρ (0, [(2, 1)]) = ρ 2 from ev_v] at q
  have b0 : (0 : Int) ≤ ((-1777) + ((1) * ρ 1 + 0)) := b_aA (hA _ (List.mem_of_getElem? (i := 0) rfl))
  have b1 : (0 : Int) ≤ ((0) + ((1) * ρ 1 + 0)) := b_aA (hA _ (List.mem_of_getElem? (i := 1) rfl))
  have a0 : vw C h 121 ((ρ 1 + (-1777)).toNat) = ρ 3 := vw_aA hU (hA _ (List.mem_of_getElem? (i := 0) rfl)) ev_v g1 (by omega) (by omega) (i := (ρ 1 + (-1777)).toNat) (show ((((ρ 1 + (-1777)).toNat : Nat)) : Int) = ((-1777) + ((1) * ρ 1 + 0)) by omega) ev_v
  have a1 : vw C h 121 ((ρ 1).toNat) = ρ 3 := vw_aA hU (hA _ (List.mem_of_getElem? (i := 1) rfl)) ev_v g1 (by omega) (by omega) (i := (ρ 1).toNat) (show ((((ρ 1).toNat : Nat)) : Int) = ((0) + ((1) * ρ 1 + 0)) by omega) ev_v
  have p0 : GDv (vw C h) 121 123 10662 ((0) + 0) ((-1777) + ((1) * ρ 1 + 0)) := hP _ (List.mem_of_getElem? (i := 0) rfl)
  have p1 : GDv (vw C h) 121 123 10662 ((0) + ((1) * ρ 1 + 0)) ((10662) + ((-1) * ρ 1 + 0)) := hP _ (List.mem_of_getElem? (i := 1) rfl)
  refine ⟨_, List.mem_cons_self, ρ, fun _ _ => rfl, fun q hq => absurd hq List.not_mem_nil, trivial, fun f hf => ?_, fun q hq => absurd hq List.not_mem_nil, fun q hq => absurd hq List.not_mem_nil, fun q hq => absurd hq List.not_mem_nil, fun q hq => ?_⟩
  · exact absurd hf List.not_mem_nil
  · simp only [List.mem_cons, List.not_mem_nil, or_false] at hq
    rcases hq with rfl | rfl
    · show GDv (vw C h) 121 123 10662 ((0) + 0) ((-1776) + ((1) * ρ 1 + 0))
      exact GD_ext p0 p1 (i := (ρ 1 + (-1777)).toNat) (k := (ρ 1).toNat) (a0.trans a1.symm) (by omega) (by omega) (by omega) (by omega) (by omega) (by omega)
    · show GDv (vw C h) 121 123 10662 ((1) + ((1) * ρ 1 + 0)) ((10661) + ((-1) * ρ 1 + 0))
      exact GD_sub p1 (by omega) (by omega)
/-- everyNow -/
theorem lem_17_ok (hU : uqG G C) : lem_17.1.2.1 = [] ∧ lemOK (PRd G C D xs) G rgs lem_17 := by
  refine ⟨rfl, fun ρ h ha hT => ?_⟩
  obtain ⟨-, -, hF, hG, hH, hA, hP⟩ := ha
  have f0 : (0 : Int) ≤ ((0) + ((1) * ρ 2 + 0)) := hF _ (List.mem_of_getElem? (i := 0) rfl)
  have f1 : (0 : Int) ≤ ((7) + ((-1) * ρ 2 + 0)) := hF _ (List.mem_of_getElem? (i := 1) rfl)
  have f2 : (0 : Int) ≤ ((5) + ((-1) * ρ 5 + 0)) := hF _ (List.mem_of_getElem? (i := 2) rfl)
  have f3 : (0 : Int) ≤ ((0) + ((-5) * ρ 2 + ((1) * ρ 3 + 0))) := hF _ (List.mem_of_getElem? (i := 3) rfl)
  have f4 : (0 : Int) ≤ ((-1) + ((5) * ρ 2 + ((-1) * ρ 3 + ((1) * ρ 5 + 0)))) := hF _ (List.mem_of_getElem? (i := 4) rfl)
  have g1 : G (ρ 1).toNat = 118 := by
    have q := (hG _ (List.mem_of_getElem? (i := 1) rfl)).2
    rwa [show ev ρ (0, [(1, 1)]) = ρ 1 from ev_v] at q
  have g2 : G (ρ 4).toNat = 123 := by
    have q := (hG _ (List.mem_of_getElem? (i := 2) rfl)).2
    rwa [show ev ρ (0, [(4, 1)]) = ρ 4 from ev_v] at q
  have b0 : (0 : Int) ≤ ((24) + ((1) * ρ 2 + 0)) := b_aA (hA _ (List.mem_of_getElem? (i := 0) rfl))
  have b1 : (0 : Int) ≤ ((217) + ((1) * ρ 3 + 0)) := b_aA (hA _ (List.mem_of_getElem? (i := 1) rfl))
  have a0 : vw C h 123 (24 + (ρ 2).toNat) = ρ 5 := vw_aA hU (hA _ (List.mem_of_getElem? (i := 0) rfl)) ev_v g2 (by omega) (by omega) (i := 24 + (ρ 2).toNat) (show (((24 + (ρ 2).toNat : Nat)) : Int) = ((24) + ((1) * ρ 2 + 0)) by omega) ev_v
  have a1 : vw C h 118 (217 + (ρ 3).toNat) = ρ 6 := vw_aA hU (hA _ (List.mem_of_getElem? (i := 1) rfl)) ev_v g1 (by omega) (by omega) (i := 217 + (ρ 3).toNat) (show (((217 + (ρ 3).toNat : Nat)) : Int) = ((217) + ((1) * ρ 3 + 0)) by omega) ev_v
  have p0 : GDv (vw C h) 118 123 1777 ((0) + 0) ((1777) + 0) := hP _ (List.mem_of_getElem? (i := 0) rfl)
  have hv := GD_every p0 (m := (ρ 2).toNat) (j := (ρ 3 - 5 * ρ 2).toNat) (i := 217 + (ρ 3).toNat) (by omega) (by omega) (by omega) (by omega) (by omega) (by omega) a0 (by omega) a1
  refine ⟨_, List.mem_cons_self, ρ, fun _ _ => rfl, fun q hq => absurd hq List.not_mem_nil, trivial, fun f hf => ?_, fun q hq => absurd hq List.not_mem_nil, fun q hq => absurd hq List.not_mem_nil, fun q hq => absurd hq List.not_mem_nil, fun q hq => ?_⟩
  · simp only [List.mem_cons, List.not_mem_nil, or_false] at hf
    subst hf
    show (0 : Int) ≤ ((-1) + ((1) * ρ 6 + 0))
    omega
  · exact absurd hq List.not_mem_nil
/-- everyWork -/
theorem lem_18_ok (hU : uqG G C) : lem_18.1.2.1 = [] ∧ lemOK (PRd G C D xs) G rgs lem_18 := by
  refine ⟨rfl, fun ρ h ha hT => ?_⟩
  obtain ⟨-, -, hF, hG, hH, hA, hP⟩ := ha
  have f0 : (0 : Int) ≤ ((0) + ((1) * ρ 2 + 0)) := hF _ (List.mem_of_getElem? (i := 0) rfl)
  have f1 : (0 : Int) ≤ ((7) + ((-1) * ρ 2 + 0)) := hF _ (List.mem_of_getElem? (i := 1) rfl)
  have f2 : (0 : Int) ≤ ((5) + ((-1) * ρ 5 + 0)) := hF _ (List.mem_of_getElem? (i := 2) rfl)
  have f3 : (0 : Int) ≤ ((0) + ((-5) * ρ 2 + ((1) * ρ 3 + 0))) := hF _ (List.mem_of_getElem? (i := 3) rfl)
  have f4 : (0 : Int) ≤ ((-1) + ((5) * ρ 2 + ((-1) * ρ 3 + ((1) * ρ 5 + 0)))) := hF _ (List.mem_of_getElem? (i := 4) rfl)
  have g1 : G (ρ 1).toNat = 119 := by
    have q := (hG _ (List.mem_of_getElem? (i := 1) rfl)).2
    rwa [show ev ρ (0, [(1, 1)]) = ρ 1 from ev_v] at q
  have g2 : G (ρ 4).toNat = 123 := by
    have q := (hG _ (List.mem_of_getElem? (i := 2) rfl)).2
    rwa [show ev ρ (0, [(4, 1)]) = ρ 4 from ev_v] at q
  have b0 : (0 : Int) ≤ ((24) + ((1) * ρ 2 + 0)) := b_aA (hA _ (List.mem_of_getElem? (i := 0) rfl))
  have b1 : (0 : Int) ≤ ((217) + ((1) * ρ 3 + 0)) := b_aA (hA _ (List.mem_of_getElem? (i := 1) rfl))
  have a0 : vw C h 123 (24 + (ρ 2).toNat) = ρ 5 := vw_aA hU (hA _ (List.mem_of_getElem? (i := 0) rfl)) ev_v g2 (by omega) (by omega) (i := 24 + (ρ 2).toNat) (show (((24 + (ρ 2).toNat : Nat)) : Int) = ((24) + ((1) * ρ 2 + 0)) by omega) ev_v
  have a1 : vw C h 119 (217 + (ρ 3).toNat) = ρ 6 := vw_aA hU (hA _ (List.mem_of_getElem? (i := 1) rfl)) ev_v g1 (by omega) (by omega) (i := 217 + (ρ 3).toNat) (show (((217 + (ρ 3).toNat : Nat)) : Int) = ((217) + ((1) * ρ 3 + 0)) by omega) ev_v
  have p0 : GDv (vw C h) 119 123 1777 ((0) + 0) ((1777) + 0) := hP _ (List.mem_of_getElem? (i := 0) rfl)
  have hv := GD_every p0 (m := (ρ 2).toNat) (j := (ρ 3 - 5 * ρ 2).toNat) (i := 217 + (ρ 3).toNat) (by omega) (by omega) (by omega) (by omega) (by omega) (by omega) a0 (by omega) a1
  refine ⟨_, List.mem_cons_self, ρ, fun _ _ => rfl, fun q hq => absurd hq List.not_mem_nil, trivial, fun f hf => ?_, fun q hq => absurd hq List.not_mem_nil, fun q hq => absurd hq List.not_mem_nil, fun q hq => absurd hq List.not_mem_nil, fun q hq => ?_⟩
  · simp only [List.mem_cons, List.not_mem_nil, or_false] at hf
    subst hf
    show (0 : Int) ≤ ((-1) + ((1) * ρ 6 + 0))
    omega
  · exact absurd hq List.not_mem_nil
/-- saveOther -/
theorem lem_19_ok (hU : uqG G C) : lem_19.1.2.1 = [] ∧ lemOK (PRd G C D xs) G rgs lem_19 := by
  refine ⟨rfl, fun ρ h ha hT => ?_⟩
  obtain ⟨-, -, hF, hG, hH, hA, hP⟩ := ha
  have f0 : (0 : Int) ≤ ((0) + ((1) * ρ 0 + 0)) := hF _ (List.mem_of_getElem? (i := 0) rfl)
  have f1 : (0 : Int) ≤ ((1) + ((-1) * ρ 0 + 0)) := hF _ (List.mem_of_getElem? (i := 1) rfl)
  have p0 : P50 (vw C h) := hP _ (List.mem_of_getElem? (i := 0) rfl)
  refine ⟨_, List.mem_cons_self, ρ, fun _ _ => rfl, fun q hq => absurd hq List.not_mem_nil, trivial, fun f hf => ?_, fun q hq => absurd hq List.not_mem_nil, fun q hq => absurd hq List.not_mem_nil, fun q hq => absurd hq List.not_mem_nil, fun q hq => ?_⟩
  · exact absurd hf List.not_mem_nil
  · simp only [List.mem_cons, List.not_mem_nil, or_false] at hq
    subst hq
    show P49 (vw C h) ((0) + ((1) * ρ 0 + 0))
    exact fun b hb _ h1 => p0 b hb h1
/-- saveDone -/
theorem lem_20_ok (hU : uqG G C) : lem_20.1.2.1 = [] ∧ lemOK (PRd G C D xs) G rgs lem_20 := by
  refine ⟨rfl, fun ρ h ha hT => ?_⟩
  obtain ⟨-, -, hF, hG, hH, hA, hP⟩ := ha
  have f0 : (0 : Int) ≤ ((0) + ((1) * ρ 0 + 0)) := hF _ (List.mem_of_getElem? (i := 0) rfl)
  have f1 : (0 : Int) ≤ ((1) + ((-1) * ρ 0 + 0)) := hF _ (List.mem_of_getElem? (i := 1) rfl)
  have p0 : P49 (vw C h) ((0) + ((1) * ρ 0 + 0)) := hP _ (List.mem_of_getElem? (i := 0) rfl)
  have p1 : GDv (vw C h) 122 123 3554 ((0) + ((1777) * ρ 0 + 0)) ((1777) + 0) := hP _ (List.mem_of_getElem? (i := 1) rfl)
  refine ⟨_, List.mem_cons_self, ρ, fun _ _ => rfl, fun q hq => absurd hq List.not_mem_nil, trivial, fun f hf => ?_, fun q hq => absurd hq List.not_mem_nil, fun q hq => absurd hq List.not_mem_nil, fun q hq => absurd hq List.not_mem_nil, fun q hq => ?_⟩
  · exact absurd hf List.not_mem_nil
  · simp only [List.mem_cons, List.not_mem_nil, or_false] at hq
    subst hq
    show P50 (vw C h)
    exact fun b hb h1 => by
      by_cases hbr : (b : Int) = ρ 0
      · have q := p1
        rw [show ((0 : Int) + (1777 * ρ 0 + 0)) = 1777 * (b : Int) by omega] at q
        exact q
      · exact p0 b hb (by omega) h1
/-- storedIs -/
theorem lem_21_ok (hU : uqG G C) : lem_21.1.2.1 = [] ∧ lemOK (PRd G C D xs) G rgs lem_21 := by
  refine ⟨rfl, fun ρ h ha hT => ?_⟩
  obtain ⟨-, -, hF, hG, hH, hA, hP⟩ := ha
  have f0 : (0 : Int) ≤ ((0) + ((1) * ρ 1 + 0)) := hF _ (List.mem_of_getElem? (i := 0) rfl)
  have f1 : (0 : Int) ≤ ((1) + ((-1) * ρ 1 + 0)) := hF _ (List.mem_of_getElem? (i := 1) rfl)
  have f2 : (0 : Int) ≤ ((-1) + ((1) * ρ 3 + 0)) := hF _ (List.mem_of_getElem? (i := 2) rfl)
  have g1 : G (ρ 2).toNat = 135 := by
    have q := (hG _ (List.mem_of_getElem? (i := 1) rfl)).2
    rwa [show ev ρ (0, [(2, 1)]) = ρ 2 from ev_v] at q
  have b0 : (0 : Int) ≤ ((0) + ((1) * ρ 1 + 0)) := b_aA (hA _ (List.mem_of_getElem? (i := 0) rfl))
  have a0 : vw C h 135 ((ρ 1).toNat) = ρ 3 := vw_aA hU (hA _ (List.mem_of_getElem? (i := 0) rfl)) ev_v g1 (by omega) (by omega) (i := (ρ 1).toNat) (show ((((ρ 1).toNat : Nat)) : Int) = ((0) + ((1) * ρ 1 + 0)) by omega) ev_v
  have p0 : P50 (vw C h) := hP _ (List.mem_of_getElem? (i := 0) rfl)
  refine ⟨_, List.mem_cons_self, ρ, fun _ _ => rfl, fun q hq => absurd hq List.not_mem_nil, trivial, fun f hf => ?_, fun q hq => absurd hq List.not_mem_nil, fun q hq => absurd hq List.not_mem_nil, fun q hq => absurd hq List.not_mem_nil, fun q hq => ?_⟩
  · exact absurd hf List.not_mem_nil
  · simp only [List.mem_cons, List.not_mem_nil, or_false] at hq
    subst hq
    show GDv (vw C h) 122 123 3554 ((0) + ((1777) * ρ 1 + 0)) ((1777) + 0)
    rw [show ((0 : Int) + (1777 * ρ 1 + 0)) = 1777 * (((ρ 1).toNat : Nat) : Int) by omega]
    exact p0 (ρ 1).toNat (by omega) (by omega)
/-- noneStored -/
theorem lem_22_ok (hU : uqG G C) : lem_22.1.2.1 = [] ∧ lemOK (PRd G C D xs) G rgs lem_22 := by
  refine ⟨rfl, fun ρ h ha hT => ?_⟩
  obtain ⟨-, -, hF, hG, hH, hA, hP⟩ := ha
  have f0 : (0 : Int) ≤ ((0) + ((-1) * ρ 2 + 0)) := hF _ (List.mem_of_getElem? (i := 0) rfl)
  have f1 : (0 : Int) ≤ ((0) + ((-1) * ρ 3 + 0)) := hF _ (List.mem_of_getElem? (i := 1) rfl)
  have g1 : G (ρ 1).toNat = 135 := by
    have q := (hG _ (List.mem_of_getElem? (i := 1) rfl)).2
    rwa [show ev ρ (0, [(1, 1)]) = ρ 1 from ev_v] at q
  have b0 : (0 : Int) ≤ ((0) + 0) := b_aA (hA _ (List.mem_of_getElem? (i := 0) rfl))
  have b1 : (0 : Int) ≤ ((1) + 0) := b_aA (hA _ (List.mem_of_getElem? (i := 1) rfl))
  have a0 : vw C h 135 (0) = ρ 2 := vw_aA hU (hA _ (List.mem_of_getElem? (i := 0) rfl)) ev_v g1 (by omega) (by omega) (i := 0) (show (((0 : Nat)) : Int) = ((0) + 0) by omega) ev_v
  have a1 : vw C h 135 (1) = ρ 3 := vw_aA hU (hA _ (List.mem_of_getElem? (i := 1) rfl)) ev_v g1 (by omega) (by omega) (i := 1) (show (((1 : Nat)) : Int) = ((1) + 0) by omega) ev_v
  refine ⟨_, List.mem_cons_self, ρ, fun _ _ => rfl, fun q hq => absurd hq List.not_mem_nil, trivial, fun f hf => ?_, fun q hq => absurd hq List.not_mem_nil, fun q hq => absurd hq List.not_mem_nil, fun q hq => absurd hq List.not_mem_nil, fun q hq => ?_⟩
  · exact absurd hf List.not_mem_nil
  · simp only [List.mem_cons, List.not_mem_nil, or_false] at hq
    subst hq
    show P50 (vw C h)
    exact fun b hb h1 => by
      exfalso
      have : b = 0 ∨ b = 1 := by omega
      rcases this with rfl | rfl
      · omega
      · omega
/-- zeroExt -/
theorem lem_23_ok (hU : uqG G C) : lem_23.1.2.1 = [] ∧ lemOK (PRd G C D xs) G rgs lem_23 := by
  refine ⟨rfl, fun ρ h ha hT => ?_⟩
  obtain ⟨-, -, hF, hG, hH, hA, hP⟩ := ha
  have f0 : (0 : Int) ≤ ((0) + ((1) * ρ 1 + 0)) := hF _ (List.mem_of_getElem? (i := 0) rfl)
  have f1 : (0 : Int) ≤ ((54) + ((-1) * ρ 1 + 0)) := hF _ (List.mem_of_getElem? (i := 1) rfl)
  have f2 : (0 : Int) ≤ ((0) + ((1) * ρ 3 + 0)) := hF _ (List.mem_of_getElem? (i := 2) rfl)
  have f3 : (0 : Int) ≤ ((0) + ((-1) * ρ 3 + 0)) := hF _ (List.mem_of_getElem? (i := 3) rfl)
  have g1 : G (ρ 2).toNat = 124 := by
    have q := (hG _ (List.mem_of_getElem? (i := 1) rfl)).2
    rwa [show ev ρ (0, [(2, 1)]) = ρ 2 from ev_v] at q
  have b0 : (0 : Int) ≤ ((0) + ((1) * ρ 1 + 0)) := b_aA (hA _ (List.mem_of_getElem? (i := 0) rfl))
  have a0 : vw C h 124 ((ρ 1).toNat) = ρ 3 := vw_aA hU (hA _ (List.mem_of_getElem? (i := 0) rfl)) ev_v g1 (by omega) (by omega) (i := (ρ 1).toNat) (show ((((ρ 1).toNat : Nat)) : Int) = ((0) + ((1) * ρ 1 + 0)) by omega) ev_v
  have p0 : P47 (vw C h) ((0) + ((1) * ρ 1 + 0)) := hP _ (List.mem_of_getElem? (i := 0) rfl)
  refine ⟨_, List.mem_cons_self, ρ, fun _ _ => rfl, fun q hq => absurd hq List.not_mem_nil, trivial, fun f hf => ?_, fun q hq => absurd hq List.not_mem_nil, fun q hq => absurd hq List.not_mem_nil, fun q hq => absurd hq List.not_mem_nil, fun q hq => ?_⟩
  · exact absurd hf List.not_mem_nil
  · simp only [List.mem_cons, List.not_mem_nil, or_false] at hq
    subst hq
    show P47 (vw C h) ((1) + ((1) * ρ 1 + 0))
    exact fun i i1 i5 => by
      by_cases hi : i = (ρ 1).toNat
      · subst hi
        rw [a0]
        omega
      · exact p0 i (by omega) i5
/-- empty47 -/
theorem lem_24_ok (hU : uqG G C) : lem_24.1.2.1 = [] ∧ lemOK (PRd G C D xs) G rgs lem_24 := by
  refine ⟨rfl, fun ρ h ha hT => ?_⟩
  obtain ⟨-, -, hF, hG, hH, hA, hP⟩ := ha
  refine ⟨_, List.mem_cons_self, ρ, fun _ _ => rfl, fun q hq => absurd hq List.not_mem_nil, trivial, fun f hf => ?_, fun q hq => absurd hq List.not_mem_nil, fun q hq => absurd hq List.not_mem_nil, fun q hq => absurd hq List.not_mem_nil, fun q hq => ?_⟩
  · exact absurd hf List.not_mem_nil
  · simp only [List.mem_cons, List.not_mem_nil, or_false] at hq
    subst hq
    show P47 (vw C h) ((0) + 0)
    exact fun i i1 i5 => by omega
/-- zeroDone -/
theorem lem_25_ok (hU : uqG G C) : lem_25.1.2.1 = [] ∧ lemOK (PRd G C D xs) G rgs lem_25 := by
  refine ⟨rfl, fun ρ h ha hT => ?_⟩
  obtain ⟨-, -, hF, hG, hH, hA, hP⟩ := ha
  have p0 : P47 (vw C h) ((55) + 0) := hP _ (List.mem_of_getElem? (i := 0) rfl)
  have p1 : P53 (vw C h) ((1777) + 0) := hP _ (List.mem_of_getElem? (i := 1) rfl)
  refine ⟨_, List.mem_cons_self, ρ, fun _ _ => rfl, fun q hq => absurd hq List.not_mem_nil, trivial, fun f hf => ?_, fun q hq => absurd hq List.not_mem_nil, fun q hq => absurd hq List.not_mem_nil, fun q hq => absurd hq List.not_mem_nil, fun q hq => ?_⟩
  · exact absurd hf List.not_mem_nil
  · simp only [List.mem_cons, List.not_mem_nil, or_false] at hq
    subst hq
    show GDv (vw C h) 120 124 1777 ((0) + 0) ((1777) + 0)
    exact fun i _ _ hi => ⟨fun m j m1 j1 e hc => by
      have q := p0 (24 + m) (by omega) (by omega)
      dsimp only at hc
      omega, fun x y => by
      rw [Nat.mod_eq_of_lt hi] at x y
      have q := p1 i x y (by omega)
      omega⟩
/-- empty53 -/
theorem lem_26_ok (hU : uqG G C) : lem_26.1.2.1 = [] ∧ lemOK (PRd G C D xs) G rgs lem_26 := by
  refine ⟨rfl, fun ρ h ha hT => ?_⟩
  obtain ⟨-, -, hF, hG, hH, hA, hP⟩ := ha
  refine ⟨_, List.mem_cons_self, ρ, fun _ _ => rfl, fun q hq => absurd hq List.not_mem_nil, trivial, fun f hf => ?_, fun q hq => absurd hq List.not_mem_nil, fun q hq => absurd hq List.not_mem_nil, fun q hq => absurd hq List.not_mem_nil, fun q hq => ?_⟩
  · exact absurd hf List.not_mem_nil
  · simp only [List.mem_cons, List.not_mem_nil, or_false] at hq
    subst hq
    show P53 (vw C h) ((0) + 0)
    exact fun i _ _ h3 => by omega
/-- zeroD -/
theorem lem_27_ok (hU : uqG G C) : lem_27.1.2.1 = [] ∧ lemOK (PRd G C D xs) G rgs lem_27 := by
  refine ⟨rfl, fun ρ h ha hT => ?_⟩
  obtain ⟨-, -, hF, hG, hH, hA, hP⟩ := ha
  have f0 : (0 : Int) ≤ ((0) + ((1) * ρ 1 + 0)) := hF _ (List.mem_of_getElem? (i := 0) rfl)
  have f1 : (0 : Int) ≤ ((1776) + ((-1) * ρ 1 + 0)) := hF _ (List.mem_of_getElem? (i := 1) rfl)
  have f2 : (0 : Int) ≤ ((0) + ((1) * ρ 3 + 0)) := hF _ (List.mem_of_getElem? (i := 2) rfl)
  have f3 : (0 : Int) ≤ ((0) + ((-1) * ρ 3 + 0)) := hF _ (List.mem_of_getElem? (i := 3) rfl)
  have g1 : G (ρ 2).toNat = 120 := by
    have q := (hG _ (List.mem_of_getElem? (i := 1) rfl)).2
    rwa [show ev ρ (0, [(2, 1)]) = ρ 2 from ev_v] at q
  have b0 : (0 : Int) ≤ ((0) + ((1) * ρ 1 + 0)) := b_aA (hA _ (List.mem_of_getElem? (i := 0) rfl))
  have a0 : vw C h 120 ((ρ 1).toNat) = ρ 3 := vw_aA hU (hA _ (List.mem_of_getElem? (i := 0) rfl)) ev_v g1 (by omega) (by omega) (i := (ρ 1).toNat) (show ((((ρ 1).toNat : Nat)) : Int) = ((0) + ((1) * ρ 1 + 0)) by omega) ev_v
  have p0 : P53 (vw C h) ((0) + ((1) * ρ 1 + 0)) := hP _ (List.mem_of_getElem? (i := 0) rfl)
  refine ⟨_, List.mem_cons_self, ρ, fun _ _ => rfl, fun q hq => absurd hq List.not_mem_nil, trivial, fun f hf => ?_, fun q hq => absurd hq List.not_mem_nil, fun q hq => absurd hq List.not_mem_nil, fun q hq => absurd hq List.not_mem_nil, fun q hq => ?_⟩
  · exact absurd hf List.not_mem_nil
  · simp only [List.mem_cons, List.not_mem_nil, or_false] at hq
    subst hq
    show P53 (vw C h) ((1) + ((1) * ρ 1 + 0))
    exact fun i i1 i2 i3 => by
      by_cases hi : i = (ρ 1).toNat
      · subst hi
        rw [a0]
        omega
      · exact p0 i i1 i2 (by omega)
/-- stockSplit -/
theorem lem_28_ok (hU : uqG G C) : lem_28.1.2.1 = [] ∧ lemOK (PRd G C D xs) G rgs lem_28 := by
  refine ⟨rfl, fun ρ h ha hT => ?_⟩
  obtain ⟨-, -, hF, hG, hH, hA, hP⟩ := ha
  have f0 : (0 : Int) ≤ ((0) + ((1) * ρ 0 + 0)) := hF _ (List.mem_of_getElem? (i := 0) rfl)
  have f1 : (0 : Int) ≤ ((39) + ((-1) * ρ 0 + 0)) := hF _ (List.mem_of_getElem? (i := 1) rfl)
  have p0 : GDv (vw C h) 120 124 1777 ((0) + 0) ((1777) + 0) := hP _ (List.mem_of_getElem? (i := 0) rfl)
  refine ⟨_, List.mem_cons_self, ρ, fun _ _ => rfl, fun q hq => absurd hq List.not_mem_nil, trivial, fun f hf => ?_, fun q hq => absurd hq List.not_mem_nil, fun q hq => absurd hq List.not_mem_nil, fun q hq => absurd hq List.not_mem_nil, fun q hq => ?_⟩
  · exact absurd hf List.not_mem_nil
  · simp only [List.mem_cons, List.not_mem_nil, or_false] at hq
    rcases hq with rfl | rfl
    · show GDv (vw C h) 120 124 1777 ((0) + 0) ((137) + ((1) * ρ 0 + 0))
      exact GD_sub p0 (by omega) (by omega)
    · show GDv (vw C h) 120 124 1777 ((138) + ((1) * ρ 0 + 0)) ((1639) + ((-1) * ρ 0 + 0))
      exact GD_sub p0 (by omega) (by omega)
/-- stockJoin -/
theorem lem_29_ok (hU : uqG G C) : lem_29.1.2.1 = [] ∧ lemOK (PRd G C D xs) G rgs lem_29 := by
  refine ⟨rfl, fun ρ h ha hT => ?_⟩
  obtain ⟨-, -, hF, hG, hH, hA, hP⟩ := ha
  have f0 : (0 : Int) ≤ ((0) + ((1) * ρ 3 + 0)) := hF _ (List.mem_of_getElem? (i := 0) rfl)
  have f1 : (0 : Int) ≤ ((0) + ((1) * ρ 1 + 0)) := hF _ (List.mem_of_getElem? (i := 1) rfl)
  have f2 : (0 : Int) ≤ ((39) + ((-1) * ρ 1 + 0)) := hF _ (List.mem_of_getElem? (i := 2) rfl)
  have g1 : G (ρ 2).toNat = 120 := by
    have q := (hG _ (List.mem_of_getElem? (i := 1) rfl)).2
    rwa [show ev ρ (0, [(2, 1)]) = ρ 2 from ev_v] at q
  have b0 : (0 : Int) ≤ ((137) + ((1) * ρ 1 + 0)) := b_aA (hA _ (List.mem_of_getElem? (i := 0) rfl))
  have a0 : vw C h 120 (137 + (ρ 1).toNat) = ρ 3 := vw_aA hU (hA _ (List.mem_of_getElem? (i := 0) rfl)) ev_v g1 (by omega) (by omega) (i := 137 + (ρ 1).toNat) (show (((137 + (ρ 1).toNat : Nat)) : Int) = ((137) + ((1) * ρ 1 + 0)) by omega) ev_v
  have p0 : GDv (vw C h) 120 124 1777 ((0) + 0) ((137) + ((1) * ρ 1 + 0)) := hP _ (List.mem_of_getElem? (i := 0) rfl)
  have p1 : GDv (vw C h) 120 124 1777 ((138) + ((1) * ρ 1 + 0)) ((1639) + ((-1) * ρ 1 + 0)) := hP _ (List.mem_of_getElem? (i := 1) rfl)
  refine ⟨_, List.mem_cons_self, ρ, fun _ _ => rfl, fun q hq => absurd hq List.not_mem_nil, trivial, fun f hf => ?_, fun q hq => absurd hq List.not_mem_nil, fun q hq => absurd hq List.not_mem_nil, fun q hq => absurd hq List.not_mem_nil, fun q hq => ?_⟩
  · exact absurd hf List.not_mem_nil
  · simp only [List.mem_cons, List.not_mem_nil, or_false] at hq
    subst hq
    show GDv (vw C h) 120 124 1777 ((0) + 0) ((1777) + 0)
    refine GD_join (i := 137 + (ρ 1).toNat) p0 p1 (by omega) (by omega) (by omega) (by omega) ?_
    rw [a0]
    exact gd_stock (by omega) (by omega) (by omega)
/-- slotSplit -/
theorem lem_30_ok (hU : uqG G C) : lem_30.1.2.1 = [] ∧ lemOK (PRd G C D xs) G rgs lem_30 := by
  refine ⟨rfl, fun ρ h ha hT => ?_⟩
  obtain ⟨-, -, hF, hG, hH, hA, hP⟩ := ha
  have f0 : (0 : Int) ≤ ((0) + ((1) * ρ 0 + 0)) := hF _ (List.mem_of_getElem? (i := 0) rfl)
  have f1 : (0 : Int) ≤ ((39) + ((-1) * ρ 0 + 0)) := hF _ (List.mem_of_getElem? (i := 1) rfl)
  have p0 : GDv (vw C h) 120 124 1777 ((0) + 0) ((1777) + 0) := hP _ (List.mem_of_getElem? (i := 0) rfl)
  refine ⟨_, List.mem_cons_self, ρ, fun _ _ => rfl, fun q hq => absurd hq List.not_mem_nil, trivial, fun f hf => ?_, fun q hq => absurd hq List.not_mem_nil, fun q hq => absurd hq List.not_mem_nil, fun q hq => absurd hq List.not_mem_nil, fun q hq => ?_⟩
  · exact absurd hf List.not_mem_nil
  · simp only [List.mem_cons, List.not_mem_nil, or_false] at hq
    rcases hq with rfl | rfl
    · show GDv (vw C h) 120 124 1777 ((0) + 0) ((217) + ((1) * ρ 0 + 0))
      exact GD_sub p0 (by omega) (by omega)
    · show GDv (vw C h) 120 124 1777 ((218) + ((1) * ρ 0 + 0)) ((1559) + ((-1) * ρ 0 + 0))
      exact GD_sub p0 (by omega) (by omega)
/-- slotJoin -/
theorem lem_31_ok (hU : uqG G C) : lem_31.1.2.1 = [] ∧ lemOK (PRd G C D xs) G rgs lem_31 := by
  refine ⟨rfl, fun ρ h ha hT => ?_⟩
  obtain ⟨-, -, hF, hG, hH, hA, hP⟩ := ha
  have f0 : (0 : Int) ≤ ((-1) + ((1) * ρ 6 + 0)) := hF _ (List.mem_of_getElem? (i := 0) rfl)
  have f1 : (0 : Int) ≤ ((0) + ((1) * ρ 1 + 0)) := hF _ (List.mem_of_getElem? (i := 1) rfl)
  have f2 : (0 : Int) ≤ ((7) + ((-1) * ρ 1 + 0)) := hF _ (List.mem_of_getElem? (i := 2) rfl)
  have f3 : (0 : Int) ≤ ((0) + ((1) * ρ 5 + 0)) := hF _ (List.mem_of_getElem? (i := 3) rfl)
  have f4 : (0 : Int) ≤ ((4) + ((-1) * ρ 5 + 0)) := hF _ (List.mem_of_getElem? (i := 4) rfl)
  have f5 : (0 : Int) ≤ ((0) + ((5) * ρ 1 + ((-1) * ρ 2 + ((1) * ρ 5 + 0)))) := hF _ (List.mem_of_getElem? (i := 5) rfl)
  have f6 : (0 : Int) ≤ ((0) + ((-5) * ρ 1 + ((1) * ρ 2 + ((-1) * ρ 5 + 0)))) := hF _ (List.mem_of_getElem? (i := 6) rfl)
  have g1 : G (ρ 3).toNat = 120 := by
    have q := (hG _ (List.mem_of_getElem? (i := 1) rfl)).2
    rwa [show ev ρ (0, [(3, 1)]) = ρ 3 from ev_v] at q
  have g2 : G (ρ 4).toNat = 124 := by
    have q := (hG _ (List.mem_of_getElem? (i := 2) rfl)).2
    rwa [show ev ρ (0, [(4, 1)]) = ρ 4 from ev_v] at q
  have b0 : (0 : Int) ≤ ((24) + ((1) * ρ 1 + 0)) := b_aA (hA _ (List.mem_of_getElem? (i := 0) rfl))
  have b1 : (0 : Int) ≤ ((217) + ((1) * ρ 2 + 0)) := b_aA (hA _ (List.mem_of_getElem? (i := 1) rfl))
  have a0 : vw C h 124 (24 + (ρ 1).toNat) = ρ 5 := vw_aA hU (hA _ (List.mem_of_getElem? (i := 0) rfl)) ev_v g2 (by omega) (by omega) (i := 24 + (ρ 1).toNat) (show (((24 + (ρ 1).toNat : Nat)) : Int) = ((24) + ((1) * ρ 1 + 0)) by omega) ev_v
  have a1 : vw C h 120 (217 + (ρ 2).toNat) = ρ 6 := vw_aA hU (hA _ (List.mem_of_getElem? (i := 1) rfl)) ev_v g1 (by omega) (by omega) (i := 217 + (ρ 2).toNat) (show (((217 + (ρ 2).toNat : Nat)) : Int) = ((217) + ((1) * ρ 2 + 0)) by omega) ev_v
  have p0 : GDv (vw C h) 120 124 1777 ((0) + 0) ((217) + ((1) * ρ 2 + 0)) := hP _ (List.mem_of_getElem? (i := 0) rfl)
  have p1 : GDv (vw C h) 120 124 1777 ((218) + ((1) * ρ 2 + 0)) ((1559) + ((-1) * ρ 2 + 0)) := hP _ (List.mem_of_getElem? (i := 1) rfl)
  refine ⟨_, List.mem_cons_self, ρ, fun _ _ => rfl, fun q hq => absurd hq List.not_mem_nil, trivial, fun f hf => ?_, fun q hq => absurd hq List.not_mem_nil, fun q hq => absurd hq List.not_mem_nil, fun q hq => absurd hq List.not_mem_nil, fun q hq => ?_⟩
  · exact absurd hf List.not_mem_nil
  · simp only [List.mem_cons, List.not_mem_nil, or_false] at hq
    subst hq
    show P48 (vw C h) ((0) + ((1) * ρ 1 + 0)) ((1) + ((1) * ρ 5 + 0))
    have q0 := p0
    have q1 := p1
    rw [show ((217 : Int) + (1 * ρ 2 + 0)) = 217 + (((ρ 2).toNat : Nat) : Int) by omega] at q0
    rw [show ((218 : Int) + (1 * ρ 2 + 0)) = 218 + (((ρ 2).toNat : Nat) : Int) by omega, show ((1559 : Int) + ((-1) * ρ 2 + 0)) = 1559 - (((ρ 2).toNat : Nat) : Int) by omega] at q1
    exact SJ (m := (ρ 1).toNat) (c := (ρ 5).toNat) (k := (ρ 2).toNat) (v := ρ 6) (by rw [a0]; omega) a1 (by omega) (by omega) (by omega) (by omega) q0 q1 (by omega) (by omega)
/-- slotDone -/
theorem lem_32_ok (hU : uqG G C) : lem_32.1.2.1 = [] ∧ lemOK (PRd G C D xs) G rgs lem_32 := by
  refine ⟨rfl, fun ρ h ha hT => ?_⟩
  obtain ⟨-, -, hF, hG, hH, hA, hP⟩ := ha
  have f0 : (0 : Int) ≤ ((0) + ((1) * ρ 1 + 0)) := hF _ (List.mem_of_getElem? (i := 0) rfl)
  have f1 : (0 : Int) ≤ ((7) + ((-1) * ρ 1 + 0)) := hF _ (List.mem_of_getElem? (i := 1) rfl)
  have g1 : G (ρ 2).toNat = 124 := by
    have q := (hG _ (List.mem_of_getElem? (i := 1) rfl)).2
    rwa [show ev ρ (0, [(2, 1)]) = ρ 2 from ev_v] at q
  have b0 : (0 : Int) ≤ ((24) + ((1) * ρ 1 + 0)) := b_aA (hA _ (List.mem_of_getElem? (i := 0) rfl))
  have a0 : vw C h 124 (24 + (ρ 1).toNat) = ρ 3 := vw_aA hU (hA _ (List.mem_of_getElem? (i := 0) rfl)) ev_v g1 (by omega) (by omega) (i := 24 + (ρ 1).toNat) (show (((24 + (ρ 1).toNat : Nat)) : Int) = ((24) + ((1) * ρ 1 + 0)) by omega) ev_v
  have p0 : P48 (vw C h) ((0) + ((1) * ρ 1 + 0)) ((0) + ((1) * ρ 3 + 0)) := hP _ (List.mem_of_getElem? (i := 0) rfl)
  refine ⟨_, List.mem_cons_self, ρ, fun _ _ => rfl, fun q hq => absurd hq List.not_mem_nil, trivial, fun f hf => ?_, fun q hq => absurd hq List.not_mem_nil, fun q hq => absurd hq List.not_mem_nil, fun q hq => absurd hq List.not_mem_nil, fun q hq => ?_⟩
  · exact absurd hf List.not_mem_nil
  · simp only [List.mem_cons, List.not_mem_nil, or_false] at hq
    subst hq
    show GDv (vw C h) 120 124 1777 ((0) + 0) ((1777) + 0)
    have q0 := p0
    rw [show ((0 : Int) + (1 * ρ 3 + 0)) = ρ 3 by omega] at q0
    exact SD (m := (ρ 1).toNat) a0 (by omega) q0
/-- extNew -/
theorem lem_33_ok (hU : uqG G C) : lem_33.1.2.1 = [] ∧ lemOK (PRd G C D xs) G rgs lem_33 := by
  refine ⟨rfl, fun ρ h ha hT => ?_⟩
  obtain ⟨-, -, hF, hG, hH, hA, hP⟩ := ha
  have f0 : (0 : Int) ≤ ((0) + ((1) * ρ 1 + 0)) := hF _ (List.mem_of_getElem? (i := 0) rfl)
  have f1 : (0 : Int) ≤ ((1776) + ((-1) * ρ 1 + 0)) := hF _ (List.mem_of_getElem? (i := 1) rfl)
  have g1 : G (ρ 2).toNat = 118 := by
    have q := (hG _ (List.mem_of_getElem? (i := 1) rfl)).2
    rwa [show ev ρ (0, [(2, 1)]) = ρ 2 from ev_v] at q
  have g2 : G (ρ 3).toNat = 120 := by
    have q := (hG _ (List.mem_of_getElem? (i := 2) rfl)).2
    rwa [show ev ρ (0, [(3, 1)]) = ρ 3 from ev_v] at q
  have b0 : (0 : Int) ≤ ((0) + ((1) * ρ 1 + 0)) := b_aA (hA _ (List.mem_of_getElem? (i := 0) rfl))
  have b1 : (0 : Int) ≤ ((0) + ((1) * ρ 1 + 0)) := b_aA (hA _ (List.mem_of_getElem? (i := 1) rfl))
  have a0 : vw C h 118 ((ρ 1).toNat) = ρ 4 := vw_aA hU (hA _ (List.mem_of_getElem? (i := 0) rfl)) ev_v g1 (by omega) (by omega) (i := (ρ 1).toNat) (show ((((ρ 1).toNat : Nat)) : Int) = ((0) + ((1) * ρ 1 + 0)) by omega) ev_v
  have a1 : vw C h 120 ((ρ 1).toNat) = ρ 4 := vw_aA hU (hA _ (List.mem_of_getElem? (i := 1) rfl)) ev_v g2 (by omega) (by omega) (i := (ρ 1).toNat) (show ((((ρ 1).toNat : Nat)) : Int) = ((0) + ((1) * ρ 1 + 0)) by omega) ev_v
  have p0 : GDv (vw C h) 120 124 1777 ((0) + 0) ((1777) + 0) := hP _ (List.mem_of_getElem? (i := 0) rfl)
  have p1 : GDv (vw C h) 118 124 1777 ((0) + 0) ((0) + ((1) * ρ 1 + 0)) := hP _ (List.mem_of_getElem? (i := 1) rfl)
  refine ⟨_, List.mem_cons_self, ρ, fun _ _ => rfl, fun q hq => absurd hq List.not_mem_nil, trivial, fun f hf => ?_, fun q hq => absurd hq List.not_mem_nil, fun q hq => absurd hq List.not_mem_nil, fun q hq => absurd hq List.not_mem_nil, fun q hq => ?_⟩
  · exact absurd hf List.not_mem_nil
  · simp only [List.mem_cons, List.not_mem_nil, or_false] at hq
    subst hq
    show GDv (vw C h) 118 124 1777 ((0) + 0) ((1) + ((1) * ρ 1 + 0))
    exact GD_ext p1 p0 (i := (ρ 1).toNat) (k := (ρ 1).toNat) (a0.trans a1.symm) (by omega) (by omega) (by omega) (by omega) rfl (by omega)
/-- extPlan -/
theorem lem_34_ok (hU : uqG G C) : lem_34.1.2.1 = [] ∧ lemOK (PRd G C D xs) G rgs lem_34 := by
  refine ⟨rfl, fun ρ h ha hT => ?_⟩
  obtain ⟨-, -, hF, hG, hH, hA, hP⟩ := ha
  have f0 : (0 : Int) ≤ ((0) + ((1) * ρ 1 + 0)) := hF _ (List.mem_of_getElem? (i := 0) rfl)
  have f1 : (0 : Int) ≤ ((54) + ((-1) * ρ 1 + 0)) := hF _ (List.mem_of_getElem? (i := 1) rfl)
  have g1 : G (ρ 2).toNat = 123 := by
    have q := (hG _ (List.mem_of_getElem? (i := 1) rfl)).2
    rwa [show ev ρ (0, [(2, 1)]) = ρ 2 from ev_v] at q
  have g2 : G (ρ 3).toNat = 124 := by
    have q := (hG _ (List.mem_of_getElem? (i := 2) rfl)).2
    rwa [show ev ρ (0, [(3, 1)]) = ρ 3 from ev_v] at q
  have b0 : (0 : Int) ≤ ((0) + ((1) * ρ 1 + 0)) := b_aA (hA _ (List.mem_of_getElem? (i := 0) rfl))
  have b1 : (0 : Int) ≤ ((0) + ((1) * ρ 1 + 0)) := b_aA (hA _ (List.mem_of_getElem? (i := 1) rfl))
  have a0 : vw C h 123 ((ρ 1).toNat) = ρ 4 := vw_aA hU (hA _ (List.mem_of_getElem? (i := 0) rfl)) ev_v g1 (by omega) (by omega) (i := (ρ 1).toNat) (show ((((ρ 1).toNat : Nat)) : Int) = ((0) + ((1) * ρ 1 + 0)) by omega) ev_v
  have a1 : vw C h 124 ((ρ 1).toNat) = ρ 4 := vw_aA hU (hA _ (List.mem_of_getElem? (i := 1) rfl)) ev_v g2 (by omega) (by omega) (i := (ρ 1).toNat) (show ((((ρ 1).toNat : Nat)) : Int) = ((0) + ((1) * ρ 1 + 0)) by omega) ev_v
  have p0 : P46 (vw C h) ((0) + ((1) * ρ 1 + 0)) := hP _ (List.mem_of_getElem? (i := 0) rfl)
  refine ⟨_, List.mem_cons_self, ρ, fun _ _ => rfl, fun q hq => absurd hq List.not_mem_nil, trivial, fun f hf => ?_, fun q hq => absurd hq List.not_mem_nil, fun q hq => absurd hq List.not_mem_nil, fun q hq => absurd hq List.not_mem_nil, fun q hq => ?_⟩
  · exact absurd hf List.not_mem_nil
  · simp only [List.mem_cons, List.not_mem_nil, or_false] at hq
    subst hq
    show P46 (vw C h) ((1) + ((1) * ρ 1 + 0))
    exact fun i i1 i5 => by
      by_cases hi : i = (ρ 1).toNat
      · subst hi
        exact a0.trans a1.symm
      · exact p0 i (by omega) i5
/-- empty46 -/
theorem lem_35_ok (hU : uqG G C) : lem_35.1.2.1 = [] ∧ lemOK (PRd G C D xs) G rgs lem_35 := by
  refine ⟨rfl, fun ρ h ha hT => ?_⟩
  obtain ⟨-, -, hF, hG, hH, hA, hP⟩ := ha
  refine ⟨_, List.mem_cons_self, ρ, fun _ _ => rfl, fun q hq => absurd hq List.not_mem_nil, trivial, fun f hf => ?_, fun q hq => absurd hq List.not_mem_nil, fun q hq => absurd hq List.not_mem_nil, fun q hq => absurd hq List.not_mem_nil, fun q hq => ?_⟩
  · exact absurd hf List.not_mem_nil
  · simp only [List.mem_cons, List.not_mem_nil, or_false] at hq
    subst hq
    show P46 (vw C h) ((0) + 0)
    exact fun i i1 i5 => by omega
/-- newNow -/
theorem lem_36_ok (hU : uqG G C) : lem_36.1.2.1 = [] ∧ lemOK (PRd G C D xs) G rgs lem_36 := by
  refine ⟨rfl, fun ρ h ha hT => ?_⟩
  obtain ⟨-, -, hF, hG, hH, hA, hP⟩ := ha
  have p0 : GDv (vw C h) 118 124 1777 ((0) + 0) ((1777) + 0) := hP _ (List.mem_of_getElem? (i := 0) rfl)
  have p1 : P46 (vw C h) ((55) + 0) := hP _ (List.mem_of_getElem? (i := 1) rfl)
  refine ⟨_, List.mem_cons_self, ρ, fun _ _ => rfl, fun q hq => absurd hq List.not_mem_nil, trivial, fun f hf => ?_, fun q hq => absurd hq List.not_mem_nil, fun q hq => absurd hq List.not_mem_nil, fun q hq => absurd hq List.not_mem_nil, fun q hq => ?_⟩
  · exact absurd hf List.not_mem_nil
  · simp only [List.mem_cons, List.not_mem_nil, or_false] at hq
    subst hq
    show GDv (vw C h) 118 123 1777 ((0) + 0) ((1777) + 0)
    exact GD_cg2 p0 p1 (by omega)
/-- splitBank -/
theorem lem_37_ok (hU : uqG G C) : lem_37.1.2.1 = [] ∧ lemOK (PRd G C D xs) G rgs lem_37 := by
  refine ⟨rfl, fun ρ h ha hT => ?_⟩
  obtain ⟨-, -, hF, hG, hH, hA, hP⟩ := ha
  rcases (by omega : ρ 1 ≤ 0 ∨ 1 ≤ ρ 1) with hc | hc
  · refine ⟨_, List.mem_cons_self, ρ, fun _ _ => rfl, fun q hq => absurd hq List.not_mem_nil, trivial, fun f hf => ?_, fun q hq => absurd hq List.not_mem_nil, fun q hq => absurd hq List.not_mem_nil, fun q hq => absurd hq List.not_mem_nil, fun q hq => ?_⟩
    · simp only [List.mem_cons, List.not_mem_nil, or_false] at hf
      subst hf
      show (0 : Int) ≤ ((0) + ((-1) * ρ 1 + 0))
      omega
    · exact absurd hq List.not_mem_nil
  · refine ⟨_, (List.mem_cons_of_mem _ List.mem_cons_self), ρ, fun _ _ => rfl, fun q hq => absurd hq List.not_mem_nil, trivial, fun f hf => ?_, fun q hq => absurd hq List.not_mem_nil, fun q hq => absurd hq List.not_mem_nil, fun q hq => absurd hq List.not_mem_nil, fun q hq => ?_⟩
    · simp only [List.mem_cons, List.not_mem_nil, or_false] at hf
      subst hf
      show (0 : Int) ≤ ((-1) + ((1) * ρ 1 + 0))
      omega
    · exact absurd hq List.not_mem_nil
/-- mkNode -/
theorem lem_38_ok (hU : uqG G C) : lem_38.1.2.1 = [] ∧ lemOK (PRd G C D xs) G rgs lem_38 := by
  refine ⟨rfl, fun ρ h ha hT => ?_⟩
  obtain ⟨-, -, hF, hG, hH, hA, hP⟩ := ha
  have f0 : (0 : Int) ≤ ((0) + ((1) * ρ 1 + 0)) := hF _ (List.mem_of_getElem? (i := 0) rfl)
  have f1 : (0 : Int) ≤ ((1399) + ((-1) * ρ 1 + 0)) := hF _ (List.mem_of_getElem? (i := 1) rfl)
  have f2 : (0 : Int) ≤ ((0) + ((1) * ρ 5 + 0)) := hF _ (List.mem_of_getElem? (i := 2) rfl)
  have f3 : (0 : Int) ≤ ((5) + ((-1) * ρ 5 + 0)) := hF _ (List.mem_of_getElem? (i := 3) rfl)
  have g1 : G (ρ 2).toNat = 137 := by
    have q := (hG _ (List.mem_of_getElem? (i := 1) rfl)).2
    rwa [show ev ρ (0, [(2, 1)]) = ρ 2 from ev_v] at q
  have g2 : G (ρ 3).toNat = 138 := by
    have q := (hG _ (List.mem_of_getElem? (i := 2) rfl)).2
    rwa [show ev ρ (0, [(3, 1)]) = ρ 3 from ev_v] at q
  have g3 : G (ρ 4).toNat = 139 := by
    have q := (hG _ (List.mem_of_getElem? (i := 3) rfl)).2
    rwa [show ev ρ (0, [(4, 1)]) = ρ 4 from ev_v] at q
  have b0 : (0 : Int) ≤ ((0) + ((1) * ρ 1 + 0)) := b_aA (hA _ (List.mem_of_getElem? (i := 0) rfl))
  have b1 : (0 : Int) ≤ ((0) + ((1) * ρ 1 + 0)) := b_aA (hA _ (List.mem_of_getElem? (i := 1) rfl))
  have b2 : (0 : Int) ≤ ((0) + ((1) * ρ 1 + 0)) := b_aA (hA _ (List.mem_of_getElem? (i := 2) rfl))
  have a0 : vw C h 137 ((ρ 1).toNat) = ρ 5 := vw_aA hU (hA _ (List.mem_of_getElem? (i := 0) rfl)) ev_v g1 (by omega) (by omega) (i := (ρ 1).toNat) (show ((((ρ 1).toNat : Nat)) : Int) = ((0) + ((1) * ρ 1 + 0)) by omega) ev_v
  have a1 : vw C h 138 ((ρ 1).toNat) = ρ 6 := vw_aA hU (hA _ (List.mem_of_getElem? (i := 1) rfl)) ev_v g2 (by omega) (by omega) (i := (ρ 1).toNat) (show ((((ρ 1).toNat : Nat)) : Int) = ((0) + ((1) * ρ 1 + 0)) by omega) ev_v
  have a2 : vw C h 139 ((ρ 1).toNat) = ρ 7 := vw_aA hU (hA _ (List.mem_of_getElem? (i := 2) rfl)) ev_v g3 (by omega) (by omega) (i := (ρ 1).toNat) (show ((((ρ 1).toNat : Nat)) : Int) = ((0) + ((1) * ρ 1 + 0)) by omega) ev_v
  refine ⟨_, List.mem_cons_self, ρ, fun _ _ => rfl, fun q hq => absurd hq List.not_mem_nil, trivial, fun f hf => ?_, fun q hq => absurd hq List.not_mem_nil, fun q hq => absurd hq List.not_mem_nil, fun q hq => absurd hq List.not_mem_nil, fun q hq => ?_⟩
  · exact absurd hf List.not_mem_nil
  · simp only [List.mem_cons, List.not_mem_nil, or_false] at hq
    rcases hq with rfl | rfl
    · show P70 (vw C h) ((0) + ((1) * ρ 1 + 0)) ((0) + ((1) * ρ 5 + ((8) * ρ 6 + 0)))
      exact ⟨by omega, by omega, by rw [show ((0 : Int) + (1 * ρ 1 + 0)).toNat = (ρ 1).toNat by omega, a0, a1]; omega⟩
    · show P71 (vw C h) ((0) + ((1) * ρ 1 + 0)) ((0) + ((1) * ρ 7 + 0))
      exact ⟨by omega, by omega, by rw [show ((0 : Int) + (1 * ρ 1 + 0)).toNat = (ρ 1).toNat by omega, a2]; omega⟩
/-- mkLeaf -/
theorem lem_39_ok (hU : uqG G C) : lem_39.1.2.1 = [] ∧ lemOK (PRd G C D xs) G rgs lem_39 := by
  refine ⟨rfl, fun ρ h ha hT => ?_⟩
  obtain ⟨-, -, hF, hG, hH, hA, hP⟩ := ha
  have f0 : (0 : Int) ≤ ((-3) + ((1) * ρ 2 + 0)) := hF _ (List.mem_of_getElem? (i := 0) rfl)
  have f1 : (0 : Int) ≤ ((5) + ((-1) * ρ 2 + 0)) := hF _ (List.mem_of_getElem? (i := 1) rfl)
  have f2 : (0 : Int) ≤ ((0) + ((1) * ρ 1 + 0)) := hF _ (List.mem_of_getElem? (i := 2) rfl)
  have f3 : (0 : Int) ≤ ((4) + ((-1) * ρ 1 + 0)) := hF _ (List.mem_of_getElem? (i := 3) rfl)
  have f4 : (0 : Int) ≤ ((0) + ((1) * ρ 3 + 0)) := hF _ (List.mem_of_getElem? (i := 4) rfl)
  have f5 : (0 : Int) ≤ ((1399) + ((-1) * ρ 3 + 0)) := hF _ (List.mem_of_getElem? (i := 5) rfl)
  have p0 : P60 (vw C h) ((0) + ((1) * ρ 3 + 0)) ((0) + ((1) * ρ 4 + 0)) := hP _ (List.mem_of_getElem? (i := 0) rfl)
  have p1 : P70 (vw C h) ((0) + ((1) * ρ 3 + 0)) ((0) + ((8) * ρ 1 + ((1) * ρ 2 + 0))) := hP _ (List.mem_of_getElem? (i := 1) rfl)
  have q := mkLeaf_ok (w := ρ 1) (hh := ρ 2) (k := _) (e := ((1) + ((1) * ρ 3 + 0))) (z := ((1) + ((1) * ρ 3 + ((2048) * ρ 4 + 0)))) (by omega) (by omega) (by omega) (by omega) (by omega) (by omega) p0 p1 (by omega) (by omega) (by omega)
  refine ⟨_, List.mem_cons_self, ρ, fun _ _ => rfl, fun q hq => absurd hq List.not_mem_nil, trivial, fun f hf => ?_, fun q hq => absurd hq List.not_mem_nil, fun q hq => absurd hq List.not_mem_nil, fun q hq => absurd hq List.not_mem_nil, fun q hq => ?_⟩
  · exact absurd hf List.not_mem_nil
  · simp only [List.mem_cons, List.not_mem_nil, or_false] at hq
    rcases hq with rfl | rfl
    · show P60 (vw C h) ((1) + ((1) * ρ 3 + 0)) ((1) + ((1) * ρ 3 + ((2048) * ρ 4 + 0)))
      exact q.1
    · show P64 ((1) + ((1) * ρ 3 + ((2048) * ρ 4 + 0))) ((0) + ((1) * ρ 4 + 0))
      exact q.2
/-- mkNot -/
theorem lem_40_ok (hU : uqG G C) : lem_40.1.2.1 = [] ∧ lemOK (PRd G C D xs) G rgs lem_40 := by
  refine ⟨rfl, fun ρ h ha hT => ?_⟩
  obtain ⟨-, -, hF, hG, hH, hA, hP⟩ := ha
  have f0 : (0 : Int) ≤ ((-1) + ((1) * ρ 1 + 0)) := hF _ (List.mem_of_getElem? (i := 0) rfl)
  have f1 : (0 : Int) ≤ ((1399) + ((-1) * ρ 1 + 0)) := hF _ (List.mem_of_getElem? (i := 1) rfl)
  have p0 : P60 (vw C h) ((0) + ((1) * ρ 1 + 0)) ((0) + ((1) * ρ 2 + 0)) := hP _ (List.mem_of_getElem? (i := 0) rfl)
  have p1 : P64 ((0) + ((1) * ρ 2 + 0)) ((0) + ((1) * ρ 3 + 0)) := hP _ (List.mem_of_getElem? (i := 1) rfl)
  have p2 : P70 (vw C h) ((0) + ((1) * ρ 1 + 0)) ((-6) + ((8) * ρ 1 + 0)) := hP _ (List.mem_of_getElem? (i := 2) rfl)
  refine ⟨_, List.mem_cons_self, ρ, fun _ _ => rfl, fun q hq => absurd hq List.not_mem_nil, trivial, fun f hf => ?_, fun q hq => absurd hq List.not_mem_nil, fun q hq => absurd hq List.not_mem_nil, fun q hq => absurd hq List.not_mem_nil, fun q hq => ?_⟩
  · exact absurd hf List.not_mem_nil
  · simp only [List.mem_cons, List.not_mem_nil, or_false] at hq
    subst hq
    show P60 (vw C h) ((1) + ((1) * ρ 1 + 0)) ((0) + ((1) * ρ 2 + 0))
    exact mkNot_ok (by omega) (by omega) p0 p1 p2 (by omega) (by omega)
/-- preOver -/
theorem lem_41_ok (hU : uqG G C) : lem_41.1.2.1 = [] ∧ lemOK (PRd G C D xs) G rgs lem_41 := by
  refine ⟨rfl, fun ρ h ha hT => ?_⟩
  obtain ⟨-, -, hF, hG, hH, hA, hP⟩ := ha
  have f0 : (0 : Int) ≤ ((0) + ((1) * ρ 1 + 0)) := hF _ (List.mem_of_getElem? (i := 0) rfl)
  have f1 : (0 : Int) ≤ ((-1) + ((-1) * ρ 1 + ((1) * ρ 2 + 0))) := hF _ (List.mem_of_getElem? (i := 1) rfl)
  have f2 : (0 : Int) ≤ ((1399) + ((-1) * ρ 2 + 0)) := hF _ (List.mem_of_getElem? (i := 2) rfl)
  have f3 : (0 : Int) ≤ ((2) + ((1) * ρ 1 + ((-1) * ρ 3 + ((2048) * ρ 4 + 0)))) := hF _ (List.mem_of_getElem? (i := 3) rfl)
  have f4 : (0 : Int) ≤ ((-2) + ((-1) * ρ 1 + ((1) * ρ 3 + ((-2048) * ρ 4 + 0)))) := hF _ (List.mem_of_getElem? (i := 4) rfl)
  have p0 : P60 (vw C h) ((0) + ((1) * ρ 2 + 0)) ((0) + ((1) * ρ 3 + 0)) := hP _ (List.mem_of_getElem? (i := 0) rfl)
  have p1 : P64 ((0) + ((1) * ρ 3 + 0)) ((0) + ((1) * ρ 4 + 0)) := hP _ (List.mem_of_getElem? (i := 1) rfl)
  have q := preOver_ok (n := ((0) + ((1) * ρ 1 + 0))) (z := ((1) + ((1) * ρ 2 + ((2048) * ρ 3 + 0)))) (by omega) (by omega) (by omega) (by omega) p0 p1 (by omega)
  refine ⟨_, List.mem_cons_self, ρ, fun _ _ => rfl, fun q hq => absurd hq List.not_mem_nil, trivial, fun f hf => ?_, fun q hq => absurd hq List.not_mem_nil, fun q hq => absurd hq List.not_mem_nil, fun q hq => absurd hq List.not_mem_nil, fun q hq => ?_⟩
  · exact absurd hf List.not_mem_nil
  · simp only [List.mem_cons, List.not_mem_nil, or_false] at hq
    rcases hq with rfl | rfl
    · show P61 (vw C h) ((0) + ((1) * ρ 1 + 0)) ((1) + ((1) * ρ 2 + ((2048) * ρ 3 + 0)))
      exact q.1
    · show P64 ((1) + ((1) * ρ 2 + ((2048) * ρ 3 + 0))) ((0) + ((1) * ρ 3 + 0))
      exact q.2
/-- merge -/
theorem lem_42_ok (hU : uqG G C) : lem_42.1.2.1 = [] ∧ lemOK (PRd G C D xs) G rgs lem_42 := by
  refine ⟨rfl, fun ρ h ha hT => ?_⟩
  obtain ⟨-, -, hF, hG, hH, hA, hP⟩ := ha
  have f0 : (0 : Int) ≤ ((0) + ((-1) * ρ 2 + ((1) * ρ 4 + 0))) := hF _ (List.mem_of_getElem? (i := 0) rfl)
  have f1 : (0 : Int) ≤ ((0) + ((1) * ρ 2 + ((-1) * ρ 4 + 0))) := hF _ (List.mem_of_getElem? (i := 1) rfl)
  have f2 : (0 : Int) ≤ ((0) + ((1) * ρ 1 + 0)) := hF _ (List.mem_of_getElem? (i := 2) rfl)
  have f3 : (0 : Int) ≤ ((-1) + ((-1) * ρ 1 + ((1) * ρ 2 + 0))) := hF _ (List.mem_of_getElem? (i := 3) rfl)
  have f4 : (0 : Int) ≤ ((1399) + ((-1) * ρ 2 + 0)) := hF _ (List.mem_of_getElem? (i := 4) rfl)
  have f5 : (0 : Int) ≤ ((1) + ((1) * ρ 2 + ((-1) * ρ 5 + ((2048) * ρ 6 + 0)))) := hF _ (List.mem_of_getElem? (i := 5) rfl)
  have f6 : (0 : Int) ≤ ((-1) + ((-1) * ρ 2 + ((1) * ρ 5 + ((-2048) * ρ 6 + 0)))) := hF _ (List.mem_of_getElem? (i := 6) rfl)
  have f7 : (0 : Int) ≤ ((2) + ((1) * ρ 1 + ((-1) * ρ 6 + ((2048) * ρ 7 + 0)))) := hF _ (List.mem_of_getElem? (i := 7) rfl)
  have f8 : (0 : Int) ≤ ((-2) + ((-1) * ρ 1 + ((1) * ρ 6 + ((-2048) * ρ 7 + 0)))) := hF _ (List.mem_of_getElem? (i := 8) rfl)
  have f9 : (0 : Int) ≤ ((0) + ((-8) * ρ 1 + ((1) * ρ 9 + 0))) := hF _ (List.mem_of_getElem? (i := 9) rfl)
  have f10 : (0 : Int) ≤ ((1) + ((8) * ρ 1 + ((-1) * ρ 9 + 0))) := hF _ (List.mem_of_getElem? (i := 10) rfl)
  have f11 : (0 : Int) ≤ ((-1) + ((1) * ρ 2 + ((-1) * ρ 10 + 0))) := hF _ (List.mem_of_getElem? (i := 11) rfl)
  have f12 : (0 : Int) ≤ ((1) + ((-1) * ρ 2 + ((1) * ρ 10 + 0))) := hF _ (List.mem_of_getElem? (i := 12) rfl)
  have g1 : G (ρ 3).toNat = 140 := by
    have q := (hG _ (List.mem_of_getElem? (i := 1) rfl)).2
    rwa [show ev ρ (0, [(3, 1)]) = ρ 3 from ev_v] at q
  have b0 : (0 : Int) ≤ ((0) + ((1) * ρ 1 + 0)) := b_aA (hA _ (List.mem_of_getElem? (i := 0) rfl))
  have a0 : vw C h 140 ((ρ 1).toNat) = ρ 4 := vw_aA hU (hA _ (List.mem_of_getElem? (i := 0) rfl)) ev_v g1 (by omega) (by omega) (i := (ρ 1).toNat) (show ((((ρ 1).toNat : Nat)) : Int) = ((0) + ((1) * ρ 1 + 0)) by omega) ev_v
  have p0 : P61 (vw C h) ((0) + ((1) * ρ 1 + 0)) ((0) + ((1) * ρ 5 + 0)) := hP _ (List.mem_of_getElem? (i := 0) rfl)
  have p1 : P64 ((0) + ((1) * ρ 5 + 0)) ((0) + ((1) * ρ 6 + 0)) := hP _ (List.mem_of_getElem? (i := 1) rfl)
  have p2 : P64 ((0) + ((1) * ρ 6 + 0)) ((0) + ((1) * ρ 7 + 0)) := hP _ (List.mem_of_getElem? (i := 2) rfl)
  have p3 : P64 ((0) + ((1) * ρ 7 + 0)) ((0) + ((1) * ρ 8 + 0)) := hP _ (List.mem_of_getElem? (i := 3) rfl)
  have p4 : P70 (vw C h) ((0) + ((1) * ρ 2 + 0)) ((0) + ((1) * ρ 9 + 0)) := hP _ (List.mem_of_getElem? (i := 4) rfl)
  have p5 : P71 (vw C h) ((0) + ((1) * ρ 2 + 0)) ((0) + ((1) * ρ 10 + 0)) := hP _ (List.mem_of_getElem? (i := 5) rfl)
  refine ⟨_, List.mem_cons_self, ρ, fun _ _ => rfl, fun q hq => absurd hq List.not_mem_nil, trivial, fun f hf => ?_, fun q hq => absurd hq List.not_mem_nil, fun q hq => absurd hq List.not_mem_nil, fun q hq => absurd hq List.not_mem_nil, fun q hq => ?_⟩
  · exact absurd hf List.not_mem_nil
  · simp only [List.mem_cons, List.not_mem_nil, or_false] at hq
    subst hq
    show P60 (vw C h) ((1) + ((1) * ρ 2 + 0)) ((0) + ((1) * ρ 7 + 0))
    exact merge_ok (n := ((0) + ((1) * ρ 1 + 0))) (o := ρ 4) (by rw [show ((0 : Int) + (1 * ρ 1 + 0)).toNat = (ρ 1).toNat by omega]; exact a0) (by omega) (by omega) (by omega) (by omega) (by omega) (by omega) (by omega) (by omega) (by omega) p0 p3 p2 p4 p5 (by omega)
/-- ext66 -/
theorem lem_43_ok (hU : uqG G C) : lem_43.1.2.1 = [] ∧ lemOK (PRd G C D xs) G rgs lem_43 := by
  refine ⟨rfl, fun ρ h ha hT => ?_⟩
  obtain ⟨-, -, hF, hG, hH, hA, hP⟩ := ha
  have f0 : (0 : Int) ≤ ((0) + ((-1) * ρ 1 + ((1) * ρ 6 + 0))) := hF _ (List.mem_of_getElem? (i := 0) rfl)
  have f1 : (0 : Int) ≤ ((0) + ((1) * ρ 1 + ((-1) * ρ 6 + 0))) := hF _ (List.mem_of_getElem? (i := 1) rfl)
  have f2 : (0 : Int) ≤ ((0) + ((1) * ρ 5 + 0)) := hF _ (List.mem_of_getElem? (i := 2) rfl)
  have f3 : (0 : Int) ≤ ((3) + ((-1) * ρ 5 + 0)) := hF _ (List.mem_of_getElem? (i := 3) rfl)
  have f4 : (0 : Int) ≤ ((0) + ((1) * ρ 3 + 0)) := hF _ (List.mem_of_getElem? (i := 4) rfl)
  have f5 : (0 : Int) ≤ ((1) + ((-1) * ρ 3 + 0)) := hF _ (List.mem_of_getElem? (i := 5) rfl)
  have f6 : (0 : Int) ≤ ((-1) + ((1) * ρ 4 + 0)) := hF _ (List.mem_of_getElem? (i := 6) rfl)
  have f7 : (0 : Int) ≤ ((700) + ((-1) * ρ 4 + 0)) := hF _ (List.mem_of_getElem? (i := 7) rfl)
  have f8 : (0 : Int) ≤ ((-700) + ((1) * ρ 1 + ((700) * ρ 3 + 0))) := hF _ (List.mem_of_getElem? (i := 8) rfl)
  have f9 : (0 : Int) ≤ ((699) + ((-1) * ρ 1 + ((-700) * ρ 3 + ((1) * ρ 4 + 0)))) := hF _ (List.mem_of_getElem? (i := 9) rfl)
  have f10 : (0 : Int) ≤ ((-1433600) + ((1433600) * ρ 3 + ((1) * ρ 7 + 0))) := hF _ (List.mem_of_getElem? (i := 10) rfl)
  have f11 : (0 : Int) ≤ ((1434300) + ((-1434300) * ρ 3 + ((1) * ρ 4 + ((-1) * ρ 7 + 0)))) := hF _ (List.mem_of_getElem? (i := 11) rfl)
  have g1 : G (ρ 2).toNat = 124 := by
    have q := (hG _ (List.mem_of_getElem? (i := 1) rfl)).2
    rwa [show ev ρ (0, [(2, 1)]) = ρ 2 from ev_v] at q
  have b0 : (0 : Int) ≤ ((50) + 0) := b_aA (hA _ (List.mem_of_getElem? (i := 0) rfl))
  have b1 : (0 : Int) ≤ ((51) + ((1) * ρ 5 + 0)) := b_aA (hA _ (List.mem_of_getElem? (i := 1) rfl))
  have a0 : vw C h 124 (50) = ρ 5 := vw_aA hU (hA _ (List.mem_of_getElem? (i := 0) rfl)) ev_v g1 (by omega) (by omega) (i := 50) (show (((50 : Nat)) : Int) = ((50) + 0) by omega) ev_v
  have a1 : vw C h 124 (51 + (ρ 5).toNat) = ρ 6 := vw_aA hU (hA _ (List.mem_of_getElem? (i := 1) rfl)) ev_v g1 (by omega) (by omega) (i := 51 + (ρ 5).toNat) (show (((51 + (ρ 5).toNat : Nat)) : Int) = ((51) + ((1) * ρ 5 + 0)) by omega) ev_v
  have p0 : P66 (vw C h) ((0) + ((1) * ρ 5 + 0)) ((0) + ((1) * ρ 7 + 0)) := hP _ (List.mem_of_getElem? (i := 0) rfl)
  refine ⟨_, List.mem_cons_self, ρ, fun _ _ => rfl, fun q hq => absurd hq List.not_mem_nil, trivial, fun f hf => ?_, fun q hq => absurd hq List.not_mem_nil, fun q hq => absurd hq List.not_mem_nil, fun q hq => absurd hq List.not_mem_nil, fun q hq => ?_⟩
  · exact absurd hf List.not_mem_nil
  · simp only [List.mem_cons, List.not_mem_nil, or_false] at hq
    subst hq
    show P66 (vw C h) ((1) + ((1) * ρ 5 + 0)) ((1434300) + ((-1434300) * ρ 3 + ((1) * ρ 4 + 0)))
    exact fun i i1 i2 => by
      by_cases hi : i = (ρ 5).toNat
      · subst hi
        rw [a1]
        omega
      · have q := p0 i i1 (by omega)
        omega
/-- zero66 -/
theorem lem_44_ok (hU : uqG G C) : lem_44.1.2.1 = [] ∧ lemOK (PRd G C D xs) G rgs lem_44 := by
  refine ⟨rfl, fun ρ h ha hT => ?_⟩
  obtain ⟨-, -, hF, hG, hH, hA, hP⟩ := ha
  have f0 : (0 : Int) ≤ ((0) + ((1) * ρ 2 + 0)) := hF _ (List.mem_of_getElem? (i := 0) rfl)
  have f1 : (0 : Int) ≤ ((1) + ((-1) * ρ 2 + 0)) := hF _ (List.mem_of_getElem? (i := 1) rfl)
  have g1 : G (ρ 1).toNat = 124 := by
    have q := (hG _ (List.mem_of_getElem? (i := 1) rfl)).2
    rwa [show ev ρ (0, [(1, 1)]) = ρ 1 from ev_v] at q
  have b0 : (0 : Int) ≤ ((50) + 0) := b_aA (hA _ (List.mem_of_getElem? (i := 0) rfl))
  have a0 : vw C h 124 (50) = ρ 3 := vw_aA hU (hA _ (List.mem_of_getElem? (i := 0) rfl)) ev_v g1 (by omega) (by omega) (i := 50) (show (((50 : Nat)) : Int) = ((50) + 0) by omega) ev_v
  have p0 : P47 (vw C h) ((55) + 0) := hP _ (List.mem_of_getElem? (i := 0) rfl)
  have q := p0 50 (by omega) (by omega)
  refine ⟨_, List.mem_cons_self, ρ, fun _ _ => rfl, fun q hq => absurd hq List.not_mem_nil, trivial, fun f hf => ?_, fun q hq => absurd hq List.not_mem_nil, fun q hq => absurd hq List.not_mem_nil, fun q hq => absurd hq List.not_mem_nil, fun q hq => ?_⟩
  · simp only [List.mem_cons, List.not_mem_nil, or_false] at hf
    rcases hf with rfl | rfl
    · show (0 : Int) ≤ ((0) + ((-1) * ρ 3 + 0))
      omega
    · show (0 : Int) ≤ ((0) + ((1) * ρ 3 + 0))
      omega
  · simp only [List.mem_cons, List.not_mem_nil, or_false] at hq
    rcases hq with rfl | rfl | rfl
    · show P66 (vw C h) ((0) + 0) ((1434300) + ((-1434300) * ρ 2 + 0))
      exact fun i i1 i2 => by omega
    · show P60 (vw C h) ((700) + ((-700) * ρ 2 + 0)) ((701) + ((-700) * ρ 2 + 0))
      exact ⟨1, by omega, Or.inl ⟨by omega, by omega, by omega, fun n n1 n2 => by omega⟩⟩
    · show ∃ f, btm f ((701) + ((-700) * ρ 2 + 0)) ((700) + ((-700) * ρ 2 + 0))
      exact ⟨1, Or.inl ⟨by omega, by omega, by omega⟩⟩
/-- bot -/
theorem lem_45_ok (hU : uqG G C) : lem_45.1.2.1 = [] ∧ lemOK (PRd G C D xs) G rgs lem_45 := by
  refine ⟨rfl, fun ρ h ha hT => ?_⟩
  obtain ⟨-, -, hF, hG, hH, hA, hP⟩ := ha
  have p0 : P60 (vw C h) ((700) + ((-700) * ρ 1 + ((1) * ρ 2 + 0))) ((0) + ((1) * ρ 3 + 0)) := hP _ (List.mem_of_getElem? (i := 0) rfl)
  have p1 : P64 ((0) + ((1) * ρ 3 + 0)) ((0) + ((1) * ρ 4 + 0)) := hP _ (List.mem_of_getElem? (i := 1) rfl)
  have p2 : ∃ f, btm f ((0) + ((1) * ρ 4 + 0)) ((0) + ((1) * ρ 5 + 0)) := hP _ (List.mem_of_getElem? (i := 2) rfl)
  refine ⟨_, List.mem_cons_self, ρ, fun _ _ => rfl, fun q hq => absurd hq List.not_mem_nil, trivial, fun f hf => ?_, fun q hq => absurd hq List.not_mem_nil, fun q hq => absurd hq List.not_mem_nil, fun q hq => absurd hq List.not_mem_nil, fun q hq => ?_⟩
  · exact absurd hf List.not_mem_nil
  · simp only [List.mem_cons, List.not_mem_nil, or_false] at hq
    subst hq
    show ∃ f, btm f ((0) + ((1) * ρ 3 + 0)) ((0) + ((1) * ρ 5 + 0))
    obtain ⟨f, q⟩ := p2
    obtain ⟨s, s1, s2, s3, s4⟩ := p1
    refine ⟨f + 1, Or.inr ⟨by omega, ?_⟩⟩
    rw [show ((0 : Int) + (1 * ρ 3 + 0)) / 2048 = ((0 : Int) + (1 * ρ 4 + 0)) by omega]
    exact q
/-- fold -/
theorem lem_46_ok (hU : uqG G C) : lem_46.1.2.1 = [] ∧ lemOK (PRd G C D xs) G rgs lem_46 := by
  refine ⟨rfl, fun ρ h ha hT => ?_⟩
  obtain ⟨-, -, hF, hG, hH, hA, hP⟩ := ha
  have f0 : (0 : Int) ≤ ((0) + ((1) * ρ 2 + 0)) := hF _ (List.mem_of_getElem? (i := 0) rfl)
  have f1 : (0 : Int) ≤ ((1) + ((-1) * ρ 2 + 0)) := hF _ (List.mem_of_getElem? (i := 1) rfl)
  have f2 : (0 : Int) ≤ ((0) + ((1) * ρ 3 + 0)) := hF _ (List.mem_of_getElem? (i := 2) rfl)
  have f3 : (0 : Int) ≤ ((700) + ((-1) * ρ 3 + 0)) := hF _ (List.mem_of_getElem? (i := 3) rfl)
  have f4 : (0 : Int) ≤ ((0) + ((1) * ρ 4 + 0)) := hF _ (List.mem_of_getElem? (i := 4) rfl)
  have f5 : (0 : Int) ≤ ((4) + ((-1) * ρ 4 + 0)) := hF _ (List.mem_of_getElem? (i := 5) rfl)
  have f6 : (0 : Int) ≤ ((-1433600) + ((1433600) * ρ 2 + ((1) * ρ 6 + 0))) := hF _ (List.mem_of_getElem? (i := 6) rfl)
  have f7 : (0 : Int) ≤ ((1434300) + ((-1434300) * ρ 2 + ((1) * ρ 3 + ((-1) * ρ 6 + 0)))) := hF _ (List.mem_of_getElem? (i := 7) rfl)
  have g1 : G (ρ 1).toNat = 124 := by
    have q := (hG _ (List.mem_of_getElem? (i := 1) rfl)).2
    rwa [show ev ρ (0, [(1, 1)]) = ρ 1 from ev_v] at q
  have b0 : (0 : Int) ≤ ((50) + 0) := b_aA (hA _ (List.mem_of_getElem? (i := 0) rfl))
  have a0 : vw C h 124 (50) = ρ 4 := vw_aA hU (hA _ (List.mem_of_getElem? (i := 0) rfl)) ev_v g1 (by omega) (by omega) (i := 50) (show (((50 : Nat)) : Int) = ((50) + 0) by omega) ev_v
  have p0 : P60 (vw C h) ((700) + ((-700) * ρ 2 + ((1) * ρ 3 + 0))) ((0) + ((1) * ρ 5 + 0)) := hP _ (List.mem_of_getElem? (i := 0) rfl)
  have p1 : ∃ f, btm f ((0) + ((1) * ρ 5 + 0)) ((700) + ((-700) * ρ 2 + 0)) := hP _ (List.mem_of_getElem? (i := 1) rfl)
  have p2 : P66 (vw C h) ((0) + ((1) * ρ 4 + 0)) ((0) + ((1) * ρ 6 + 0)) := hP _ (List.mem_of_getElem? (i := 2) rfl)
  refine ⟨_, List.mem_cons_self, ρ, fun _ _ => rfl, fun q hq => absurd hq List.not_mem_nil, trivial, fun f hf => ?_, fun q hq => absurd hq List.not_mem_nil, fun q hq => absurd hq List.not_mem_nil, fun q hq => absurd hq List.not_mem_nil, fun q hq => ?_⟩
  · exact absurd hf List.not_mem_nil
  · simp only [List.mem_cons, List.not_mem_nil, or_false] at hq
    subst hq
    show rts (vw C h) 124 ((700) + ((-700) * ρ 2 + 0))
    obtain ⟨f, q⟩ := p0
    obtain ⟨f', q'⟩ := p1
    obtain ⟨l0, l1, l2⟩ := fold_ok q q'
    refine ⟨_, l0, by omega, by omega, l2, fun i i1 i2 => ?_⟩
    have := p2 i i1 (by omega)
    omega
/-- newRoots -/
theorem lem_47_ok (hU : uqG G C) : lem_47.1.2.1 = [] ∧ lemOK (PRd G C D xs) G rgs lem_47 := by
  refine ⟨rfl, fun ρ h ha hT => ?_⟩
  obtain ⟨-, -, hF, hG, hH, hA, hP⟩ := ha
  have f0 : (0 : Int) ≤ ((0) + ((1) * ρ 1 + 0)) := hF _ (List.mem_of_getElem? (i := 0) rfl)
  have f1 : (0 : Int) ≤ ((1) + ((-1) * ρ 1 + 0)) := hF _ (List.mem_of_getElem? (i := 1) rfl)
  have p0 : P46 (vw C h) ((55) + 0) := hP _ (List.mem_of_getElem? (i := 0) rfl)
  have p1 : rts (vw C h) 124 ((0) + ((700) * ρ 1 + 0)) := hP _ (List.mem_of_getElem? (i := 1) rfl)
  refine ⟨_, List.mem_cons_self, ρ, fun _ _ => rfl, fun q hq => absurd hq List.not_mem_nil, trivial, fun f hf => ?_, fun q hq => absurd hq List.not_mem_nil, fun q hq => absurd hq List.not_mem_nil, fun q hq => absurd hq List.not_mem_nil, fun q hq => ?_⟩
  · exact absurd hf List.not_mem_nil
  · simp only [List.mem_cons, List.not_mem_nil, or_false] at hq
    subst hq
    show rts (vw C h) 123 ((0) + ((700) * ρ 1 + 0))
    obtain ⟨hi, l0, a1, a2, hc, hr⟩ := p1
    refine ⟨hi, l0, a1, a2, hc, fun i i1 i2 => ?_⟩
    rw [p0 50 (by omega) (by omega)] at i2
    rw [p0 (51 + i) (by omega) (by omega)]
    exact hr i i1 i2
/-- spine0 -/
theorem lem_48_ok (hU : uqG G C) : lem_48.1.2.1 = [] ∧ lemOK (PRd G C D xs) G rgs lem_48 := by
  refine ⟨rfl, fun ρ h ha hT => ?_⟩
  obtain ⟨-, -, hF, hG, hH, hA, hP⟩ := ha
  have p0 : P67 (vw C h) ((0) + ((1) * ρ 0 + 0)) ((0) + ((1) * ρ 1 + 0)) := hP _ (List.mem_of_getElem? (i := 0) rfl)
  refine ⟨_, List.mem_cons_self, ρ, fun _ _ => rfl, fun q hq => absurd hq List.not_mem_nil, trivial, fun f hf => ?_, fun q hq => absurd hq List.not_mem_nil, fun q hq => absurd hq List.not_mem_nil, fun q hq => absurd hq List.not_mem_nil, fun q hq => ?_⟩
  · exact absurd hf List.not_mem_nil
  · simp only [List.mem_cons, List.not_mem_nil, or_false] at hq
    subst hq
    show P68 (vw C h) ((0) + ((1) * ρ 0 + 0)) ((0) + ((1) * ρ 0 + 0))
    obtain ⟨hi, l0, a1, a2, hc, n1, n2⟩ := p0
    exact ⟨_, hi, l0, a2, hc, n1, n2, 0, by show (((0 : Int) + (1 * ρ 0 + 0)).toNat : Int) = _; omega, fun i hi => by omega⟩
/-- down -/
theorem lem_49_ok (hU : uqG G C) : lem_49.1.2.1 = [] ∧ lemOK (PRd G C D xs) G rgs lem_49 := by
  refine ⟨rfl, fun ρ h ha hT => ?_⟩
  obtain ⟨-, -, hF, hG, hH, hA, hP⟩ := ha
  have f0 : (0 : Int) ≤ ((1) + ((-1) * ρ 6 + 0)) := hF _ (List.mem_of_getElem? (i := 0) rfl)
  have f1 : (0 : Int) ≤ ((0) + ((1) * ρ 3 + ((-1) * ρ 7 + 0))) := hF _ (List.mem_of_getElem? (i := 1) rfl)
  have f2 : (0 : Int) ≤ ((0) + ((-1) * ρ 3 + ((1) * ρ 7 + 0))) := hF _ (List.mem_of_getElem? (i := 2) rfl)
  have f3 : (0 : Int) ≤ ((0) + ((1) * ρ 2 + 0)) := hF _ (List.mem_of_getElem? (i := 3) rfl)
  have f4 : (0 : Int) ≤ ((1399) + ((-1) * ρ 2 + 0)) := hF _ (List.mem_of_getElem? (i := 4) rfl)
  have f5 : (0 : Int) ≤ ((0) + ((1) * ρ 1 + 0)) := hF _ (List.mem_of_getElem? (i := 5) rfl)
  have f6 : (0 : Int) ≤ ((1399) + ((-1) * ρ 1 + 0)) := hF _ (List.mem_of_getElem? (i := 6) rfl)
  have g1 : G (ρ 4).toNat = 137 := by
    have q := (hG _ (List.mem_of_getElem? (i := 1) rfl)).2
    rwa [show ev ρ (0, [(4, 1)]) = ρ 4 from ev_v] at q
  have g2 : G (ρ 5).toNat = 138 := by
    have q := (hG _ (List.mem_of_getElem? (i := 2) rfl)).2
    rwa [show ev ρ (0, [(5, 1)]) = ρ 5 from ev_v] at q
  have b0 : (0 : Int) ≤ ((0) + ((1) * ρ 2 + 0)) := b_aA (hA _ (List.mem_of_getElem? (i := 0) rfl))
  have b1 : (0 : Int) ≤ ((0) + ((1) * ρ 2 + 0)) := b_aA (hA _ (List.mem_of_getElem? (i := 1) rfl))
  have a0 : vw C h 137 ((ρ 2).toNat) = ρ 6 := vw_aA hU (hA _ (List.mem_of_getElem? (i := 0) rfl)) ev_v g1 (by omega) (by omega) (i := (ρ 2).toNat) (show ((((ρ 2).toNat : Nat)) : Int) = ((0) + ((1) * ρ 2 + 0)) by omega) ev_v
  have a1 : vw C h 138 ((ρ 2).toNat) = ρ 7 := vw_aA hU (hA _ (List.mem_of_getElem? (i := 1) rfl)) ev_v g2 (by omega) (by omega) (i := (ρ 2).toNat) (show ((((ρ 2).toNat : Nat)) : Int) = ((0) + ((1) * ρ 2 + 0)) by omega) ev_v
  have p0 : P68 (vw C h) ((0) + ((1) * ρ 1 + 0)) ((0) + ((1) * ρ 2 + 0)) := hP _ (List.mem_of_getElem? (i := 0) rfl)
  have q := down_ok (f := ((0) + ((1) * ρ 3 + 0))) (a := ρ 6) (b := ρ 7) (by rw [(show ((0 : Int) + (1 * ρ 2 + 0)).toNat = (ρ 2).toNat by omega)]; exact a0) (by omega) (by rw [(show ((0 : Int) + (1 * ρ 2 + 0)).toNat = (ρ 2).toNat by omega)]; exact a1) (by omega) p0
  refine ⟨_, List.mem_cons_self, ρ, fun _ _ => rfl, fun q hq => absurd hq List.not_mem_nil, trivial, fun f hf => ?_, fun q hq => absurd hq List.not_mem_nil, fun q hq => absurd hq List.not_mem_nil, fun q hq => absurd hq List.not_mem_nil, fun q hq => ?_⟩
  · simp only [List.mem_cons, List.not_mem_nil, or_false] at hf
    rcases hf with rfl | rfl
    · show (0 : Int) ≤ ((0) + ((1) * ρ 3 + 0))
      omega
    · show (0 : Int) ≤ ((-1) + ((1) * ρ 2 + ((-1) * ρ 3 + 0)))
      omega
  · simp only [List.mem_cons, List.not_mem_nil, or_false] at hq
    subst hq
    show P68 (vw C h) ((0) + ((1) * ρ 1 + 0)) ((0) + ((1) * ρ 3 + 0))
    exact q.2.2
/-- up -/
theorem lem_50_ok (hU : uqG G C) : lem_50.1.2.1 = [] ∧ lemOK (PRd G C D xs) G rgs lem_50 := by
  refine ⟨rfl, fun ρ h ha hT => ?_⟩
  obtain ⟨-, -, hF, hG, hH, hA, hP⟩ := ha
  have f0 : (0 : Int) ≤ ((0) + ((1) * ρ 3 + ((-1) * ρ 5 + 0))) := hF _ (List.mem_of_getElem? (i := 0) rfl)
  have f1 : (0 : Int) ≤ ((0) + ((-1) * ρ 3 + ((1) * ρ 5 + 0))) := hF _ (List.mem_of_getElem? (i := 1) rfl)
  have f2 : (0 : Int) ≤ ((0) + ((1) * ρ 2 + 0)) := hF _ (List.mem_of_getElem? (i := 2) rfl)
  have f3 : (0 : Int) ≤ ((-1) + ((1) * ρ 1 + ((-1) * ρ 2 + 0))) := hF _ (List.mem_of_getElem? (i := 3) rfl)
  have f4 : (0 : Int) ≤ ((1399) + ((-1) * ρ 1 + 0)) := hF _ (List.mem_of_getElem? (i := 4) rfl)
  have g1 : G (ρ 4).toNat = 140 := by
    have q := (hG _ (List.mem_of_getElem? (i := 1) rfl)).2
    rwa [show ev ρ (0, [(4, 1)]) = ρ 4 from ev_v] at q
  have b0 : (0 : Int) ≤ ((0) + ((1) * ρ 2 + 0)) := b_aA (hA _ (List.mem_of_getElem? (i := 0) rfl))
  have a0 : vw C h 140 ((ρ 2).toNat) = ρ 5 := vw_aA hU (hA _ (List.mem_of_getElem? (i := 0) rfl)) ev_v g1 (by omega) (by omega) (i := (ρ 2).toNat) (show ((((ρ 2).toNat : Nat)) : Int) = ((0) + ((1) * ρ 2 + 0)) by omega) ev_v
  have p0 : P68 (vw C h) ((0) + ((1) * ρ 1 + 0)) ((0) + ((1) * ρ 2 + 0)) := hP _ (List.mem_of_getElem? (i := 0) rfl)
  have q := up_ok (o := ((0) + ((1) * ρ 3 + 0))) (g := ρ 5) (by rw [(show ((0 : Int) + (1 * ρ 2 + 0)).toNat = (ρ 2).toNat by omega)]; exact a0) (by omega) (by omega) p0
  refine ⟨_, List.mem_cons_self, ρ, fun _ _ => rfl, fun q hq => absurd hq List.not_mem_nil, trivial, fun f hf => ?_, fun q hq => absurd hq List.not_mem_nil, fun q hq => absurd hq List.not_mem_nil, fun q hq => absurd hq List.not_mem_nil, fun q hq => ?_⟩
  · simp only [List.mem_cons, List.not_mem_nil, or_false] at hf
    rcases hf with rfl | rfl
    · show (0 : Int) ≤ ((-1) + ((-1) * ρ 2 + ((1) * ρ 3 + 0)))
      omega
    · show (0 : Int) ≤ ((0) + ((1) * ρ 1 + ((-1) * ρ 3 + 0)))
      omega
  · simp only [List.mem_cons, List.not_mem_nil, or_false] at hq
    rcases hq with rfl | rfl
    · show P68 (vw C h) ((0) + ((1) * ρ 1 + 0)) ((0) + ((1) * ρ 3 + 0))
      exact q.2.2.1
    · show P69 (vw C h) ((0) + ((1) * ρ 1 + 0)) ((0) + ((1) * ρ 3 + 0))
      exact q.2.2.2
/-- sec -/
theorem lem_51_ok (hU : uqG G C) : lem_51.1.2.1 = [] ∧ lemOK (PRd G C D xs) G rgs lem_51 := by
  refine ⟨rfl, fun ρ h ha hT => ?_⟩
  obtain ⟨-, -, hF, hG, hH, hA, hP⟩ := ha
  have f0 : (0 : Int) ≤ ((0) + ((1) * ρ 3 + ((-1) * ρ 5 + 0))) := hF _ (List.mem_of_getElem? (i := 0) rfl)
  have f1 : (0 : Int) ≤ ((0) + ((-1) * ρ 3 + ((1) * ρ 5 + 0))) := hF _ (List.mem_of_getElem? (i := 1) rfl)
  have f2 : (0 : Int) ≤ ((0) + ((1) * ρ 2 + 0)) := hF _ (List.mem_of_getElem? (i := 2) rfl)
  have f3 : (0 : Int) ≤ ((0) + ((1) * ρ 1 + ((-1) * ρ 2 + 0))) := hF _ (List.mem_of_getElem? (i := 3) rfl)
  have f4 : (0 : Int) ≤ ((1399) + ((-1) * ρ 1 + 0)) := hF _ (List.mem_of_getElem? (i := 4) rfl)
  have f5 : (0 : Int) ≤ ((0) + ((1) * ρ 1 + 0)) := hF _ (List.mem_of_getElem? (i := 5) rfl)
  have g1 : G (ρ 4).toNat = 139 := by
    have q := (hG _ (List.mem_of_getElem? (i := 1) rfl)).2
    rwa [show ev ρ (0, [(4, 1)]) = ρ 4 from ev_v] at q
  have b0 : (0 : Int) ≤ ((0) + ((1) * ρ 2 + 0)) := b_aA (hA _ (List.mem_of_getElem? (i := 0) rfl))
  have a0 : vw C h 139 ((ρ 2).toNat) = ρ 5 := vw_aA hU (hA _ (List.mem_of_getElem? (i := 0) rfl)) ev_v g1 (by omega) (by omega) (i := (ρ 2).toNat) (show ((((ρ 2).toNat : Nat)) : Int) = ((0) + ((1) * ρ 2 + 0)) by omega) ev_v
  have p0 : P69 (vw C h) ((0) + ((1) * ρ 1 + 0)) ((0) + ((1) * ρ 2 + 0)) := hP _ (List.mem_of_getElem? (i := 0) rfl)
  have p1 : P67 (vw C h) ((0) + ((1) * ρ 1 + 0)) ((0) + ((1) * ρ 6 + 0)) := hP _ (List.mem_of_getElem? (i := 1) rfl)
  have p2 : ((0) + ((1) * ρ 1 + ((-1) * ρ 6 + 0))) ≤ (D : Int) := hP _ (List.mem_of_getElem? (i := 2) rfl)
  have q := sec_ok (s := ((0) + ((1) * ρ 3 + 0))) (g := ρ 5) (by rw [(show ((0 : Int) + (1 * ρ 2 + 0)).toNat = (ρ 2).toNat by omega)]; exact a0) (by omega) p0 p1
  refine ⟨_, List.mem_cons_self, ρ, fun _ _ => rfl, fun q hq => absurd hq List.not_mem_nil, trivial, fun f hf => ?_, fun q hq => absurd hq List.not_mem_nil, fun q hq => absurd hq List.not_mem_nil, fun q hq => absurd hq List.not_mem_nil, fun q hq => ?_⟩
  · simp only [List.mem_cons, List.not_mem_nil, or_false] at hf
    rcases hf with rfl | rfl | rfl | rfl
    · show (0 : Int) ≤ ((0) + ((1) * ρ 3 + ((-1) * ρ 6 + 0)))
      omega
    · show (0 : Int) ≤ ((-1) + ((1) * ρ 1 + ((-1) * ρ 3 + 0)))
      omega
    · show (0 : Int) ≤ ((699) + ((-1) * ρ 1 + ((1) * ρ 6 + 0)))
      omega
    · show (0 : Int) ≤ ((0) + ((1) * ρ 6 + 0))
      omega
  · simp only [List.mem_cons, List.not_mem_nil, or_false] at hq
    rcases hq with rfl | rfl
    · show P67 (vw C h) ((0) + ((1) * ρ 3 + 0)) ((0) + ((1) * ρ 6 + 0))
      exact q.2.2.2.2
    · show ((0) + ((1) * ρ 3 + ((-1) * ρ 6 + 0))) + 1 ≤ (D : Int)
      omega
/-- leaf -/
theorem lem_52_ok (hU : uqG G C) : lem_52.1.2.1 = [] ∧ lemOK (PRd G C D xs) G rgs lem_52 := by
  refine ⟨rfl, fun ρ h ha hT => ?_⟩
  obtain ⟨-, -, hF, hG, hH, hA, hP⟩ := ha
  have f0 : (0 : Int) ≤ ((0) + ((1) * ρ 1 + 0)) := hF _ (List.mem_of_getElem? (i := 0) rfl)
  have f1 : (0 : Int) ≤ ((0) + ((1) * ρ 0 + ((-1) * ρ 1 + 0))) := hF _ (List.mem_of_getElem? (i := 1) rfl)
  have f2 : (0 : Int) ≤ ((1399) + ((-1) * ρ 0 + 0)) := hF _ (List.mem_of_getElem? (i := 2) rfl)
  have p0 : P68 (vw C h) ((0) + ((1) * ρ 0 + 0)) ((0) + ((1) * ρ 1 + 0)) := hP _ (List.mem_of_getElem? (i := 0) rfl)
  have p1 : P67 (vw C h) ((0) + ((1) * ρ 0 + 0)) ((0) + ((1) * ρ 2 + 0)) := hP _ (List.mem_of_getElem? (i := 1) rfl)
  have p2 : ((0) + ((1) * ρ 0 + ((-1) * ρ 2 + 0))) ≤ (D : Int) := hP _ (List.mem_of_getElem? (i := 2) rfl)
  have q := leaf_ok p0 p1
  refine ⟨_, List.mem_cons_self, ρ, fun _ _ => rfl, fun q hq => absurd hq List.not_mem_nil, trivial, fun f hf => ?_, fun q hq => absurd hq List.not_mem_nil, fun q hq => absurd hq List.not_mem_nil, fun q hq => absurd hq List.not_mem_nil, fun q hq => ?_⟩
  · simp only [List.mem_cons, List.not_mem_nil, or_false] at hf
    rcases hf with rfl | rfl
    · show (0 : Int) ≤ ((0) + ((1) * ρ 1 + ((-1) * ρ 2 + 0)))
      omega
    · show (0 : Int) ≤ ((699) + ((-1) * ρ 0 + ((1) * ρ 2 + 0)))
      omega
  · simp only [List.mem_cons, List.not_mem_nil, or_false] at hq
    rcases hq with rfl | rfl
    · show P67 (vw C h) ((0) + ((1) * ρ 1 + 0)) ((0) + ((1) * ρ 2 + 0))
      exact q.2.2.2
    · show ((0) + ((1) * ρ 1 + ((-1) * ρ 2 + 0))) ≤ (D : Int)
      omega
/-- noot -/
theorem lem_53_ok (hU : uqG G C) : lem_53.1.2.1 = [] ∧ lemOK (PRd G C D xs) G rgs lem_53 := by
  refine ⟨rfl, fun ρ h ha hT => ?_⟩
  obtain ⟨-, -, hF, hG, hH, hA, hP⟩ := ha
  have f0 : (0 : Int) ≤ ((2) + ((-1) * ρ 5 + 0)) := hF _ (List.mem_of_getElem? (i := 0) rfl)
  have f1 : (0 : Int) ≤ ((-2) + ((1) * ρ 5 + 0)) := hF _ (List.mem_of_getElem? (i := 1) rfl)
  have f2 : (0 : Int) ≤ ((0) + ((1) * ρ 2 + ((-1) * ρ 6 + 0))) := hF _ (List.mem_of_getElem? (i := 2) rfl)
  have f3 : (0 : Int) ≤ ((0) + ((-1) * ρ 2 + ((1) * ρ 6 + 0))) := hF _ (List.mem_of_getElem? (i := 3) rfl)
  have f4 : (0 : Int) ≤ ((0) + ((1) * ρ 1 + 0)) := hF _ (List.mem_of_getElem? (i := 4) rfl)
  have f5 : (0 : Int) ≤ ((1399) + ((-1) * ρ 1 + 0)) := hF _ (List.mem_of_getElem? (i := 5) rfl)
  have g1 : G (ρ 3).toNat = 137 := by
    have q := (hG _ (List.mem_of_getElem? (i := 1) rfl)).2
    rwa [show ev ρ (0, [(3, 1)]) = ρ 3 from ev_v] at q
  have g2 : G (ρ 4).toNat = 138 := by
    have q := (hG _ (List.mem_of_getElem? (i := 2) rfl)).2
    rwa [show ev ρ (0, [(4, 1)]) = ρ 4 from ev_v] at q
  have b0 : (0 : Int) ≤ ((0) + ((1) * ρ 1 + 0)) := b_aA (hA _ (List.mem_of_getElem? (i := 0) rfl))
  have b1 : (0 : Int) ≤ ((0) + ((1) * ρ 1 + 0)) := b_aA (hA _ (List.mem_of_getElem? (i := 1) rfl))
  have a0 : vw C h 137 ((ρ 1).toNat) = ρ 5 := vw_aA hU (hA _ (List.mem_of_getElem? (i := 0) rfl)) ev_v g1 (by omega) (by omega) (i := (ρ 1).toNat) (show ((((ρ 1).toNat : Nat)) : Int) = ((0) + ((1) * ρ 1 + 0)) by omega) ev_v
  have a1 : vw C h 138 ((ρ 1).toNat) = ρ 6 := vw_aA hU (hA _ (List.mem_of_getElem? (i := 1) rfl)) ev_v g2 (by omega) (by omega) (i := (ρ 1).toNat) (show ((((ρ 1).toNat : Nat)) : Int) = ((0) + ((1) * ρ 1 + 0)) by omega) ev_v
  have p0 : P67 (vw C h) ((0) + ((1) * ρ 1 + 0)) ((0) + ((1) * ρ 7 + 0)) := hP _ (List.mem_of_getElem? (i := 0) rfl)
  have p1 : ((0) + ((1) * ρ 1 + ((-1) * ρ 7 + 0))) ≤ (D : Int) := hP _ (List.mem_of_getElem? (i := 1) rfl)
  have q := noot_ok (s := ((0) + ((1) * ρ 2 + 0))) (a := ρ 5) (b := ρ 6) (by rw [(show ((0 : Int) + (1 * ρ 1 + 0)).toNat = (ρ 1).toNat by omega)]; exact a0) (by omega) (by rw [(show ((0 : Int) + (1 * ρ 1 + 0)).toNat = (ρ 1).toNat by omega)]; exact a1) (by omega) p0
  refine ⟨_, List.mem_cons_self, ρ, fun _ _ => rfl, fun q hq => absurd hq List.not_mem_nil, trivial, fun f hf => ?_, fun q hq => absurd hq List.not_mem_nil, fun q hq => absurd hq List.not_mem_nil, fun q hq => absurd hq List.not_mem_nil, fun q hq => ?_⟩
  · simp only [List.mem_cons, List.not_mem_nil, or_false] at hf
    rcases hf with rfl | rfl | rfl
    · show (0 : Int) ≤ ((0) + ((1) * ρ 2 + ((-1) * ρ 7 + 0)))
      omega
    · show (0 : Int) ≤ ((-1) + ((1) * ρ 1 + ((-1) * ρ 2 + 0)))
      omega
    · show (0 : Int) ≤ ((699) + ((-1) * ρ 1 + ((1) * ρ 7 + 0)))
      omega
  · simp only [List.mem_cons, List.not_mem_nil, or_false] at hq
    rcases hq with rfl | rfl
    · show P67 (vw C h) ((0) + ((1) * ρ 2 + 0)) ((0) + ((1) * ρ 7 + 0))
      exact q.2.2.2
    · show ((0) + ((1) * ρ 2 + ((-1) * ρ 7 + 0))) + 1 ≤ (D : Int)
      omega
/-- comp -/
theorem lem_54_ok (hU : uqG G C) : lem_54.1.2.1 = [] ∧ lemOK (PRd G C D xs) G rgs lem_54 := by
  refine ⟨rfl, fun ρ h ha hT => ?_⟩
  obtain ⟨-, -, hF, hG, hH, hA, hP⟩ := ha
  have f0 : (0 : Int) ≤ ((-3) + ((1) * ρ 5 + 0)) := hF _ (List.mem_of_getElem? (i := 0) rfl)
  have f1 : (0 : Int) ≤ ((0) + ((1) * ρ 2 + ((-1) * ρ 6 + 0))) := hF _ (List.mem_of_getElem? (i := 1) rfl)
  have f2 : (0 : Int) ≤ ((0) + ((-1) * ρ 2 + ((1) * ρ 6 + 0))) := hF _ (List.mem_of_getElem? (i := 2) rfl)
  have f3 : (0 : Int) ≤ ((0) + ((1) * ρ 1 + 0)) := hF _ (List.mem_of_getElem? (i := 3) rfl)
  have f4 : (0 : Int) ≤ ((1399) + ((-1) * ρ 1 + 0)) := hF _ (List.mem_of_getElem? (i := 4) rfl)
  have g1 : G (ρ 3).toNat = 137 := by
    have q := (hG _ (List.mem_of_getElem? (i := 1) rfl)).2
    rwa [show ev ρ (0, [(3, 1)]) = ρ 3 from ev_v] at q
  have g2 : G (ρ 4).toNat = 138 := by
    have q := (hG _ (List.mem_of_getElem? (i := 2) rfl)).2
    rwa [show ev ρ (0, [(4, 1)]) = ρ 4 from ev_v] at q
  have b0 : (0 : Int) ≤ ((0) + ((1) * ρ 1 + 0)) := b_aA (hA _ (List.mem_of_getElem? (i := 0) rfl))
  have b1 : (0 : Int) ≤ ((0) + ((1) * ρ 1 + 0)) := b_aA (hA _ (List.mem_of_getElem? (i := 1) rfl))
  have a0 : vw C h 137 ((ρ 1).toNat) = ρ 5 := vw_aA hU (hA _ (List.mem_of_getElem? (i := 0) rfl)) ev_v g1 (by omega) (by omega) (i := (ρ 1).toNat) (show ((((ρ 1).toNat : Nat)) : Int) = ((0) + ((1) * ρ 1 + 0)) by omega) ev_v
  have a1 : vw C h 138 ((ρ 1).toNat) = ρ 6 := vw_aA hU (hA _ (List.mem_of_getElem? (i := 1) rfl)) ev_v g2 (by omega) (by omega) (i := (ρ 1).toNat) (show ((((ρ 1).toNat : Nat)) : Int) = ((0) + ((1) * ρ 1 + 0)) by omega) ev_v
  have p0 : P67 (vw C h) ((0) + ((1) * ρ 1 + 0)) ((0) + ((1) * ρ 7 + 0)) := hP _ (List.mem_of_getElem? (i := 0) rfl)
  have q := comp_ok (a := ρ 5) (b := ρ 6) (by rw [(show ((0 : Int) + (1 * ρ 1 + 0)).toNat = (ρ 1).toNat by omega)]; exact a0) (by omega) (by rw [(show ((0 : Int) + (1 * ρ 1 + 0)).toNat = (ρ 1).toNat by omega)]; exact a1) p0
  refine ⟨_, List.mem_cons_self, ρ, fun _ _ => rfl, fun q hq => absurd hq List.not_mem_nil, trivial, fun f hf => ?_, fun q hq => absurd hq List.not_mem_nil, fun q hq => absurd hq List.not_mem_nil, fun q hq => absurd hq List.not_mem_nil, fun q hq => ?_⟩
  · simp only [List.mem_cons, List.not_mem_nil, or_false] at hf
    rcases hf with rfl | rfl
    · show (0 : Int) ≤ ((0) + ((1) * ρ 2 + 0))
      omega
    · show (0 : Int) ≤ ((4) + ((-1) * ρ 2 + 0))
      omega
  · exact absurd hq List.not_mem_nil
/-- root -/
theorem lem_55_ok (hU : uqG G C) (hD : 700 ≤ D) : lem_55.1.2.1 = [] ∧ lemOK (PRd G C D xs) G rgs lem_55 := by
  refine ⟨rfl, fun ρ h ha hT => ?_⟩
  obtain ⟨-, -, hF, hG, hH, hA, hP⟩ := ha
  have f0 : (0 : Int) ≤ ((0) + ((1) * ρ 2 + ((-1) * ρ 6 + 0))) := hF _ (List.mem_of_getElem? (i := 0) rfl)
  have f1 : (0 : Int) ≤ ((0) + ((-1) * ρ 2 + ((1) * ρ 6 + 0))) := hF _ (List.mem_of_getElem? (i := 1) rfl)
  have f2 : (0 : Int) ≤ ((0) + ((1) * ρ 1 + 0)) := hF _ (List.mem_of_getElem? (i := 2) rfl)
  have f3 : (0 : Int) ≤ ((-1) + ((-1) * ρ 1 + ((1) * ρ 5 + 0))) := hF _ (List.mem_of_getElem? (i := 3) rfl)
  have f4 : (0 : Int) ≤ ((3) + ((-1) * ρ 1 + 0)) := hF _ (List.mem_of_getElem? (i := 4) rfl)
  have f5 : (0 : Int) ≤ ((0) + ((1) * ρ 3 + 0)) := hF _ (List.mem_of_getElem? (i := 5) rfl)
  have f6 : (0 : Int) ≤ ((1) + ((-1) * ρ 3 + 0)) := hF _ (List.mem_of_getElem? (i := 6) rfl)
  have g1 : G (ρ 4).toNat = 123 := by
    have q := (hG _ (List.mem_of_getElem? (i := 1) rfl)).2
    rwa [show ev ρ (0, [(4, 1)]) = ρ 4 from ev_v] at q
  have b0 : (0 : Int) ≤ ((50) + 0) := b_aA (hA _ (List.mem_of_getElem? (i := 0) rfl))
  have b1 : (0 : Int) ≤ ((51) + ((1) * ρ 1 + 0)) := b_aA (hA _ (List.mem_of_getElem? (i := 1) rfl))
  have a0 : vw C h 123 (50) = ρ 5 := vw_aA hU (hA _ (List.mem_of_getElem? (i := 0) rfl)) ev_v g1 (by omega) (by omega) (i := 50) (show (((50 : Nat)) : Int) = ((50) + 0) by omega) ev_v
  have a1 : vw C h 123 (51 + (ρ 1).toNat) = ρ 6 := vw_aA hU (hA _ (List.mem_of_getElem? (i := 1) rfl)) ev_v g1 (by omega) (by omega) (i := 51 + (ρ 1).toNat) (show (((51 + (ρ 1).toNat : Nat)) : Int) = ((51) + ((1) * ρ 1 + 0)) by omega) ev_v
  have p0 : rts (vw C h) 123 ((0) + ((700) * ρ 3 + 0)) := hP _ (List.mem_of_getElem? (i := 0) rfl)
  have q := root_ok (n := ((0) + ((1) * ρ 2 + 0))) (r := ρ 1) a0 a1 (by omega) (by omega) (by omega) (by omega) p0
  refine ⟨_, List.mem_cons_self, ρ, fun _ _ => rfl, fun q hq => absurd hq List.not_mem_nil, trivial, fun f hf => ?_, fun q hq => absurd hq List.not_mem_nil, fun q hq => absurd hq List.not_mem_nil, fun q hq => absurd hq List.not_mem_nil, fun q hq => ?_⟩
  · simp only [List.mem_cons, List.not_mem_nil, or_false] at hf
    rcases hf with rfl | rfl
    · show (0 : Int) ≤ ((0) + ((1) * ρ 2 + ((-700) * ρ 3 + 0)))
      omega
    · show (0 : Int) ≤ ((699) + ((-1) * ρ 2 + ((700) * ρ 3 + 0)))
      omega
  · simp only [List.mem_cons, List.not_mem_nil, or_false] at hq
    rcases hq with rfl | rfl
    · show P67 (vw C h) ((0) + ((1) * ρ 2 + 0)) ((0) + ((700) * ρ 3 + 0))
      exact q.2.2
    · show ((0) + ((1) * ρ 2 + ((-700) * ρ 3 + 0))) ≤ (D : Int)
      omega
/-- splitErr -/
theorem lem_56_ok (hU : uqG G C) : lem_56.1.2.1 = [] ∧ lemOK (PRd G C D xs) G rgs lem_56 := by
  refine ⟨rfl, fun ρ h ha hT => ?_⟩
  obtain ⟨-, -, hF, hG, hH, hA, hP⟩ := ha
  rcases (by omega : ρ 1 ≤ 0 ∨ 1 ≤ ρ 1) with hc | hc
  · refine ⟨_, List.mem_cons_self, ρ, fun _ _ => rfl, fun q hq => absurd hq List.not_mem_nil, trivial, fun f hf => ?_, fun q hq => absurd hq List.not_mem_nil, fun q hq => absurd hq List.not_mem_nil, fun q hq => absurd hq List.not_mem_nil, fun q hq => ?_⟩
    · simp only [List.mem_cons, List.not_mem_nil, or_false] at hf
      subst hf
      show (0 : Int) ≤ ((0) + ((-1) * ρ 1 + 0))
      omega
    · exact absurd hq List.not_mem_nil
  · refine ⟨_, (List.mem_cons_of_mem _ List.mem_cons_self), ρ, fun _ _ => rfl, fun q hq => absurd hq List.not_mem_nil, trivial, fun f hf => ?_, fun q hq => absurd hq List.not_mem_nil, fun q hq => absurd hq List.not_mem_nil, fun q hq => absurd hq List.not_mem_nil, fun q hq => ?_⟩
    · simp only [List.mem_cons, List.not_mem_nil, or_false] at hf
      subst hf
      show (0 : Int) ≤ ((-1) + ((1) * ρ 1 + 0))
      omega
    · exact absurd hq List.not_mem_nil
/-- splitP -/
theorem lem_57_ok (hU : uqG G C) : lem_57.1.2.1 = [] ∧ lemOK (PRd G C D xs) G rgs lem_57 := by
  refine ⟨rfl, fun ρ h ha hT => ?_⟩
  obtain ⟨-, -, hF, hG, hH, hA, hP⟩ := ha
  rcases (by omega : ρ 0 ≤ -1 ∨ 0 ≤ ρ 0) with hc | hc
  · refine ⟨_, List.mem_cons_self, ρ, fun _ _ => rfl, fun q hq => absurd hq List.not_mem_nil, trivial, fun f hf => ?_, fun q hq => absurd hq List.not_mem_nil, fun q hq => absurd hq List.not_mem_nil, fun q hq => absurd hq List.not_mem_nil, fun q hq => ?_⟩
    · simp only [List.mem_cons, List.not_mem_nil, or_false] at hf
      subst hf
      show (0 : Int) ≤ ((-1) + ((-1) * ρ 0 + 0))
      omega
    · exact absurd hq List.not_mem_nil
  · refine ⟨_, (List.mem_cons_of_mem _ List.mem_cons_self), ρ, fun _ _ => rfl, fun q hq => absurd hq List.not_mem_nil, trivial, fun f hf => ?_, fun q hq => absurd hq List.not_mem_nil, fun q hq => absurd hq List.not_mem_nil, fun q hq => absurd hq List.not_mem_nil, fun q hq => ?_⟩
    · simp only [List.mem_cons, List.not_mem_nil, or_false] at hf
      subst hf
      show (0 : Int) ≤ ((0) + ((1) * ρ 0 + 0))
      omega
    · exact absurd hq List.not_mem_nil
/-- stopIn -/
theorem lem_58_ok (hU : uqG G C) : lem_58.1.2.1 = [] ∧ lemOK (PRd G C D xs) G rgs lem_58 := by
  refine ⟨rfl, fun ρ h ha hT => ?_⟩
  obtain ⟨-, -, hF, hG, hH, hA, hP⟩ := ha
  have f0 : (0 : Int) ≤ ((0) + ((1) * ρ 2 + ((-1) * ρ 5 + 0))) := hF _ (List.mem_of_getElem? (i := 0) rfl)
  have f1 : (0 : Int) ≤ ((0) + ((-1) * ρ 2 + ((1) * ρ 5 + 0))) := hF _ (List.mem_of_getElem? (i := 1) rfl)
  have f2 : (0 : Int) ≤ ((0) + ((1) * ρ 1 + 0)) := hF _ (List.mem_of_getElem? (i := 2) rfl)
  have f3 : (0 : Int) ≤ ((-1) + ((-1) * ρ 1 + ((1) * ρ 3 + 0))) := hF _ (List.mem_of_getElem? (i := 3) rfl)
  have f4 : (0 : Int) ≤ ((8) + ((-1) * ρ 3 + 0)) := hF _ (List.mem_of_getElem? (i := 4) rfl)
  have g1 : G (ρ 4).toNat = 142 := by
    have q := (hG _ (List.mem_of_getElem? (i := 1) rfl)).2
    rwa [show ev ρ (0, [(4, 1)]) = ρ 4 from ev_v] at q
  have b0 : (0 : Int) ≤ ((0) + ((1) * ρ 1 + 0)) := b_aA (hA _ (List.mem_of_getElem? (i := 0) rfl))
  have a0 : vw C h 142 ((ρ 1).toNat) = ρ 5 := vw_aA hU (hA _ (List.mem_of_getElem? (i := 0) rfl)) ev_v g1 (by omega) (by omega) (i := (ρ 1).toNat) (show ((((ρ 1).toNat : Nat)) : Int) = ((0) + ((1) * ρ 1 + 0)) by omega) ev_v
  refine ⟨_, List.mem_cons_self, ρ, fun _ _ => rfl, fun q hq => absurd hq List.not_mem_nil, trivial, fun f hf => ?_, fun q hq => absurd hq List.not_mem_nil, fun q hq => absurd hq List.not_mem_nil, fun q hq => absurd hq List.not_mem_nil, fun q hq => ?_⟩
  · exact absurd hf List.not_mem_nil
  · simp only [List.mem_cons, List.not_mem_nil, or_false] at hq
    subst hq
    show P80 (vw C h) ((1) + ((1) * ρ 1 + ((16) * ρ 3 + 0))) ((0) + ((1) * ρ 2 + 0))
    exact stopIn_ok (m := ρ 3) (p := ρ 1) (by rw [a0]; omega) (by omega) (by omega) (by omega) (by omega)
/-- stopLo -/
theorem lem_59_ok (hU : uqG G C) : lem_59.1.2.1 = [] ∧ lemOK (PRd G C D xs) G rgs lem_59 := by
  refine ⟨rfl, fun ρ h ha hT => ?_⟩
  obtain ⟨-, -, hF, hG, hH, hA, hP⟩ := ha
  have f0 : (0 : Int) ≤ ((-1) + ((-1) * ρ 1 + 0)) := hF _ (List.mem_of_getElem? (i := 0) rfl)
  have f1 : (0 : Int) ≤ ((1) + ((1) * ρ 1 + 0)) := hF _ (List.mem_of_getElem? (i := 1) rfl)
  have f2 : (0 : Int) ≤ ((-1) + ((-1) * ρ 2 + 0)) := hF _ (List.mem_of_getElem? (i := 2) rfl)
  have f3 : (0 : Int) ≤ ((1) + ((1) * ρ 2 + 0)) := hF _ (List.mem_of_getElem? (i := 3) rfl)
  have f4 : (0 : Int) ≤ ((0) + ((1) * ρ 3 + 0)) := hF _ (List.mem_of_getElem? (i := 4) rfl)
  have f5 : (0 : Int) ≤ ((8) + ((-1) * ρ 3 + 0)) := hF _ (List.mem_of_getElem? (i := 5) rfl)
  refine ⟨_, List.mem_cons_self, ρ, fun _ _ => rfl, fun q hq => absurd hq List.not_mem_nil, trivial, fun f hf => ?_, fun q hq => absurd hq List.not_mem_nil, fun q hq => absurd hq List.not_mem_nil, fun q hq => absurd hq List.not_mem_nil, fun q hq => ?_⟩
  · exact absurd hf List.not_mem_nil
  · simp only [List.mem_cons, List.not_mem_nil, or_false] at hq
    subst hq
    show P80 (vw C h) ((1) + ((1) * ρ 1 + ((16) * ρ 3 + 0))) ((0) + ((1) * ρ 2 + 0))
    exact stopOut_ok (m := ρ 3) (p := ρ 1) (by omega) (by omega) (by omega) (by omega) (by omega)
/-- stopHi -/
theorem lem_60_ok (hU : uqG G C) : lem_60.1.2.1 = [] ∧ lemOK (PRd G C D xs) G rgs lem_60 := by
  refine ⟨rfl, fun ρ h ha hT => ?_⟩
  obtain ⟨-, -, hF, hG, hH, hA, hP⟩ := ha
  have f0 : (0 : Int) ≤ ((0) + ((1) * ρ 1 + ((-1) * ρ 3 + 0))) := hF _ (List.mem_of_getElem? (i := 0) rfl)
  have f1 : (0 : Int) ≤ ((14) + ((-1) * ρ 1 + 0)) := hF _ (List.mem_of_getElem? (i := 1) rfl)
  have f2 : (0 : Int) ≤ ((-1) + ((-1) * ρ 2 + 0)) := hF _ (List.mem_of_getElem? (i := 2) rfl)
  have f3 : (0 : Int) ≤ ((1) + ((1) * ρ 2 + 0)) := hF _ (List.mem_of_getElem? (i := 3) rfl)
  have f4 : (0 : Int) ≤ ((0) + ((1) * ρ 3 + 0)) := hF _ (List.mem_of_getElem? (i := 4) rfl)
  have f5 : (0 : Int) ≤ ((8) + ((-1) * ρ 3 + 0)) := hF _ (List.mem_of_getElem? (i := 5) rfl)
  refine ⟨_, List.mem_cons_self, ρ, fun _ _ => rfl, fun q hq => absurd hq List.not_mem_nil, trivial, fun f hf => ?_, fun q hq => absurd hq List.not_mem_nil, fun q hq => absurd hq List.not_mem_nil, fun q hq => absurd hq List.not_mem_nil, fun q hq => ?_⟩
  · exact absurd hf List.not_mem_nil
  · simp only [List.mem_cons, List.not_mem_nil, or_false] at hq
    subst hq
    show P80 (vw C h) ((1) + ((1) * ρ 1 + ((16) * ρ 3 + 0))) ((0) + ((1) * ρ 2 + 0))
    exact stopOut_ok (m := ρ 3) (p := ρ 1) (by omega) (by omega) (by omega) (by omega) (by omega)
/-- way00 -/
theorem lem_61_ok (hU : uqG G C) : lem_61.1.2.1 = [] ∧ lemOK (PRd G C D xs) G rgs lem_61 := by
  refine ⟨rfl, fun ρ h ha hT => ?_⟩
  obtain ⟨-, -, hF, hG, hH, hA, hP⟩ := ha
  have f0 : (0 : Int) ≤ ((0) + ((1) * ρ 3 + ((-1) * ρ 9 + 0))) := hF _ (List.mem_of_getElem? (i := 0) rfl)
  have f1 : (0 : Int) ≤ ((0) + ((-1) * ρ 3 + ((1) * ρ 9 + 0))) := hF _ (List.mem_of_getElem? (i := 1) rfl)
  have f2 : (0 : Int) ≤ ((0) + ((1) * ρ 4 + ((-1) * ρ 10 + 0))) := hF _ (List.mem_of_getElem? (i := 2) rfl)
  have f3 : (0 : Int) ≤ ((0) + ((-1) * ρ 4 + ((1) * ρ 10 + 0))) := hF _ (List.mem_of_getElem? (i := 3) rfl)
  have f4 : (0 : Int) ≤ ((0) + ((1) * ρ 5 + ((-1) * ρ 11 + 0))) := hF _ (List.mem_of_getElem? (i := 4) rfl)
  have f5 : (0 : Int) ≤ ((0) + ((-1) * ρ 5 + ((1) * ρ 11 + 0))) := hF _ (List.mem_of_getElem? (i := 5) rfl)
  have f6 : (0 : Int) ≤ ((0) + ((1) * ρ 6 + ((-1) * ρ 12 + 0))) := hF _ (List.mem_of_getElem? (i := 6) rfl)
  have f7 : (0 : Int) ≤ ((0) + ((-1) * ρ 6 + ((1) * ρ 12 + 0))) := hF _ (List.mem_of_getElem? (i := 7) rfl)
  have f8 : (0 : Int) ≤ ((0) + ((-1) * ρ 7 + ((1) * ρ 13 + ((1) * ρ 14 + 0)))) := hF _ (List.mem_of_getElem? (i := 8) rfl)
  have f9 : (0 : Int) ≤ ((0) + ((1) * ρ 7 + ((-1) * ρ 13 + ((-1) * ρ 14 + 0)))) := hF _ (List.mem_of_getElem? (i := 9) rfl)
  have f10 : (0 : Int) ≤ ((-1) + ((-1) * ρ 1 + 0)) := hF _ (List.mem_of_getElem? (i := 10) rfl)
  have f11 : (0 : Int) ≤ ((1) + ((1) * ρ 1 + 0)) := hF _ (List.mem_of_getElem? (i := 11) rfl)
  have f12 : (0 : Int) ≤ ((-1) + ((-1) * ρ 2 + 0)) := hF _ (List.mem_of_getElem? (i := 12) rfl)
  have f13 : (0 : Int) ≤ ((1) + ((1) * ρ 2 + 0)) := hF _ (List.mem_of_getElem? (i := 13) rfl)
  have g1 : G (ρ 8).toNat = 123 := by
    have q := (hG _ (List.mem_of_getElem? (i := 1) rfl)).2
    rwa [show ev ρ (0, [(8, 1)]) = ρ 8 from ev_v] at q
  have b0 : (0 : Int) ≤ ((0) + 0) := b_aA (hA _ (List.mem_of_getElem? (i := 0) rfl))
  have b1 : (0 : Int) ≤ ((1) + 0) := b_aA (hA _ (List.mem_of_getElem? (i := 1) rfl))
  have b2 : (0 : Int) ≤ ((0) + 0) := b_aA (hA _ (List.mem_of_getElem? (i := 2) rfl))
  have b3 : (0 : Int) ≤ ((1) + 0) := b_aA (hA _ (List.mem_of_getElem? (i := 3) rfl))
  have a0 : vw C h 123 (0) = ρ 9 := vw_aA hU (hA _ (List.mem_of_getElem? (i := 0) rfl)) ev_v g1 (by omega) (by omega) (i := 0) (show (((0 : Nat)) : Int) = ((0) + 0) by omega) ev_v
  have a1 : vw C h 123 (1) = ρ 10 := vw_aA hU (hA _ (List.mem_of_getElem? (i := 1) rfl)) ev_v g1 (by omega) (by omega) (i := 1) (show (((1 : Nat)) : Int) = ((1) + 0) by omega) ev_v
  have a2 : vw C h 123 (0) = ρ 11 := vw_aA hU (hA _ (List.mem_of_getElem? (i := 2) rfl)) ev_v g1 (by omega) (by omega) (i := 0) (show (((0 : Nat)) : Int) = ((0) + 0) by omega) ev_v
  have a3 : vw C h 123 (1) = ρ 12 := vw_aA hU (hA _ (List.mem_of_getElem? (i := 3) rfl)) ev_v g1 (by omega) (by omega) (i := 1) (show (((1 : Nat)) : Int) = ((1) + 0) by omega) ev_v
  have p0 : ((0) + ((1) * ρ 13 + 0)) = ab ((0) + ((1) * ρ 3 + ((-1) * ρ 5 + 0))) := hP _ (List.mem_of_getElem? (i := 0) rfl)
  have p1 : ((0) + ((1) * ρ 14 + 0)) = ab ((0) + ((1) * ρ 4 + ((-1) * ρ 6 + 0))) := hP _ (List.mem_of_getElem? (i := 1) rfl)
  refine ⟨_, List.mem_cons_self, ρ, fun _ _ => rfl, fun q hq => absurd hq List.not_mem_nil, trivial, fun f hf => ?_, fun q hq => absurd hq List.not_mem_nil, fun q hq => absurd hq List.not_mem_nil, fun q hq => absurd hq List.not_mem_nil, fun q hq => ?_⟩
  · exact absurd hf List.not_mem_nil
  · simp only [List.mem_cons, List.not_mem_nil, or_false] at hq
    subst hq
    show P81 (vw C h) ((10) + ((9) * ρ 1 + ((1) * ρ 2 + 0))) ((0) + ((1) * ρ 7 + 0))
    exact way_ok (a := ρ 1) (b := ρ 2) (wX0 (by omega) a0) (wY0 (by omega) a1) (wX0 (by omega) a2) (wY0 (by omega) a3) p0 p1 (by omega) (by omega) (by omega) (by omega) (by omega) (by omega) (by omega)
/-- way01 -/
theorem lem_62_ok (hU : uqG G C) : lem_62.1.2.1 = [] ∧ lemOK (PRd G C D xs) G rgs lem_62 := by
  refine ⟨rfl, fun ρ h ha hT => ?_⟩
  obtain ⟨-, -, hF, hG, hH, hA, hP⟩ := ha
  have f0 : (0 : Int) ≤ ((0) + ((1) * ρ 3 + ((-1) * ρ 9 + 0))) := hF _ (List.mem_of_getElem? (i := 0) rfl)
  have f1 : (0 : Int) ≤ ((0) + ((-1) * ρ 3 + ((1) * ρ 9 + 0))) := hF _ (List.mem_of_getElem? (i := 1) rfl)
  have f2 : (0 : Int) ≤ ((0) + ((1) * ρ 4 + ((-1) * ρ 10 + 0))) := hF _ (List.mem_of_getElem? (i := 2) rfl)
  have f3 : (0 : Int) ≤ ((0) + ((-1) * ρ 4 + ((1) * ρ 10 + 0))) := hF _ (List.mem_of_getElem? (i := 3) rfl)
  have f4 : (0 : Int) ≤ ((0) + ((1) * ρ 5 + ((-1) * ρ 11 + 0))) := hF _ (List.mem_of_getElem? (i := 4) rfl)
  have f5 : (0 : Int) ≤ ((0) + ((-1) * ρ 5 + ((1) * ρ 11 + 0))) := hF _ (List.mem_of_getElem? (i := 5) rfl)
  have f6 : (0 : Int) ≤ ((0) + ((1) * ρ 6 + ((-1) * ρ 12 + 0))) := hF _ (List.mem_of_getElem? (i := 6) rfl)
  have f7 : (0 : Int) ≤ ((0) + ((-1) * ρ 6 + ((1) * ρ 12 + 0))) := hF _ (List.mem_of_getElem? (i := 7) rfl)
  have f8 : (0 : Int) ≤ ((0) + ((-1) * ρ 7 + ((1) * ρ 13 + ((1) * ρ 14 + 0)))) := hF _ (List.mem_of_getElem? (i := 8) rfl)
  have f9 : (0 : Int) ≤ ((0) + ((1) * ρ 7 + ((-1) * ρ 13 + ((-1) * ρ 14 + 0)))) := hF _ (List.mem_of_getElem? (i := 9) rfl)
  have f10 : (0 : Int) ≤ ((-1) + ((-1) * ρ 1 + 0)) := hF _ (List.mem_of_getElem? (i := 10) rfl)
  have f11 : (0 : Int) ≤ ((1) + ((1) * ρ 1 + 0)) := hF _ (List.mem_of_getElem? (i := 11) rfl)
  have f12 : (0 : Int) ≤ ((0) + ((1) * ρ 2 + 0)) := hF _ (List.mem_of_getElem? (i := 12) rfl)
  have f13 : (0 : Int) ≤ ((7) + ((-1) * ρ 2 + 0)) := hF _ (List.mem_of_getElem? (i := 13) rfl)
  have g1 : G (ρ 8).toNat = 123 := by
    have q := (hG _ (List.mem_of_getElem? (i := 1) rfl)).2
    rwa [show ev ρ (0, [(8, 1)]) = ρ 8 from ev_v] at q
  have b0 : (0 : Int) ≤ ((0) + 0) := b_aA (hA _ (List.mem_of_getElem? (i := 0) rfl))
  have b1 : (0 : Int) ≤ ((1) + 0) := b_aA (hA _ (List.mem_of_getElem? (i := 1) rfl))
  have b2 : (0 : Int) ≤ ((8) + ((1) * ρ 2 + 0)) := b_aA (hA _ (List.mem_of_getElem? (i := 2) rfl))
  have b3 : (0 : Int) ≤ ((16) + ((1) * ρ 2 + 0)) := b_aA (hA _ (List.mem_of_getElem? (i := 3) rfl))
  have a0 : vw C h 123 (0) = ρ 9 := vw_aA hU (hA _ (List.mem_of_getElem? (i := 0) rfl)) ev_v g1 (by omega) (by omega) (i := 0) (show (((0 : Nat)) : Int) = ((0) + 0) by omega) ev_v
  have a1 : vw C h 123 (1) = ρ 10 := vw_aA hU (hA _ (List.mem_of_getElem? (i := 1) rfl)) ev_v g1 (by omega) (by omega) (i := 1) (show (((1 : Nat)) : Int) = ((1) + 0) by omega) ev_v
  have a2 : vw C h 123 (8 + (ρ 2).toNat) = ρ 11 := vw_aA hU (hA _ (List.mem_of_getElem? (i := 2) rfl)) ev_v g1 (by omega) (by omega) (i := 8 + (ρ 2).toNat) (show (((8 + (ρ 2).toNat : Nat)) : Int) = ((8) + ((1) * ρ 2 + 0)) by omega) ev_v
  have a3 : vw C h 123 (16 + (ρ 2).toNat) = ρ 12 := vw_aA hU (hA _ (List.mem_of_getElem? (i := 3) rfl)) ev_v g1 (by omega) (by omega) (i := 16 + (ρ 2).toNat) (show (((16 + (ρ 2).toNat : Nat)) : Int) = ((16) + ((1) * ρ 2 + 0)) by omega) ev_v
  have p0 : ((0) + ((1) * ρ 13 + 0)) = ab ((0) + ((1) * ρ 3 + ((-1) * ρ 5 + 0))) := hP _ (List.mem_of_getElem? (i := 0) rfl)
  have p1 : ((0) + ((1) * ρ 14 + 0)) = ab ((0) + ((1) * ρ 4 + ((-1) * ρ 6 + 0))) := hP _ (List.mem_of_getElem? (i := 1) rfl)
  refine ⟨_, List.mem_cons_self, ρ, fun _ _ => rfl, fun q hq => absurd hq List.not_mem_nil, trivial, fun f hf => ?_, fun q hq => absurd hq List.not_mem_nil, fun q hq => absurd hq List.not_mem_nil, fun q hq => absurd hq List.not_mem_nil, fun q hq => ?_⟩
  · exact absurd hf List.not_mem_nil
  · simp only [List.mem_cons, List.not_mem_nil, or_false] at hq
    subst hq
    show P81 (vw C h) ((10) + ((9) * ρ 1 + ((1) * ρ 2 + 0))) ((0) + ((1) * ρ 7 + 0))
    exact way_ok (a := ρ 1) (b := ρ 2) (wX0 (by omega) a0) (wY0 (by omega) a1) (wX1 (by omega) (by omega) a2 (by omega)) (wY1 (by omega) (by omega) a3 (by omega)) p0 p1 (by omega) (by omega) (by omega) (by omega) (by omega) (by omega) (by omega)
/-- way10 -/
theorem lem_63_ok (hU : uqG G C) : lem_63.1.2.1 = [] ∧ lemOK (PRd G C D xs) G rgs lem_63 := by
  refine ⟨rfl, fun ρ h ha hT => ?_⟩
  obtain ⟨-, -, hF, hG, hH, hA, hP⟩ := ha
  have f0 : (0 : Int) ≤ ((0) + ((1) * ρ 3 + ((-1) * ρ 9 + 0))) := hF _ (List.mem_of_getElem? (i := 0) rfl)
  have f1 : (0 : Int) ≤ ((0) + ((-1) * ρ 3 + ((1) * ρ 9 + 0))) := hF _ (List.mem_of_getElem? (i := 1) rfl)
  have f2 : (0 : Int) ≤ ((0) + ((1) * ρ 4 + ((-1) * ρ 10 + 0))) := hF _ (List.mem_of_getElem? (i := 2) rfl)
  have f3 : (0 : Int) ≤ ((0) + ((-1) * ρ 4 + ((1) * ρ 10 + 0))) := hF _ (List.mem_of_getElem? (i := 3) rfl)
  have f4 : (0 : Int) ≤ ((0) + ((1) * ρ 5 + ((-1) * ρ 11 + 0))) := hF _ (List.mem_of_getElem? (i := 4) rfl)
  have f5 : (0 : Int) ≤ ((0) + ((-1) * ρ 5 + ((1) * ρ 11 + 0))) := hF _ (List.mem_of_getElem? (i := 5) rfl)
  have f6 : (0 : Int) ≤ ((0) + ((1) * ρ 6 + ((-1) * ρ 12 + 0))) := hF _ (List.mem_of_getElem? (i := 6) rfl)
  have f7 : (0 : Int) ≤ ((0) + ((-1) * ρ 6 + ((1) * ρ 12 + 0))) := hF _ (List.mem_of_getElem? (i := 7) rfl)
  have f8 : (0 : Int) ≤ ((0) + ((-1) * ρ 7 + ((1) * ρ 13 + ((1) * ρ 14 + 0)))) := hF _ (List.mem_of_getElem? (i := 8) rfl)
  have f9 : (0 : Int) ≤ ((0) + ((1) * ρ 7 + ((-1) * ρ 13 + ((-1) * ρ 14 + 0)))) := hF _ (List.mem_of_getElem? (i := 9) rfl)
  have f10 : (0 : Int) ≤ ((0) + ((1) * ρ 1 + 0)) := hF _ (List.mem_of_getElem? (i := 10) rfl)
  have f11 : (0 : Int) ≤ ((7) + ((-1) * ρ 1 + 0)) := hF _ (List.mem_of_getElem? (i := 11) rfl)
  have f12 : (0 : Int) ≤ ((-1) + ((-1) * ρ 2 + 0)) := hF _ (List.mem_of_getElem? (i := 12) rfl)
  have f13 : (0 : Int) ≤ ((1) + ((1) * ρ 2 + 0)) := hF _ (List.mem_of_getElem? (i := 13) rfl)
  have g1 : G (ρ 8).toNat = 123 := by
    have q := (hG _ (List.mem_of_getElem? (i := 1) rfl)).2
    rwa [show ev ρ (0, [(8, 1)]) = ρ 8 from ev_v] at q
  have b0 : (0 : Int) ≤ ((8) + ((1) * ρ 1 + 0)) := b_aA (hA _ (List.mem_of_getElem? (i := 0) rfl))
  have b1 : (0 : Int) ≤ ((16) + ((1) * ρ 1 + 0)) := b_aA (hA _ (List.mem_of_getElem? (i := 1) rfl))
  have b2 : (0 : Int) ≤ ((0) + 0) := b_aA (hA _ (List.mem_of_getElem? (i := 2) rfl))
  have b3 : (0 : Int) ≤ ((1) + 0) := b_aA (hA _ (List.mem_of_getElem? (i := 3) rfl))
  have a0 : vw C h 123 (8 + (ρ 1).toNat) = ρ 9 := vw_aA hU (hA _ (List.mem_of_getElem? (i := 0) rfl)) ev_v g1 (by omega) (by omega) (i := 8 + (ρ 1).toNat) (show (((8 + (ρ 1).toNat : Nat)) : Int) = ((8) + ((1) * ρ 1 + 0)) by omega) ev_v
  have a1 : vw C h 123 (16 + (ρ 1).toNat) = ρ 10 := vw_aA hU (hA _ (List.mem_of_getElem? (i := 1) rfl)) ev_v g1 (by omega) (by omega) (i := 16 + (ρ 1).toNat) (show (((16 + (ρ 1).toNat : Nat)) : Int) = ((16) + ((1) * ρ 1 + 0)) by omega) ev_v
  have a2 : vw C h 123 (0) = ρ 11 := vw_aA hU (hA _ (List.mem_of_getElem? (i := 2) rfl)) ev_v g1 (by omega) (by omega) (i := 0) (show (((0 : Nat)) : Int) = ((0) + 0) by omega) ev_v
  have a3 : vw C h 123 (1) = ρ 12 := vw_aA hU (hA _ (List.mem_of_getElem? (i := 3) rfl)) ev_v g1 (by omega) (by omega) (i := 1) (show (((1 : Nat)) : Int) = ((1) + 0) by omega) ev_v
  have p0 : ((0) + ((1) * ρ 13 + 0)) = ab ((0) + ((1) * ρ 3 + ((-1) * ρ 5 + 0))) := hP _ (List.mem_of_getElem? (i := 0) rfl)
  have p1 : ((0) + ((1) * ρ 14 + 0)) = ab ((0) + ((1) * ρ 4 + ((-1) * ρ 6 + 0))) := hP _ (List.mem_of_getElem? (i := 1) rfl)
  refine ⟨_, List.mem_cons_self, ρ, fun _ _ => rfl, fun q hq => absurd hq List.not_mem_nil, trivial, fun f hf => ?_, fun q hq => absurd hq List.not_mem_nil, fun q hq => absurd hq List.not_mem_nil, fun q hq => absurd hq List.not_mem_nil, fun q hq => ?_⟩
  · exact absurd hf List.not_mem_nil
  · simp only [List.mem_cons, List.not_mem_nil, or_false] at hq
    subst hq
    show P81 (vw C h) ((10) + ((9) * ρ 1 + ((1) * ρ 2 + 0))) ((0) + ((1) * ρ 7 + 0))
    exact way_ok (a := ρ 1) (b := ρ 2) (wX1 (by omega) (by omega) a0 (by omega)) (wY1 (by omega) (by omega) a1 (by omega)) (wX0 (by omega) a2) (wY0 (by omega) a3) p0 p1 (by omega) (by omega) (by omega) (by omega) (by omega) (by omega) (by omega)
/-- way11 -/
theorem lem_64_ok (hU : uqG G C) : lem_64.1.2.1 = [] ∧ lemOK (PRd G C D xs) G rgs lem_64 := by
  refine ⟨rfl, fun ρ h ha hT => ?_⟩
  obtain ⟨-, -, hF, hG, hH, hA, hP⟩ := ha
  have f0 : (0 : Int) ≤ ((0) + ((1) * ρ 3 + ((-1) * ρ 9 + 0))) := hF _ (List.mem_of_getElem? (i := 0) rfl)
  have f1 : (0 : Int) ≤ ((0) + ((-1) * ρ 3 + ((1) * ρ 9 + 0))) := hF _ (List.mem_of_getElem? (i := 1) rfl)
  have f2 : (0 : Int) ≤ ((0) + ((1) * ρ 4 + ((-1) * ρ 10 + 0))) := hF _ (List.mem_of_getElem? (i := 2) rfl)
  have f3 : (0 : Int) ≤ ((0) + ((-1) * ρ 4 + ((1) * ρ 10 + 0))) := hF _ (List.mem_of_getElem? (i := 3) rfl)
  have f4 : (0 : Int) ≤ ((0) + ((1) * ρ 5 + ((-1) * ρ 11 + 0))) := hF _ (List.mem_of_getElem? (i := 4) rfl)
  have f5 : (0 : Int) ≤ ((0) + ((-1) * ρ 5 + ((1) * ρ 11 + 0))) := hF _ (List.mem_of_getElem? (i := 5) rfl)
  have f6 : (0 : Int) ≤ ((0) + ((1) * ρ 6 + ((-1) * ρ 12 + 0))) := hF _ (List.mem_of_getElem? (i := 6) rfl)
  have f7 : (0 : Int) ≤ ((0) + ((-1) * ρ 6 + ((1) * ρ 12 + 0))) := hF _ (List.mem_of_getElem? (i := 7) rfl)
  have f8 : (0 : Int) ≤ ((0) + ((-1) * ρ 7 + ((1) * ρ 13 + ((1) * ρ 14 + 0)))) := hF _ (List.mem_of_getElem? (i := 8) rfl)
  have f9 : (0 : Int) ≤ ((0) + ((1) * ρ 7 + ((-1) * ρ 13 + ((-1) * ρ 14 + 0)))) := hF _ (List.mem_of_getElem? (i := 9) rfl)
  have f10 : (0 : Int) ≤ ((0) + ((1) * ρ 1 + 0)) := hF _ (List.mem_of_getElem? (i := 10) rfl)
  have f11 : (0 : Int) ≤ ((7) + ((-1) * ρ 1 + 0)) := hF _ (List.mem_of_getElem? (i := 11) rfl)
  have f12 : (0 : Int) ≤ ((0) + ((1) * ρ 2 + 0)) := hF _ (List.mem_of_getElem? (i := 12) rfl)
  have f13 : (0 : Int) ≤ ((7) + ((-1) * ρ 2 + 0)) := hF _ (List.mem_of_getElem? (i := 13) rfl)
  have g1 : G (ρ 8).toNat = 123 := by
    have q := (hG _ (List.mem_of_getElem? (i := 1) rfl)).2
    rwa [show ev ρ (0, [(8, 1)]) = ρ 8 from ev_v] at q
  have b0 : (0 : Int) ≤ ((8) + ((1) * ρ 1 + 0)) := b_aA (hA _ (List.mem_of_getElem? (i := 0) rfl))
  have b1 : (0 : Int) ≤ ((16) + ((1) * ρ 1 + 0)) := b_aA (hA _ (List.mem_of_getElem? (i := 1) rfl))
  have b2 : (0 : Int) ≤ ((8) + ((1) * ρ 2 + 0)) := b_aA (hA _ (List.mem_of_getElem? (i := 2) rfl))
  have b3 : (0 : Int) ≤ ((16) + ((1) * ρ 2 + 0)) := b_aA (hA _ (List.mem_of_getElem? (i := 3) rfl))
  have a0 : vw C h 123 (8 + (ρ 1).toNat) = ρ 9 := vw_aA hU (hA _ (List.mem_of_getElem? (i := 0) rfl)) ev_v g1 (by omega) (by omega) (i := 8 + (ρ 1).toNat) (show (((8 + (ρ 1).toNat : Nat)) : Int) = ((8) + ((1) * ρ 1 + 0)) by omega) ev_v
  have a1 : vw C h 123 (16 + (ρ 1).toNat) = ρ 10 := vw_aA hU (hA _ (List.mem_of_getElem? (i := 1) rfl)) ev_v g1 (by omega) (by omega) (i := 16 + (ρ 1).toNat) (show (((16 + (ρ 1).toNat : Nat)) : Int) = ((16) + ((1) * ρ 1 + 0)) by omega) ev_v
  have a2 : vw C h 123 (8 + (ρ 2).toNat) = ρ 11 := vw_aA hU (hA _ (List.mem_of_getElem? (i := 2) rfl)) ev_v g1 (by omega) (by omega) (i := 8 + (ρ 2).toNat) (show (((8 + (ρ 2).toNat : Nat)) : Int) = ((8) + ((1) * ρ 2 + 0)) by omega) ev_v
  have a3 : vw C h 123 (16 + (ρ 2).toNat) = ρ 12 := vw_aA hU (hA _ (List.mem_of_getElem? (i := 3) rfl)) ev_v g1 (by omega) (by omega) (i := 16 + (ρ 2).toNat) (show (((16 + (ρ 2).toNat : Nat)) : Int) = ((16) + ((1) * ρ 2 + 0)) by omega) ev_v
  have p0 : ((0) + ((1) * ρ 13 + 0)) = ab ((0) + ((1) * ρ 3 + ((-1) * ρ 5 + 0))) := hP _ (List.mem_of_getElem? (i := 0) rfl)
  have p1 : ((0) + ((1) * ρ 14 + 0)) = ab ((0) + ((1) * ρ 4 + ((-1) * ρ 6 + 0))) := hP _ (List.mem_of_getElem? (i := 1) rfl)
  refine ⟨_, List.mem_cons_self, ρ, fun _ _ => rfl, fun q hq => absurd hq List.not_mem_nil, trivial, fun f hf => ?_, fun q hq => absurd hq List.not_mem_nil, fun q hq => absurd hq List.not_mem_nil, fun q hq => absurd hq List.not_mem_nil, fun q hq => ?_⟩
  · exact absurd hf List.not_mem_nil
  · simp only [List.mem_cons, List.not_mem_nil, or_false] at hq
    subst hq
    show P81 (vw C h) ((10) + ((9) * ρ 1 + ((1) * ρ 2 + 0))) ((0) + ((1) * ρ 7 + 0))
    exact way_ok (a := ρ 1) (b := ρ 2) (wX1 (by omega) (by omega) a0 (by omega)) (wY1 (by omega) (by omega) a1 (by omega)) (wX1 (by omega) (by omega) a2 (by omega)) (wY1 (by omega) (by omega) a3 (by omega)) p0 p1 (by omega) (by omega) (by omega) (by omega) (by omega) (by omega) (by omega)
/-- pairA -/
theorem lem_65_ok (hU : uqG G C) : lem_65.1.2.1 = [] ∧ lemOK (PRd G C D xs) G rgs lem_65 := by
  refine ⟨rfl, fun ρ h ha hT => ?_⟩
  obtain ⟨-, -, hF, hG, hH, hA, hP⟩ := ha
  have f0 : (0 : Int) ≤ ((0) + ((1) * ρ 1 + 0)) := hF _ (List.mem_of_getElem? (i := 0) rfl)
  have f1 : (0 : Int) ≤ ((-1) + ((-1) * ρ 1 + ((1) * ρ 2 + 0))) := hF _ (List.mem_of_getElem? (i := 1) rfl)
  have f2 : (0 : Int) ≤ ((-1) + ((-1) * ρ 2 + ((1) * ρ 3 + 0))) := hF _ (List.mem_of_getElem? (i := 2) rfl)
  have f3 : (0 : Int) ≤ ((8) + ((-1) * ρ 3 + 0)) := hF _ (List.mem_of_getElem? (i := 3) rfl)
  have p0 : P80 (vw C h) ((0) + ((1) * ρ 1 + ((16) * ρ 3 + 0))) ((0) + ((1) * ρ 4 + 0)) := hP _ (List.mem_of_getElem? (i := 0) rfl)
  have p1 : P80 (vw C h) ((1) + ((1) * ρ 1 + ((16) * ρ 3 + 0))) ((0) + ((1) * ρ 5 + 0)) := hP _ (List.mem_of_getElem? (i := 1) rfl)
  have p2 : P81 (vw C h) ((10) + ((9) * ρ 4 + ((1) * ρ 5 + 0))) ((0) + ((1) * ρ 6 + 0)) := hP _ (List.mem_of_getElem? (i := 2) rfl)
  refine ⟨_, List.mem_cons_self, ρ, fun _ _ => rfl, fun q hq => absurd hq List.not_mem_nil, trivial, fun f hf => ?_, fun q hq => absurd hq List.not_mem_nil, fun q hq => absurd hq List.not_mem_nil, fun q hq => absurd hq List.not_mem_nil, fun q hq => ?_⟩
  · exact absurd hf List.not_mem_nil
  · simp only [List.mem_cons, List.not_mem_nil, or_false] at hq
    subst hq
    show P79 (vw C h) ((1) + ((65) * ρ 1 + ((4096) * ρ 3 + 0))) ((0) + ((1) * ρ 6 + 0))
    exact pair_ok (m := ρ 3) (p := ρ 1 - 1) (q := ρ 1) (rg142 hU hT) p0 p1 p2 (by omega) (by omega) (by omega) (by omega) (by omega) (by omega) (by omega) (by omega) (by omega)
/-- pairB -/
theorem lem_66_ok (hU : uqG G C) : lem_66.1.2.1 = [] ∧ lemOK (PRd G C D xs) G rgs lem_66 := by
  refine ⟨rfl, fun ρ h ha hT => ?_⟩
  obtain ⟨-, -, hF, hG, hH, hA, hP⟩ := ha
  have f0 : (0 : Int) ≤ ((0) + ((1) * ρ 1 + 0)) := hF _ (List.mem_of_getElem? (i := 0) rfl)
  have f1 : (0 : Int) ≤ ((-1) + ((-1) * ρ 1 + ((1) * ρ 2 + 0))) := hF _ (List.mem_of_getElem? (i := 1) rfl)
  have f2 : (0 : Int) ≤ ((-1) + ((-1) * ρ 2 + ((1) * ρ 3 + 0))) := hF _ (List.mem_of_getElem? (i := 2) rfl)
  have f3 : (0 : Int) ≤ ((8) + ((-1) * ρ 3 + 0)) := hF _ (List.mem_of_getElem? (i := 3) rfl)
  have p0 : P80 (vw C h) ((1) + ((1) * ρ 2 + ((16) * ρ 3 + 0))) ((0) + ((1) * ρ 4 + 0)) := hP _ (List.mem_of_getElem? (i := 0) rfl)
  have p1 : P80 (vw C h) ((2) + ((1) * ρ 2 + ((16) * ρ 3 + 0))) ((0) + ((1) * ρ 5 + 0)) := hP _ (List.mem_of_getElem? (i := 1) rfl)
  have p2 : P81 (vw C h) ((10) + ((9) * ρ 4 + ((1) * ρ 5 + 0))) ((0) + ((1) * ρ 6 + 0)) := hP _ (List.mem_of_getElem? (i := 2) rfl)
  refine ⟨_, List.mem_cons_self, ρ, fun _ _ => rfl, fun q hq => absurd hq List.not_mem_nil, trivial, fun f hf => ?_, fun q hq => absurd hq List.not_mem_nil, fun q hq => absurd hq List.not_mem_nil, fun q hq => absurd hq List.not_mem_nil, fun q hq => ?_⟩
  · exact absurd hf List.not_mem_nil
  · simp only [List.mem_cons, List.not_mem_nil, or_false] at hq
    subst hq
    show P79 (vw C h) ((66) + ((65) * ρ 2 + ((4096) * ρ 3 + 0))) ((0) + ((1) * ρ 6 + 0))
    exact pair_ok (m := ρ 3) (p := ρ 2) (q := ρ 2 + 1) (rg142 hU hT) p0 p1 p2 (by omega) (by omega) (by omega) (by omega) (by omega) (by omega) (by omega) (by omega) (by omega)
/-- pairC -/
theorem lem_67_ok (hU : uqG G C) : lem_67.1.2.1 = [] ∧ lemOK (PRd G C D xs) G rgs lem_67 := by
  refine ⟨rfl, fun ρ h ha hT => ?_⟩
  obtain ⟨-, -, hF, hG, hH, hA, hP⟩ := ha
  have f0 : (0 : Int) ≤ ((0) + ((1) * ρ 1 + 0)) := hF _ (List.mem_of_getElem? (i := 0) rfl)
  have f1 : (0 : Int) ≤ ((-1) + ((-1) * ρ 1 + ((1) * ρ 2 + 0))) := hF _ (List.mem_of_getElem? (i := 1) rfl)
  have f2 : (0 : Int) ≤ ((-1) + ((-1) * ρ 2 + ((1) * ρ 3 + 0))) := hF _ (List.mem_of_getElem? (i := 2) rfl)
  have f3 : (0 : Int) ≤ ((8) + ((-1) * ρ 3 + 0)) := hF _ (List.mem_of_getElem? (i := 3) rfl)
  have p0 : P80 (vw C h) ((0) + ((1) * ρ 1 + ((16) * ρ 3 + 0))) ((0) + ((1) * ρ 4 + 0)) := hP _ (List.mem_of_getElem? (i := 0) rfl)
  have p1 : P80 (vw C h) ((1) + ((1) * ρ 2 + ((16) * ρ 3 + 0))) ((0) + ((1) * ρ 5 + 0)) := hP _ (List.mem_of_getElem? (i := 1) rfl)
  have p2 : P81 (vw C h) ((10) + ((9) * ρ 4 + ((1) * ρ 5 + 0))) ((0) + ((1) * ρ 6 + 0)) := hP _ (List.mem_of_getElem? (i := 2) rfl)
  refine ⟨_, List.mem_cons_self, ρ, fun _ _ => rfl, fun q hq => absurd hq List.not_mem_nil, trivial, fun f hf => ?_, fun q hq => absurd hq List.not_mem_nil, fun q hq => absurd hq List.not_mem_nil, fun q hq => absurd hq List.not_mem_nil, fun q hq => ?_⟩
  · exact absurd hf List.not_mem_nil
  · simp only [List.mem_cons, List.not_mem_nil, or_false] at hq
    subst hq
    show P79 (vw C h) ((1) + ((64) * ρ 1 + ((1) * ρ 2 + ((4096) * ρ 3 + 0)))) ((0) + ((1) * ρ 6 + 0))
    exact pair_ok (m := ρ 3) (p := ρ 1 - 1) (q := ρ 2) (rg142 hU hT) p0 p1 p2 (by omega) (by omega) (by omega) (by omega) (by omega) (by omega) (by omega) (by omega) (by omega)
/-- pairD -/
theorem lem_68_ok (hU : uqG G C) : lem_68.1.2.1 = [] ∧ lemOK (PRd G C D xs) G rgs lem_68 := by
  refine ⟨rfl, fun ρ h ha hT => ?_⟩
  obtain ⟨-, -, hF, hG, hH, hA, hP⟩ := ha
  have f0 : (0 : Int) ≤ ((0) + ((1) * ρ 1 + 0)) := hF _ (List.mem_of_getElem? (i := 0) rfl)
  have f1 : (0 : Int) ≤ ((-1) + ((-1) * ρ 1 + ((1) * ρ 2 + 0))) := hF _ (List.mem_of_getElem? (i := 1) rfl)
  have f2 : (0 : Int) ≤ ((-1) + ((-1) * ρ 2 + ((1) * ρ 3 + 0))) := hF _ (List.mem_of_getElem? (i := 2) rfl)
  have f3 : (0 : Int) ≤ ((8) + ((-1) * ρ 3 + 0)) := hF _ (List.mem_of_getElem? (i := 3) rfl)
  have p0 : P80 (vw C h) ((1) + ((1) * ρ 1 + ((16) * ρ 3 + 0))) ((0) + ((1) * ρ 4 + 0)) := hP _ (List.mem_of_getElem? (i := 0) rfl)
  have p1 : P80 (vw C h) ((2) + ((1) * ρ 2 + ((16) * ρ 3 + 0))) ((0) + ((1) * ρ 5 + 0)) := hP _ (List.mem_of_getElem? (i := 1) rfl)
  have p2 : P81 (vw C h) ((10) + ((9) * ρ 4 + ((1) * ρ 5 + 0))) ((0) + ((1) * ρ 6 + 0)) := hP _ (List.mem_of_getElem? (i := 2) rfl)
  refine ⟨_, List.mem_cons_self, ρ, fun _ _ => rfl, fun q hq => absurd hq List.not_mem_nil, trivial, fun f hf => ?_, fun q hq => absurd hq List.not_mem_nil, fun q hq => absurd hq List.not_mem_nil, fun q hq => absurd hq List.not_mem_nil, fun q hq => ?_⟩
  · exact absurd hf List.not_mem_nil
  · simp only [List.mem_cons, List.not_mem_nil, or_false] at hq
    subst hq
    show P79 (vw C h) ((66) + ((64) * ρ 1 + ((1) * ρ 2 + ((4096) * ρ 3 + 0)))) ((0) + ((1) * ρ 6 + 0))
    exact pair_ok (m := ρ 3) (p := ρ 1) (q := ρ 2 + 1) (rg142 hU hT) p0 p1 p2 (by omega) (by omega) (by omega) (by omega) (by omega) (by omega) (by omega) (by omega) (by omega)
/-- twoOpt -/
theorem lem_69_ok (hU : uqG G C) : lem_69.1.2.1 = [] ∧ lemOK (PRd G C D xs) G rgs lem_69 := by
  refine ⟨rfl, fun ρ h ha hT => ?_⟩
  obtain ⟨-, -, hF, hG, hH, hA, hP⟩ := ha
  have f0 : (0 : Int) ≤ ((0) + ((1) * ρ 1 + 0)) := hF _ (List.mem_of_getElem? (i := 0) rfl)
  have f1 : (0 : Int) ≤ ((-1) + ((-1) * ρ 1 + ((1) * ρ 2 + 0))) := hF _ (List.mem_of_getElem? (i := 1) rfl)
  have f2 : (0 : Int) ≤ ((-1) + ((-1) * ρ 2 + ((1) * ρ 5 + 0))) := hF _ (List.mem_of_getElem? (i := 2) rfl)
  have f3 : (0 : Int) ≤ ((8) + ((-1) * ρ 5 + 0)) := hF _ (List.mem_of_getElem? (i := 3) rfl)
  have f4 : (0 : Int) ≤ ((0) + ((-1) * ρ 3 + ((1) * ρ 6 + ((1) * ρ 7 + 0)))) := hF _ (List.mem_of_getElem? (i := 4) rfl)
  have f5 : (0 : Int) ≤ ((0) + ((1) * ρ 3 + ((-1) * ρ 6 + ((-1) * ρ 7 + 0)))) := hF _ (List.mem_of_getElem? (i := 5) rfl)
  have f6 : (0 : Int) ≤ ((0) + ((-1) * ρ 4 + ((1) * ρ 8 + ((1) * ρ 9 + 0)))) := hF _ (List.mem_of_getElem? (i := 6) rfl)
  have f7 : (0 : Int) ≤ ((0) + ((1) * ρ 4 + ((-1) * ρ 8 + ((-1) * ρ 9 + 0)))) := hF _ (List.mem_of_getElem? (i := 7) rfl)
  have p0 : P79 (vw C h) ((1) + ((65) * ρ 1 + ((4096) * ρ 5 + 0))) ((0) + ((1) * ρ 6 + 0)) := hP _ (List.mem_of_getElem? (i := 0) rfl)
  have p1 : P79 (vw C h) ((66) + ((65) * ρ 2 + ((4096) * ρ 5 + 0))) ((0) + ((1) * ρ 7 + 0)) := hP _ (List.mem_of_getElem? (i := 1) rfl)
  have p2 : P79 (vw C h) ((1) + ((64) * ρ 1 + ((1) * ρ 2 + ((4096) * ρ 5 + 0)))) ((0) + ((1) * ρ 8 + 0)) := hP _ (List.mem_of_getElem? (i := 2) rfl)
  have p3 : P79 (vw C h) ((66) + ((64) * ρ 1 + ((1) * ρ 2 + ((4096) * ρ 5 + 0)))) ((0) + ((1) * ρ 9 + 0)) := hP _ (List.mem_of_getElem? (i := 3) rfl)
  have p4 : P82 (vw C h) ((0) + ((1) * ρ 5 + 0)) ((0) + ((1) * ρ 10 + 0)) := hP _ (List.mem_of_getElem? (i := 4) rfl)
  have q := twoOpt_ok (m := ρ 5) (i := ρ 1) (j := ρ 2) (S' := ((0) + ((-1) * ρ 3 + ((1) * ρ 4 + ((1) * ρ 10 + 0))))) (k := ((0) + ((16) * ρ 1 + ((1) * ρ 2 + ((256) * ρ 5 + 0))))) (by omega) (by omega) (by omega) (by omega) p0 p1 p2 p3 p4 (by omega) (by omega) (by omega) (by omega) (by omega) (by omega) (by omega)
  refine ⟨_, List.mem_cons_self, ρ, fun _ _ => rfl, fun q hq => absurd hq List.not_mem_nil, trivial, fun f hf => ?_, fun q hq => absurd hq List.not_mem_nil, fun q hq => absurd hq List.not_mem_nil, fun q hq => absurd hq List.not_mem_nil, fun q hq => ?_⟩
  · simp only [List.mem_cons, List.not_mem_nil, or_false] at hf
    subst hf
    show (0 : Int) ≤ ((0) + ((-1) * ρ 3 + ((1) * ρ 4 + ((1) * ρ 10 + 0))))
    omega
  · simp only [List.mem_cons, List.not_mem_nil, or_false] at hq
    subst hq
    show P83 (vw C h) ((0) + ((16) * ρ 1 + ((1) * ρ 2 + ((256) * ρ 5 + 0)))) ((0) + ((-1) * ρ 3 + ((1) * ρ 4 + ((1) * ρ 10 + 0))))
    exact q.2
/-- revDone -/
theorem lem_70_ok (hU : uqG G C) : lem_70.1.2.1 = [] ∧ lemOK (PRd G C D xs) G rgs lem_70 := by
  refine ⟨rfl, fun ρ h ha hT => ?_⟩
  obtain ⟨-, -, hF, hG, hH, hA, hP⟩ := ha
  have f0 : (0 : Int) ≤ ((0) + ((1) * ρ 1 + ((-1) * ρ 2 + 0))) := hF _ (List.mem_of_getElem? (i := 0) rfl)
  have f1 : (0 : Int) ≤ ((0) + ((1) * ρ 1 + 0)) := hF _ (List.mem_of_getElem? (i := 1) rfl)
  have f2 : (0 : Int) ≤ ((9) + ((-1) * ρ 1 + 0)) := hF _ (List.mem_of_getElem? (i := 2) rfl)
  have f3 : (0 : Int) ≤ ((0) + ((1) * ρ 2 + 0)) := hF _ (List.mem_of_getElem? (i := 3) rfl)
  have f4 : (0 : Int) ≤ ((9) + ((-1) * ρ 2 + 0)) := hF _ (List.mem_of_getElem? (i := 4) rfl)
  have f5 : (0 : Int) ≤ ((0) + ((1) * ρ 3 + 0)) := hF _ (List.mem_of_getElem? (i := 5) rfl)
  have f6 : (0 : Int) ≤ ((8) + ((-1) * ρ 3 + 0)) := hF _ (List.mem_of_getElem? (i := 6) rfl)
  have p0 : P83 (vw C h) ((0) + ((16) * ρ 1 + ((1) * ρ 2 + ((256) * ρ 3 + 0)))) ((0) + ((1) * ρ 4 + 0)) := hP _ (List.mem_of_getElem? (i := 0) rfl)
  refine ⟨_, List.mem_cons_self, ρ, fun _ _ => rfl, fun q hq => absurd hq List.not_mem_nil, trivial, fun f hf => ?_, fun q hq => absurd hq List.not_mem_nil, fun q hq => absurd hq List.not_mem_nil, fun q hq => absurd hq List.not_mem_nil, fun q hq => ?_⟩
  · exact absurd hf List.not_mem_nil
  · simp only [List.mem_cons, List.not_mem_nil, or_false] at hq
    subst hq
    show P82 (vw C h) ((0) + ((1) * ρ 3 + 0)) ((0) + ((1) * ρ 4 + 0))
    exact revDone_ok (m := ρ 3) (i := ρ 1) (j := ρ 2) p0 (by omega) (by omega) (by omega) (by omega) (by omega) (by omega) (by omega)
/-- swap1 -/
theorem lem_71_ok (hU : uqG G C) : lem_71.1.2.1 = [] ∧ lemOK (PRd G C D xs) G rgs lem_71 := by
  refine ⟨rfl, fun ρ h ha hT => ?_⟩
  obtain ⟨-, -, hF, hG, hH, hA, hP⟩ := ha
  have f0 : (0 : Int) ≤ ((0) + ((1) * ρ 4 + ((-1) * ρ 7 + 0))) := hF _ (List.mem_of_getElem? (i := 0) rfl)
  have f1 : (0 : Int) ≤ ((0) + ((-1) * ρ 4 + ((1) * ρ 7 + 0))) := hF _ (List.mem_of_getElem? (i := 1) rfl)
  have f2 : (0 : Int) ≤ ((0) + ((1) * ρ 3 + ((-1) * ρ 8 + 0))) := hF _ (List.mem_of_getElem? (i := 2) rfl)
  have f3 : (0 : Int) ≤ ((0) + ((-1) * ρ 3 + ((1) * ρ 8 + 0))) := hF _ (List.mem_of_getElem? (i := 3) rfl)
  have f4 : (0 : Int) ≤ ((0) + ((1) * ρ 1 + 0)) := hF _ (List.mem_of_getElem? (i := 4) rfl)
  have f5 : (0 : Int) ≤ ((-1) + ((-1) * ρ 1 + ((1) * ρ 2 + 0))) := hF _ (List.mem_of_getElem? (i := 5) rfl)
  have f6 : (0 : Int) ≤ ((-1) + ((-1) * ρ 2 + ((1) * ρ 5 + 0))) := hF _ (List.mem_of_getElem? (i := 6) rfl)
  have f7 : (0 : Int) ≤ ((8) + ((-1) * ρ 5 + 0)) := hF _ (List.mem_of_getElem? (i := 7) rfl)
  have f8 : (0 : Int) ≤ ((0) + ((1) * ρ 4 + 0)) := hF _ (List.mem_of_getElem? (i := 8) rfl)
  have f9 : (0 : Int) ≤ ((7) + ((-1) * ρ 4 + 0)) := hF _ (List.mem_of_getElem? (i := 9) rfl)
  have g1 : G (ρ 6).toNat = 142 := by
    have q := (hG _ (List.mem_of_getElem? (i := 1) rfl)).2
    rwa [show ev ρ (0, [(6, 1)]) = ρ 6 from ev_v] at q
  have b0 : (0 : Int) ≤ ((0) + ((1) * ρ 1 + 0)) := b_aA (hA _ (List.mem_of_getElem? (i := 0) rfl))
  have b1 : (0 : Int) ≤ ((0) + ((1) * ρ 2 + 0)) := b_aA (hA _ (List.mem_of_getElem? (i := 1) rfl))
  have a0 : vw C h 142 ((ρ 1).toNat) = ρ 7 := vw_aA hU (hA _ (List.mem_of_getElem? (i := 0) rfl)) ev_v g1 (by omega) (by omega) (i := (ρ 1).toNat) (show ((((ρ 1).toNat : Nat)) : Int) = ((0) + ((1) * ρ 1 + 0)) by omega) ev_v
  have a1 : vw C h 142 ((ρ 2).toNat) = ρ 8 := vw_aA hU (hA _ (List.mem_of_getElem? (i := 1) rfl)) ev_v g1 (by omega) (by omega) (i := (ρ 2).toNat) (show ((((ρ 2).toNat : Nat)) : Int) = ((0) + ((1) * ρ 2 + 0)) by omega) ev_v
  have p0 : P83 (vw C h) ((0) + ((16) * ρ 1 + ((1) * ρ 2 + ((256) * ρ 5 + 0)))) ((0) + ((1) * ρ 9 + 0)) := hP _ (List.mem_of_getElem? (i := 0) rfl)
  have q := swap1_ok (m := ρ 5) (i := ((0) + ((1) * ρ 1 + 0))) (j := ρ 2) (v := ρ 4) (c := ((0) + ((8) * ρ 2 + ((1) * ρ 4 + ((128) * ρ 5 + ((2048) * ρ 9 + 0)))))) (a := ((0) + ((8) * ρ 2 + ((1) * ρ 4 + ((128) * ρ 5 + 0))))) (by rw [(show ((0 : Int) + (1 * ρ 1 + 0)).toNat = (ρ 1).toNat by omega), a0]; omega) (by omega) (by omega) (by omega) (by omega) (by omega) (by omega) p0 (by omega) (by omega) (by omega)
  refine ⟨_, List.mem_cons_self, ρ, fun _ _ => rfl, fun q hq => absurd hq List.not_mem_nil, trivial, fun f hf => ?_, fun q hq => absurd hq List.not_mem_nil, fun q hq => absurd hq List.not_mem_nil, fun q hq => absurd hq List.not_mem_nil, fun q hq => ?_⟩
  · exact absurd hf List.not_mem_nil
  · simp only [List.mem_cons, List.not_mem_nil, or_false] at hq
    rcases hq with rfl | rfl
    · show P84 (vw C h) ((0) + ((1) * ρ 1 + 0)) ((0) + ((8) * ρ 2 + ((1) * ρ 4 + ((128) * ρ 5 + ((2048) * ρ 9 + 0)))))
      exact q.1
    · show P92 ((0) + ((8) * ρ 2 + ((1) * ρ 4 + ((128) * ρ 5 + 0)))) ((0) + ((8) * ρ 2 + ((1) * ρ 4 + ((128) * ρ 5 + ((2048) * ρ 9 + 0)))))
      exact q.2
/-- swap2 -/
theorem lem_72_ok (hU : uqG G C) : lem_72.1.2.1 = [] ∧ lemOK (PRd G C D xs) G rgs lem_72 := by
  refine ⟨rfl, fun ρ h ha hT => ?_⟩
  obtain ⟨-, -, hF, hG, hH, hA, hP⟩ := ha
  have f0 : (0 : Int) ≤ ((0) + ((-1) * ρ 6 + ((1) * ρ 7 + 0))) := hF _ (List.mem_of_getElem? (i := 0) rfl)
  have f1 : (0 : Int) ≤ ((0) + ((1) * ρ 6 + ((-1) * ρ 7 + 0))) := hF _ (List.mem_of_getElem? (i := 1) rfl)
  have f2 : (0 : Int) ≤ ((0) + ((1) * ρ 1 + 0)) := hF _ (List.mem_of_getElem? (i := 2) rfl)
  have f3 : (0 : Int) ≤ ((-1) + ((-1) * ρ 1 + ((1) * ρ 2 + 0))) := hF _ (List.mem_of_getElem? (i := 3) rfl)
  have f4 : (0 : Int) ≤ ((-1) + ((-1) * ρ 2 + ((1) * ρ 4 + 0))) := hF _ (List.mem_of_getElem? (i := 4) rfl)
  have f5 : (0 : Int) ≤ ((8) + ((-1) * ρ 4 + 0)) := hF _ (List.mem_of_getElem? (i := 5) rfl)
  have f6 : (0 : Int) ≤ ((0) + ((1) * ρ 3 + 0)) := hF _ (List.mem_of_getElem? (i := 6) rfl)
  have f7 : (0 : Int) ≤ ((7) + ((-1) * ρ 3 + 0)) := hF _ (List.mem_of_getElem? (i := 7) rfl)
  have g1 : G (ρ 5).toNat = 142 := by
    have q := (hG _ (List.mem_of_getElem? (i := 1) rfl)).2
    rwa [show ev ρ (0, [(5, 1)]) = ρ 5 from ev_v] at q
  have b0 : (0 : Int) ≤ ((0) + ((1) * ρ 1 + 0)) := b_aA (hA _ (List.mem_of_getElem? (i := 0) rfl))
  have b1 : (0 : Int) ≤ ((0) + ((1) * ρ 2 + 0)) := b_aA (hA _ (List.mem_of_getElem? (i := 1) rfl))
  have a0 : vw C h 142 ((ρ 1).toNat) = ρ 6 := vw_aA hU (hA _ (List.mem_of_getElem? (i := 0) rfl)) ev_v g1 (by omega) (by omega) (i := (ρ 1).toNat) (show ((((ρ 1).toNat : Nat)) : Int) = ((0) + ((1) * ρ 1 + 0)) by omega) ev_v
  have a1 : vw C h 142 ((ρ 2).toNat) = ρ 7 := vw_aA hU (hA _ (List.mem_of_getElem? (i := 1) rfl)) ev_v g1 (by omega) (by omega) (i := (ρ 2).toNat) (show ((((ρ 2).toNat : Nat)) : Int) = ((0) + ((1) * ρ 2 + 0)) by omega) ev_v
  have p0 : P84 (vw C h) ((0) + ((1) * ρ 1 + 0)) ((0) + ((1) * ρ 8 + 0)) := hP _ (List.mem_of_getElem? (i := 0) rfl)
  have p1 : P92 ((0) + ((8) * ρ 2 + ((1) * ρ 3 + ((128) * ρ 4 + 0)))) ((0) + ((1) * ρ 8 + 0)) := hP _ (List.mem_of_getElem? (i := 1) rfl)
  have q := swap2_ok (m := ρ 4) (i := ((0) + ((1) * ρ 1 + 0))) (j := ((0) + ((1) * ρ 2 + 0))) (v := ρ 3) (x := ρ 6) (y := ρ 7) (c' := ((0) + ((8) * ρ 1 + ((-8) * ρ 2 + ((1) * ρ 8 + 0))))) (a' := ((0) + ((8) * ρ 1 + ((1) * ρ 3 + ((128) * ρ 4 + 0))))) (by rw [(show ((0 : Int) + (1 * ρ 1 + 0)).toNat = (ρ 1).toNat by omega)]; exact a0) (by rw [(show ((0 : Int) + (1 * ρ 2 + 0)).toNat = (ρ 2).toNat by omega)]; exact a1) (by omega) (by omega) (by omega) (by omega) (by omega) (by omega) (by omega) p0 p1 (by omega) (by omega) (by omega)
  refine ⟨_, List.mem_cons_self, ρ, fun _ _ => rfl, fun q hq => absurd hq List.not_mem_nil, trivial, fun f hf => ?_, fun q hq => absurd hq List.not_mem_nil, fun q hq => absurd hq List.not_mem_nil, fun q hq => absurd hq List.not_mem_nil, fun q hq => ?_⟩
  · exact absurd hf List.not_mem_nil
  · simp only [List.mem_cons, List.not_mem_nil, or_false] at hq
    rcases hq with rfl | rfl
    · show P85 (vw C h) ((0) + ((1) * ρ 2 + 0)) ((0) + ((8) * ρ 1 + ((-8) * ρ 2 + ((1) * ρ 8 + 0))))
      exact q.1
    · show P92 ((0) + ((8) * ρ 1 + ((1) * ρ 3 + ((128) * ρ 4 + 0)))) ((0) + ((8) * ρ 1 + ((-8) * ρ 2 + ((1) * ρ 8 + 0))))
      exact q.2
/-- swap3 -/
theorem lem_73_ok (hU : uqG G C) : lem_73.1.2.1 = [] ∧ lemOK (PRd G C D xs) G rgs lem_73 := by
  refine ⟨rfl, fun ρ h ha hT => ?_⟩
  obtain ⟨-, -, hF, hG, hH, hA, hP⟩ := ha
  have f0 : (0 : Int) ≤ ((0) + ((1) * ρ 3 + ((-1) * ρ 6 + 0))) := hF _ (List.mem_of_getElem? (i := 0) rfl)
  have f1 : (0 : Int) ≤ ((0) + ((-1) * ρ 3 + ((1) * ρ 6 + 0))) := hF _ (List.mem_of_getElem? (i := 1) rfl)
  have f2 : (0 : Int) ≤ ((0) + ((1) * ρ 1 + 0)) := hF _ (List.mem_of_getElem? (i := 2) rfl)
  have f3 : (0 : Int) ≤ ((-1) + ((-1) * ρ 1 + ((1) * ρ 2 + 0))) := hF _ (List.mem_of_getElem? (i := 3) rfl)
  have f4 : (0 : Int) ≤ ((-1) + ((-1) * ρ 2 + ((1) * ρ 4 + 0))) := hF _ (List.mem_of_getElem? (i := 4) rfl)
  have f5 : (0 : Int) ≤ ((8) + ((-1) * ρ 4 + 0)) := hF _ (List.mem_of_getElem? (i := 5) rfl)
  have f6 : (0 : Int) ≤ ((0) + ((1) * ρ 3 + 0)) := hF _ (List.mem_of_getElem? (i := 6) rfl)
  have f7 : (0 : Int) ≤ ((7) + ((-1) * ρ 3 + 0)) := hF _ (List.mem_of_getElem? (i := 7) rfl)
  have g1 : G (ρ 5).toNat = 142 := by
    have q := (hG _ (List.mem_of_getElem? (i := 1) rfl)).2
    rwa [show ev ρ (0, [(5, 1)]) = ρ 5 from ev_v] at q
  have b0 : (0 : Int) ≤ ((0) + ((1) * ρ 2 + 0)) := b_aA (hA _ (List.mem_of_getElem? (i := 0) rfl))
  have a0 : vw C h 142 ((ρ 2).toNat) = ρ 6 := vw_aA hU (hA _ (List.mem_of_getElem? (i := 0) rfl)) ev_v g1 (by omega) (by omega) (i := (ρ 2).toNat) (show ((((ρ 2).toNat : Nat)) : Int) = ((0) + ((1) * ρ 2 + 0)) by omega) ev_v
  have p0 : P85 (vw C h) ((0) + ((1) * ρ 2 + 0)) ((0) + ((1) * ρ 7 + 0)) := hP _ (List.mem_of_getElem? (i := 0) rfl)
  have p1 : P92 ((0) + ((8) * ρ 1 + ((1) * ρ 3 + ((128) * ρ 4 + 0)))) ((0) + ((1) * ρ 7 + 0)) := hP _ (List.mem_of_getElem? (i := 1) rfl)
  have q := swap3_ok (m := ρ 4) (i := ρ 1) (j := ((0) + ((1) * ρ 2 + 0))) (v := ρ 3) (x := ρ 6) (S := ((0) + ((1) * ρ 7 + 0)) / 2048) (k := 15 + 16 * ρ 1 + ρ 2 + 256 * ρ 4) (by rw [(show ((0 : Int) + (1 * ρ 2 + 0)).toNat = (ρ 2).toNat by omega)]; exact a0) (by omega) (by omega) (by omega) (by omega) (by omega) (by omega) (by omega) p0 p1 (by omega) (by omega) (by omega)
  obtain ⟨σ, r1, r2a⟩ : ∃ σ : Va, (∀ i, i < 8 → σ i = ρ i) ∧ σ 8 = (ρ 7 / 2048) := ⟨fun i => if i = 8 then (ρ 7 / 2048) else ρ i, fun i hi => by dsimp only; rw [if_neg (by omega)], by dsimp only; rw [if_pos rfl]⟩
  have s0 := r1 0 (by omega)
  have s1 := r1 1 (by omega)
  have s2 := r1 2 (by omega)
  have s3 := r1 3 (by omega)
  have s4 := r1 4 (by omega)
  have s5 := r1 5 (by omega)
  have s6 := r1 6 (by omega)
  have s7 := r1 7 (by omega)
  refine ⟨_, List.mem_cons_self, σ, r1, fun q hq => absurd hq List.not_mem_nil, trivial, fun f hf => ?_, fun q hq => absurd hq List.not_mem_nil, fun q hq => absurd hq List.not_mem_nil, fun q hq => absurd hq List.not_mem_nil, fun q hq => ?_⟩
  · simp only [List.mem_cons, List.not_mem_nil, or_false] at hf
    rcases hf with rfl | rfl
    · show (0 : Int) ≤ ((0) + ((-8) * σ 1 + ((-1) * σ 3 + ((-128) * σ 4 + ((1) * σ 7 + ((-2048) * σ 8 + 0))))))
      omega
    · show (0 : Int) ≤ ((0) + ((8) * σ 1 + ((1) * σ 3 + ((128) * σ 4 + ((-1) * σ 7 + ((2048) * σ 8 + 0))))))
      omega
  · simp only [List.mem_cons, List.not_mem_nil, or_false] at hq
    subst hq
    show P83 (vw C h) ((15) + ((16) * σ 1 + ((1) * σ 2 + ((256) * σ 4 + 0)))) ((0) + ((1) * σ 8 + 0))
    rw [show ((15) + ((16) * σ 1 + ((1) * σ 2 + ((256) * σ 4 + 0)))) = 15 + 16 * ρ 1 + ρ 2 + 256 * ρ 4 by omega, show ((0) + ((1) * σ 8 + 0)) = ((0) + ((1) * ρ 7 + 0)) / 2048 by omega]
    exact q.2
/-- initS -/
theorem lem_74_ok (hU : uqG G C) : lem_74.1.2.1 = [] ∧ lemOK (PRd G C D xs) G rgs lem_74 := by
  refine ⟨rfl, fun ρ h ha hT => ?_⟩
  obtain ⟨-, -, hF, hG, hH, hA, hP⟩ := ha
  have f0 : (0 : Int) ≤ ((0) + ((1) * ρ 1 + 0)) := hF _ (List.mem_of_getElem? (i := 0) rfl)
  have f1 : (0 : Int) ≤ ((8) + ((-1) * ρ 1 + 0)) := hF _ (List.mem_of_getElem? (i := 1) rfl)
  have q := initS_ok (V := vw C h) (m := ρ 1) (by omega) (by omega) (rg123 hU hT)
  have q0 := pT_0 (V := vw C h) (ρ := ro (vw C h)) (m := ρ 1)
  obtain ⟨σ, r1, r2a⟩ : ∃ σ : Va, (∀ i, i < 2 → σ i = ρ i) ∧ σ 2 = (pT (vw C h) (ro (vw C h)) (ρ 1)) := ⟨fun i => if i = 2 then (pT (vw C h) (ro (vw C h)) (ρ 1)) else ρ i, fun i hi => by dsimp only; rw [if_neg (by omega)], by dsimp only; rw [if_pos rfl]⟩
  have s0 := r1 0 (by omega)
  have s1 := r1 1 (by omega)
  refine ⟨_, List.mem_cons_self, σ, r1, fun q hq => absurd hq List.not_mem_nil, trivial, fun f hf => ?_, fun q hq => absurd hq List.not_mem_nil, fun q hq => absurd hq List.not_mem_nil, fun q hq => absurd hq List.not_mem_nil, fun q hq => ?_⟩
  · simp only [List.mem_cons, List.not_mem_nil, or_false] at hf
    rcases hf with rfl | rfl
    · show (0 : Int) ≤ ((0) + ((1) * σ 2 + 0))
      omega
    · show (0 : Int) ≤ ((1800) + ((-1) * σ 2 + 0))
      omega
  · simp only [List.mem_cons, List.not_mem_nil, or_false] at hq
    subst hq
    show P82 (vw C h) ((0) + ((1) * σ 1 + 0)) ((0) + ((1) * σ 2 + 0))
    rw [show ((0) + ((1) * σ 1 + 0)) = ρ 1 by omega, show ((0) + ((1) * σ 2 + 0)) = pT (vw C h) (ro (vw C h)) (ρ 1) by omega]
    exact rfl
/-- noOrder -/
theorem lem_75_ok (hU : uqG G C) : lem_75.1.2.1 = [] ∧ lemOK (PRd G C D xs) G rgs lem_75 := by
  refine ⟨rfl, fun ρ h ha hT => ?_⟩
  obtain ⟨-, -, hF, hG, hH, hA, hP⟩ := ha
  refine ⟨_, List.mem_cons_self, ρ, fun _ _ => rfl, fun q hq => absurd hq List.not_mem_nil, trivial, fun f hf => ?_, fun q hq => absurd hq List.not_mem_nil, fun q hq => absurd hq List.not_mem_nil, fun q hq => absurd hq List.not_mem_nil, fun q hq => ?_⟩
  · exact absurd hf List.not_mem_nil
  · simp only [List.mem_cons, List.not_mem_nil, or_false] at hq
    subst hq
    show P86 (vw C h) ((0) + 0) ((0) + 0)
    exact ⟨fun a b _ hb _ => by omega, fun a ha _ => by omega⟩
/-- ordMore -/
theorem lem_76_ok (hU : uqG G C) : lem_76.1.2.1 = [] ∧ lemOK (PRd G C D xs) G rgs lem_76 := by
  refine ⟨rfl, fun ρ h ha hT => ?_⟩
  obtain ⟨-, -, hF, hG, hH, hA, hP⟩ := ha
  have f0 : (0 : Int) ≤ ((1) + ((1) * ρ 1 + ((-1) * ρ 2 + 0))) := hF _ (List.mem_of_getElem? (i := 0) rfl)
  have p0 : P86 (vw C h) ((0) + ((1) * ρ 0 + 0)) ((0) + ((1) * ρ 2 + 0)) := hP _ (List.mem_of_getElem? (i := 0) rfl)
  refine ⟨_, List.mem_cons_self, ρ, fun _ _ => rfl, fun q hq => absurd hq List.not_mem_nil, trivial, fun f hf => ?_, fun q hq => absurd hq List.not_mem_nil, fun q hq => absurd hq List.not_mem_nil, fun q hq => absurd hq List.not_mem_nil, fun q hq => ?_⟩
  · exact absurd hf List.not_mem_nil
  · simp only [List.mem_cons, List.not_mem_nil, or_false] at hq
    subst hq
    show P86 (vw C h) ((0) + ((1) * ρ 0 + 0)) ((1) + ((1) * ρ 1 + 0))
    exact ⟨p0.1, fun a ha a8 => by
      have := p0.2 a ha a8
      omega⟩
/-- ordHole -/
theorem lem_77_ok (hU : uqG G C) : lem_77.1.2.1 = [] ∧ lemOK (PRd G C D xs) G rgs lem_77 := by
  refine ⟨rfl, fun ρ h ha hT => ?_⟩
  obtain ⟨-, -, hF, hG, hH, hA, hP⟩ := ha
  have f0 : (0 : Int) ≤ ((0) + ((1) * ρ 0 + 0)) := hF _ (List.mem_of_getElem? (i := 0) rfl)
  have f1 : (0 : Int) ≤ ((8) + ((-1) * ρ 0 + 0)) := hF _ (List.mem_of_getElem? (i := 1) rfl)
  have f2 : (0 : Int) ≤ ((0) + ((1) * ρ 1 + 0)) := hF _ (List.mem_of_getElem? (i := 2) rfl)
  have f3 : (0 : Int) ≤ ((8) + ((-1) * ρ 1 + 0)) := hF _ (List.mem_of_getElem? (i := 3) rfl)
  have p0 : P86 (vw C h) ((0) + ((1) * ρ 0 + 0)) ((0) + ((1) * ρ 1 + 0)) := hP _ (List.mem_of_getElem? (i := 0) rfl)
  refine ⟨_, List.mem_cons_self, ρ, fun _ _ => rfl, fun q hq => absurd hq List.not_mem_nil, trivial, fun f hf => ?_, fun q hq => absurd hq List.not_mem_nil, fun q hq => absurd hq List.not_mem_nil, fun q hq => absurd hq List.not_mem_nil, fun q hq => ?_⟩
  · exact absurd hf List.not_mem_nil
  · simp only [List.mem_cons, List.not_mem_nil, or_false] at hq
    subst hq
    show P87 (vw C h) ((0) + ((1) * ρ 0 + 0)) ((0) + ((16) * ρ 0 + ((1) * ρ 1 + 0)))
    exact ⟨fun a b hab hb b8 na nb => p0.1 a b hab (by omega) b8, fun a ha a8 na => by
      have := p0.2 a (by omega) a8
      omega⟩
/-- ordMove -/
theorem lem_78_ok (hU : uqG G C) : lem_78.1.2.1 = [] ∧ lemOK (PRd G C D xs) G rgs lem_78 := by
  refine ⟨rfl, fun ρ h ha hT => ?_⟩
  obtain ⟨-, -, hF, hG, hH, hA, hP⟩ := ha
  have f0 : (0 : Int) ≤ ((0) + ((-1) * ρ 5 + ((1) * ρ 6 + 0))) := hF _ (List.mem_of_getElem? (i := 0) rfl)
  have f1 : (0 : Int) ≤ ((0) + ((1) * ρ 5 + ((-1) * ρ 6 + 0))) := hF _ (List.mem_of_getElem? (i := 1) rfl)
  have f2 : (0 : Int) ≤ ((-1) + ((1) * ρ 1 + 0)) := hF _ (List.mem_of_getElem? (i := 2) rfl)
  have f3 : (0 : Int) ≤ ((0) + ((-1) * ρ 1 + ((1) * ρ 2 + 0))) := hF _ (List.mem_of_getElem? (i := 3) rfl)
  have f4 : (0 : Int) ≤ ((8) + ((-1) * ρ 2 + 0)) := hF _ (List.mem_of_getElem? (i := 4) rfl)
  have f5 : (0 : Int) ≤ ((0) + ((1) * ρ 3 + 0)) := hF _ (List.mem_of_getElem? (i := 5) rfl)
  have f6 : (0 : Int) ≤ ((8) + ((-1) * ρ 3 + 0)) := hF _ (List.mem_of_getElem? (i := 6) rfl)
  have g1 : G (ρ 4).toNat = 143 := by
    have q := (hG _ (List.mem_of_getElem? (i := 1) rfl)).2
    rwa [show ev ρ (0, [(4, 1)]) = ρ 4 from ev_v] at q
  have b0 : (0 : Int) ≤ ((0) + ((1) * ρ 1 + 0)) := b_aA (hA _ (List.mem_of_getElem? (i := 0) rfl))
  have b1 : (0 : Int) ≤ ((-1) + ((1) * ρ 1 + 0)) := b_aA (hA _ (List.mem_of_getElem? (i := 1) rfl))
  have a0 : vw C h 143 ((ρ 1).toNat) = ρ 5 := vw_aA hU (hA _ (List.mem_of_getElem? (i := 0) rfl)) ev_v g1 (by omega) (by omega) (i := (ρ 1).toNat) (show ((((ρ 1).toNat : Nat)) : Int) = ((0) + ((1) * ρ 1 + 0)) by omega) ev_v
  have a1 : vw C h 143 ((ρ 1 + (-1)).toNat) = ρ 6 := vw_aA hU (hA _ (List.mem_of_getElem? (i := 1) rfl)) ev_v g1 (by omega) (by omega) (i := (ρ 1 + (-1)).toNat) (show ((((ρ 1 + (-1)).toNat : Nat)) : Int) = ((-1) + ((1) * ρ 1 + 0)) by omega) ev_v
  have p0 : P87 (vw C h) ((0) + ((1) * ρ 1 + 0)) ((0) + ((16) * ρ 2 + ((1) * ρ 3 + 0))) := hP _ (List.mem_of_getElem? (i := 0) rfl)
  refine ⟨_, List.mem_cons_self, ρ, fun _ _ => rfl, fun q hq => absurd hq List.not_mem_nil, trivial, fun f hf => ?_, fun q hq => absurd hq List.not_mem_nil, fun q hq => absurd hq List.not_mem_nil, fun q hq => absurd hq List.not_mem_nil, fun q hq => ?_⟩
  · exact absurd hf List.not_mem_nil
  · simp only [List.mem_cons, List.not_mem_nil, or_false] at hq
    subst hq
    show P87 (vw C h) ((-1) + ((1) * ρ 1 + 0)) ((0) + ((16) * ρ 2 + ((1) * ρ 3 + 0)))
    exact ordMove_ok (k := ((0) + ((1) * ρ 1 + 0))) (e := ρ 2) (m := ρ 3) (x := ρ 5) (y := ρ 6) (by rw [(show ((0 : Int) + (1 * ρ 1 + 0)).toNat = (ρ 1).toNat by omega)]; exact a0) (by rw [show (((0 : Int) + (1 * ρ 1 + 0)) - 1).toNat = (ρ 1 + (-1)).toNat by omega]; exact a1) (by omega) (by omega) (by omega) (by omega) (by omega) (by omega) p0 (by omega) (by omega)
/-- ordPut -/
theorem lem_79_ok (hU : uqG G C) : lem_79.1.2.1 = [] ∧ lemOK (PRd G C D xs) G rgs lem_79 := by
  refine ⟨rfl, fun ρ h ha hT => ?_⟩
  obtain ⟨-, -, hF, hG, hH, hA, hP⟩ := ha
  have f0 : (0 : Int) ≤ ((0) + ((1) * ρ 3 + ((-1) * ρ 5 + 0))) := hF _ (List.mem_of_getElem? (i := 0) rfl)
  have f1 : (0 : Int) ≤ ((0) + ((-1) * ρ 3 + ((1) * ρ 5 + 0))) := hF _ (List.mem_of_getElem? (i := 1) rfl)
  have f2 : (0 : Int) ≤ ((0) + ((1) * ρ 1 + 0)) := hF _ (List.mem_of_getElem? (i := 2) rfl)
  have f3 : (0 : Int) ≤ ((0) + ((-1) * ρ 1 + ((1) * ρ 2 + 0))) := hF _ (List.mem_of_getElem? (i := 3) rfl)
  have f4 : (0 : Int) ≤ ((8) + ((-1) * ρ 2 + 0)) := hF _ (List.mem_of_getElem? (i := 4) rfl)
  have f5 : (0 : Int) ≤ ((0) + ((1) * ρ 3 + 0)) := hF _ (List.mem_of_getElem? (i := 5) rfl)
  have f6 : (0 : Int) ≤ ((7) + ((-1) * ρ 3 + 0)) := hF _ (List.mem_of_getElem? (i := 6) rfl)
  have g1 : G (ρ 4).toNat = 143 := by
    have q := (hG _ (List.mem_of_getElem? (i := 1) rfl)).2
    rwa [show ev ρ (0, [(4, 1)]) = ρ 4 from ev_v] at q
  have b0 : (0 : Int) ≤ ((0) + ((1) * ρ 1 + 0)) := b_aA (hA _ (List.mem_of_getElem? (i := 0) rfl))
  have a0 : vw C h 143 ((ρ 1).toNat) = ρ 5 := vw_aA hU (hA _ (List.mem_of_getElem? (i := 0) rfl)) ev_v g1 (by omega) (by omega) (i := (ρ 1).toNat) (show ((((ρ 1).toNat : Nat)) : Int) = ((0) + ((1) * ρ 1 + 0)) by omega) ev_v
  have p0 : P87 (vw C h) ((0) + ((1) * ρ 1 + 0)) ((0) + ((16) * ρ 2 + ((1) * ρ 3 + 0))) := hP _ (List.mem_of_getElem? (i := 0) rfl)
  refine ⟨_, List.mem_cons_self, ρ, fun _ _ => rfl, fun q hq => absurd hq List.not_mem_nil, trivial, fun f hf => ?_, fun q hq => absurd hq List.not_mem_nil, fun q hq => absurd hq List.not_mem_nil, fun q hq => absurd hq List.not_mem_nil, fun q hq => ?_⟩
  · exact absurd hf List.not_mem_nil
  · simp only [List.mem_cons, List.not_mem_nil, or_false] at hq
    subst hq
    show P86 (vw C h) ((1) + ((1) * ρ 2 + 0)) ((1) + ((1) * ρ 3 + 0))
    exact ordPut_ok (k := ((0) + ((1) * ρ 1 + 0))) (e := ρ 2) (m := ρ 3) (x := ρ 5) (by rw [(show ((0 : Int) + (1 * ρ 1 + 0)).toNat = (ρ 1).toNat by omega)]; exact a0) (by omega) (by omega) (by omega) (by omega) (by omega) (by omega) p0 (by omega) (by omega) (by omega)
/-- noRoute -/
theorem lem_80_ok (hU : uqG G C) : lem_80.1.2.1 = [] ∧ lemOK (PRd G C D xs) G rgs lem_80 := by
  refine ⟨rfl, fun ρ h ha hT => ?_⟩
  obtain ⟨-, -, hF, hG, hH, hA, hP⟩ := ha
  refine ⟨_, List.mem_cons_self, ρ, fun _ _ => rfl, fun q hq => absurd hq List.not_mem_nil, trivial, fun f hf => ?_, fun q hq => absurd hq List.not_mem_nil, fun q hq => absurd hq List.not_mem_nil, fun q hq => absurd hq List.not_mem_nil, fun q hq => ?_⟩
  · exact absurd hf List.not_mem_nil
  · simp only [List.mem_cons, List.not_mem_nil, or_false] at hq
    subst hq
    show rOK ((vw C h) 142) ((vw C h) 143) ((0) + 0) ((0) + 0)
    exact ⟨fun a b _ hb _ => by omega, fun a ha _ => by omega⟩
/-- fresh -/
theorem lem_81_ok (hU : uqG G C) : lem_81.1.2.1 = [] ∧ lemOK (PRd G C D xs) G rgs lem_81 := by
  refine ⟨rfl, fun ρ h ha hT => ?_⟩
  obtain ⟨-, -, hF, hG, hH, hA, hP⟩ := ha
  have f0 : (0 : Int) ≤ ((0) + ((1) * ρ 2 + ((-1) * ρ 5 + 0))) := hF _ (List.mem_of_getElem? (i := 0) rfl)
  have f1 : (0 : Int) ≤ ((0) + ((-1) * ρ 2 + ((1) * ρ 5 + 0))) := hF _ (List.mem_of_getElem? (i := 1) rfl)
  have f2 : (0 : Int) ≤ ((0) + ((1) * ρ 1 + 0)) := hF _ (List.mem_of_getElem? (i := 2) rfl)
  have f3 : (0 : Int) ≤ ((-1) + ((-1) * ρ 1 + ((1) * ρ 3 + 0))) := hF _ (List.mem_of_getElem? (i := 3) rfl)
  have f4 : (0 : Int) ≤ ((8) + ((-1) * ρ 3 + 0)) := hF _ (List.mem_of_getElem? (i := 4) rfl)
  have g1 : G (ρ 4).toNat = 143 := by
    have q := (hG _ (List.mem_of_getElem? (i := 1) rfl)).2
    rwa [show ev ρ (0, [(4, 1)]) = ρ 4 from ev_v] at q
  have b0 : (0 : Int) ≤ ((0) + ((1) * ρ 1 + 0)) := b_aA (hA _ (List.mem_of_getElem? (i := 0) rfl))
  have a0 : vw C h 143 ((ρ 1).toNat) = ρ 5 := vw_aA hU (hA _ (List.mem_of_getElem? (i := 0) rfl)) ev_v g1 (by omega) (by omega) (i := (ρ 1).toNat) (show ((((ρ 1).toNat : Nat)) : Int) = ((0) + ((1) * ρ 1 + 0)) by omega) ev_v
  have p0 : P86 (vw C h) ((0) + ((1) * ρ 3 + 0)) ((0) + ((1) * ρ 6 + 0)) := hP _ (List.mem_of_getElem? (i := 0) rfl)
  refine ⟨_, List.mem_cons_self, ρ, fun _ _ => rfl, fun q hq => absurd hq List.not_mem_nil, trivial, fun f hf => ?_, fun q hq => absurd hq List.not_mem_nil, fun q hq => absurd hq List.not_mem_nil, fun q hq => absurd hq List.not_mem_nil, fun q hq => ?_⟩
  · exact absurd hf List.not_mem_nil
  · simp only [List.mem_cons, List.not_mem_nil, or_false] at hq
    subst hq
    show P93 (vw C h) ((0) + ((1) * ρ 1 + 0)) ((0) + ((1) * ρ 2 + 0))
    exact fresh_ok (y := ρ 5) (by rw [(show ((0 : Int) + (1 * ρ 1 + 0)).toNat = (ρ 1).toNat by omega)]; exact a0) (by omega) (by omega) (by omega) (by omega) p0
/-- rtSkip -/
theorem lem_82_ok (hU : uqG G C) : lem_82.1.2.1 = [] ∧ lemOK (PRd G C D xs) G rgs lem_82 := by
  refine ⟨rfl, fun ρ h ha hT => ?_⟩
  obtain ⟨-, -, hF, hG, hH, hA, hP⟩ := ha
  have f0 : (0 : Int) ≤ ((0) + ((1) * ρ 2 + 0)) := hF _ (List.mem_of_getElem? (i := 0) rfl)
  have f1 : (0 : Int) ≤ ((8) + ((-1) * ρ 2 + 0)) := hF _ (List.mem_of_getElem? (i := 1) rfl)
  have p0 : rOK ((vw C h) 142) ((vw C h) 143) ((0) + ((1) * ρ 2 + 0)) ((0) + ((1) * ρ 3 + 0)) := hP _ (List.mem_of_getElem? (i := 0) rfl)
  refine ⟨_, List.mem_cons_self, ρ, fun _ _ => rfl, fun q hq => absurd hq List.not_mem_nil, trivial, fun f hf => ?_, fun q hq => absurd hq List.not_mem_nil, fun q hq => absurd hq List.not_mem_nil, fun q hq => absurd hq List.not_mem_nil, fun q hq => ?_⟩
  · exact absurd hf List.not_mem_nil
  · simp only [List.mem_cons, List.not_mem_nil, or_false] at hq
    subst hq
    show rOK ((vw C h) 142) ((vw C h) 143) ((0) + ((1) * ρ 2 + 0)) ((1) + ((1) * ρ 3 + 0))
    exact ⟨p0.1, fun a ha a8 => by
      obtain ⟨j, j1, j8, e⟩ := p0.2 a ha a8
      exact ⟨j, by omega, j8, e⟩⟩
/-- rtHole -/
theorem lem_83_ok (hU : uqG G C) : lem_83.1.2.1 = [] ∧ lemOK (PRd G C D xs) G rgs lem_83 := by
  refine ⟨rfl, fun ρ h ha hT => ?_⟩
  obtain ⟨-, -, hF, hG, hH, hA, hP⟩ := ha
  have f0 : (0 : Int) ≤ ((0) + ((1) * ρ 2 + 0)) := hF _ (List.mem_of_getElem? (i := 0) rfl)
  have f1 : (0 : Int) ≤ ((7) + ((-1) * ρ 2 + 0)) := hF _ (List.mem_of_getElem? (i := 1) rfl)
  have f2 : (0 : Int) ≤ ((0) + ((1) * ρ 3 + 0)) := hF _ (List.mem_of_getElem? (i := 2) rfl)
  have f3 : (0 : Int) ≤ ((7) + ((-1) * ρ 3 + 0)) := hF _ (List.mem_of_getElem? (i := 3) rfl)
  have p0 : rOK ((vw C h) 142) ((vw C h) 143) ((0) + ((1) * ρ 2 + 0)) ((0) + ((1) * ρ 3 + 0)) := hP _ (List.mem_of_getElem? (i := 0) rfl)
  have p1 : P93 (vw C h) ((0) + ((1) * ρ 3 + 0)) ((0) + ((1) * ρ 1 + 0)) := hP _ (List.mem_of_getElem? (i := 1) rfl)
  refine ⟨_, List.mem_cons_self, ρ, fun _ _ => rfl, fun q hq => absurd hq List.not_mem_nil, trivial, fun f hf => ?_, fun q hq => absurd hq List.not_mem_nil, fun q hq => absurd hq List.not_mem_nil, fun q hq => absurd hq List.not_mem_nil, fun q hq => ?_⟩
  · exact absurd hf List.not_mem_nil
  · simp only [List.mem_cons, List.not_mem_nil, or_false] at hq
    subst hq
    show P94 (vw C h) ((0) + ((1) * ρ 2 + 0)) ((0) + ((16) * ρ 2 + ((1) * ρ 3 + 0)))
    exact rtHole_ok (by omega) (by omega) (by omega) (by omega) p0 (by omega)
/-- rtMove -/
theorem lem_84_ok (hU : uqG G C) : lem_84.1.2.1 = [] ∧ lemOK (PRd G C D xs) G rgs lem_84 := by
  refine ⟨rfl, fun ρ h ha hT => ?_⟩
  obtain ⟨-, -, hF, hG, hH, hA, hP⟩ := ha
  have f0 : (0 : Int) ≤ ((0) + ((-1) * ρ 4 + ((1) * ρ 5 + 0))) := hF _ (List.mem_of_getElem? (i := 0) rfl)
  have f1 : (0 : Int) ≤ ((0) + ((1) * ρ 4 + ((-1) * ρ 5 + 0))) := hF _ (List.mem_of_getElem? (i := 1) rfl)
  have f2 : (0 : Int) ≤ ((-1) + ((1) * ρ 1 + 0)) := hF _ (List.mem_of_getElem? (i := 2) rfl)
  have f3 : (0 : Int) ≤ ((0) + ((-1) * ρ 1 + ((1) * ρ 2 + 0))) := hF _ (List.mem_of_getElem? (i := 3) rfl)
  have f4 : (0 : Int) ≤ ((7) + ((-1) * ρ 2 + 0)) := hF _ (List.mem_of_getElem? (i := 4) rfl)
  have g1 : G (ρ 3).toNat = 142 := by
    have q := (hG _ (List.mem_of_getElem? (i := 1) rfl)).2
    rwa [show ev ρ (0, [(3, 1)]) = ρ 3 from ev_v] at q
  have b0 : (0 : Int) ≤ ((0) + ((1) * ρ 1 + 0)) := b_aA (hA _ (List.mem_of_getElem? (i := 0) rfl))
  have b1 : (0 : Int) ≤ ((-1) + ((1) * ρ 1 + 0)) := b_aA (hA _ (List.mem_of_getElem? (i := 1) rfl))
  have a0 : vw C h 142 ((ρ 1).toNat) = ρ 4 := vw_aA hU (hA _ (List.mem_of_getElem? (i := 0) rfl)) ev_v g1 (by omega) (by omega) (i := (ρ 1).toNat) (show ((((ρ 1).toNat : Nat)) : Int) = ((0) + ((1) * ρ 1 + 0)) by omega) ev_v
  have a1 : vw C h 142 ((ρ 1 + (-1)).toNat) = ρ 5 := vw_aA hU (hA _ (List.mem_of_getElem? (i := 1) rfl)) ev_v g1 (by omega) (by omega) (i := (ρ 1 + (-1)).toNat) (show ((((ρ 1 + (-1)).toNat : Nat)) : Int) = ((-1) + ((1) * ρ 1 + 0)) by omega) ev_v
  have p0 : P94 (vw C h) ((0) + ((1) * ρ 1 + 0)) ((0) + ((1) * ρ 6 + 0)) := hP _ (List.mem_of_getElem? (i := 0) rfl)
  refine ⟨_, List.mem_cons_self, ρ, fun _ _ => rfl, fun q hq => absurd hq List.not_mem_nil, trivial, fun f hf => ?_, fun q hq => absurd hq List.not_mem_nil, fun q hq => absurd hq List.not_mem_nil, fun q hq => absurd hq List.not_mem_nil, fun q hq => ?_⟩
  · exact absurd hf List.not_mem_nil
  · simp only [List.mem_cons, List.not_mem_nil, or_false] at hq
    subst hq
    show P94 (vw C h) ((-1) + ((1) * ρ 1 + 0)) ((0) + ((1) * ρ 6 + 0))
    exact rtMove_ok (g := ((0) + ((1) * ρ 1 + 0))) (x := ρ 4) (y := ρ 5) (m := ρ 2) (by rw [(show ((0 : Int) + (1 * ρ 1 + 0)).toNat = (ρ 1).toNat by omega)]; exact a0) (by rw [show (((0 : Int) + (1 * ρ 1 + 0)) - 1).toNat = (ρ 1 + (-1)).toNat by omega]; exact a1) (by omega) (by omega) (by omega) (by omega) p0 (by omega)
/-- rtPut -/
theorem lem_85_ok (hU : uqG G C) : lem_85.1.2.1 = [] ∧ lemOK (PRd G C D xs) G rgs lem_85 := by
  refine ⟨rfl, fun ρ h ha hT => ?_⟩
  obtain ⟨-, -, hF, hG, hH, hA, hP⟩ := ha
  have f0 : (0 : Int) ≤ ((0) + ((1) * ρ 2 + ((-1) * ρ 5 + 0))) := hF _ (List.mem_of_getElem? (i := 0) rfl)
  have f1 : (0 : Int) ≤ ((0) + ((-1) * ρ 2 + ((1) * ρ 5 + 0))) := hF _ (List.mem_of_getElem? (i := 1) rfl)
  have f2 : (0 : Int) ≤ ((0) + ((1) * ρ 1 + 0)) := hF _ (List.mem_of_getElem? (i := 2) rfl)
  have f3 : (0 : Int) ≤ ((0) + ((-1) * ρ 1 + ((1) * ρ 3 + 0))) := hF _ (List.mem_of_getElem? (i := 3) rfl)
  have f4 : (0 : Int) ≤ ((7) + ((-1) * ρ 3 + 0)) := hF _ (List.mem_of_getElem? (i := 4) rfl)
  have f5 : (0 : Int) ≤ ((0) + ((16) * ρ 3 + ((-1) * ρ 6 + ((1) * ρ 7 + 0)))) := hF _ (List.mem_of_getElem? (i := 5) rfl)
  have f6 : (0 : Int) ≤ ((0) + ((-16) * ρ 3 + ((1) * ρ 6 + ((-1) * ρ 7 + 0)))) := hF _ (List.mem_of_getElem? (i := 6) rfl)
  have f7 : (0 : Int) ≤ ((0) + ((1) * ρ 7 + 0)) := hF _ (List.mem_of_getElem? (i := 7) rfl)
  have f8 : (0 : Int) ≤ ((7) + ((-1) * ρ 7 + 0)) := hF _ (List.mem_of_getElem? (i := 8) rfl)
  have g1 : G (ρ 4).toNat = 142 := by
    have q := (hG _ (List.mem_of_getElem? (i := 1) rfl)).2
    rwa [show ev ρ (0, [(4, 1)]) = ρ 4 from ev_v] at q
  have b0 : (0 : Int) ≤ ((0) + ((1) * ρ 1 + 0)) := b_aA (hA _ (List.mem_of_getElem? (i := 0) rfl))
  have a0 : vw C h 142 ((ρ 1).toNat) = ρ 5 := vw_aA hU (hA _ (List.mem_of_getElem? (i := 0) rfl)) ev_v g1 (by omega) (by omega) (i := (ρ 1).toNat) (show ((((ρ 1).toNat : Nat)) : Int) = ((0) + ((1) * ρ 1 + 0)) by omega) ev_v
  have p0 : P94 (vw C h) ((0) + ((1) * ρ 1 + 0)) ((0) + ((1) * ρ 6 + 0)) := hP _ (List.mem_of_getElem? (i := 0) rfl)
  have p1 : P93 (vw C h) ((0) + ((1) * ρ 7 + 0)) ((0) + ((1) * ρ 2 + 0)) := hP _ (List.mem_of_getElem? (i := 1) rfl)
  refine ⟨_, List.mem_cons_self, ρ, fun _ _ => rfl, fun q hq => absurd hq List.not_mem_nil, trivial, fun f hf => ?_, fun q hq => absurd hq List.not_mem_nil, fun q hq => absurd hq List.not_mem_nil, fun q hq => absurd hq List.not_mem_nil, fun q hq => ?_⟩
  · exact absurd hf List.not_mem_nil
  · simp only [List.mem_cons, List.not_mem_nil, or_false] at hq
    subst hq
    show rOK ((vw C h) 142) ((vw C h) 143) ((1) + ((1) * ρ 3 + 0)) ((1) + ((1) * ρ 7 + 0))
    exact rtPut_ok (g := ((0) + ((1) * ρ 1 + 0))) (m := ρ 3) (y := ρ 5) (by rw [(show ((0 : Int) + (1 * ρ 1 + 0)).toNat = (ρ 1).toNat by omega)]; exact a0) (by omega) (by omega) (by omega) (by omega) (by omega) (by omega) (by omega) p0 p1 (by omega) (by omega)
/-- rtSwap1 -/
theorem lem_86_ok (hU : uqG G C) : lem_86.1.2.1 = [] ∧ lemOK (PRd G C D xs) G rgs lem_86 := by
  refine ⟨rfl, fun ρ h ha hT => ?_⟩
  obtain ⟨-, -, hF, hG, hH, hA, hP⟩ := ha
  have f0 : (0 : Int) ≤ ((0) + ((1) * ρ 2 + ((-1) * ρ 5 + 0))) := hF _ (List.mem_of_getElem? (i := 0) rfl)
  have f1 : (0 : Int) ≤ ((0) + ((-1) * ρ 2 + ((1) * ρ 5 + 0))) := hF _ (List.mem_of_getElem? (i := 1) rfl)
  have f2 : (0 : Int) ≤ ((0) + ((1) * ρ 2 + 0)) := hF _ (List.mem_of_getElem? (i := 2) rfl)
  have f3 : (0 : Int) ≤ ((7) + ((-1) * ρ 2 + 0)) := hF _ (List.mem_of_getElem? (i := 3) rfl)
  have f4 : (0 : Int) ≤ ((0) + ((1) * ρ 1 + 0)) := hF _ (List.mem_of_getElem? (i := 4) rfl)
  have f5 : (0 : Int) ≤ ((7) + ((-1) * ρ 1 + 0)) := hF _ (List.mem_of_getElem? (i := 5) rfl)
  have f6 : (0 : Int) ≤ ((0) + ((1) * ρ 3 + 0)) := hF _ (List.mem_of_getElem? (i := 6) rfl)
  have f7 : (0 : Int) ≤ ((8) + ((-1) * ρ 3 + 0)) := hF _ (List.mem_of_getElem? (i := 7) rfl)
  have f8 : (0 : Int) ≤ ((0) + ((1) * ρ 6 + 0)) := hF _ (List.mem_of_getElem? (i := 8) rfl)
  have f9 : (0 : Int) ≤ ((8) + ((-1) * ρ 6 + 0)) := hF _ (List.mem_of_getElem? (i := 9) rfl)
  have g1 : G (ρ 4).toNat = 142 := by
    have q := (hG _ (List.mem_of_getElem? (i := 1) rfl)).2
    rwa [show ev ρ (0, [(4, 1)]) = ρ 4 from ev_v] at q
  have b0 : (0 : Int) ≤ ((0) + ((1) * ρ 1 + 0)) := b_aA (hA _ (List.mem_of_getElem? (i := 0) rfl))
  have a0 : vw C h 142 ((ρ 1).toNat) = ρ 5 := vw_aA hU (hA _ (List.mem_of_getElem? (i := 0) rfl)) ev_v g1 (by omega) (by omega) (i := (ρ 1).toNat) (show ((((ρ 1).toNat : Nat)) : Int) = ((0) + ((1) * ρ 1 + 0)) by omega) ev_v
  have p0 : rOK ((vw C h) 142) ((vw C h) 143) ((0) + ((1) * ρ 3 + 0)) ((0) + ((1) * ρ 6 + 0)) := hP _ (List.mem_of_getElem? (i := 0) rfl)
  have q := rtSwap1_ok (i := ((0) + ((1) * ρ 1 + 0))) (v := ρ 2) (y := ρ 5) (c := ((0) + ((1) * ρ 2 + ((8) * ρ 3 + ((128) * ρ 6 + 0))))) (a := ((0) + ((1) * ρ 2 + ((8) * ρ 3 + 0)))) (by rw [(show ((0 : Int) + (1 * ρ 1 + 0)).toNat = (ρ 1).toNat by omega)]; exact a0) (by omega) (by omega) (by omega) (by omega) (by omega) (by omega) p0 (by omega) (by omega)
  refine ⟨_, List.mem_cons_self, ρ, fun _ _ => rfl, fun q hq => absurd hq List.not_mem_nil, trivial, fun f hf => ?_, fun q hq => absurd hq List.not_mem_nil, fun q hq => absurd hq List.not_mem_nil, fun q hq => absurd hq List.not_mem_nil, fun q hq => ?_⟩
  · exact absurd hf List.not_mem_nil
  · simp only [List.mem_cons, List.not_mem_nil, or_false] at hq
    rcases hq with rfl | rfl
    · show P95 (vw C h) ((0) + ((1) * ρ 1 + 0)) ((0) + ((1) * ρ 2 + ((8) * ρ 3 + ((128) * ρ 6 + 0))))
      exact q.1
    · show P89 ((0) + ((1) * ρ 2 + ((8) * ρ 3 + 0))) ((0) + ((1) * ρ 2 + ((8) * ρ 3 + ((128) * ρ 6 + 0))))
      exact q.2
/-- rtSwap2 -/
theorem lem_87_ok (hU : uqG G C) : lem_87.1.2.1 = [] ∧ lemOK (PRd G C D xs) G rgs lem_87 := by
  refine ⟨rfl, fun ρ h ha hT => ?_⟩
  obtain ⟨-, -, hF, hG, hH, hA, hP⟩ := ha
  have f0 : (0 : Int) ≤ ((0) + ((-1) * ρ 6 + ((1) * ρ 7 + 0))) := hF _ (List.mem_of_getElem? (i := 0) rfl)
  have f1 : (0 : Int) ≤ ((0) + ((1) * ρ 6 + ((-1) * ρ 7 + 0))) := hF _ (List.mem_of_getElem? (i := 1) rfl)
  have f2 : (0 : Int) ≤ ((0) + ((1) * ρ 1 + 0)) := hF _ (List.mem_of_getElem? (i := 2) rfl)
  have f3 : (0 : Int) ≤ ((-1) + ((-1) * ρ 1 + ((1) * ρ 2 + 0))) := hF _ (List.mem_of_getElem? (i := 3) rfl)
  have f4 : (0 : Int) ≤ ((-1) + ((-1) * ρ 2 + ((1) * ρ 4 + 0))) := hF _ (List.mem_of_getElem? (i := 4) rfl)
  have f5 : (0 : Int) ≤ ((8) + ((-1) * ρ 4 + 0)) := hF _ (List.mem_of_getElem? (i := 5) rfl)
  have f6 : (0 : Int) ≤ ((0) + ((1) * ρ 3 + 0)) := hF _ (List.mem_of_getElem? (i := 6) rfl)
  have f7 : (0 : Int) ≤ ((7) + ((-1) * ρ 3 + 0)) := hF _ (List.mem_of_getElem? (i := 7) rfl)
  have g1 : G (ρ 5).toNat = 142 := by
    have q := (hG _ (List.mem_of_getElem? (i := 1) rfl)).2
    rwa [show ev ρ (0, [(5, 1)]) = ρ 5 from ev_v] at q
  have b0 : (0 : Int) ≤ ((0) + ((1) * ρ 1 + 0)) := b_aA (hA _ (List.mem_of_getElem? (i := 0) rfl))
  have b1 : (0 : Int) ≤ ((0) + ((1) * ρ 2 + 0)) := b_aA (hA _ (List.mem_of_getElem? (i := 1) rfl))
  have a0 : vw C h 142 ((ρ 1).toNat) = ρ 6 := vw_aA hU (hA _ (List.mem_of_getElem? (i := 0) rfl)) ev_v g1 (by omega) (by omega) (i := (ρ 1).toNat) (show ((((ρ 1).toNat : Nat)) : Int) = ((0) + ((1) * ρ 1 + 0)) by omega) ev_v
  have a1 : vw C h 142 ((ρ 2).toNat) = ρ 7 := vw_aA hU (hA _ (List.mem_of_getElem? (i := 1) rfl)) ev_v g1 (by omega) (by omega) (i := (ρ 2).toNat) (show ((((ρ 2).toNat : Nat)) : Int) = ((0) + ((1) * ρ 2 + 0)) by omega) ev_v
  have p0 : P95 (vw C h) ((0) + ((1) * ρ 1 + 0)) ((0) + ((1) * ρ 8 + 0)) := hP _ (List.mem_of_getElem? (i := 0) rfl)
  have p1 : P89 ((0) + ((1) * ρ 3 + ((8) * ρ 4 + 0))) ((0) + ((1) * ρ 8 + 0)) := hP _ (List.mem_of_getElem? (i := 1) rfl)
  refine ⟨_, List.mem_cons_self, ρ, fun _ _ => rfl, fun q hq => absurd hq List.not_mem_nil, trivial, fun f hf => ?_, fun q hq => absurd hq List.not_mem_nil, fun q hq => absurd hq List.not_mem_nil, fun q hq => absurd hq List.not_mem_nil, fun q hq => ?_⟩
  · exact absurd hf List.not_mem_nil
  · simp only [List.mem_cons, List.not_mem_nil, or_false] at hq
    subst hq
    show P95 (vw C h) ((0) + ((1) * ρ 2 + 0)) ((0) + ((1) * ρ 8 + 0))
    exact rtSwap2_ok (i := ((0) + ((1) * ρ 1 + 0))) (j := ((0) + ((1) * ρ 2 + 0))) (v := ρ 3) (m := ρ 4) (x := ρ 6) (y := ρ 7) (by rw [(show ((0 : Int) + (1 * ρ 1 + 0)).toNat = (ρ 1).toNat by omega)]; exact a0) (by rw [(show ((0 : Int) + (1 * ρ 2 + 0)).toNat = (ρ 2).toNat by omega)]; exact a1) (by omega) (by omega) (by omega) (by omega) (by omega) (by omega) (by omega) p0 p1 (by omega)
/-- rtSwap3 -/
theorem lem_88_ok (hU : uqG G C) : lem_88.1.2.1 = [] ∧ lemOK (PRd G C D xs) G rgs lem_88 := by
  refine ⟨rfl, fun ρ h ha hT => ?_⟩
  obtain ⟨-, -, hF, hG, hH, hA, hP⟩ := ha
  have f0 : (0 : Int) ≤ ((0) + ((1) * ρ 2 + ((-1) * ρ 5 + 0))) := hF _ (List.mem_of_getElem? (i := 0) rfl)
  have f1 : (0 : Int) ≤ ((0) + ((-1) * ρ 2 + ((1) * ρ 5 + 0))) := hF _ (List.mem_of_getElem? (i := 1) rfl)
  have f2 : (0 : Int) ≤ ((0) + ((1) * ρ 2 + 0)) := hF _ (List.mem_of_getElem? (i := 2) rfl)
  have f3 : (0 : Int) ≤ ((7) + ((-1) * ρ 2 + 0)) := hF _ (List.mem_of_getElem? (i := 3) rfl)
  have f4 : (0 : Int) ≤ ((0) + ((1) * ρ 1 + 0)) := hF _ (List.mem_of_getElem? (i := 4) rfl)
  have f5 : (0 : Int) ≤ ((7) + ((-1) * ρ 1 + 0)) := hF _ (List.mem_of_getElem? (i := 5) rfl)
  have f6 : (0 : Int) ≤ ((0) + ((1) * ρ 3 + 0)) := hF _ (List.mem_of_getElem? (i := 6) rfl)
  have f7 : (0 : Int) ≤ ((8) + ((-1) * ρ 3 + 0)) := hF _ (List.mem_of_getElem? (i := 7) rfl)
  have g1 : G (ρ 4).toNat = 142 := by
    have q := (hG _ (List.mem_of_getElem? (i := 1) rfl)).2
    rwa [show ev ρ (0, [(4, 1)]) = ρ 4 from ev_v] at q
  have b0 : (0 : Int) ≤ ((0) + ((1) * ρ 1 + 0)) := b_aA (hA _ (List.mem_of_getElem? (i := 0) rfl))
  have a0 : vw C h 142 ((ρ 1).toNat) = ρ 5 := vw_aA hU (hA _ (List.mem_of_getElem? (i := 0) rfl)) ev_v g1 (by omega) (by omega) (i := (ρ 1).toNat) (show ((((ρ 1).toNat : Nat)) : Int) = ((0) + ((1) * ρ 1 + 0)) by omega) ev_v
  have p0 : P95 (vw C h) ((0) + ((1) * ρ 1 + 0)) ((0) + ((1) * ρ 6 + 0)) := hP _ (List.mem_of_getElem? (i := 0) rfl)
  have p1 : P89 ((0) + ((1) * ρ 2 + ((8) * ρ 3 + 0))) ((0) + ((1) * ρ 6 + 0)) := hP _ (List.mem_of_getElem? (i := 1) rfl)
  have q := rtSwap3_ok (j := ((0) + ((1) * ρ 1 + 0))) (v := ρ 2) (y := ρ 5) (m := ρ 3) (k := ((0) + ((1) * ρ 6 + 0)) / 128) (by rw [(show ((0 : Int) + (1 * ρ 1 + 0)).toNat = (ρ 1).toNat by omega)]; exact a0) (by omega) (by omega) (by omega) (by omega) (by omega) p0 p1 (by omega) rfl
  obtain ⟨σ, r1, r2a⟩ : ∃ σ : Va, (∀ i, i < 7 → σ i = ρ i) ∧ σ 7 = (ρ 6 / 128) := ⟨fun i => if i = 7 then (ρ 6 / 128) else ρ i, fun i hi => by dsimp only; rw [if_neg (by omega)], by dsimp only; rw [if_pos rfl]⟩
  have s0 := r1 0 (by omega)
  have s1 := r1 1 (by omega)
  have s2 := r1 2 (by omega)
  have s3 := r1 3 (by omega)
  have s4 := r1 4 (by omega)
  have s5 := r1 5 (by omega)
  have s6 := r1 6 (by omega)
  refine ⟨_, List.mem_cons_self, σ, r1, fun q hq => absurd hq List.not_mem_nil, trivial, fun f hf => ?_, fun q hq => absurd hq List.not_mem_nil, fun q hq => absurd hq List.not_mem_nil, fun q hq => absurd hq List.not_mem_nil, fun q hq => ?_⟩
  · simp only [List.mem_cons, List.not_mem_nil, or_false] at hf
    rcases hf with rfl | rfl
    · show (0 : Int) ≤ ((0) + ((-1) * σ 2 + ((-8) * σ 3 + ((1) * σ 6 + ((-128) * σ 7 + 0)))))
      omega
    · show (0 : Int) ≤ ((0) + ((1) * σ 2 + ((8) * σ 3 + ((-1) * σ 6 + ((128) * σ 7 + 0)))))
      omega
  · simp only [List.mem_cons, List.not_mem_nil, or_false] at hq
    subst hq
    show rOK ((vw C h) 142) ((vw C h) 143) ((0) + ((1) * σ 3 + 0)) ((0) + ((1) * σ 7 + 0))
    rw [show ((0) + ((1) * σ 3 + 0)) = ρ 3 by omega, show ((0) + ((1) * σ 7 + 0)) = ((0) + ((1) * ρ 6 + 0)) / 128 by omega]
    exact q.2
/-- rtAll -/
theorem lem_89_ok (hU : uqG G C) : lem_89.1.2.1 = [] ∧ lemOK (PRd G C D xs) G rgs lem_89 := by
  refine ⟨rfl, fun ρ h ha hT => ?_⟩
  obtain ⟨-, -, hF, hG, hH, hA, hP⟩ := ha
  have f0 : (0 : Int) ≤ ((0) + ((1) * ρ 2 + 0)) := hF _ (List.mem_of_getElem? (i := 0) rfl)
  have f1 : (0 : Int) ≤ ((8) + ((-1) * ρ 2 + 0)) := hF _ (List.mem_of_getElem? (i := 1) rfl)
  have f2 : (0 : Int) ≤ ((0) + ((1) * ρ 1 + ((-1) * ρ 5 + 0))) := hF _ (List.mem_of_getElem? (i := 2) rfl)
  have f3 : (0 : Int) ≤ ((8) + ((-1) * ρ 1 + 0)) := hF _ (List.mem_of_getElem? (i := 3) rfl)
  have f4 : (0 : Int) ≤ ((0) + ((1) * ρ 4 + ((-1) * ρ 6 + 0))) := hF _ (List.mem_of_getElem? (i := 4) rfl)
  have f5 : (0 : Int) ≤ ((8) + ((-1) * ρ 4 + 0)) := hF _ (List.mem_of_getElem? (i := 5) rfl)
  have g1 : G (ρ 3).toNat = 123 := by
    have q := (hG _ (List.mem_of_getElem? (i := 1) rfl)).2
    rwa [show ev ρ (0, [(3, 1)]) = ρ 3 from ev_v] at q
  have b0 : (0 : Int) ≤ ((7) + 0) := b_aA (hA _ (List.mem_of_getElem? (i := 0) rfl))
  have a0 : vw C h 123 (7) = ρ 4 := vw_aA hU (hA _ (List.mem_of_getElem? (i := 0) rfl)) ev_v g1 (by omega) (by omega) (i := 7) (show (((7 : Nat)) : Int) = ((7) + 0) by omega) ev_v
  have p0 : rOK ((vw C h) 142) ((vw C h) 143) ((0) + ((1) * ρ 2 + 0)) ((0) + ((1) * ρ 5 + 0)) := hP _ (List.mem_of_getElem? (i := 0) rfl)
  have p1 : P86 (vw C h) ((0) + ((1) * ρ 1 + 0)) ((0) + ((1) * ρ 6 + 0)) := hP _ (List.mem_of_getElem? (i := 1) rfl)
  refine ⟨_, List.mem_cons_self, ρ, fun _ _ => rfl, fun q hq => absurd hq List.not_mem_nil, trivial, fun f hf => ?_, fun q hq => absurd hq List.not_mem_nil, fun q hq => absurd hq List.not_mem_nil, fun q hq => absurd hq List.not_mem_nil, fun q hq => ?_⟩
  · exact absurd hf List.not_mem_nil
  · simp only [List.mem_cons, List.not_mem_nil, or_false] at hq
    subst hq
    show P97 (vw C h) ((0) + ((1) * ρ 2 + 0)) ((0) + ((1) * ρ 4 + 0))
    exact rtAll_ok p0 p1 (by omega) (by omega)
/-- evOpenN -/
theorem lem_90_ok (hU : uqG G C) : lem_90.1.2.1 = [] ∧ lemOK (PRd G C D xs) G rgs lem_90 := by
  refine ⟨rfl, fun ρ h ha hT => ?_⟩
  obtain ⟨-, -, hF, hG, hH, hA, hP⟩ := ha
  have p0 : GDv (vw C h) 118 123 1777 ((0) + 0) ((1777) + 0) := hP _ (List.mem_of_getElem? (i := 0) rfl)
  refine ⟨_, List.mem_cons_self, ρ, fun _ _ => rfl, fun q hq => absurd hq List.not_mem_nil, trivial, fun f hf => ?_, fun q hq => absurd hq List.not_mem_nil, fun q hq => absurd hq List.not_mem_nil, fun q hq => absurd hq List.not_mem_nil, fun q hq => ?_⟩
  · exact absurd hf List.not_mem_nil
  · simp only [List.mem_cons, List.not_mem_nil, or_false] at hq
    subst hq
    show P38 (vw C h) 118
    exact (dayOpen_ok p0).1
/-- dayOpenN -/
theorem lem_91_ok (hU : uqG G C) : lem_91.1.2.1 = [] ∧ lemOK (PRd G C D xs) G rgs lem_91 := by
  refine ⟨rfl, fun ρ h ha hT => ?_⟩
  obtain ⟨-, -, hF, hG, hH, hA, hP⟩ := ha
  have p0 : GDv (vw C h) 118 123 1777 ((0) + 0) ((1777) + 0) := hP _ (List.mem_of_getElem? (i := 0) rfl)
  refine ⟨_, List.mem_cons_self, ρ, fun _ _ => rfl, fun q hq => absurd hq List.not_mem_nil, trivial, fun f hf => ?_, fun q hq => absurd hq List.not_mem_nil, fun q hq => absurd hq List.not_mem_nil, fun q hq => absurd hq List.not_mem_nil, fun q hq => ?_⟩
  · exact absurd hf List.not_mem_nil
  · simp only [List.mem_cons, List.not_mem_nil, or_false] at hq
    rcases hq with rfl | rfl
    · show P38 (vw C h) 118
      exact (dayOpen_ok p0).1
    · show P100 (vw C h) 118 ((0) + 0)
      exact (dayOpen_ok p0).2
/-- everyN -/
theorem lem_92_ok (hU : uqG G C) : lem_92.1.2.1 = [] ∧ lemOK (PRd G C D xs) G rgs lem_92 := by
  refine ⟨rfl, fun ρ h ha hT => ?_⟩
  obtain ⟨-, -, hF, hG, hH, hA, hP⟩ := ha
  have f0 : (0 : Int) ≤ ((0) + ((1) * ρ 2 + 0)) := hF _ (List.mem_of_getElem? (i := 0) rfl)
  have f1 : (0 : Int) ≤ ((7) + ((-1) * ρ 2 + 0)) := hF _ (List.mem_of_getElem? (i := 1) rfl)
  have f2 : (0 : Int) ≤ ((5) + ((-1) * ρ 5 + 0)) := hF _ (List.mem_of_getElem? (i := 2) rfl)
  have f3 : (0 : Int) ≤ ((0) + ((-5) * ρ 2 + ((1) * ρ 3 + 0))) := hF _ (List.mem_of_getElem? (i := 3) rfl)
  have f4 : (0 : Int) ≤ ((-1) + ((5) * ρ 2 + ((-1) * ρ 3 + ((1) * ρ 5 + 0)))) := hF _ (List.mem_of_getElem? (i := 4) rfl)
  have g1 : G (ρ 4).toNat = 123 := by
    have q := (hG _ (List.mem_of_getElem? (i := 1) rfl)).2
    rwa [show ev ρ (0, [(4, 1)]) = ρ 4 from ev_v] at q
  have g2 : G (ρ 1).toNat = 118 := by
    have q := (hG _ (List.mem_of_getElem? (i := 2) rfl)).2
    rwa [show ev ρ (0, [(1, 1)]) = ρ 1 from ev_v] at q
  have b0 : (0 : Int) ≤ ((24) + ((1) * ρ 2 + 0)) := b_aA (hA _ (List.mem_of_getElem? (i := 0) rfl))
  have b1 : (0 : Int) ≤ ((217) + ((1) * ρ 3 + 0)) := b_aA (hA _ (List.mem_of_getElem? (i := 1) rfl))
  have a0 : vw C h 123 (24 + (ρ 2).toNat) = ρ 5 := vw_aA hU (hA _ (List.mem_of_getElem? (i := 0) rfl)) ev_v g1 (by omega) (by omega) (i := 24 + (ρ 2).toNat) (show (((24 + (ρ 2).toNat : Nat)) : Int) = ((24) + ((1) * ρ 2 + 0)) by omega) ev_v
  have a1 : vw C h 118 (217 + (ρ 3).toNat) = ρ 6 := vw_aA hU (hA _ (List.mem_of_getElem? (i := 1) rfl)) ev_v g2 (by omega) (by omega) (i := 217 + (ρ 3).toNat) (show (((217 + (ρ 3).toNat : Nat)) : Int) = ((217) + ((1) * ρ 3 + 0)) by omega) ev_v
  have p0 : P38 (vw C h) 118 := hP _ (List.mem_of_getElem? (i := 0) rfl)
  have q := every_ok p0 (m := ρ 2) (k := ρ 3) (by omega) (by omega) (by omega) (by omega) (by omega) a0 a1 (by omega)
  refine ⟨_, List.mem_cons_self, ρ, fun _ _ => rfl, fun q hq => absurd hq List.not_mem_nil, trivial, fun f hf => ?_, fun q hq => absurd hq List.not_mem_nil, fun q hq => absurd hq List.not_mem_nil, fun q hq => absurd hq List.not_mem_nil, fun q hq => ?_⟩
  · simp only [List.mem_cons, List.not_mem_nil, or_false] at hf
    subst hf
    show (0 : Int) ≤ ((-1) + ((1) * ρ 6 + 0))
    omega
  · exact absurd hq List.not_mem_nil
/-- invN -/
theorem lem_93_ok (hU : uqG G C) : lem_93.1.2.1 = [] ∧ lemOK (PRd G C D xs) G rgs lem_93 := by
  refine ⟨rfl, fun ρ h ha hT => ?_⟩
  obtain ⟨-, -, hF, hG, hH, hA, hP⟩ := ha
  have f0 : (0 : Int) ≤ ((0) + ((1) * ρ 0 + 0)) := hF _ (List.mem_of_getElem? (i := 0) rfl)
  have f1 : (0 : Int) ≤ ((7) + ((-1) * ρ 0 + 0)) := hF _ (List.mem_of_getElem? (i := 1) rfl)
  have f2 : (0 : Int) ≤ ((0) + ((1) * ρ 1 + 0)) := hF _ (List.mem_of_getElem? (i := 2) rfl)
  have f3 : (0 : Int) ≤ ((7) + ((-1) * ρ 1 + 0)) := hF _ (List.mem_of_getElem? (i := 3) rfl)
  have p0 : P104 (vw C h) ((0) + ((1) * ρ 0 + 0)) ((0) + ((1) * ρ 1 + 0)) := hP _ (List.mem_of_getElem? (i := 0) rfl)
  have p1 : P100 (vw C h) 118 ((0) + ((1) * ρ 1 + 0)) := hP _ (List.mem_of_getElem? (i := 1) rfl)
  refine ⟨_, List.mem_cons_self, ρ, fun _ _ => rfl, fun q hq => absurd hq List.not_mem_nil, trivial, fun f hf => ?_, fun q hq => absurd hq List.not_mem_nil, fun q hq => absurd hq List.not_mem_nil, fun q hq => absurd hq List.not_mem_nil, fun q hq => ?_⟩
  · exact absurd hf List.not_mem_nil
  · simp only [List.mem_cons, List.not_mem_nil, or_false] at hq
    subst hq
    show P102 (vw C h) 118 ((0) + ((5) * ρ 0 + 0)) ((0) + ((1) * ρ 0 + 0))
    exact inv_ok (by omega) (by omega) p0 p1 (by omega)
/-- invOpenN -/
theorem lem_94_ok (hU : uqG G C) : lem_94.1.2.1 = [] ∧ lemOK (PRd G C D xs) G rgs lem_94 := by
  refine ⟨rfl, fun ρ h ha hT => ?_⟩
  obtain ⟨-, -, hF, hG, hH, hA, hP⟩ := ha
  have f0 : (0 : Int) ≤ ((0) + ((1) * ρ 2 + 0)) := hF _ (List.mem_of_getElem? (i := 0) rfl)
  have f1 : (0 : Int) ≤ ((7) + ((-1) * ρ 2 + 0)) := hF _ (List.mem_of_getElem? (i := 1) rfl)
  have f2 : (0 : Int) ≤ ((5) + ((-1) * ρ 5 + 0)) := hF _ (List.mem_of_getElem? (i := 2) rfl)
  have f3 : (0 : Int) ≤ ((0) + ((-5) * ρ 2 + ((1) * ρ 3 + 0))) := hF _ (List.mem_of_getElem? (i := 3) rfl)
  have f4 : (0 : Int) ≤ ((-1) + ((5) * ρ 2 + ((-1) * ρ 3 + ((1) * ρ 5 + 0)))) := hF _ (List.mem_of_getElem? (i := 4) rfl)
  have g1 : G (ρ 4).toNat = 123 := by
    have q := (hG _ (List.mem_of_getElem? (i := 1) rfl)).2
    rwa [show ev ρ (0, [(4, 1)]) = ρ 4 from ev_v] at q
  have g2 : G (ρ 1).toNat = 118 := by
    have q := (hG _ (List.mem_of_getElem? (i := 2) rfl)).2
    rwa [show ev ρ (0, [(1, 1)]) = ρ 1 from ev_v] at q
  have b0 : (0 : Int) ≤ ((24) + ((1) * ρ 2 + 0)) := b_aA (hA _ (List.mem_of_getElem? (i := 0) rfl))
  have b1 : (0 : Int) ≤ ((137) + ((1) * ρ 3 + 0)) := b_aA (hA _ (List.mem_of_getElem? (i := 1) rfl))
  have a0 : vw C h 123 (24 + (ρ 2).toNat) = ρ 5 := vw_aA hU (hA _ (List.mem_of_getElem? (i := 0) rfl)) ev_v g1 (by omega) (by omega) (i := 24 + (ρ 2).toNat) (show (((24 + (ρ 2).toNat : Nat)) : Int) = ((24) + ((1) * ρ 2 + 0)) by omega) ev_v
  have a1 : vw C h 118 (137 + (ρ 3).toNat) = ρ 6 := vw_aA hU (hA _ (List.mem_of_getElem? (i := 1) rfl)) ev_v g2 (by omega) (by omega) (i := 137 + (ρ 3).toNat) (show (((137 + (ρ 3).toNat : Nat)) : Int) = ((137) + ((1) * ρ 3 + 0)) by omega) ev_v
  have p0 : P102 (vw C h) 118 ((0) + ((1) * ρ 3 + 0)) ((0) + ((1) * ρ 2 + 0)) := hP _ (List.mem_of_getElem? (i := 0) rfl)
  have am := a0
  rw [show (ρ 2).toNat = ((0 : Int) + (1 * ρ 2 + 0)).toNat by omega] at am
  have q := invOpen_ok (q := ((1) + ((1) * ρ 3 + 0))) (by omega) (by omega) (by omega) (by omega) (by omega) am a1 (by omega) p0 (by omega)
  refine ⟨_, List.mem_cons_self, ρ, fun _ _ => rfl, fun q hq => absurd hq List.not_mem_nil, trivial, fun f hf => ?_, fun q hq => absurd hq List.not_mem_nil, fun q hq => absurd hq List.not_mem_nil, fun q hq => absurd hq List.not_mem_nil, fun q hq => ?_⟩
  · simp only [List.mem_cons, List.not_mem_nil, or_false] at hf
    subst hf
    show (0 : Int) ≤ ((0) + ((1) * ρ 6 + 0))
    omega
  · simp only [List.mem_cons, List.not_mem_nil, or_false] at hq
    subst hq
    show P102 (vw C h) 118 ((1) + ((1) * ρ 3 + 0)) ((0) + ((1) * ρ 2 + 0))
    exact q.2
/-- invCloseN -/
theorem lem_95_ok (hU : uqG G C) : lem_95.1.2.1 = [] ∧ lemOK (PRd G C D xs) G rgs lem_95 := by
  refine ⟨rfl, fun ρ h ha hT => ?_⟩
  obtain ⟨-, -, hF, hG, hH, hA, hP⟩ := ha
  have f0 : (0 : Int) ≤ ((0) + ((1) * ρ 1 + 0)) := hF _ (List.mem_of_getElem? (i := 0) rfl)
  have f1 : (0 : Int) ≤ ((7) + ((-1) * ρ 1 + 0)) := hF _ (List.mem_of_getElem? (i := 1) rfl)
  have f2 : (0 : Int) ≤ ((5) + ((-1) * ρ 4 + 0)) := hF _ (List.mem_of_getElem? (i := 2) rfl)
  have f3 : (0 : Int) ≤ ((0) + ((-5) * ρ 1 + ((1) * ρ 2 + ((-1) * ρ 4 + 0)))) := hF _ (List.mem_of_getElem? (i := 3) rfl)
  have f4 : (0 : Int) ≤ ((0) + ((1) * ρ 5 + 0)) := hF _ (List.mem_of_getElem? (i := 4) rfl)
  have f5 : (0 : Int) ≤ ((7) + ((-1) * ρ 5 + 0)) := hF _ (List.mem_of_getElem? (i := 5) rfl)
  have g1 : G (ρ 3).toNat = 123 := by
    have q := (hG _ (List.mem_of_getElem? (i := 1) rfl)).2
    rwa [show ev ρ (0, [(3, 1)]) = ρ 3 from ev_v] at q
  have b0 : (0 : Int) ≤ ((24) + ((1) * ρ 1 + 0)) := b_aA (hA _ (List.mem_of_getElem? (i := 0) rfl))
  have a0 : vw C h 123 (24 + (ρ 1).toNat) = ρ 4 := vw_aA hU (hA _ (List.mem_of_getElem? (i := 0) rfl)) ev_v g1 (by omega) (by omega) (i := 24 + (ρ 1).toNat) (show (((24 + (ρ 1).toNat : Nat)) : Int) = ((24) + ((1) * ρ 1 + 0)) by omega) ev_v
  have p0 : P104 (vw C h) ((0) + ((1) * ρ 1 + 0)) ((0) + ((1) * ρ 5 + 0)) := hP _ (List.mem_of_getElem? (i := 0) rfl)
  have p1 : P102 (vw C h) 118 ((0) + ((1) * ρ 2 + 0)) ((0) + ((1) * ρ 1 + 0)) := hP _ (List.mem_of_getElem? (i := 1) rfl)
  have am := a0
  rw [show (ρ 1).toNat = ((0 : Int) + (1 * ρ 1 + 0)).toNat by omega] at am
  refine ⟨_, List.mem_cons_self, ρ, fun _ _ => rfl, fun q hq => absurd hq List.not_mem_nil, trivial, fun f hf => ?_, fun q hq => absurd hq List.not_mem_nil, fun q hq => absurd hq List.not_mem_nil, fun q hq => absurd hq List.not_mem_nil, fun q hq => ?_⟩
  · exact absurd hf List.not_mem_nil
  · simp only [List.mem_cons, List.not_mem_nil, or_false] at hq
    subst hq
    show P100 (vw C h) 118 ((1) + ((1) * ρ 5 + 0))
    exact invClose_ok (by omega) (by omega) (by omega) am p0 p1 (by omega)
/-- eveningN -/
theorem lem_96_ok (hU : uqG G C) : lem_96.1.2.1 = [] ∧ lemOK (PRd G C D xs) G rgs lem_96 := by
  refine ⟨rfl, fun ρ h ha hT => ?_⟩
  obtain ⟨-, -, hF, hG, hH, hA, hP⟩ := ha
  have f0 : (0 : Int) ≤ ((0) + ((1) * ρ 2 + 0)) := hF _ (List.mem_of_getElem? (i := 0) rfl)
  have f1 : (0 : Int) ≤ ((8) + ((-1) * ρ 2 + 0)) := hF _ (List.mem_of_getElem? (i := 1) rfl)
  have f2 : (0 : Int) ≤ ((0) + ((1) * ρ 3 + 0)) := hF _ (List.mem_of_getElem? (i := 2) rfl)
  have f3 : (0 : Int) ≤ ((8) + ((-1) * ρ 3 + 0)) := hF _ (List.mem_of_getElem? (i := 3) rfl)
  have g1 : G (ρ 1).toNat = 123 := by
    have q := (hG _ (List.mem_of_getElem? (i := 1) rfl)).2
    rwa [show ev ρ (0, [(1, 1)]) = ρ 1 from ev_v] at q
  have b0 : (0 : Int) ≤ ((7) + 0) := b_aA (hA _ (List.mem_of_getElem? (i := 0) rfl))
  have a0 : vw C h 123 (7) = ρ 3 := vw_aA hU (hA _ (List.mem_of_getElem? (i := 0) rfl)) ev_v g1 (by omega) (by omega) (i := 7) (show (((7 : Nat)) : Int) = ((7) + 0) by omega) ev_v
  have p0 : P97 (vw C h) ((0) + ((1) * ρ 2 + 0)) ((0) + ((1) * ρ 3 + 0)) := hP _ (List.mem_of_getElem? (i := 0) rfl)
  have p1 : P100 (vw C h) 118 ((0) + ((1) * ρ 2 + 0)) := hP _ (List.mem_of_getElem? (i := 1) rfl)
  refine ⟨_, List.mem_cons_self, ρ, fun _ _ => rfl, fun q hq => absurd hq List.not_mem_nil, trivial, fun f hf => ?_, fun q hq => absurd hq List.not_mem_nil, fun q hq => absurd hq List.not_mem_nil, fun q hq => absurd hq List.not_mem_nil, fun q hq => ?_⟩
  · exact absurd hf List.not_mem_nil
  · simp only [List.mem_cons, List.not_mem_nil, or_false] at hq
    subst hq
    show P105 (vw C h) 118 ((0) + 0)
    exact evening_ok (M := ((0) + ((1) * ρ 3 + 0))) (by rw [a0]; omega) p0 p1 rfl
/-- eveSplitN -/
theorem lem_97_ok (hU : uqG G C) : lem_97.1.2.1 = [] ∧ lemOK (PRd G C D xs) G rgs lem_97 := by
  refine ⟨rfl, fun ρ h ha hT => ?_⟩
  obtain ⟨-, -, hF, hG, hH, hA, hP⟩ := ha
  have f0 : (0 : Int) ≤ ((0) + ((1) * ρ 1 + 0)) := hF _ (List.mem_of_getElem? (i := 0) rfl)
  have f1 : (0 : Int) ≤ ((-1) + ((-1) * ρ 1 + ((1) * ρ 5 + 0))) := hF _ (List.mem_of_getElem? (i := 1) rfl)
  have f2 : (0 : Int) ≤ ((8) + ((-1) * ρ 5 + 0)) := hF _ (List.mem_of_getElem? (i := 2) rfl)
  have f3 : (0 : Int) ≤ ((5) + ((-1) * ρ 4 + 0)) := hF _ (List.mem_of_getElem? (i := 3) rfl)
  have f4 : (0 : Int) ≤ ((0) + ((-5) * ρ 1 + ((1) * ρ 2 + 0))) := hF _ (List.mem_of_getElem? (i := 4) rfl)
  have f5 : (0 : Int) ≤ ((-1) + ((5) * ρ 1 + ((-1) * ρ 2 + ((1) * ρ 4 + 0)))) := hF _ (List.mem_of_getElem? (i := 5) rfl)
  have g1 : G (ρ 3).toNat = 123 := by
    have q := (hG _ (List.mem_of_getElem? (i := 1) rfl)).2
    rwa [show ev ρ (0, [(3, 1)]) = ρ 3 from ev_v] at q
  have b0 : (0 : Int) ≤ ((24) + ((1) * ρ 1 + 0)) := b_aA (hA _ (List.mem_of_getElem? (i := 0) rfl))
  have b1 : (0 : Int) ≤ ((7) + 0) := b_aA (hA _ (List.mem_of_getElem? (i := 1) rfl))
  have a0 : vw C h 123 (24 + (ρ 1).toNat) = ρ 4 := vw_aA hU (hA _ (List.mem_of_getElem? (i := 0) rfl)) ev_v g1 (by omega) (by omega) (i := 24 + (ρ 1).toNat) (show (((24 + (ρ 1).toNat : Nat)) : Int) = ((24) + ((1) * ρ 1 + 0)) by omega) ev_v
  have a1 : vw C h 123 (7) = ρ 5 := vw_aA hU (hA _ (List.mem_of_getElem? (i := 1) rfl)) ev_v g1 (by omega) (by omega) (i := 7) (show (((7 : Nat)) : Int) = ((7) + 0) by omega) ev_v
  have p0 : P105 (vw C h) 118 ((0) + ((1) * ρ 2 + 0)) := hP _ (List.mem_of_getElem? (i := 0) rfl)
  refine ⟨_, List.mem_cons_self, ρ, fun _ _ => rfl, fun q hq => absurd hq List.not_mem_nil, trivial, fun f hf => ?_, fun q hq => absurd hq List.not_mem_nil, fun q hq => absurd hq List.not_mem_nil, fun q hq => absurd hq List.not_mem_nil, fun q hq => ?_⟩
  · exact absurd hf List.not_mem_nil
  · simp only [List.mem_cons, List.not_mem_nil, or_false] at hq
    subst hq
    show P107 (vw C h) 118 ((0) + ((1) * ρ 2 + 0))
    exact eveSplit_ok (m := ρ 1) (M := ρ 5) (c := ρ 4) (by omega) (by omega) (by omega) (by omega) (by omega) (by omega) a0 a1 p0
/-- eveJoinN -/
theorem lem_98_ok (hU : uqG G C) : lem_98.1.2.1 = [] ∧ lemOK (PRd G C D xs) G rgs lem_98 := by
  refine ⟨rfl, fun ρ h ha hT => ?_⟩
  obtain ⟨-, -, hF, hG, hH, hA, hP⟩ := ha
  have f0 : (0 : Int) ≤ ((0) + ((1) * ρ 2 + 0)) := hF _ (List.mem_of_getElem? (i := 0) rfl)
  have f1 : (0 : Int) ≤ ((0) + ((1) * ρ 1 + 0)) := hF _ (List.mem_of_getElem? (i := 1) rfl)
  have f2 : (0 : Int) ≤ ((39) + ((-1) * ρ 1 + 0)) := hF _ (List.mem_of_getElem? (i := 2) rfl)
  have g0 : G (ρ 0).toNat = 118 := by
    have q := (hG _ (List.mem_of_getElem? (i := 0) rfl)).2
    rwa [show ev ρ (0, [(0, 1)]) = ρ 0 from ev_v] at q
  have b0 : (0 : Int) ≤ ((137) + ((1) * ρ 1 + 0)) := b_aA (hA _ (List.mem_of_getElem? (i := 0) rfl))
  have a0 : vw C h 118 (137 + (ρ 1).toNat) = ρ 2 := vw_aA hU (hA _ (List.mem_of_getElem? (i := 0) rfl)) ev_v g0 (by omega) (by omega) (i := 137 + (ρ 1).toNat) (show (((137 + (ρ 1).toNat : Nat)) : Int) = ((137) + ((1) * ρ 1 + 0)) by omega) ev_v
  have p0 : P107 (vw C h) 118 ((0) + ((1) * ρ 1 + 0)) := hP _ (List.mem_of_getElem? (i := 0) rfl)
  refine ⟨_, List.mem_cons_self, ρ, fun _ _ => rfl, fun q hq => absurd hq List.not_mem_nil, trivial, fun f hf => ?_, fun q hq => absurd hq List.not_mem_nil, fun q hq => absurd hq List.not_mem_nil, fun q hq => absurd hq List.not_mem_nil, fun q hq => ?_⟩
  · exact absurd hf List.not_mem_nil
  · simp only [List.mem_cons, List.not_mem_nil, or_false] at hq
    subst hq
    show P105 (vw C h) 118 ((1) + ((1) * ρ 1 + 0))
    exact eveJoin_ok (i := 137 + (ρ 1).toNat) a0 (by omega) (by omega) p0 (by omega)
/-- eveSkipN -/
theorem lem_99_ok (hU : uqG G C) : lem_99.1.2.1 = [] ∧ lemOK (PRd G C D xs) G rgs lem_99 := by
  refine ⟨rfl, fun ρ h ha hT => ?_⟩
  obtain ⟨-, -, hF, hG, hH, hA, hP⟩ := ha
  have f0 : (0 : Int) ≤ ((0) + ((1) * ρ 1 + 0)) := hF _ (List.mem_of_getElem? (i := 0) rfl)
  have f1 : (0 : Int) ≤ ((7) + ((-1) * ρ 1 + 0)) := hF _ (List.mem_of_getElem? (i := 1) rfl)
  have f2 : (0 : Int) ≤ ((0) + ((1) * ρ 4 + 0)) := hF _ (List.mem_of_getElem? (i := 2) rfl)
  have f3 : (0 : Int) ≤ ((5) + ((-1) * ρ 4 + 0)) := hF _ (List.mem_of_getElem? (i := 3) rfl)
  have f4 : (0 : Int) ≤ ((0) + ((-5) * ρ 1 + ((1) * ρ 2 + ((-1) * ρ 4 + 0)))) := hF _ (List.mem_of_getElem? (i := 4) rfl)
  have g1 : G (ρ 3).toNat = 123 := by
    have q := (hG _ (List.mem_of_getElem? (i := 1) rfl)).2
    rwa [show ev ρ (0, [(3, 1)]) = ρ 3 from ev_v] at q
  have b0 : (0 : Int) ≤ ((24) + ((1) * ρ 1 + 0)) := b_aA (hA _ (List.mem_of_getElem? (i := 0) rfl))
  have a0 : vw C h 123 (24 + (ρ 1).toNat) = ρ 4 := vw_aA hU (hA _ (List.mem_of_getElem? (i := 0) rfl)) ev_v g1 (by omega) (by omega) (i := 24 + (ρ 1).toNat) (show (((24 + (ρ 1).toNat : Nat)) : Int) = ((24) + ((1) * ρ 1 + 0)) by omega) ev_v
  have p0 : P105 (vw C h) 118 ((0) + ((1) * ρ 2 + 0)) := hP _ (List.mem_of_getElem? (i := 0) rfl)
  refine ⟨_, List.mem_cons_self, ρ, fun _ _ => rfl, fun q hq => absurd hq List.not_mem_nil, trivial, fun f hf => ?_, fun q hq => absurd hq List.not_mem_nil, fun q hq => absurd hq List.not_mem_nil, fun q hq => absurd hq List.not_mem_nil, fun q hq => ?_⟩
  · exact absurd hf List.not_mem_nil
  · simp only [List.mem_cons, List.not_mem_nil, or_false] at hq
    subst hq
    show P105 (vw C h) 118 ((5) + ((5) * ρ 1 + 0))
    exact eveSkip_ok (m := ρ 1) (by omega) (by omega) (by omega) a0 p0 (by omega)
/-- dayCloseN -/
theorem lem_100_ok (hU : uqG G C) : lem_100.1.2.1 = [] ∧ lemOK (PRd G C D xs) G rgs lem_100 := by
  refine ⟨rfl, fun ρ h ha hT => ?_⟩
  obtain ⟨-, -, hF, hG, hH, hA, hP⟩ := ha
  have f0 : (0 : Int) ≤ ((0) + ((1) * ρ 1 + ((-1) * ρ 3 + 0))) := hF _ (List.mem_of_getElem? (i := 0) rfl)
  have g1 : G (ρ 2).toNat = 123 := by
    have q := (hG _ (List.mem_of_getElem? (i := 1) rfl)).2
    rwa [show ev ρ (0, [(2, 1)]) = ρ 2 from ev_v] at q
  have b0 : (0 : Int) ≤ ((7) + 0) := b_aA (hA _ (List.mem_of_getElem? (i := 0) rfl))
  have a0 : vw C h 123 (7) = ρ 3 := vw_aA hU (hA _ (List.mem_of_getElem? (i := 0) rfl)) ev_v g1 (by omega) (by omega) (i := 7) (show (((7 : Nat)) : Int) = ((7) + 0) by omega) ev_v
  have p0 : P105 (vw C h) 118 ((0) + ((5) * ρ 1 + 0)) := hP _ (List.mem_of_getElem? (i := 0) rfl)
  have p1 : P38 (vw C h) 118 := hP _ (List.mem_of_getElem? (i := 1) rfl)
  refine ⟨_, List.mem_cons_self, ρ, fun _ _ => rfl, fun q hq => absurd hq List.not_mem_nil, trivial, fun f hf => ?_, fun q hq => absurd hq List.not_mem_nil, fun q hq => absurd hq List.not_mem_nil, fun q hq => absurd hq List.not_mem_nil, fun q hq => ?_⟩
  · exact absurd hf List.not_mem_nil
  · simp only [List.mem_cons, List.not_mem_nil, or_false] at hq
    subst hq
    show GDv (vw C h) 118 123 1777 ((0) + 0) ((1777) + 0)
    exact dayClose_ok (m := ρ 1) (by omega) a0 p0 (by omega) p1
/-- evOpenW -/
theorem lem_101_ok (hU : uqG G C) : lem_101.1.2.1 = [] ∧ lemOK (PRd G C D xs) G rgs lem_101 := by
  refine ⟨rfl, fun ρ h ha hT => ?_⟩
  obtain ⟨-, -, hF, hG, hH, hA, hP⟩ := ha
  have p0 : GDv (vw C h) 119 123 1777 ((0) + 0) ((1777) + 0) := hP _ (List.mem_of_getElem? (i := 0) rfl)
  refine ⟨_, List.mem_cons_self, ρ, fun _ _ => rfl, fun q hq => absurd hq List.not_mem_nil, trivial, fun f hf => ?_, fun q hq => absurd hq List.not_mem_nil, fun q hq => absurd hq List.not_mem_nil, fun q hq => absurd hq List.not_mem_nil, fun q hq => ?_⟩
  · exact absurd hf List.not_mem_nil
  · simp only [List.mem_cons, List.not_mem_nil, or_false] at hq
    subst hq
    show P38 (vw C h) 119
    exact (dayOpen_ok p0).1
/-- dayOpenW -/
theorem lem_102_ok (hU : uqG G C) : lem_102.1.2.1 = [] ∧ lemOK (PRd G C D xs) G rgs lem_102 := by
  refine ⟨rfl, fun ρ h ha hT => ?_⟩
  obtain ⟨-, -, hF, hG, hH, hA, hP⟩ := ha
  have p0 : GDv (vw C h) 119 123 1777 ((0) + 0) ((1777) + 0) := hP _ (List.mem_of_getElem? (i := 0) rfl)
  refine ⟨_, List.mem_cons_self, ρ, fun _ _ => rfl, fun q hq => absurd hq List.not_mem_nil, trivial, fun f hf => ?_, fun q hq => absurd hq List.not_mem_nil, fun q hq => absurd hq List.not_mem_nil, fun q hq => absurd hq List.not_mem_nil, fun q hq => ?_⟩
  · exact absurd hf List.not_mem_nil
  · simp only [List.mem_cons, List.not_mem_nil, or_false] at hq
    rcases hq with rfl | rfl
    · show P38 (vw C h) 119
      exact (dayOpen_ok p0).1
    · show P100 (vw C h) 119 ((0) + 0)
      exact (dayOpen_ok p0).2
/-- everyW -/
theorem lem_103_ok (hU : uqG G C) : lem_103.1.2.1 = [] ∧ lemOK (PRd G C D xs) G rgs lem_103 := by
  refine ⟨rfl, fun ρ h ha hT => ?_⟩
  obtain ⟨-, -, hF, hG, hH, hA, hP⟩ := ha
  have f0 : (0 : Int) ≤ ((0) + ((1) * ρ 2 + 0)) := hF _ (List.mem_of_getElem? (i := 0) rfl)
  have f1 : (0 : Int) ≤ ((7) + ((-1) * ρ 2 + 0)) := hF _ (List.mem_of_getElem? (i := 1) rfl)
  have f2 : (0 : Int) ≤ ((5) + ((-1) * ρ 5 + 0)) := hF _ (List.mem_of_getElem? (i := 2) rfl)
  have f3 : (0 : Int) ≤ ((0) + ((-5) * ρ 2 + ((1) * ρ 3 + 0))) := hF _ (List.mem_of_getElem? (i := 3) rfl)
  have f4 : (0 : Int) ≤ ((-1) + ((5) * ρ 2 + ((-1) * ρ 3 + ((1) * ρ 5 + 0)))) := hF _ (List.mem_of_getElem? (i := 4) rfl)
  have g1 : G (ρ 4).toNat = 123 := by
    have q := (hG _ (List.mem_of_getElem? (i := 1) rfl)).2
    rwa [show ev ρ (0, [(4, 1)]) = ρ 4 from ev_v] at q
  have g2 : G (ρ 1).toNat = 119 := by
    have q := (hG _ (List.mem_of_getElem? (i := 2) rfl)).2
    rwa [show ev ρ (0, [(1, 1)]) = ρ 1 from ev_v] at q
  have b0 : (0 : Int) ≤ ((24) + ((1) * ρ 2 + 0)) := b_aA (hA _ (List.mem_of_getElem? (i := 0) rfl))
  have b1 : (0 : Int) ≤ ((217) + ((1) * ρ 3 + 0)) := b_aA (hA _ (List.mem_of_getElem? (i := 1) rfl))
  have a0 : vw C h 123 (24 + (ρ 2).toNat) = ρ 5 := vw_aA hU (hA _ (List.mem_of_getElem? (i := 0) rfl)) ev_v g1 (by omega) (by omega) (i := 24 + (ρ 2).toNat) (show (((24 + (ρ 2).toNat : Nat)) : Int) = ((24) + ((1) * ρ 2 + 0)) by omega) ev_v
  have a1 : vw C h 119 (217 + (ρ 3).toNat) = ρ 6 := vw_aA hU (hA _ (List.mem_of_getElem? (i := 1) rfl)) ev_v g2 (by omega) (by omega) (i := 217 + (ρ 3).toNat) (show (((217 + (ρ 3).toNat : Nat)) : Int) = ((217) + ((1) * ρ 3 + 0)) by omega) ev_v
  have p0 : P38 (vw C h) 119 := hP _ (List.mem_of_getElem? (i := 0) rfl)
  have q := every_ok p0 (m := ρ 2) (k := ρ 3) (by omega) (by omega) (by omega) (by omega) (by omega) a0 a1 (by omega)
  refine ⟨_, List.mem_cons_self, ρ, fun _ _ => rfl, fun q hq => absurd hq List.not_mem_nil, trivial, fun f hf => ?_, fun q hq => absurd hq List.not_mem_nil, fun q hq => absurd hq List.not_mem_nil, fun q hq => absurd hq List.not_mem_nil, fun q hq => ?_⟩
  · simp only [List.mem_cons, List.not_mem_nil, or_false] at hf
    subst hf
    show (0 : Int) ≤ ((-1) + ((1) * ρ 6 + 0))
    omega
  · exact absurd hq List.not_mem_nil
/-- invW -/
theorem lem_104_ok (hU : uqG G C) : lem_104.1.2.1 = [] ∧ lemOK (PRd G C D xs) G rgs lem_104 := by
  refine ⟨rfl, fun ρ h ha hT => ?_⟩
  obtain ⟨-, -, hF, hG, hH, hA, hP⟩ := ha
  have f0 : (0 : Int) ≤ ((0) + ((1) * ρ 0 + 0)) := hF _ (List.mem_of_getElem? (i := 0) rfl)
  have f1 : (0 : Int) ≤ ((7) + ((-1) * ρ 0 + 0)) := hF _ (List.mem_of_getElem? (i := 1) rfl)
  have f2 : (0 : Int) ≤ ((0) + ((1) * ρ 1 + 0)) := hF _ (List.mem_of_getElem? (i := 2) rfl)
  have f3 : (0 : Int) ≤ ((7) + ((-1) * ρ 1 + 0)) := hF _ (List.mem_of_getElem? (i := 3) rfl)
  have p0 : P104 (vw C h) ((0) + ((1) * ρ 0 + 0)) ((0) + ((1) * ρ 1 + 0)) := hP _ (List.mem_of_getElem? (i := 0) rfl)
  have p1 : P100 (vw C h) 119 ((0) + ((1) * ρ 1 + 0)) := hP _ (List.mem_of_getElem? (i := 1) rfl)
  refine ⟨_, List.mem_cons_self, ρ, fun _ _ => rfl, fun q hq => absurd hq List.not_mem_nil, trivial, fun f hf => ?_, fun q hq => absurd hq List.not_mem_nil, fun q hq => absurd hq List.not_mem_nil, fun q hq => absurd hq List.not_mem_nil, fun q hq => ?_⟩
  · exact absurd hf List.not_mem_nil
  · simp only [List.mem_cons, List.not_mem_nil, or_false] at hq
    subst hq
    show P102 (vw C h) 119 ((0) + ((5) * ρ 0 + 0)) ((0) + ((1) * ρ 0 + 0))
    exact inv_ok (by omega) (by omega) p0 p1 (by omega)
/-- invOpenW -/
theorem lem_105_ok (hU : uqG G C) : lem_105.1.2.1 = [] ∧ lemOK (PRd G C D xs) G rgs lem_105 := by
  refine ⟨rfl, fun ρ h ha hT => ?_⟩
  obtain ⟨-, -, hF, hG, hH, hA, hP⟩ := ha
  have f0 : (0 : Int) ≤ ((0) + ((1) * ρ 2 + 0)) := hF _ (List.mem_of_getElem? (i := 0) rfl)
  have f1 : (0 : Int) ≤ ((7) + ((-1) * ρ 2 + 0)) := hF _ (List.mem_of_getElem? (i := 1) rfl)
  have f2 : (0 : Int) ≤ ((5) + ((-1) * ρ 5 + 0)) := hF _ (List.mem_of_getElem? (i := 2) rfl)
  have f3 : (0 : Int) ≤ ((0) + ((-5) * ρ 2 + ((1) * ρ 3 + 0))) := hF _ (List.mem_of_getElem? (i := 3) rfl)
  have f4 : (0 : Int) ≤ ((-1) + ((5) * ρ 2 + ((-1) * ρ 3 + ((1) * ρ 5 + 0)))) := hF _ (List.mem_of_getElem? (i := 4) rfl)
  have g1 : G (ρ 4).toNat = 123 := by
    have q := (hG _ (List.mem_of_getElem? (i := 1) rfl)).2
    rwa [show ev ρ (0, [(4, 1)]) = ρ 4 from ev_v] at q
  have g2 : G (ρ 1).toNat = 119 := by
    have q := (hG _ (List.mem_of_getElem? (i := 2) rfl)).2
    rwa [show ev ρ (0, [(1, 1)]) = ρ 1 from ev_v] at q
  have b0 : (0 : Int) ≤ ((24) + ((1) * ρ 2 + 0)) := b_aA (hA _ (List.mem_of_getElem? (i := 0) rfl))
  have b1 : (0 : Int) ≤ ((137) + ((1) * ρ 3 + 0)) := b_aA (hA _ (List.mem_of_getElem? (i := 1) rfl))
  have a0 : vw C h 123 (24 + (ρ 2).toNat) = ρ 5 := vw_aA hU (hA _ (List.mem_of_getElem? (i := 0) rfl)) ev_v g1 (by omega) (by omega) (i := 24 + (ρ 2).toNat) (show (((24 + (ρ 2).toNat : Nat)) : Int) = ((24) + ((1) * ρ 2 + 0)) by omega) ev_v
  have a1 : vw C h 119 (137 + (ρ 3).toNat) = ρ 6 := vw_aA hU (hA _ (List.mem_of_getElem? (i := 1) rfl)) ev_v g2 (by omega) (by omega) (i := 137 + (ρ 3).toNat) (show (((137 + (ρ 3).toNat : Nat)) : Int) = ((137) + ((1) * ρ 3 + 0)) by omega) ev_v
  have p0 : P102 (vw C h) 119 ((0) + ((1) * ρ 3 + 0)) ((0) + ((1) * ρ 2 + 0)) := hP _ (List.mem_of_getElem? (i := 0) rfl)
  have am := a0
  rw [show (ρ 2).toNat = ((0 : Int) + (1 * ρ 2 + 0)).toNat by omega] at am
  have q := invOpen_ok (q := ((1) + ((1) * ρ 3 + 0))) (by omega) (by omega) (by omega) (by omega) (by omega) am a1 (by omega) p0 (by omega)
  refine ⟨_, List.mem_cons_self, ρ, fun _ _ => rfl, fun q hq => absurd hq List.not_mem_nil, trivial, fun f hf => ?_, fun q hq => absurd hq List.not_mem_nil, fun q hq => absurd hq List.not_mem_nil, fun q hq => absurd hq List.not_mem_nil, fun q hq => ?_⟩
  · simp only [List.mem_cons, List.not_mem_nil, or_false] at hf
    subst hf
    show (0 : Int) ≤ ((0) + ((1) * ρ 6 + 0))
    omega
  · simp only [List.mem_cons, List.not_mem_nil, or_false] at hq
    subst hq
    show P102 (vw C h) 119 ((1) + ((1) * ρ 3 + 0)) ((0) + ((1) * ρ 2 + 0))
    exact q.2
/-- invCloseW -/
theorem lem_106_ok (hU : uqG G C) : lem_106.1.2.1 = [] ∧ lemOK (PRd G C D xs) G rgs lem_106 := by
  refine ⟨rfl, fun ρ h ha hT => ?_⟩
  obtain ⟨-, -, hF, hG, hH, hA, hP⟩ := ha
  have f0 : (0 : Int) ≤ ((0) + ((1) * ρ 1 + 0)) := hF _ (List.mem_of_getElem? (i := 0) rfl)
  have f1 : (0 : Int) ≤ ((7) + ((-1) * ρ 1 + 0)) := hF _ (List.mem_of_getElem? (i := 1) rfl)
  have f2 : (0 : Int) ≤ ((5) + ((-1) * ρ 4 + 0)) := hF _ (List.mem_of_getElem? (i := 2) rfl)
  have f3 : (0 : Int) ≤ ((0) + ((-5) * ρ 1 + ((1) * ρ 2 + ((-1) * ρ 4 + 0)))) := hF _ (List.mem_of_getElem? (i := 3) rfl)
  have f4 : (0 : Int) ≤ ((0) + ((1) * ρ 5 + 0)) := hF _ (List.mem_of_getElem? (i := 4) rfl)
  have f5 : (0 : Int) ≤ ((7) + ((-1) * ρ 5 + 0)) := hF _ (List.mem_of_getElem? (i := 5) rfl)
  have g1 : G (ρ 3).toNat = 123 := by
    have q := (hG _ (List.mem_of_getElem? (i := 1) rfl)).2
    rwa [show ev ρ (0, [(3, 1)]) = ρ 3 from ev_v] at q
  have b0 : (0 : Int) ≤ ((24) + ((1) * ρ 1 + 0)) := b_aA (hA _ (List.mem_of_getElem? (i := 0) rfl))
  have a0 : vw C h 123 (24 + (ρ 1).toNat) = ρ 4 := vw_aA hU (hA _ (List.mem_of_getElem? (i := 0) rfl)) ev_v g1 (by omega) (by omega) (i := 24 + (ρ 1).toNat) (show (((24 + (ρ 1).toNat : Nat)) : Int) = ((24) + ((1) * ρ 1 + 0)) by omega) ev_v
  have p0 : P104 (vw C h) ((0) + ((1) * ρ 1 + 0)) ((0) + ((1) * ρ 5 + 0)) := hP _ (List.mem_of_getElem? (i := 0) rfl)
  have p1 : P102 (vw C h) 119 ((0) + ((1) * ρ 2 + 0)) ((0) + ((1) * ρ 1 + 0)) := hP _ (List.mem_of_getElem? (i := 1) rfl)
  have am := a0
  rw [show (ρ 1).toNat = ((0 : Int) + (1 * ρ 1 + 0)).toNat by omega] at am
  refine ⟨_, List.mem_cons_self, ρ, fun _ _ => rfl, fun q hq => absurd hq List.not_mem_nil, trivial, fun f hf => ?_, fun q hq => absurd hq List.not_mem_nil, fun q hq => absurd hq List.not_mem_nil, fun q hq => absurd hq List.not_mem_nil, fun q hq => ?_⟩
  · exact absurd hf List.not_mem_nil
  · simp only [List.mem_cons, List.not_mem_nil, or_false] at hq
    subst hq
    show P100 (vw C h) 119 ((1) + ((1) * ρ 5 + 0))
    exact invClose_ok (by omega) (by omega) (by omega) am p0 p1 (by omega)
/-- eveningW -/
theorem lem_107_ok (hU : uqG G C) : lem_107.1.2.1 = [] ∧ lemOK (PRd G C D xs) G rgs lem_107 := by
  refine ⟨rfl, fun ρ h ha hT => ?_⟩
  obtain ⟨-, -, hF, hG, hH, hA, hP⟩ := ha
  have f0 : (0 : Int) ≤ ((0) + ((1) * ρ 2 + 0)) := hF _ (List.mem_of_getElem? (i := 0) rfl)
  have f1 : (0 : Int) ≤ ((8) + ((-1) * ρ 2 + 0)) := hF _ (List.mem_of_getElem? (i := 1) rfl)
  have f2 : (0 : Int) ≤ ((0) + ((1) * ρ 3 + 0)) := hF _ (List.mem_of_getElem? (i := 2) rfl)
  have f3 : (0 : Int) ≤ ((8) + ((-1) * ρ 3 + 0)) := hF _ (List.mem_of_getElem? (i := 3) rfl)
  have g1 : G (ρ 1).toNat = 123 := by
    have q := (hG _ (List.mem_of_getElem? (i := 1) rfl)).2
    rwa [show ev ρ (0, [(1, 1)]) = ρ 1 from ev_v] at q
  have b0 : (0 : Int) ≤ ((7) + 0) := b_aA (hA _ (List.mem_of_getElem? (i := 0) rfl))
  have a0 : vw C h 123 (7) = ρ 3 := vw_aA hU (hA _ (List.mem_of_getElem? (i := 0) rfl)) ev_v g1 (by omega) (by omega) (i := 7) (show (((7 : Nat)) : Int) = ((7) + 0) by omega) ev_v
  have p0 : P97 (vw C h) ((0) + ((1) * ρ 2 + 0)) ((0) + ((1) * ρ 3 + 0)) := hP _ (List.mem_of_getElem? (i := 0) rfl)
  have p1 : P100 (vw C h) 119 ((0) + ((1) * ρ 2 + 0)) := hP _ (List.mem_of_getElem? (i := 1) rfl)
  refine ⟨_, List.mem_cons_self, ρ, fun _ _ => rfl, fun q hq => absurd hq List.not_mem_nil, trivial, fun f hf => ?_, fun q hq => absurd hq List.not_mem_nil, fun q hq => absurd hq List.not_mem_nil, fun q hq => absurd hq List.not_mem_nil, fun q hq => ?_⟩
  · exact absurd hf List.not_mem_nil
  · simp only [List.mem_cons, List.not_mem_nil, or_false] at hq
    subst hq
    show P105 (vw C h) 119 ((0) + 0)
    exact evening_ok (M := ((0) + ((1) * ρ 3 + 0))) (by rw [a0]; omega) p0 p1 rfl
/-- eveSplitW -/
theorem lem_108_ok (hU : uqG G C) : lem_108.1.2.1 = [] ∧ lemOK (PRd G C D xs) G rgs lem_108 := by
  refine ⟨rfl, fun ρ h ha hT => ?_⟩
  obtain ⟨-, -, hF, hG, hH, hA, hP⟩ := ha
  have f0 : (0 : Int) ≤ ((0) + ((1) * ρ 1 + 0)) := hF _ (List.mem_of_getElem? (i := 0) rfl)
  have f1 : (0 : Int) ≤ ((-1) + ((-1) * ρ 1 + ((1) * ρ 5 + 0))) := hF _ (List.mem_of_getElem? (i := 1) rfl)
  have f2 : (0 : Int) ≤ ((8) + ((-1) * ρ 5 + 0)) := hF _ (List.mem_of_getElem? (i := 2) rfl)
  have f3 : (0 : Int) ≤ ((5) + ((-1) * ρ 4 + 0)) := hF _ (List.mem_of_getElem? (i := 3) rfl)
  have f4 : (0 : Int) ≤ ((0) + ((-5) * ρ 1 + ((1) * ρ 2 + 0))) := hF _ (List.mem_of_getElem? (i := 4) rfl)
  have f5 : (0 : Int) ≤ ((-1) + ((5) * ρ 1 + ((-1) * ρ 2 + ((1) * ρ 4 + 0)))) := hF _ (List.mem_of_getElem? (i := 5) rfl)
  have g1 : G (ρ 3).toNat = 123 := by
    have q := (hG _ (List.mem_of_getElem? (i := 1) rfl)).2
    rwa [show ev ρ (0, [(3, 1)]) = ρ 3 from ev_v] at q
  have b0 : (0 : Int) ≤ ((24) + ((1) * ρ 1 + 0)) := b_aA (hA _ (List.mem_of_getElem? (i := 0) rfl))
  have b1 : (0 : Int) ≤ ((7) + 0) := b_aA (hA _ (List.mem_of_getElem? (i := 1) rfl))
  have a0 : vw C h 123 (24 + (ρ 1).toNat) = ρ 4 := vw_aA hU (hA _ (List.mem_of_getElem? (i := 0) rfl)) ev_v g1 (by omega) (by omega) (i := 24 + (ρ 1).toNat) (show (((24 + (ρ 1).toNat : Nat)) : Int) = ((24) + ((1) * ρ 1 + 0)) by omega) ev_v
  have a1 : vw C h 123 (7) = ρ 5 := vw_aA hU (hA _ (List.mem_of_getElem? (i := 1) rfl)) ev_v g1 (by omega) (by omega) (i := 7) (show (((7 : Nat)) : Int) = ((7) + 0) by omega) ev_v
  have p0 : P105 (vw C h) 119 ((0) + ((1) * ρ 2 + 0)) := hP _ (List.mem_of_getElem? (i := 0) rfl)
  refine ⟨_, List.mem_cons_self, ρ, fun _ _ => rfl, fun q hq => absurd hq List.not_mem_nil, trivial, fun f hf => ?_, fun q hq => absurd hq List.not_mem_nil, fun q hq => absurd hq List.not_mem_nil, fun q hq => absurd hq List.not_mem_nil, fun q hq => ?_⟩
  · exact absurd hf List.not_mem_nil
  · simp only [List.mem_cons, List.not_mem_nil, or_false] at hq
    subst hq
    show P107 (vw C h) 119 ((0) + ((1) * ρ 2 + 0))
    exact eveSplit_ok (m := ρ 1) (M := ρ 5) (c := ρ 4) (by omega) (by omega) (by omega) (by omega) (by omega) (by omega) a0 a1 p0
/-- eveJoinW -/
theorem lem_109_ok (hU : uqG G C) : lem_109.1.2.1 = [] ∧ lemOK (PRd G C D xs) G rgs lem_109 := by
  refine ⟨rfl, fun ρ h ha hT => ?_⟩
  obtain ⟨-, -, hF, hG, hH, hA, hP⟩ := ha
  have f0 : (0 : Int) ≤ ((0) + ((1) * ρ 2 + 0)) := hF _ (List.mem_of_getElem? (i := 0) rfl)
  have f1 : (0 : Int) ≤ ((0) + ((1) * ρ 1 + 0)) := hF _ (List.mem_of_getElem? (i := 1) rfl)
  have f2 : (0 : Int) ≤ ((39) + ((-1) * ρ 1 + 0)) := hF _ (List.mem_of_getElem? (i := 2) rfl)
  have g0 : G (ρ 0).toNat = 119 := by
    have q := (hG _ (List.mem_of_getElem? (i := 0) rfl)).2
    rwa [show ev ρ (0, [(0, 1)]) = ρ 0 from ev_v] at q
  have b0 : (0 : Int) ≤ ((137) + ((1) * ρ 1 + 0)) := b_aA (hA _ (List.mem_of_getElem? (i := 0) rfl))
  have a0 : vw C h 119 (137 + (ρ 1).toNat) = ρ 2 := vw_aA hU (hA _ (List.mem_of_getElem? (i := 0) rfl)) ev_v g0 (by omega) (by omega) (i := 137 + (ρ 1).toNat) (show (((137 + (ρ 1).toNat : Nat)) : Int) = ((137) + ((1) * ρ 1 + 0)) by omega) ev_v
  have p0 : P107 (vw C h) 119 ((0) + ((1) * ρ 1 + 0)) := hP _ (List.mem_of_getElem? (i := 0) rfl)
  refine ⟨_, List.mem_cons_self, ρ, fun _ _ => rfl, fun q hq => absurd hq List.not_mem_nil, trivial, fun f hf => ?_, fun q hq => absurd hq List.not_mem_nil, fun q hq => absurd hq List.not_mem_nil, fun q hq => absurd hq List.not_mem_nil, fun q hq => ?_⟩
  · exact absurd hf List.not_mem_nil
  · simp only [List.mem_cons, List.not_mem_nil, or_false] at hq
    subst hq
    show P105 (vw C h) 119 ((1) + ((1) * ρ 1 + 0))
    exact eveJoin_ok (i := 137 + (ρ 1).toNat) a0 (by omega) (by omega) p0 (by omega)
/-- eveSkipW -/
theorem lem_110_ok (hU : uqG G C) : lem_110.1.2.1 = [] ∧ lemOK (PRd G C D xs) G rgs lem_110 := by
  refine ⟨rfl, fun ρ h ha hT => ?_⟩
  obtain ⟨-, -, hF, hG, hH, hA, hP⟩ := ha
  have f0 : (0 : Int) ≤ ((0) + ((1) * ρ 1 + 0)) := hF _ (List.mem_of_getElem? (i := 0) rfl)
  have f1 : (0 : Int) ≤ ((7) + ((-1) * ρ 1 + 0)) := hF _ (List.mem_of_getElem? (i := 1) rfl)
  have f2 : (0 : Int) ≤ ((0) + ((1) * ρ 4 + 0)) := hF _ (List.mem_of_getElem? (i := 2) rfl)
  have f3 : (0 : Int) ≤ ((5) + ((-1) * ρ 4 + 0)) := hF _ (List.mem_of_getElem? (i := 3) rfl)
  have f4 : (0 : Int) ≤ ((0) + ((-5) * ρ 1 + ((1) * ρ 2 + ((-1) * ρ 4 + 0)))) := hF _ (List.mem_of_getElem? (i := 4) rfl)
  have g1 : G (ρ 3).toNat = 123 := by
    have q := (hG _ (List.mem_of_getElem? (i := 1) rfl)).2
    rwa [show ev ρ (0, [(3, 1)]) = ρ 3 from ev_v] at q
  have b0 : (0 : Int) ≤ ((24) + ((1) * ρ 1 + 0)) := b_aA (hA _ (List.mem_of_getElem? (i := 0) rfl))
  have a0 : vw C h 123 (24 + (ρ 1).toNat) = ρ 4 := vw_aA hU (hA _ (List.mem_of_getElem? (i := 0) rfl)) ev_v g1 (by omega) (by omega) (i := 24 + (ρ 1).toNat) (show (((24 + (ρ 1).toNat : Nat)) : Int) = ((24) + ((1) * ρ 1 + 0)) by omega) ev_v
  have p0 : P105 (vw C h) 119 ((0) + ((1) * ρ 2 + 0)) := hP _ (List.mem_of_getElem? (i := 0) rfl)
  refine ⟨_, List.mem_cons_self, ρ, fun _ _ => rfl, fun q hq => absurd hq List.not_mem_nil, trivial, fun f hf => ?_, fun q hq => absurd hq List.not_mem_nil, fun q hq => absurd hq List.not_mem_nil, fun q hq => absurd hq List.not_mem_nil, fun q hq => ?_⟩
  · exact absurd hf List.not_mem_nil
  · simp only [List.mem_cons, List.not_mem_nil, or_false] at hq
    subst hq
    show P105 (vw C h) 119 ((5) + ((5) * ρ 1 + 0))
    exact eveSkip_ok (m := ρ 1) (by omega) (by omega) (by omega) a0 p0 (by omega)
/-- dayCloseW -/
theorem lem_111_ok (hU : uqG G C) : lem_111.1.2.1 = [] ∧ lemOK (PRd G C D xs) G rgs lem_111 := by
  refine ⟨rfl, fun ρ h ha hT => ?_⟩
  obtain ⟨-, -, hF, hG, hH, hA, hP⟩ := ha
  have f0 : (0 : Int) ≤ ((0) + ((1) * ρ 1 + ((-1) * ρ 3 + 0))) := hF _ (List.mem_of_getElem? (i := 0) rfl)
  have g1 : G (ρ 2).toNat = 123 := by
    have q := (hG _ (List.mem_of_getElem? (i := 1) rfl)).2
    rwa [show ev ρ (0, [(2, 1)]) = ρ 2 from ev_v] at q
  have b0 : (0 : Int) ≤ ((7) + 0) := b_aA (hA _ (List.mem_of_getElem? (i := 0) rfl))
  have a0 : vw C h 123 (7) = ρ 3 := vw_aA hU (hA _ (List.mem_of_getElem? (i := 0) rfl)) ev_v g1 (by omega) (by omega) (i := 7) (show (((7 : Nat)) : Int) = ((7) + 0) by omega) ev_v
  have p0 : P105 (vw C h) 119 ((0) + ((5) * ρ 1 + 0)) := hP _ (List.mem_of_getElem? (i := 0) rfl)
  have p1 : P38 (vw C h) 119 := hP _ (List.mem_of_getElem? (i := 1) rfl)
  refine ⟨_, List.mem_cons_self, ρ, fun _ _ => rfl, fun q hq => absurd hq List.not_mem_nil, trivial, fun f hf => ?_, fun q hq => absurd hq List.not_mem_nil, fun q hq => absurd hq List.not_mem_nil, fun q hq => absurd hq List.not_mem_nil, fun q hq => ?_⟩
  · exact absurd hf List.not_mem_nil
  · simp only [List.mem_cons, List.not_mem_nil, or_false] at hq
    subst hq
    show GDv (vw C h) 119 123 1777 ((0) + 0) ((1777) + 0)
    exact dayClose_ok (m := ρ 1) (by omega) a0 p0 (by omega) p1
/-- visStart -/
theorem lem_112_ok (hU : uqG G C) : lem_112.1.2.1 = [] ∧ lemOK (PRd G C D xs) G rgs lem_112 := by
  refine ⟨rfl, fun ρ h ha hT => ?_⟩
  obtain ⟨-, -, hF, hG, hH, hA, hP⟩ := ha
  have f0 : (0 : Int) ≤ ((0) + ((1) * ρ 2 + ((-1) * ρ 5 + 0))) := hF _ (List.mem_of_getElem? (i := 0) rfl)
  have f1 : (0 : Int) ≤ ((0) + ((-1) * ρ 2 + ((1) * ρ 5 + 0))) := hF _ (List.mem_of_getElem? (i := 1) rfl)
  have f2 : (0 : Int) ≤ ((0) + ((1) * ρ 1 + 0)) := hF _ (List.mem_of_getElem? (i := 2) rfl)
  have f3 : (0 : Int) ≤ ((-1) + ((-1) * ρ 1 + ((1) * ρ 3 + 0))) := hF _ (List.mem_of_getElem? (i := 3) rfl)
  have f4 : (0 : Int) ≤ ((8) + ((-1) * ρ 3 + 0)) := hF _ (List.mem_of_getElem? (i := 4) rfl)
  have g1 : G (ρ 4).toNat = 142 := by
    have q := (hG _ (List.mem_of_getElem? (i := 1) rfl)).2
    rwa [show ev ρ (0, [(4, 1)]) = ρ 4 from ev_v] at q
  have b0 : (0 : Int) ≤ ((0) + ((1) * ρ 1 + 0)) := b_aA (hA _ (List.mem_of_getElem? (i := 0) rfl))
  have a0 : vw C h 142 ((ρ 1).toNat) = ρ 5 := vw_aA hU (hA _ (List.mem_of_getElem? (i := 0) rfl)) ev_v g1 (by omega) (by omega) (i := (ρ 1).toNat) (show ((((ρ 1).toNat : Nat)) : Int) = ((0) + ((1) * ρ 1 + 0)) by omega) ev_v
  have p0 : P97 (vw C h) ((0) + ((1) * ρ 3 + 0)) ((0) + ((1) * ρ 6 + 0)) := hP _ (List.mem_of_getElem? (i := 0) rfl)
  have q := visStart_ok (m := ((0) + ((1) * ρ 2 + 0))) (r := ((0) + ((1) * ρ 1 + 0))) (x := ρ 5) (by rw [(show ((0 : Int) + (1 * ρ 1 + 0)).toNat = (ρ 1).toNat by omega)]; exact a0) (by omega) (by omega) (by omega) (by omega) p0
  refine ⟨_, List.mem_cons_self, ρ, fun _ _ => rfl, fun q hq => absurd hq List.not_mem_nil, trivial, fun f hf => ?_, fun q hq => absurd hq List.not_mem_nil, fun q hq => absurd hq List.not_mem_nil, fun q hq => absurd hq List.not_mem_nil, fun q hq => ?_⟩
  · simp only [List.mem_cons, List.not_mem_nil, or_false] at hf
    subst hf
    show (0 : Int) ≤ ((-1) + ((-1) * ρ 2 + ((1) * ρ 6 + 0)))
    omega
  · simp only [List.mem_cons, List.not_mem_nil, or_false] at hq
    subst hq
    show P104 (vw C h) ((0) + ((1) * ρ 2 + 0)) ((0) + ((1) * ρ 1 + 0))
    exact q.2
/-- no109 -/
theorem lem_113_ok (hU : uqG G C) : lem_113.1.2.1 = [] ∧ lemOK (PRd G C D xs) G rgs lem_113 := by
  refine ⟨rfl, fun ρ h ha hT => ?_⟩
  obtain ⟨-, -, hF, hG, hH, hA, hP⟩ := ha
  refine ⟨_, List.mem_cons_self, ρ, fun _ _ => rfl, fun q hq => absurd hq List.not_mem_nil, trivial, fun f hf => ?_, fun q hq => absurd hq List.not_mem_nil, fun q hq => absurd hq List.not_mem_nil, fun q hq => absurd hq List.not_mem_nil, fun q hq => ?_⟩
  · exact absurd hf List.not_mem_nil
  · simp only [List.mem_cons, List.not_mem_nil, or_false] at hq
    subst hq
    show P109 (vw C h) ((0) + 0)
    exact fun h1 => by omega
/-- ext109 -/
theorem lem_114_ok (hU : uqG G C) : lem_114.1.2.1 = [] ∧ lemOK (PRd G C D xs) G rgs lem_114 := by
  refine ⟨rfl, fun ρ h ha hT => ?_⟩
  obtain ⟨-, -, hF, hG, hH, hA, hP⟩ := ha
  have f0 : (0 : Int) ≤ ((0) + ((1) * ρ 3 + 0)) := hF _ (List.mem_of_getElem? (i := 0) rfl)
  have f1 : (0 : Int) ≤ ((1776) + ((-1) * ρ 3 + 0)) := hF _ (List.mem_of_getElem? (i := 1) rfl)
  have f2 : (0 : Int) ≤ ((0) + ((1) * ρ 2 + 0)) := hF _ (List.mem_of_getElem? (i := 2) rfl)
  have f3 : (0 : Int) ≤ ((0) + ((-1) * ρ 2 + 0)) := hF _ (List.mem_of_getElem? (i := 3) rfl)
  have g1 : G (ρ 1).toNat = 119 := by
    have q := (hG _ (List.mem_of_getElem? (i := 1) rfl)).2
    rwa [show ev ρ (0, [(1, 1)]) = ρ 1 from ev_v] at q
  have g2 : G (ρ 4).toNat = 118 := by
    have q := (hG _ (List.mem_of_getElem? (i := 2) rfl)).2
    rwa [show ev ρ (0, [(4, 1)]) = ρ 4 from ev_v] at q
  have b0 : (0 : Int) ≤ ((0) + ((1777) * ρ 2 + ((1) * ρ 3 + 0))) := b_aA (hA _ (List.mem_of_getElem? (i := 0) rfl))
  have b1 : (0 : Int) ≤ ((0) + ((1) * ρ 3 + 0)) := b_aA (hA _ (List.mem_of_getElem? (i := 1) rfl))
  have a0 : vw C h 119 ((1777 * ρ 2 + ρ 3).toNat) = ρ 5 := vw_aA hU (hA _ (List.mem_of_getElem? (i := 0) rfl)) ev_v g1 (by omega) (by omega) (i := (1777 * ρ 2 + ρ 3).toNat) (show ((((1777 * ρ 2 + ρ 3).toNat : Nat)) : Int) = ((0) + ((1777) * ρ 2 + ((1) * ρ 3 + 0))) by omega) ev_v
  have a1 : vw C h 118 ((ρ 3).toNat) = ρ 5 := vw_aA hU (hA _ (List.mem_of_getElem? (i := 1) rfl)) ev_v g2 (by omega) (by omega) (i := (ρ 3).toNat) (show ((((ρ 3).toNat : Nat)) : Int) = ((0) + ((1) * ρ 3 + 0)) by omega) ev_v
  have p0 : P109 (vw C h) ((0) + ((1) * ρ 3 + 0)) := hP _ (List.mem_of_getElem? (i := 0) rfl)
  refine ⟨_, List.mem_cons_self, ρ, fun _ _ => rfl, fun q hq => absurd hq List.not_mem_nil, trivial, fun f hf => ?_, fun q hq => absurd hq List.not_mem_nil, fun q hq => absurd hq List.not_mem_nil, fun q hq => absurd hq List.not_mem_nil, fun q hq => ?_⟩
  · exact absurd hf List.not_mem_nil
  · simp only [List.mem_cons, List.not_mem_nil, or_false] at hq
    subst hq
    show P109 (vw C h) ((1) + ((1) * ρ 3 + 0))
    exact fun h1 => by
      by_cases h0 : ρ 3 = 0
      · have e1 : (1777 * ρ 2 + ρ 3).toNat = 0 := by omega
        have e2 : (ρ 3).toNat = 0 := by omega
        rw [e1] at a0
        rw [e2] at a1
        exact a0.trans a1.symm
      · exact p0 (by omega)
/-- day109 -/
theorem lem_115_ok (hU : uqG G C) : lem_115.1.2.1 = [] ∧ lemOK (PRd G C D xs) G rgs lem_115 := by
  refine ⟨rfl, fun ρ h ha hT => ?_⟩
  obtain ⟨-, -, hF, hG, hH, hA, hP⟩ := ha
  have g1 : G (ρ 1).toNat = 119 := by
    have q := (hG _ (List.mem_of_getElem? (i := 1) rfl)).2
    rwa [show ev ρ (0, [(1, 1)]) = ρ 1 from ev_v] at q
  have g2 : G (ρ 2).toNat = 118 := by
    have q := (hG _ (List.mem_of_getElem? (i := 2) rfl)).2
    rwa [show ev ρ (0, [(2, 1)]) = ρ 2 from ev_v] at q
  have b0 : (0 : Int) ≤ ((0) + 0) := b_aA (hA _ (List.mem_of_getElem? (i := 0) rfl))
  have b1 : (0 : Int) ≤ ((0) + 0) := b_aA (hA _ (List.mem_of_getElem? (i := 1) rfl))
  have a0 : vw C h 119 (0) = ρ 3 := vw_aA hU (hA _ (List.mem_of_getElem? (i := 0) rfl)) ev_v g1 (by omega) (by omega) (i := 0) (show (((0 : Nat)) : Int) = ((0) + 0) by omega) ev_v
  have a1 : vw C h 118 (0) = ρ 4 := vw_aA hU (hA _ (List.mem_of_getElem? (i := 1) rfl)) ev_v g2 (by omega) (by omega) (i := 0) (show (((0 : Nat)) : Int) = ((0) + 0) by omega) ev_v
  have p0 : P109 (vw C h) ((1777) + 0) := hP _ (List.mem_of_getElem? (i := 0) rfl)
  have q : vw C h 119 0 = vw C h 118 0 := p0 (by omega)
  refine ⟨_, List.mem_cons_self, ρ, fun _ _ => rfl, fun q hq => absurd hq List.not_mem_nil, trivial, fun f hf => ?_, fun q hq => absurd hq List.not_mem_nil, fun q hq => absurd hq List.not_mem_nil, fun q hq => absurd hq List.not_mem_nil, fun q hq => ?_⟩
  · simp only [List.mem_cons, List.not_mem_nil, or_false] at hf
    rcases hf with rfl | rfl
    · show (0 : Int) ≤ ((0) + ((-1) * ρ 3 + ((1) * ρ 4 + 0)))
      omega
    · show (0 : Int) ≤ ((0) + ((1) * ρ 3 + ((-1) * ρ 4 + 0)))
      omega
  · exact absurd hq List.not_mem_nil
/-- sizeAny -/
theorem lem_116_ok (hU : uqG G C) : lem_116.1.2.1 = [] ∧ lemOK (PRd G C D xs) G rgs lem_116 := by
  refine ⟨rfl, fun ρ h ha hT => ?_⟩
  obtain ⟨-, -, hF, hG, hH, hA, hP⟩ := ha
  obtain ⟨σ, r1, r2⟩ : ∃ σ : Va, (∀ i, i < 1 → σ i = ρ i) ∧ σ 1 = szZ (ρ 0) := ⟨fun i => if i = 1 then szZ (ρ 0) else ρ i, fun i hi => if_neg (by omega), if_pos rfl⟩
  have s0 := r1 0 (by omega)
  have q := szZ_rg (ρ 0)
  refine ⟨_, List.mem_cons_self, σ, r1, fun q hq => absurd hq List.not_mem_nil, trivial, fun f hf => ?_, fun q hq => absurd hq List.not_mem_nil, fun q hq => absurd hq List.not_mem_nil, fun q hq => absurd hq List.not_mem_nil, fun z hz => ?_⟩
  · simp only [List.mem_cons, List.not_mem_nil, or_false] at hf
    rcases hf with rfl | rfl
    · show (0 : Int) ≤ (((-1)) + ((1) * σ 1 + 0))
      omega
    · show (0 : Int) ≤ ((11) + ((-1) * σ 1 + 0))
      omega
  · obtain rfl := List.mem_singleton.mp hz
    show ((0 : Int) + (1 * σ 1 + 0)) = szZ ((0 : Int) + (1 * σ 0 + 0))
    rw [show ((0 : Int) + (1 * σ 0 + 0)) = ρ 0 by omega]
    omega
/-- rangeAll -/
theorem lem_117_ok (hU : uqG G C) : lem_117.1.2.1 = [] ∧ lemOK (PRd G C D xs) G rgs lem_117 := by
  refine ⟨rfl, fun ρ h ha hT => ?_⟩
  obtain ⟨-, -, hF, hG, hH, hA, hP⟩ := ha
  have hc : (0 ≤ ρ 0 ∧ ρ 0 ≤ 9) ∨ (10 ≤ ρ 0 ∧ ρ 0 ≤ 99) ∨ (100 ≤ ρ 0 ∧ ρ 0 ≤ 999) ∨ (1000 ≤ ρ 0 ∧ ρ 0 ≤ 9999) ∨ (10000 ≤ ρ 0 ∧ ρ 0 ≤ 99999) ∨ (100000 ≤ ρ 0 ∧ ρ 0 ≤ 999999) ∨ (1000000 ≤ ρ 0 ∧ ρ 0 ≤ 9999999) ∨ (10000000 ≤ ρ 0 ∧ ρ 0 ≤ 99999999) ∨ (100000000 ≤ ρ 0 ∧ ρ 0 ≤ 999999999) ∨ (1000000000 ≤ ρ 0) ∨ (ρ 0 ≤ -1 ∧ -9 ≤ ρ 0) ∨ (ρ 0 ≤ -10 ∧ -99 ≤ ρ 0) ∨ (ρ 0 ≤ -100 ∧ -999 ≤ ρ 0) ∨ (ρ 0 ≤ -1000 ∧ -9999 ≤ ρ 0) ∨ (ρ 0 ≤ -10000 ∧ -99999 ≤ ρ 0) ∨ (ρ 0 ≤ -100000 ∧ -999999 ≤ ρ 0) ∨ (ρ 0 ≤ -1000000 ∧ -9999999 ≤ ρ 0) ∨ (ρ 0 ≤ -10000000 ∧ -99999999 ≤ ρ 0) ∨ (ρ 0 ≤ -100000000 ∧ -999999999 ≤ ρ 0) ∨ (ρ 0 ≤ -1000000000) := by omega
  rcases hc with hc | hc | hc | hc | hc | hc | hc | hc | hc | hc | hc | hc | hc | hc | hc | hc | hc | hc | hc | hc
  · exact ⟨_, List.mem_of_getElem? (i := 0) rfl, ρ, fun _ _ => rfl, pureP (fun f hf => by simp only [List.mem_cons, List.not_mem_nil, or_false] at hf; rcases hf with rfl | rfl <;> simp only [ev, evT] <;> omega)⟩
  · exact ⟨_, List.mem_of_getElem? (i := 1) rfl, ρ, fun _ _ => rfl, pureP (fun f hf => by simp only [List.mem_cons, List.not_mem_nil, or_false] at hf; rcases hf with rfl | rfl <;> simp only [ev, evT] <;> omega)⟩
  · exact ⟨_, List.mem_of_getElem? (i := 2) rfl, ρ, fun _ _ => rfl, pureP (fun f hf => by simp only [List.mem_cons, List.not_mem_nil, or_false] at hf; rcases hf with rfl | rfl <;> simp only [ev, evT] <;> omega)⟩
  · exact ⟨_, List.mem_of_getElem? (i := 3) rfl, ρ, fun _ _ => rfl, pureP (fun f hf => by simp only [List.mem_cons, List.not_mem_nil, or_false] at hf; rcases hf with rfl | rfl <;> simp only [ev, evT] <;> omega)⟩
  · exact ⟨_, List.mem_of_getElem? (i := 4) rfl, ρ, fun _ _ => rfl, pureP (fun f hf => by simp only [List.mem_cons, List.not_mem_nil, or_false] at hf; rcases hf with rfl | rfl <;> simp only [ev, evT] <;> omega)⟩
  · exact ⟨_, List.mem_of_getElem? (i := 5) rfl, ρ, fun _ _ => rfl, pureP (fun f hf => by simp only [List.mem_cons, List.not_mem_nil, or_false] at hf; rcases hf with rfl | rfl <;> simp only [ev, evT] <;> omega)⟩
  · exact ⟨_, List.mem_of_getElem? (i := 6) rfl, ρ, fun _ _ => rfl, pureP (fun f hf => by simp only [List.mem_cons, List.not_mem_nil, or_false] at hf; rcases hf with rfl | rfl <;> simp only [ev, evT] <;> omega)⟩
  · exact ⟨_, List.mem_of_getElem? (i := 7) rfl, ρ, fun _ _ => rfl, pureP (fun f hf => by simp only [List.mem_cons, List.not_mem_nil, or_false] at hf; rcases hf with rfl | rfl <;> simp only [ev, evT] <;> omega)⟩
  · exact ⟨_, List.mem_of_getElem? (i := 8) rfl, ρ, fun _ _ => rfl, pureP (fun f hf => by simp only [List.mem_cons, List.not_mem_nil, or_false] at hf; rcases hf with rfl | rfl <;> simp only [ev, evT] <;> omega)⟩
  · exact ⟨_, List.mem_of_getElem? (i := 9) rfl, ρ, fun _ _ => rfl, pureP (fun f hf => by simp only [List.mem_cons, List.not_mem_nil, or_false] at hf; rcases hf with rfl <;> simp only [ev, evT] <;> omega)⟩
  · exact ⟨_, List.mem_of_getElem? (i := 10) rfl, ρ, fun _ _ => rfl, pureP (fun f hf => by simp only [List.mem_cons, List.not_mem_nil, or_false] at hf; rcases hf with rfl | rfl <;> simp only [ev, evT] <;> omega)⟩
  · exact ⟨_, List.mem_of_getElem? (i := 11) rfl, ρ, fun _ _ => rfl, pureP (fun f hf => by simp only [List.mem_cons, List.not_mem_nil, or_false] at hf; rcases hf with rfl | rfl <;> simp only [ev, evT] <;> omega)⟩
  · exact ⟨_, List.mem_of_getElem? (i := 12) rfl, ρ, fun _ _ => rfl, pureP (fun f hf => by simp only [List.mem_cons, List.not_mem_nil, or_false] at hf; rcases hf with rfl | rfl <;> simp only [ev, evT] <;> omega)⟩
  · exact ⟨_, List.mem_of_getElem? (i := 13) rfl, ρ, fun _ _ => rfl, pureP (fun f hf => by simp only [List.mem_cons, List.not_mem_nil, or_false] at hf; rcases hf with rfl | rfl <;> simp only [ev, evT] <;> omega)⟩
  · exact ⟨_, List.mem_of_getElem? (i := 14) rfl, ρ, fun _ _ => rfl, pureP (fun f hf => by simp only [List.mem_cons, List.not_mem_nil, or_false] at hf; rcases hf with rfl | rfl <;> simp only [ev, evT] <;> omega)⟩
  · exact ⟨_, List.mem_of_getElem? (i := 15) rfl, ρ, fun _ _ => rfl, pureP (fun f hf => by simp only [List.mem_cons, List.not_mem_nil, or_false] at hf; rcases hf with rfl | rfl <;> simp only [ev, evT] <;> omega)⟩
  · exact ⟨_, List.mem_of_getElem? (i := 16) rfl, ρ, fun _ _ => rfl, pureP (fun f hf => by simp only [List.mem_cons, List.not_mem_nil, or_false] at hf; rcases hf with rfl | rfl <;> simp only [ev, evT] <;> omega)⟩
  · exact ⟨_, List.mem_of_getElem? (i := 17) rfl, ρ, fun _ _ => rfl, pureP (fun f hf => by simp only [List.mem_cons, List.not_mem_nil, or_false] at hf; rcases hf with rfl | rfl <;> simp only [ev, evT] <;> omega)⟩
  · exact ⟨_, List.mem_of_getElem? (i := 18) rfl, ρ, fun _ _ => rfl, pureP (fun f hf => by simp only [List.mem_cons, List.not_mem_nil, or_false] at hf; rcases hf with rfl | rfl <;> simp only [ev, evT] <;> omega)⟩
  · exact ⟨_, List.mem_of_getElem? (i := 19) rfl, ρ, fun _ _ => rfl, pureP (fun f hf => by simp only [List.mem_cons, List.not_mem_nil, or_false] at hf; rcases hf with rfl <;> simp only [ev, evT] <;> omega)⟩
/-- size_p1 -/
theorem lem_118_ok (hU : uqG G C) : lem_118.1.2.1 = [] ∧ lemOK (PRd G C D xs) G rgs lem_118 := by
  refine ⟨rfl, fun ρ h ha hT => ?_⟩
  obtain ⟨-, -, hF, hG, hH, hA, hP⟩ := ha
  have f0 : (0 : Int) ≤ ((0) + ((1) * ρ 0 + 0)) := hF _ (List.mem_of_getElem? (i := 0) rfl)
  have f1 : (0 : Int) ≤ ((9) + ((-1) * ρ 0 + 0)) := hF _ (List.mem_of_getElem? (i := 1) rfl)
  have p0 : ((0) + ((1) * ρ 1 + 0)) = szZ ((0) + ((1) * ρ 0 + 0)) := hP _ (List.mem_of_getElem? (i := 0) rfl)
  have q : ρ 1 = 1 := by
    have e : szZ (ρ 0) = 1 := by
      unfold szZ
      rw [if_pos (by omega)]
      unfold szP
      rw [if_pos (by omega)]
    rw [show ((0 : Int) + (1 * ρ 0 + 0)) = ρ 0 by omega, e] at p0
    omega
  refine ⟨_, List.mem_cons_self, ρ, fun _ _ => rfl, fun q hq => absurd hq List.not_mem_nil, trivial, fun f hf => ?_, fun q hq => absurd hq List.not_mem_nil, fun q hq => absurd hq List.not_mem_nil, fun q hq => absurd hq List.not_mem_nil, fun q hq => ?_⟩
  · simp only [List.mem_cons, List.not_mem_nil, or_false] at hf
    rcases hf with rfl | rfl
    · show (0 : Int) ≤ ((1) + ((-1) * ρ 1 + 0))
      omega
    · show (0 : Int) ≤ ((-1) + ((1) * ρ 1 + 0))
      omega
  · exact absurd hq List.not_mem_nil
/-- size_p2 -/
theorem lem_119_ok (hU : uqG G C) : lem_119.1.2.1 = [] ∧ lemOK (PRd G C D xs) G rgs lem_119 := by
  refine ⟨rfl, fun ρ h ha hT => ?_⟩
  obtain ⟨-, -, hF, hG, hH, hA, hP⟩ := ha
  have f0 : (0 : Int) ≤ ((-10) + ((1) * ρ 0 + 0)) := hF _ (List.mem_of_getElem? (i := 0) rfl)
  have f1 : (0 : Int) ≤ ((99) + ((-1) * ρ 0 + 0)) := hF _ (List.mem_of_getElem? (i := 1) rfl)
  have p0 : ((0) + ((1) * ρ 1 + 0)) = szZ ((0) + ((1) * ρ 0 + 0)) := hP _ (List.mem_of_getElem? (i := 0) rfl)
  have q : ρ 1 = 2 := by
    have e : szZ (ρ 0) = 2 := by
      unfold szZ
      rw [if_pos (by omega)]
      unfold szP
      rw [if_neg (by omega), if_pos (by omega)]
    rw [show ((0 : Int) + (1 * ρ 0 + 0)) = ρ 0 by omega, e] at p0
    omega
  refine ⟨_, List.mem_cons_self, ρ, fun _ _ => rfl, fun q hq => absurd hq List.not_mem_nil, trivial, fun f hf => ?_, fun q hq => absurd hq List.not_mem_nil, fun q hq => absurd hq List.not_mem_nil, fun q hq => absurd hq List.not_mem_nil, fun q hq => ?_⟩
  · simp only [List.mem_cons, List.not_mem_nil, or_false] at hf
    rcases hf with rfl | rfl
    · show (0 : Int) ≤ ((2) + ((-1) * ρ 1 + 0))
      omega
    · show (0 : Int) ≤ ((-2) + ((1) * ρ 1 + 0))
      omega
  · exact absurd hq List.not_mem_nil
/-- size_p3 -/
theorem lem_120_ok (hU : uqG G C) : lem_120.1.2.1 = [] ∧ lemOK (PRd G C D xs) G rgs lem_120 := by
  refine ⟨rfl, fun ρ h ha hT => ?_⟩
  obtain ⟨-, -, hF, hG, hH, hA, hP⟩ := ha
  have f0 : (0 : Int) ≤ ((-100) + ((1) * ρ 0 + 0)) := hF _ (List.mem_of_getElem? (i := 0) rfl)
  have f1 : (0 : Int) ≤ ((999) + ((-1) * ρ 0 + 0)) := hF _ (List.mem_of_getElem? (i := 1) rfl)
  have p0 : ((0) + ((1) * ρ 1 + 0)) = szZ ((0) + ((1) * ρ 0 + 0)) := hP _ (List.mem_of_getElem? (i := 0) rfl)
  have q : ρ 1 = 3 := by
    have e : szZ (ρ 0) = 3 := by
      unfold szZ
      rw [if_pos (by omega)]
      unfold szP
      rw [if_neg (by omega), if_neg (by omega), if_pos (by omega)]
    rw [show ((0 : Int) + (1 * ρ 0 + 0)) = ρ 0 by omega, e] at p0
    omega
  refine ⟨_, List.mem_cons_self, ρ, fun _ _ => rfl, fun q hq => absurd hq List.not_mem_nil, trivial, fun f hf => ?_, fun q hq => absurd hq List.not_mem_nil, fun q hq => absurd hq List.not_mem_nil, fun q hq => absurd hq List.not_mem_nil, fun q hq => ?_⟩
  · simp only [List.mem_cons, List.not_mem_nil, or_false] at hf
    rcases hf with rfl | rfl
    · show (0 : Int) ≤ ((3) + ((-1) * ρ 1 + 0))
      omega
    · show (0 : Int) ≤ ((-3) + ((1) * ρ 1 + 0))
      omega
  · exact absurd hq List.not_mem_nil
/-- size_p4 -/
theorem lem_121_ok (hU : uqG G C) : lem_121.1.2.1 = [] ∧ lemOK (PRd G C D xs) G rgs lem_121 := by
  refine ⟨rfl, fun ρ h ha hT => ?_⟩
  obtain ⟨-, -, hF, hG, hH, hA, hP⟩ := ha
  have f0 : (0 : Int) ≤ ((-1000) + ((1) * ρ 0 + 0)) := hF _ (List.mem_of_getElem? (i := 0) rfl)
  have f1 : (0 : Int) ≤ ((9999) + ((-1) * ρ 0 + 0)) := hF _ (List.mem_of_getElem? (i := 1) rfl)
  have p0 : ((0) + ((1) * ρ 1 + 0)) = szZ ((0) + ((1) * ρ 0 + 0)) := hP _ (List.mem_of_getElem? (i := 0) rfl)
  have q : ρ 1 = 4 := by
    have e : szZ (ρ 0) = 4 := by
      unfold szZ
      rw [if_pos (by omega)]
      unfold szP
      rw [if_neg (by omega), if_neg (by omega), if_neg (by omega), if_pos (by omega)]
    rw [show ((0 : Int) + (1 * ρ 0 + 0)) = ρ 0 by omega, e] at p0
    omega
  refine ⟨_, List.mem_cons_self, ρ, fun _ _ => rfl, fun q hq => absurd hq List.not_mem_nil, trivial, fun f hf => ?_, fun q hq => absurd hq List.not_mem_nil, fun q hq => absurd hq List.not_mem_nil, fun q hq => absurd hq List.not_mem_nil, fun q hq => ?_⟩
  · simp only [List.mem_cons, List.not_mem_nil, or_false] at hf
    rcases hf with rfl | rfl
    · show (0 : Int) ≤ ((4) + ((-1) * ρ 1 + 0))
      omega
    · show (0 : Int) ≤ ((-4) + ((1) * ρ 1 + 0))
      omega
  · exact absurd hq List.not_mem_nil
/-- size_p5 -/
theorem lem_122_ok (hU : uqG G C) : lem_122.1.2.1 = [] ∧ lemOK (PRd G C D xs) G rgs lem_122 := by
  refine ⟨rfl, fun ρ h ha hT => ?_⟩
  obtain ⟨-, -, hF, hG, hH, hA, hP⟩ := ha
  have f0 : (0 : Int) ≤ ((-10000) + ((1) * ρ 0 + 0)) := hF _ (List.mem_of_getElem? (i := 0) rfl)
  have f1 : (0 : Int) ≤ ((99999) + ((-1) * ρ 0 + 0)) := hF _ (List.mem_of_getElem? (i := 1) rfl)
  have p0 : ((0) + ((1) * ρ 1 + 0)) = szZ ((0) + ((1) * ρ 0 + 0)) := hP _ (List.mem_of_getElem? (i := 0) rfl)
  have q : ρ 1 = 5 := by
    have e : szZ (ρ 0) = 5 := by
      unfold szZ
      rw [if_pos (by omega)]
      unfold szP
      rw [if_neg (by omega), if_neg (by omega), if_neg (by omega), if_neg (by omega), if_pos (by omega)]
    rw [show ((0 : Int) + (1 * ρ 0 + 0)) = ρ 0 by omega, e] at p0
    omega
  refine ⟨_, List.mem_cons_self, ρ, fun _ _ => rfl, fun q hq => absurd hq List.not_mem_nil, trivial, fun f hf => ?_, fun q hq => absurd hq List.not_mem_nil, fun q hq => absurd hq List.not_mem_nil, fun q hq => absurd hq List.not_mem_nil, fun q hq => ?_⟩
  · simp only [List.mem_cons, List.not_mem_nil, or_false] at hf
    rcases hf with rfl | rfl
    · show (0 : Int) ≤ ((5) + ((-1) * ρ 1 + 0))
      omega
    · show (0 : Int) ≤ ((-5) + ((1) * ρ 1 + 0))
      omega
  · exact absurd hq List.not_mem_nil
/-- size_p6 -/
theorem lem_123_ok (hU : uqG G C) : lem_123.1.2.1 = [] ∧ lemOK (PRd G C D xs) G rgs lem_123 := by
  refine ⟨rfl, fun ρ h ha hT => ?_⟩
  obtain ⟨-, -, hF, hG, hH, hA, hP⟩ := ha
  have f0 : (0 : Int) ≤ ((-100000) + ((1) * ρ 0 + 0)) := hF _ (List.mem_of_getElem? (i := 0) rfl)
  have f1 : (0 : Int) ≤ ((999999) + ((-1) * ρ 0 + 0)) := hF _ (List.mem_of_getElem? (i := 1) rfl)
  have p0 : ((0) + ((1) * ρ 1 + 0)) = szZ ((0) + ((1) * ρ 0 + 0)) := hP _ (List.mem_of_getElem? (i := 0) rfl)
  have q : ρ 1 = 6 := by
    have e : szZ (ρ 0) = 6 := by
      unfold szZ
      rw [if_pos (by omega)]
      unfold szP
      rw [if_neg (by omega), if_neg (by omega), if_neg (by omega), if_neg (by omega), if_neg (by omega), if_pos (by omega)]
    rw [show ((0 : Int) + (1 * ρ 0 + 0)) = ρ 0 by omega, e] at p0
    omega
  refine ⟨_, List.mem_cons_self, ρ, fun _ _ => rfl, fun q hq => absurd hq List.not_mem_nil, trivial, fun f hf => ?_, fun q hq => absurd hq List.not_mem_nil, fun q hq => absurd hq List.not_mem_nil, fun q hq => absurd hq List.not_mem_nil, fun q hq => ?_⟩
  · simp only [List.mem_cons, List.not_mem_nil, or_false] at hf
    rcases hf with rfl | rfl
    · show (0 : Int) ≤ ((6) + ((-1) * ρ 1 + 0))
      omega
    · show (0 : Int) ≤ ((-6) + ((1) * ρ 1 + 0))
      omega
  · exact absurd hq List.not_mem_nil
/-- size_p7 -/
theorem lem_124_ok (hU : uqG G C) : lem_124.1.2.1 = [] ∧ lemOK (PRd G C D xs) G rgs lem_124 := by
  refine ⟨rfl, fun ρ h ha hT => ?_⟩
  obtain ⟨-, -, hF, hG, hH, hA, hP⟩ := ha
  have f0 : (0 : Int) ≤ ((-1000000) + ((1) * ρ 0 + 0)) := hF _ (List.mem_of_getElem? (i := 0) rfl)
  have f1 : (0 : Int) ≤ ((9999999) + ((-1) * ρ 0 + 0)) := hF _ (List.mem_of_getElem? (i := 1) rfl)
  have p0 : ((0) + ((1) * ρ 1 + 0)) = szZ ((0) + ((1) * ρ 0 + 0)) := hP _ (List.mem_of_getElem? (i := 0) rfl)
  have q : ρ 1 = 7 := by
    have e : szZ (ρ 0) = 7 := by
      unfold szZ
      rw [if_pos (by omega)]
      unfold szP
      rw [if_neg (by omega), if_neg (by omega), if_neg (by omega), if_neg (by omega), if_neg (by omega), if_neg (by omega), if_pos (by omega)]
    rw [show ((0 : Int) + (1 * ρ 0 + 0)) = ρ 0 by omega, e] at p0
    omega
  refine ⟨_, List.mem_cons_self, ρ, fun _ _ => rfl, fun q hq => absurd hq List.not_mem_nil, trivial, fun f hf => ?_, fun q hq => absurd hq List.not_mem_nil, fun q hq => absurd hq List.not_mem_nil, fun q hq => absurd hq List.not_mem_nil, fun q hq => ?_⟩
  · simp only [List.mem_cons, List.not_mem_nil, or_false] at hf
    rcases hf with rfl | rfl
    · show (0 : Int) ≤ ((7) + ((-1) * ρ 1 + 0))
      omega
    · show (0 : Int) ≤ ((-7) + ((1) * ρ 1 + 0))
      omega
  · exact absurd hq List.not_mem_nil
/-- size_p8 -/
theorem lem_125_ok (hU : uqG G C) : lem_125.1.2.1 = [] ∧ lemOK (PRd G C D xs) G rgs lem_125 := by
  refine ⟨rfl, fun ρ h ha hT => ?_⟩
  obtain ⟨-, -, hF, hG, hH, hA, hP⟩ := ha
  have f0 : (0 : Int) ≤ ((-10000000) + ((1) * ρ 0 + 0)) := hF _ (List.mem_of_getElem? (i := 0) rfl)
  have f1 : (0 : Int) ≤ ((99999999) + ((-1) * ρ 0 + 0)) := hF _ (List.mem_of_getElem? (i := 1) rfl)
  have p0 : ((0) + ((1) * ρ 1 + 0)) = szZ ((0) + ((1) * ρ 0 + 0)) := hP _ (List.mem_of_getElem? (i := 0) rfl)
  have q : ρ 1 = 8 := by
    have e : szZ (ρ 0) = 8 := by
      unfold szZ
      rw [if_pos (by omega)]
      unfold szP
      rw [if_neg (by omega), if_neg (by omega), if_neg (by omega), if_neg (by omega), if_neg (by omega), if_neg (by omega), if_neg (by omega), if_pos (by omega)]
    rw [show ((0 : Int) + (1 * ρ 0 + 0)) = ρ 0 by omega, e] at p0
    omega
  refine ⟨_, List.mem_cons_self, ρ, fun _ _ => rfl, fun q hq => absurd hq List.not_mem_nil, trivial, fun f hf => ?_, fun q hq => absurd hq List.not_mem_nil, fun q hq => absurd hq List.not_mem_nil, fun q hq => absurd hq List.not_mem_nil, fun q hq => ?_⟩
  · simp only [List.mem_cons, List.not_mem_nil, or_false] at hf
    rcases hf with rfl | rfl
    · show (0 : Int) ≤ ((8) + ((-1) * ρ 1 + 0))
      omega
    · show (0 : Int) ≤ ((-8) + ((1) * ρ 1 + 0))
      omega
  · exact absurd hq List.not_mem_nil
/-- size_p9 -/
theorem lem_126_ok (hU : uqG G C) : lem_126.1.2.1 = [] ∧ lemOK (PRd G C D xs) G rgs lem_126 := by
  refine ⟨rfl, fun ρ h ha hT => ?_⟩
  obtain ⟨-, -, hF, hG, hH, hA, hP⟩ := ha
  have f0 : (0 : Int) ≤ ((-100000000) + ((1) * ρ 0 + 0)) := hF _ (List.mem_of_getElem? (i := 0) rfl)
  have f1 : (0 : Int) ≤ ((999999999) + ((-1) * ρ 0 + 0)) := hF _ (List.mem_of_getElem? (i := 1) rfl)
  have p0 : ((0) + ((1) * ρ 1 + 0)) = szZ ((0) + ((1) * ρ 0 + 0)) := hP _ (List.mem_of_getElem? (i := 0) rfl)
  have q : ρ 1 = 9 := by
    have e : szZ (ρ 0) = 9 := by
      unfold szZ
      rw [if_pos (by omega)]
      unfold szP
      rw [if_neg (by omega), if_neg (by omega), if_neg (by omega), if_neg (by omega), if_neg (by omega), if_neg (by omega), if_neg (by omega), if_neg (by omega), if_pos (by omega)]
    rw [show ((0 : Int) + (1 * ρ 0 + 0)) = ρ 0 by omega, e] at p0
    omega
  refine ⟨_, List.mem_cons_self, ρ, fun _ _ => rfl, fun q hq => absurd hq List.not_mem_nil, trivial, fun f hf => ?_, fun q hq => absurd hq List.not_mem_nil, fun q hq => absurd hq List.not_mem_nil, fun q hq => absurd hq List.not_mem_nil, fun q hq => ?_⟩
  · simp only [List.mem_cons, List.not_mem_nil, or_false] at hf
    rcases hf with rfl | rfl
    · show (0 : Int) ≤ ((9) + ((-1) * ρ 1 + 0))
      omega
    · show (0 : Int) ≤ ((-9) + ((1) * ρ 1 + 0))
      omega
  · exact absurd hq List.not_mem_nil
/-- size_p10 -/
theorem lem_127_ok (hU : uqG G C) : lem_127.1.2.1 = [] ∧ lemOK (PRd G C D xs) G rgs lem_127 := by
  refine ⟨rfl, fun ρ h ha hT => ?_⟩
  obtain ⟨-, -, hF, hG, hH, hA, hP⟩ := ha
  have f0 : (0 : Int) ≤ ((-1000000000) + ((1) * ρ 0 + 0)) := hF _ (List.mem_of_getElem? (i := 0) rfl)
  have p0 : ((0) + ((1) * ρ 1 + 0)) = szZ ((0) + ((1) * ρ 0 + 0)) := hP _ (List.mem_of_getElem? (i := 0) rfl)
  have q : ρ 1 = 10 := by
    have e : szZ (ρ 0) = 10 := by
      unfold szZ
      rw [if_pos (by omega)]
      unfold szP
      rw [if_neg (by omega), if_neg (by omega), if_neg (by omega), if_neg (by omega), if_neg (by omega), if_neg (by omega), if_neg (by omega), if_neg (by omega), if_neg (by omega)]
    rw [show ((0 : Int) + (1 * ρ 0 + 0)) = ρ 0 by omega, e] at p0
    omega
  refine ⟨_, List.mem_cons_self, ρ, fun _ _ => rfl, fun q hq => absurd hq List.not_mem_nil, trivial, fun f hf => ?_, fun q hq => absurd hq List.not_mem_nil, fun q hq => absurd hq List.not_mem_nil, fun q hq => absurd hq List.not_mem_nil, fun q hq => ?_⟩
  · simp only [List.mem_cons, List.not_mem_nil, or_false] at hf
    rcases hf with rfl | rfl
    · show (0 : Int) ≤ ((10) + ((-1) * ρ 1 + 0))
      omega
    · show (0 : Int) ≤ ((-10) + ((1) * ρ 1 + 0))
      omega
  · exact absurd hq List.not_mem_nil
/-- size_n2 -/
theorem lem_128_ok (hU : uqG G C) : lem_128.1.2.1 = [] ∧ lemOK (PRd G C D xs) G rgs lem_128 := by
  refine ⟨rfl, fun ρ h ha hT => ?_⟩
  obtain ⟨-, -, hF, hG, hH, hA, hP⟩ := ha
  have f0 : (0 : Int) ≤ ((-1) + ((-1) * ρ 0 + 0)) := hF _ (List.mem_of_getElem? (i := 0) rfl)
  have f1 : (0 : Int) ≤ ((9) + ((1) * ρ 0 + 0)) := hF _ (List.mem_of_getElem? (i := 1) rfl)
  have p0 : ((0) + ((1) * ρ 1 + 0)) = szZ ((0) + ((1) * ρ 0 + 0)) := hP _ (List.mem_of_getElem? (i := 0) rfl)
  have q : ρ 1 = 2 := by
    have e : szZ (ρ 0) = 2 := by
      unfold szZ
      rw [if_neg (by omega)]
      unfold szP
      rw [if_pos (by omega)]
      rfl
    rw [show ((0 : Int) + (1 * ρ 0 + 0)) = ρ 0 by omega, e] at p0
    omega
  refine ⟨_, List.mem_cons_self, ρ, fun _ _ => rfl, fun q hq => absurd hq List.not_mem_nil, trivial, fun f hf => ?_, fun q hq => absurd hq List.not_mem_nil, fun q hq => absurd hq List.not_mem_nil, fun q hq => absurd hq List.not_mem_nil, fun q hq => ?_⟩
  · simp only [List.mem_cons, List.not_mem_nil, or_false] at hf
    rcases hf with rfl | rfl
    · show (0 : Int) ≤ ((2) + ((-1) * ρ 1 + 0))
      omega
    · show (0 : Int) ≤ ((-2) + ((1) * ρ 1 + 0))
      omega
  · exact absurd hq List.not_mem_nil
/-- size_n3 -/
theorem lem_129_ok (hU : uqG G C) : lem_129.1.2.1 = [] ∧ lemOK (PRd G C D xs) G rgs lem_129 := by
  refine ⟨rfl, fun ρ h ha hT => ?_⟩
  obtain ⟨-, -, hF, hG, hH, hA, hP⟩ := ha
  have f0 : (0 : Int) ≤ ((-10) + ((-1) * ρ 0 + 0)) := hF _ (List.mem_of_getElem? (i := 0) rfl)
  have f1 : (0 : Int) ≤ ((99) + ((1) * ρ 0 + 0)) := hF _ (List.mem_of_getElem? (i := 1) rfl)
  have p0 : ((0) + ((1) * ρ 1 + 0)) = szZ ((0) + ((1) * ρ 0 + 0)) := hP _ (List.mem_of_getElem? (i := 0) rfl)
  have q : ρ 1 = 3 := by
    have e : szZ (ρ 0) = 3 := by
      unfold szZ
      rw [if_neg (by omega)]
      unfold szP
      rw [if_neg (by omega), if_pos (by omega)]
      rfl
    rw [show ((0 : Int) + (1 * ρ 0 + 0)) = ρ 0 by omega, e] at p0
    omega
  refine ⟨_, List.mem_cons_self, ρ, fun _ _ => rfl, fun q hq => absurd hq List.not_mem_nil, trivial, fun f hf => ?_, fun q hq => absurd hq List.not_mem_nil, fun q hq => absurd hq List.not_mem_nil, fun q hq => absurd hq List.not_mem_nil, fun q hq => ?_⟩
  · simp only [List.mem_cons, List.not_mem_nil, or_false] at hf
    rcases hf with rfl | rfl
    · show (0 : Int) ≤ ((3) + ((-1) * ρ 1 + 0))
      omega
    · show (0 : Int) ≤ ((-3) + ((1) * ρ 1 + 0))
      omega
  · exact absurd hq List.not_mem_nil
/-- size_n4 -/
theorem lem_130_ok (hU : uqG G C) : lem_130.1.2.1 = [] ∧ lemOK (PRd G C D xs) G rgs lem_130 := by
  refine ⟨rfl, fun ρ h ha hT => ?_⟩
  obtain ⟨-, -, hF, hG, hH, hA, hP⟩ := ha
  have f0 : (0 : Int) ≤ ((-100) + ((-1) * ρ 0 + 0)) := hF _ (List.mem_of_getElem? (i := 0) rfl)
  have f1 : (0 : Int) ≤ ((999) + ((1) * ρ 0 + 0)) := hF _ (List.mem_of_getElem? (i := 1) rfl)
  have p0 : ((0) + ((1) * ρ 1 + 0)) = szZ ((0) + ((1) * ρ 0 + 0)) := hP _ (List.mem_of_getElem? (i := 0) rfl)
  have q : ρ 1 = 4 := by
    have e : szZ (ρ 0) = 4 := by
      unfold szZ
      rw [if_neg (by omega)]
      unfold szP
      rw [if_neg (by omega), if_neg (by omega), if_pos (by omega)]
      rfl
    rw [show ((0 : Int) + (1 * ρ 0 + 0)) = ρ 0 by omega, e] at p0
    omega
  refine ⟨_, List.mem_cons_self, ρ, fun _ _ => rfl, fun q hq => absurd hq List.not_mem_nil, trivial, fun f hf => ?_, fun q hq => absurd hq List.not_mem_nil, fun q hq => absurd hq List.not_mem_nil, fun q hq => absurd hq List.not_mem_nil, fun q hq => ?_⟩
  · simp only [List.mem_cons, List.not_mem_nil, or_false] at hf
    rcases hf with rfl | rfl
    · show (0 : Int) ≤ ((4) + ((-1) * ρ 1 + 0))
      omega
    · show (0 : Int) ≤ ((-4) + ((1) * ρ 1 + 0))
      omega
  · exact absurd hq List.not_mem_nil
/-- size_n5 -/
theorem lem_131_ok (hU : uqG G C) : lem_131.1.2.1 = [] ∧ lemOK (PRd G C D xs) G rgs lem_131 := by
  refine ⟨rfl, fun ρ h ha hT => ?_⟩
  obtain ⟨-, -, hF, hG, hH, hA, hP⟩ := ha
  have f0 : (0 : Int) ≤ ((-1000) + ((-1) * ρ 0 + 0)) := hF _ (List.mem_of_getElem? (i := 0) rfl)
  have f1 : (0 : Int) ≤ ((9999) + ((1) * ρ 0 + 0)) := hF _ (List.mem_of_getElem? (i := 1) rfl)
  have p0 : ((0) + ((1) * ρ 1 + 0)) = szZ ((0) + ((1) * ρ 0 + 0)) := hP _ (List.mem_of_getElem? (i := 0) rfl)
  have q : ρ 1 = 5 := by
    have e : szZ (ρ 0) = 5 := by
      unfold szZ
      rw [if_neg (by omega)]
      unfold szP
      rw [if_neg (by omega), if_neg (by omega), if_neg (by omega), if_pos (by omega)]
      rfl
    rw [show ((0 : Int) + (1 * ρ 0 + 0)) = ρ 0 by omega, e] at p0
    omega
  refine ⟨_, List.mem_cons_self, ρ, fun _ _ => rfl, fun q hq => absurd hq List.not_mem_nil, trivial, fun f hf => ?_, fun q hq => absurd hq List.not_mem_nil, fun q hq => absurd hq List.not_mem_nil, fun q hq => absurd hq List.not_mem_nil, fun q hq => ?_⟩
  · simp only [List.mem_cons, List.not_mem_nil, or_false] at hf
    rcases hf with rfl | rfl
    · show (0 : Int) ≤ ((5) + ((-1) * ρ 1 + 0))
      omega
    · show (0 : Int) ≤ ((-5) + ((1) * ρ 1 + 0))
      omega
  · exact absurd hq List.not_mem_nil
/-- size_n6 -/
theorem lem_132_ok (hU : uqG G C) : lem_132.1.2.1 = [] ∧ lemOK (PRd G C D xs) G rgs lem_132 := by
  refine ⟨rfl, fun ρ h ha hT => ?_⟩
  obtain ⟨-, -, hF, hG, hH, hA, hP⟩ := ha
  have f0 : (0 : Int) ≤ ((-10000) + ((-1) * ρ 0 + 0)) := hF _ (List.mem_of_getElem? (i := 0) rfl)
  have f1 : (0 : Int) ≤ ((99999) + ((1) * ρ 0 + 0)) := hF _ (List.mem_of_getElem? (i := 1) rfl)
  have p0 : ((0) + ((1) * ρ 1 + 0)) = szZ ((0) + ((1) * ρ 0 + 0)) := hP _ (List.mem_of_getElem? (i := 0) rfl)
  have q : ρ 1 = 6 := by
    have e : szZ (ρ 0) = 6 := by
      unfold szZ
      rw [if_neg (by omega)]
      unfold szP
      rw [if_neg (by omega), if_neg (by omega), if_neg (by omega), if_neg (by omega), if_pos (by omega)]
      rfl
    rw [show ((0 : Int) + (1 * ρ 0 + 0)) = ρ 0 by omega, e] at p0
    omega
  refine ⟨_, List.mem_cons_self, ρ, fun _ _ => rfl, fun q hq => absurd hq List.not_mem_nil, trivial, fun f hf => ?_, fun q hq => absurd hq List.not_mem_nil, fun q hq => absurd hq List.not_mem_nil, fun q hq => absurd hq List.not_mem_nil, fun q hq => ?_⟩
  · simp only [List.mem_cons, List.not_mem_nil, or_false] at hf
    rcases hf with rfl | rfl
    · show (0 : Int) ≤ ((6) + ((-1) * ρ 1 + 0))
      omega
    · show (0 : Int) ≤ ((-6) + ((1) * ρ 1 + 0))
      omega
  · exact absurd hq List.not_mem_nil
/-- size_n7 -/
theorem lem_133_ok (hU : uqG G C) : lem_133.1.2.1 = [] ∧ lemOK (PRd G C D xs) G rgs lem_133 := by
  refine ⟨rfl, fun ρ h ha hT => ?_⟩
  obtain ⟨-, -, hF, hG, hH, hA, hP⟩ := ha
  have f0 : (0 : Int) ≤ ((-100000) + ((-1) * ρ 0 + 0)) := hF _ (List.mem_of_getElem? (i := 0) rfl)
  have f1 : (0 : Int) ≤ ((999999) + ((1) * ρ 0 + 0)) := hF _ (List.mem_of_getElem? (i := 1) rfl)
  have p0 : ((0) + ((1) * ρ 1 + 0)) = szZ ((0) + ((1) * ρ 0 + 0)) := hP _ (List.mem_of_getElem? (i := 0) rfl)
  have q : ρ 1 = 7 := by
    have e : szZ (ρ 0) = 7 := by
      unfold szZ
      rw [if_neg (by omega)]
      unfold szP
      rw [if_neg (by omega), if_neg (by omega), if_neg (by omega), if_neg (by omega), if_neg (by omega), if_pos (by omega)]
      rfl
    rw [show ((0 : Int) + (1 * ρ 0 + 0)) = ρ 0 by omega, e] at p0
    omega
  refine ⟨_, List.mem_cons_self, ρ, fun _ _ => rfl, fun q hq => absurd hq List.not_mem_nil, trivial, fun f hf => ?_, fun q hq => absurd hq List.not_mem_nil, fun q hq => absurd hq List.not_mem_nil, fun q hq => absurd hq List.not_mem_nil, fun q hq => ?_⟩
  · simp only [List.mem_cons, List.not_mem_nil, or_false] at hf
    rcases hf with rfl | rfl
    · show (0 : Int) ≤ ((7) + ((-1) * ρ 1 + 0))
      omega
    · show (0 : Int) ≤ ((-7) + ((1) * ρ 1 + 0))
      omega
  · exact absurd hq List.not_mem_nil
/-- size_n8 -/
theorem lem_134_ok (hU : uqG G C) : lem_134.1.2.1 = [] ∧ lemOK (PRd G C D xs) G rgs lem_134 := by
  refine ⟨rfl, fun ρ h ha hT => ?_⟩
  obtain ⟨-, -, hF, hG, hH, hA, hP⟩ := ha
  have f0 : (0 : Int) ≤ ((-1000000) + ((-1) * ρ 0 + 0)) := hF _ (List.mem_of_getElem? (i := 0) rfl)
  have f1 : (0 : Int) ≤ ((9999999) + ((1) * ρ 0 + 0)) := hF _ (List.mem_of_getElem? (i := 1) rfl)
  have p0 : ((0) + ((1) * ρ 1 + 0)) = szZ ((0) + ((1) * ρ 0 + 0)) := hP _ (List.mem_of_getElem? (i := 0) rfl)
  have q : ρ 1 = 8 := by
    have e : szZ (ρ 0) = 8 := by
      unfold szZ
      rw [if_neg (by omega)]
      unfold szP
      rw [if_neg (by omega), if_neg (by omega), if_neg (by omega), if_neg (by omega), if_neg (by omega), if_neg (by omega), if_pos (by omega)]
      rfl
    rw [show ((0 : Int) + (1 * ρ 0 + 0)) = ρ 0 by omega, e] at p0
    omega
  refine ⟨_, List.mem_cons_self, ρ, fun _ _ => rfl, fun q hq => absurd hq List.not_mem_nil, trivial, fun f hf => ?_, fun q hq => absurd hq List.not_mem_nil, fun q hq => absurd hq List.not_mem_nil, fun q hq => absurd hq List.not_mem_nil, fun q hq => ?_⟩
  · simp only [List.mem_cons, List.not_mem_nil, or_false] at hf
    rcases hf with rfl | rfl
    · show (0 : Int) ≤ ((8) + ((-1) * ρ 1 + 0))
      omega
    · show (0 : Int) ≤ ((-8) + ((1) * ρ 1 + 0))
      omega
  · exact absurd hq List.not_mem_nil
/-- size_n9 -/
theorem lem_135_ok (hU : uqG G C) : lem_135.1.2.1 = [] ∧ lemOK (PRd G C D xs) G rgs lem_135 := by
  refine ⟨rfl, fun ρ h ha hT => ?_⟩
  obtain ⟨-, -, hF, hG, hH, hA, hP⟩ := ha
  have f0 : (0 : Int) ≤ ((-10000000) + ((-1) * ρ 0 + 0)) := hF _ (List.mem_of_getElem? (i := 0) rfl)
  have f1 : (0 : Int) ≤ ((99999999) + ((1) * ρ 0 + 0)) := hF _ (List.mem_of_getElem? (i := 1) rfl)
  have p0 : ((0) + ((1) * ρ 1 + 0)) = szZ ((0) + ((1) * ρ 0 + 0)) := hP _ (List.mem_of_getElem? (i := 0) rfl)
  have q : ρ 1 = 9 := by
    have e : szZ (ρ 0) = 9 := by
      unfold szZ
      rw [if_neg (by omega)]
      unfold szP
      rw [if_neg (by omega), if_neg (by omega), if_neg (by omega), if_neg (by omega), if_neg (by omega), if_neg (by omega), if_neg (by omega), if_pos (by omega)]
      rfl
    rw [show ((0 : Int) + (1 * ρ 0 + 0)) = ρ 0 by omega, e] at p0
    omega
  refine ⟨_, List.mem_cons_self, ρ, fun _ _ => rfl, fun q hq => absurd hq List.not_mem_nil, trivial, fun f hf => ?_, fun q hq => absurd hq List.not_mem_nil, fun q hq => absurd hq List.not_mem_nil, fun q hq => absurd hq List.not_mem_nil, fun q hq => ?_⟩
  · simp only [List.mem_cons, List.not_mem_nil, or_false] at hf
    rcases hf with rfl | rfl
    · show (0 : Int) ≤ ((9) + ((-1) * ρ 1 + 0))
      omega
    · show (0 : Int) ≤ ((-9) + ((1) * ρ 1 + 0))
      omega
  · exact absurd hq List.not_mem_nil
/-- size_n10 -/
theorem lem_136_ok (hU : uqG G C) : lem_136.1.2.1 = [] ∧ lemOK (PRd G C D xs) G rgs lem_136 := by
  refine ⟨rfl, fun ρ h ha hT => ?_⟩
  obtain ⟨-, -, hF, hG, hH, hA, hP⟩ := ha
  have f0 : (0 : Int) ≤ ((-100000000) + ((-1) * ρ 0 + 0)) := hF _ (List.mem_of_getElem? (i := 0) rfl)
  have f1 : (0 : Int) ≤ ((999999999) + ((1) * ρ 0 + 0)) := hF _ (List.mem_of_getElem? (i := 1) rfl)
  have p0 : ((0) + ((1) * ρ 1 + 0)) = szZ ((0) + ((1) * ρ 0 + 0)) := hP _ (List.mem_of_getElem? (i := 0) rfl)
  have q : ρ 1 = 10 := by
    have e : szZ (ρ 0) = 10 := by
      unfold szZ
      rw [if_neg (by omega)]
      unfold szP
      rw [if_neg (by omega), if_neg (by omega), if_neg (by omega), if_neg (by omega), if_neg (by omega), if_neg (by omega), if_neg (by omega), if_neg (by omega), if_pos (by omega)]
      rfl
    rw [show ((0 : Int) + (1 * ρ 0 + 0)) = ρ 0 by omega, e] at p0
    omega
  refine ⟨_, List.mem_cons_self, ρ, fun _ _ => rfl, fun q hq => absurd hq List.not_mem_nil, trivial, fun f hf => ?_, fun q hq => absurd hq List.not_mem_nil, fun q hq => absurd hq List.not_mem_nil, fun q hq => absurd hq List.not_mem_nil, fun q hq => ?_⟩
  · simp only [List.mem_cons, List.not_mem_nil, or_false] at hf
    rcases hf with rfl | rfl
    · show (0 : Int) ≤ ((10) + ((-1) * ρ 1 + 0))
      omega
    · show (0 : Int) ≤ ((-10) + ((1) * ρ 1 + 0))
      omega
  · exact absurd hq List.not_mem_nil
/-- size_n11 -/
theorem lem_137_ok (hU : uqG G C) : lem_137.1.2.1 = [] ∧ lemOK (PRd G C D xs) G rgs lem_137 := by
  refine ⟨rfl, fun ρ h ha hT => ?_⟩
  obtain ⟨-, -, hF, hG, hH, hA, hP⟩ := ha
  have f0 : (0 : Int) ≤ ((-1000000000) + ((-1) * ρ 0 + 0)) := hF _ (List.mem_of_getElem? (i := 0) rfl)
  have p0 : ((0) + ((1) * ρ 1 + 0)) = szZ ((0) + ((1) * ρ 0 + 0)) := hP _ (List.mem_of_getElem? (i := 0) rfl)
  have q : ρ 1 = 11 := by
    have e : szZ (ρ 0) = 11 := by
      unfold szZ
      rw [if_neg (by omega)]
      unfold szP
      rw [if_neg (by omega), if_neg (by omega), if_neg (by omega), if_neg (by omega), if_neg (by omega), if_neg (by omega), if_neg (by omega), if_neg (by omega), if_neg (by omega)]
      rfl
    rw [show ((0 : Int) + (1 * ρ 0 + 0)) = ρ 0 by omega, e] at p0
    omega
  refine ⟨_, List.mem_cons_self, ρ, fun _ _ => rfl, fun q hq => absurd hq List.not_mem_nil, trivial, fun f hf => ?_, fun q hq => absurd hq List.not_mem_nil, fun q hq => absurd hq List.not_mem_nil, fun q hq => absurd hq List.not_mem_nil, fun q hq => ?_⟩
  · simp only [List.mem_cons, List.not_mem_nil, or_false] at hf
    rcases hf with rfl | rfl
    · show (0 : Int) ≤ ((11) + ((-1) * ρ 1 + 0))
      omega
    · show (0 : Int) ≤ ((-11) + ((1) * ρ 1 + 0))
      omega
  · exact absurd hq List.not_mem_nil
/-- cap0 -/
theorem lem_138_ok (hU : uqG G C) : lem_138.1.2.1 = [] ∧ lemOK (PRd G C D xs) G rgs lem_138 := by
  refine ⟨rfl, fun ρ h ha hT => ?_⟩
  obtain ⟨-, -, hF, hG, hH, hA, hP⟩ := ha
  have g1 : G (ρ 2).toNat = 149 := by
    have q := (hG _ (List.mem_of_getElem? (i := 1) rfl)).2
    rwa [show ev ρ (0, [(2, 1)]) = ρ 2 from ev_v] at q
  have p0 : ((0) + ((1) * ρ 4 + 0)) = szZ ((0) + ((1) * ρ 1 + 0)) := hP _ (List.mem_of_getElem? (i := 0) rfl)
  rcases (by omega : ρ 3 + ρ 4 ≤ 16 ∨ 17 ≤ ρ 3 + ρ 4) with hc | hc
  · refine ⟨_, List.mem_cons_self, ρ, fun _ _ => rfl, fun q hq => absurd hq List.not_mem_nil, trivial, fun f hf => ?_, fun q hq => absurd hq List.not_mem_nil, fun q hq => absurd hq List.not_mem_nil, fun q hq => absurd hq List.not_mem_nil, fun q hq => ?_⟩
    · simp only [List.mem_cons, List.not_mem_nil, or_false] at hf
      subst hf
      show (0 : Int) ≤ ((16) + ((-1) * ρ 3 + ((-1) * ρ 4 + 0)))
      omega
    · exact absurd hq List.not_mem_nil
  · refine ⟨_, (List.mem_cons_of_mem _ List.mem_cons_self), ρ, fun _ _ => rfl, fun q hq => absurd hq List.not_mem_nil, trivial, fun f hf => ?_, fun q hq => absurd hq List.not_mem_nil, fun q hq => absurd hq List.not_mem_nil, fun q hq => absurd hq List.not_mem_nil, fun q hq => ?_⟩
    · simp only [List.mem_cons, List.not_mem_nil, or_false] at hf
      subst hf
      show (0 : Int) ≤ ((-17) + ((1) * ρ 3 + ((1) * ρ 4 + 0)))
      omega
    · exact absurd hq List.not_mem_nil
/-- capX0 -/
theorem lem_139_ok (hU : uqG G C) : lem_139.1.2.1 = [] ∧ lemOK (PRd G C D xs) G rgs lem_139 := by
  refine ⟨rfl, fun ρ h ha hT => ?_⟩
  obtain ⟨-, -, hF, hG, hH, hA, hP⟩ := ha
  have f0 : (0 : Int) ≤ ((-17) + ((1) * ρ 3 + ((1) * ρ 4 + 0))) := hF _ (List.mem_of_getElem? (i := 0) rfl)
  have f1 : (0 : Int) ≤ ((16) + ((-1) * ρ 3 + ((-1) * ρ 4 + 0))) := hF _ (List.mem_of_getElem? (i := 1) rfl)
  have g1 : G (ρ 2).toNat = 149 := by
    have q := (hG _ (List.mem_of_getElem? (i := 1) rfl)).2
    rwa [show ev ρ (0, [(2, 1)]) = ρ 2 from ev_v] at q
  have p0 : ((0) + ((1) * ρ 4 + 0)) = szZ ((0) + ((1) * ρ 1 + 0)) := hP _ (List.mem_of_getElem? (i := 0) rfl)
  exact absurd f0 (by omega)
/-- capC0 -/
theorem lem_140_ok (hU : uqG G C) : lem_140.1.2.1 = [] ∧ lemOK (PRd G C D xs) G rgs lem_140 := by
  refine ⟨rfl, fun ρ h ha hT => ?_⟩
  obtain ⟨-, -, hF, hG, hH, hA, hP⟩ := ha
  have g1 : G (ρ 1).toNat = 149 := by
    have q := (hG _ (List.mem_of_getElem? (i := 1) rfl)).2
    rwa [show ev ρ (0, [(1, 1)]) = ρ 1 from ev_v] at q
  rcases (by omega : ρ 2 + 1 ≤ 16 ∨ 16 ≤ ρ 2) with hc | hc
  · refine ⟨_, List.mem_cons_self, ρ, fun _ _ => rfl, fun q hq => absurd hq List.not_mem_nil, trivial, fun f hf => ?_, fun q hq => absurd hq List.not_mem_nil, fun q hq => absurd hq List.not_mem_nil, fun q hq => absurd hq List.not_mem_nil, fun q hq => ?_⟩
    · simp only [List.mem_cons, List.not_mem_nil, or_false] at hf
      subst hf
      show (0 : Int) ≤ ((15) + ((-1) * ρ 2 + 0))
      omega
    · exact absurd hq List.not_mem_nil
  · refine ⟨_, (List.mem_cons_of_mem _ List.mem_cons_self), ρ, fun _ _ => rfl, fun q hq => absurd hq List.not_mem_nil, trivial, fun f hf => ?_, fun q hq => absurd hq List.not_mem_nil, fun q hq => absurd hq List.not_mem_nil, fun q hq => absurd hq List.not_mem_nil, fun q hq => ?_⟩
    · simp only [List.mem_cons, List.not_mem_nil, or_false] at hf
      subst hf
      show (0 : Int) ≤ ((-16) + ((1) * ρ 2 + 0))
      omega
    · exact absurd hq List.not_mem_nil
/-- capCX0 -/
theorem lem_141_ok (hU : uqG G C) : lem_141.1.2.1 = [] ∧ lemOK (PRd G C D xs) G rgs lem_141 := by
  refine ⟨rfl, fun ρ h ha hT => ?_⟩
  obtain ⟨-, -, hF, hG, hH, hA, hP⟩ := ha
  have f0 : (0 : Int) ≤ ((-16) + ((1) * ρ 2 + 0)) := hF _ (List.mem_of_getElem? (i := 0) rfl)
  have f1 : (0 : Int) ≤ ((15) + ((-1) * ρ 2 + 0)) := hF _ (List.mem_of_getElem? (i := 1) rfl)
  have g1 : G (ρ 1).toNat = 149 := by
    have q := (hG _ (List.mem_of_getElem? (i := 1) rfl)).2
    rwa [show ev ρ (0, [(1, 1)]) = ρ 1 from ev_v] at q
  exact absurd f0 (by omega)
/-- room0 -/
theorem lem_142_ok (hU : uqG G C) : lem_142.1.2.1 = [] ∧ lemOK (PRd G C D xs) G rgs lem_142 := by
  refine ⟨rfl, fun ρ h ha hT => ?_⟩
  obtain ⟨-, -, hF, hG, hH, hA, hP⟩ := ha
  have g2 : G (ρ 2).toNat = 149 := by
    have q := (hG _ (List.mem_of_getElem? (i := 2) rfl)).2
    rwa [show ev ρ (0, [(2, 1)]) = ρ 2 from ev_v] at q
  rcases (by omega : ρ 3 ≤ -104 ∨ -103 ≤ ρ 3) with hc | hc
  · refine ⟨_, List.mem_cons_self, ρ, fun _ _ => rfl, fun q hq => absurd hq List.not_mem_nil, trivial, fun f hf => ?_, fun q hq => absurd hq List.not_mem_nil, fun q hq => absurd hq List.not_mem_nil, fun q hq => absurd hq List.not_mem_nil, fun q hq => ?_⟩
    · simp only [List.mem_cons, List.not_mem_nil, or_false] at hf
      subst hf
      show (0 : Int) ≤ ((-104) + ((-1) * ρ 3 + 0))
      omega
    · exact absurd hq List.not_mem_nil
  · refine ⟨_, (List.mem_cons_of_mem _ List.mem_cons_self), ρ, fun _ _ => rfl, fun q hq => absurd hq List.not_mem_nil, trivial, fun f hf => ?_, fun q hq => absurd hq List.not_mem_nil, fun q hq => absurd hq List.not_mem_nil, fun q hq => absurd hq List.not_mem_nil, fun q hq => ?_⟩
    · simp only [List.mem_cons, List.not_mem_nil, or_false] at hf
      subst hf
      show (0 : Int) ≤ ((103) + ((1) * ρ 3 + 0))
      omega
    · exact absurd hq List.not_mem_nil
/-- cap1 -/
theorem lem_143_ok (hU : uqG G C) : lem_143.1.2.1 = [] ∧ lemOK (PRd G C D xs) G rgs lem_143 := by
  refine ⟨rfl, fun ρ h ha hT => ?_⟩
  obtain ⟨-, -, hF, hG, hH, hA, hP⟩ := ha
  have g1 : G (ρ 2).toNat = 601 := by
    have q := (hG _ (List.mem_of_getElem? (i := 1) rfl)).2
    rwa [show ev ρ (0, [(2, 1)]) = ρ 2 from ev_v] at q
  have p0 : ((0) + ((1) * ρ 4 + 0)) = szZ ((0) + ((1) * ρ 1 + 0)) := hP _ (List.mem_of_getElem? (i := 0) rfl)
  rcases (by omega : ρ 3 + ρ 4 ≤ 34 ∨ 35 ≤ ρ 3 + ρ 4) with hc | hc
  · refine ⟨_, List.mem_cons_self, ρ, fun _ _ => rfl, fun q hq => absurd hq List.not_mem_nil, trivial, fun f hf => ?_, fun q hq => absurd hq List.not_mem_nil, fun q hq => absurd hq List.not_mem_nil, fun q hq => absurd hq List.not_mem_nil, fun q hq => ?_⟩
    · simp only [List.mem_cons, List.not_mem_nil, or_false] at hf
      subst hf
      show (0 : Int) ≤ ((34) + ((-1) * ρ 3 + ((-1) * ρ 4 + 0)))
      omega
    · exact absurd hq List.not_mem_nil
  · refine ⟨_, (List.mem_cons_of_mem _ List.mem_cons_self), ρ, fun _ _ => rfl, fun q hq => absurd hq List.not_mem_nil, trivial, fun f hf => ?_, fun q hq => absurd hq List.not_mem_nil, fun q hq => absurd hq List.not_mem_nil, fun q hq => absurd hq List.not_mem_nil, fun q hq => ?_⟩
    · simp only [List.mem_cons, List.not_mem_nil, or_false] at hf
      subst hf
      show (0 : Int) ≤ ((-35) + ((1) * ρ 3 + ((1) * ρ 4 + 0)))
      omega
    · exact absurd hq List.not_mem_nil
/-- capX1 -/
theorem lem_144_ok (hU : uqG G C) : lem_144.1.2.1 = [] ∧ lemOK (PRd G C D xs) G rgs lem_144 := by
  refine ⟨rfl, fun ρ h ha hT => ?_⟩
  obtain ⟨-, -, hF, hG, hH, hA, hP⟩ := ha
  have f0 : (0 : Int) ≤ ((-35) + ((1) * ρ 3 + ((1) * ρ 4 + 0))) := hF _ (List.mem_of_getElem? (i := 0) rfl)
  have f1 : (0 : Int) ≤ ((34) + ((-1) * ρ 3 + ((-1) * ρ 4 + 0))) := hF _ (List.mem_of_getElem? (i := 1) rfl)
  have g1 : G (ρ 2).toNat = 601 := by
    have q := (hG _ (List.mem_of_getElem? (i := 1) rfl)).2
    rwa [show ev ρ (0, [(2, 1)]) = ρ 2 from ev_v] at q
  have p0 : ((0) + ((1) * ρ 4 + 0)) = szZ ((0) + ((1) * ρ 1 + 0)) := hP _ (List.mem_of_getElem? (i := 0) rfl)
  exact absurd f0 (by omega)
/-- capC1 -/
theorem lem_145_ok (hU : uqG G C) : lem_145.1.2.1 = [] ∧ lemOK (PRd G C D xs) G rgs lem_145 := by
  refine ⟨rfl, fun ρ h ha hT => ?_⟩
  obtain ⟨-, -, hF, hG, hH, hA, hP⟩ := ha
  have g1 : G (ρ 1).toNat = 601 := by
    have q := (hG _ (List.mem_of_getElem? (i := 1) rfl)).2
    rwa [show ev ρ (0, [(1, 1)]) = ρ 1 from ev_v] at q
  rcases (by omega : ρ 2 + 1 ≤ 34 ∨ 34 ≤ ρ 2) with hc | hc
  · refine ⟨_, List.mem_cons_self, ρ, fun _ _ => rfl, fun q hq => absurd hq List.not_mem_nil, trivial, fun f hf => ?_, fun q hq => absurd hq List.not_mem_nil, fun q hq => absurd hq List.not_mem_nil, fun q hq => absurd hq List.not_mem_nil, fun q hq => ?_⟩
    · simp only [List.mem_cons, List.not_mem_nil, or_false] at hf
      subst hf
      show (0 : Int) ≤ ((33) + ((-1) * ρ 2 + 0))
      omega
    · exact absurd hq List.not_mem_nil
  · refine ⟨_, (List.mem_cons_of_mem _ List.mem_cons_self), ρ, fun _ _ => rfl, fun q hq => absurd hq List.not_mem_nil, trivial, fun f hf => ?_, fun q hq => absurd hq List.not_mem_nil, fun q hq => absurd hq List.not_mem_nil, fun q hq => absurd hq List.not_mem_nil, fun q hq => ?_⟩
    · simp only [List.mem_cons, List.not_mem_nil, or_false] at hf
      subst hf
      show (0 : Int) ≤ ((-34) + ((1) * ρ 2 + 0))
      omega
    · exact absurd hq List.not_mem_nil
/-- capCX1 -/
theorem lem_146_ok (hU : uqG G C) : lem_146.1.2.1 = [] ∧ lemOK (PRd G C D xs) G rgs lem_146 := by
  refine ⟨rfl, fun ρ h ha hT => ?_⟩
  obtain ⟨-, -, hF, hG, hH, hA, hP⟩ := ha
  have f0 : (0 : Int) ≤ ((-34) + ((1) * ρ 2 + 0)) := hF _ (List.mem_of_getElem? (i := 0) rfl)
  have f1 : (0 : Int) ≤ ((33) + ((-1) * ρ 2 + 0)) := hF _ (List.mem_of_getElem? (i := 1) rfl)
  have g1 : G (ρ 1).toNat = 601 := by
    have q := (hG _ (List.mem_of_getElem? (i := 1) rfl)).2
    rwa [show ev ρ (0, [(1, 1)]) = ρ 1 from ev_v] at q
  exact absurd f0 (by omega)
/-- room1 -/
theorem lem_147_ok (hU : uqG G C) : lem_147.1.2.1 = [] ∧ lemOK (PRd G C D xs) G rgs lem_147 := by
  refine ⟨rfl, fun ρ h ha hT => ?_⟩
  obtain ⟨-, -, hF, hG, hH, hA, hP⟩ := ha
  have g2 : G (ρ 2).toNat = 601 := by
    have q := (hG _ (List.mem_of_getElem? (i := 2) rfl)).2
    rwa [show ev ρ (0, [(2, 1)]) = ρ 2 from ev_v] at q
  rcases (by omega : ρ 3 ≤ -86 ∨ -85 ≤ ρ 3) with hc | hc
  · refine ⟨_, List.mem_cons_self, ρ, fun _ _ => rfl, fun q hq => absurd hq List.not_mem_nil, trivial, fun f hf => ?_, fun q hq => absurd hq List.not_mem_nil, fun q hq => absurd hq List.not_mem_nil, fun q hq => absurd hq List.not_mem_nil, fun q hq => ?_⟩
    · simp only [List.mem_cons, List.not_mem_nil, or_false] at hf
      subst hf
      show (0 : Int) ≤ ((-86) + ((-1) * ρ 3 + 0))
      omega
    · exact absurd hq List.not_mem_nil
  · refine ⟨_, (List.mem_cons_of_mem _ List.mem_cons_self), ρ, fun _ _ => rfl, fun q hq => absurd hq List.not_mem_nil, trivial, fun f hf => ?_, fun q hq => absurd hq List.not_mem_nil, fun q hq => absurd hq List.not_mem_nil, fun q hq => absurd hq List.not_mem_nil, fun q hq => ?_⟩
    · simp only [List.mem_cons, List.not_mem_nil, or_false] at hf
      subst hf
      show (0 : Int) ≤ ((85) + ((1) * ρ 3 + 0))
      omega
    · exact absurd hq List.not_mem_nil
/-- cap2 -/
theorem lem_148_ok (hU : uqG G C) : lem_148.1.2.1 = [] ∧ lemOK (PRd G C D xs) G rgs lem_148 := by
  refine ⟨rfl, fun ρ h ha hT => ?_⟩
  obtain ⟨-, -, hF, hG, hH, hA, hP⟩ := ha
  have g1 : G (ρ 2).toNat = 602 := by
    have q := (hG _ (List.mem_of_getElem? (i := 1) rfl)).2
    rwa [show ev ρ (0, [(2, 1)]) = ρ 2 from ev_v] at q
  have p0 : ((0) + ((1) * ρ 4 + 0)) = szZ ((0) + ((1) * ρ 1 + 0)) := hP _ (List.mem_of_getElem? (i := 0) rfl)
  rcases (by omega : ρ 3 + ρ 4 ≤ 70 ∨ 71 ≤ ρ 3 + ρ 4) with hc | hc
  · refine ⟨_, List.mem_cons_self, ρ, fun _ _ => rfl, fun q hq => absurd hq List.not_mem_nil, trivial, fun f hf => ?_, fun q hq => absurd hq List.not_mem_nil, fun q hq => absurd hq List.not_mem_nil, fun q hq => absurd hq List.not_mem_nil, fun q hq => ?_⟩
    · simp only [List.mem_cons, List.not_mem_nil, or_false] at hf
      subst hf
      show (0 : Int) ≤ ((70) + ((-1) * ρ 3 + ((-1) * ρ 4 + 0)))
      omega
    · exact absurd hq List.not_mem_nil
  · refine ⟨_, (List.mem_cons_of_mem _ List.mem_cons_self), ρ, fun _ _ => rfl, fun q hq => absurd hq List.not_mem_nil, trivial, fun f hf => ?_, fun q hq => absurd hq List.not_mem_nil, fun q hq => absurd hq List.not_mem_nil, fun q hq => absurd hq List.not_mem_nil, fun q hq => ?_⟩
    · simp only [List.mem_cons, List.not_mem_nil, or_false] at hf
      subst hf
      show (0 : Int) ≤ ((-71) + ((1) * ρ 3 + ((1) * ρ 4 + 0)))
      omega
    · exact absurd hq List.not_mem_nil
/-- capX2 -/
theorem lem_149_ok (hU : uqG G C) : lem_149.1.2.1 = [] ∧ lemOK (PRd G C D xs) G rgs lem_149 := by
  refine ⟨rfl, fun ρ h ha hT => ?_⟩
  obtain ⟨-, -, hF, hG, hH, hA, hP⟩ := ha
  have f0 : (0 : Int) ≤ ((-71) + ((1) * ρ 3 + ((1) * ρ 4 + 0))) := hF _ (List.mem_of_getElem? (i := 0) rfl)
  have f1 : (0 : Int) ≤ ((70) + ((-1) * ρ 3 + ((-1) * ρ 4 + 0))) := hF _ (List.mem_of_getElem? (i := 1) rfl)
  have g1 : G (ρ 2).toNat = 602 := by
    have q := (hG _ (List.mem_of_getElem? (i := 1) rfl)).2
    rwa [show ev ρ (0, [(2, 1)]) = ρ 2 from ev_v] at q
  have p0 : ((0) + ((1) * ρ 4 + 0)) = szZ ((0) + ((1) * ρ 1 + 0)) := hP _ (List.mem_of_getElem? (i := 0) rfl)
  exact absurd f0 (by omega)
/-- capC2 -/
theorem lem_150_ok (hU : uqG G C) : lem_150.1.2.1 = [] ∧ lemOK (PRd G C D xs) G rgs lem_150 := by
  refine ⟨rfl, fun ρ h ha hT => ?_⟩
  obtain ⟨-, -, hF, hG, hH, hA, hP⟩ := ha
  have g1 : G (ρ 1).toNat = 602 := by
    have q := (hG _ (List.mem_of_getElem? (i := 1) rfl)).2
    rwa [show ev ρ (0, [(1, 1)]) = ρ 1 from ev_v] at q
  rcases (by omega : ρ 2 + 1 ≤ 70 ∨ 70 ≤ ρ 2) with hc | hc
  · refine ⟨_, List.mem_cons_self, ρ, fun _ _ => rfl, fun q hq => absurd hq List.not_mem_nil, trivial, fun f hf => ?_, fun q hq => absurd hq List.not_mem_nil, fun q hq => absurd hq List.not_mem_nil, fun q hq => absurd hq List.not_mem_nil, fun q hq => ?_⟩
    · simp only [List.mem_cons, List.not_mem_nil, or_false] at hf
      subst hf
      show (0 : Int) ≤ ((69) + ((-1) * ρ 2 + 0))
      omega
    · exact absurd hq List.not_mem_nil
  · refine ⟨_, (List.mem_cons_of_mem _ List.mem_cons_self), ρ, fun _ _ => rfl, fun q hq => absurd hq List.not_mem_nil, trivial, fun f hf => ?_, fun q hq => absurd hq List.not_mem_nil, fun q hq => absurd hq List.not_mem_nil, fun q hq => absurd hq List.not_mem_nil, fun q hq => ?_⟩
    · simp only [List.mem_cons, List.not_mem_nil, or_false] at hf
      subst hf
      show (0 : Int) ≤ ((-70) + ((1) * ρ 2 + 0))
      omega
    · exact absurd hq List.not_mem_nil
/-- capCX2 -/
theorem lem_151_ok (hU : uqG G C) : lem_151.1.2.1 = [] ∧ lemOK (PRd G C D xs) G rgs lem_151 := by
  refine ⟨rfl, fun ρ h ha hT => ?_⟩
  obtain ⟨-, -, hF, hG, hH, hA, hP⟩ := ha
  have f0 : (0 : Int) ≤ ((-70) + ((1) * ρ 2 + 0)) := hF _ (List.mem_of_getElem? (i := 0) rfl)
  have f1 : (0 : Int) ≤ ((69) + ((-1) * ρ 2 + 0)) := hF _ (List.mem_of_getElem? (i := 1) rfl)
  have g1 : G (ρ 1).toNat = 602 := by
    have q := (hG _ (List.mem_of_getElem? (i := 1) rfl)).2
    rwa [show ev ρ (0, [(1, 1)]) = ρ 1 from ev_v] at q
  exact absurd f0 (by omega)
/-- room2 -/
theorem lem_152_ok (hU : uqG G C) : lem_152.1.2.1 = [] ∧ lemOK (PRd G C D xs) G rgs lem_152 := by
  refine ⟨rfl, fun ρ h ha hT => ?_⟩
  obtain ⟨-, -, hF, hG, hH, hA, hP⟩ := ha
  have g2 : G (ρ 2).toNat = 602 := by
    have q := (hG _ (List.mem_of_getElem? (i := 2) rfl)).2
    rwa [show ev ρ (0, [(2, 1)]) = ρ 2 from ev_v] at q
  rcases (by omega : ρ 3 ≤ -50 ∨ -49 ≤ ρ 3) with hc | hc
  · refine ⟨_, List.mem_cons_self, ρ, fun _ _ => rfl, fun q hq => absurd hq List.not_mem_nil, trivial, fun f hf => ?_, fun q hq => absurd hq List.not_mem_nil, fun q hq => absurd hq List.not_mem_nil, fun q hq => absurd hq List.not_mem_nil, fun q hq => ?_⟩
    · simp only [List.mem_cons, List.not_mem_nil, or_false] at hf
      subst hf
      show (0 : Int) ≤ ((-50) + ((-1) * ρ 3 + 0))
      omega
    · exact absurd hq List.not_mem_nil
  · refine ⟨_, (List.mem_cons_of_mem _ List.mem_cons_self), ρ, fun _ _ => rfl, fun q hq => absurd hq List.not_mem_nil, trivial, fun f hf => ?_, fun q hq => absurd hq List.not_mem_nil, fun q hq => absurd hq List.not_mem_nil, fun q hq => absurd hq List.not_mem_nil, fun q hq => ?_⟩
    · simp only [List.mem_cons, List.not_mem_nil, or_false] at hf
      subst hf
      show (0 : Int) ≤ ((49) + ((1) * ρ 3 + 0))
      omega
    · exact absurd hq List.not_mem_nil
/-- cap3 -/
theorem lem_153_ok (hU : uqG G C) : lem_153.1.2.1 = [] ∧ lemOK (PRd G C D xs) G rgs lem_153 := by
  refine ⟨rfl, fun ρ h ha hT => ?_⟩
  obtain ⟨-, -, hF, hG, hH, hA, hP⟩ := ha
  have g1 : G (ρ 2).toNat = 603 := by
    have q := (hG _ (List.mem_of_getElem? (i := 1) rfl)).2
    rwa [show ev ρ (0, [(2, 1)]) = ρ 2 from ev_v] at q
  have p0 : ((0) + ((1) * ρ 4 + 0)) = szZ ((0) + ((1) * ρ 1 + 0)) := hP _ (List.mem_of_getElem? (i := 0) rfl)
  rcases (by omega : ρ 3 + ρ 4 ≤ 142 ∨ 143 ≤ ρ 3 + ρ 4) with hc | hc
  · refine ⟨_, List.mem_cons_self, ρ, fun _ _ => rfl, fun q hq => absurd hq List.not_mem_nil, trivial, fun f hf => ?_, fun q hq => absurd hq List.not_mem_nil, fun q hq => absurd hq List.not_mem_nil, fun q hq => absurd hq List.not_mem_nil, fun q hq => ?_⟩
    · simp only [List.mem_cons, List.not_mem_nil, or_false] at hf
      subst hf
      show (0 : Int) ≤ ((142) + ((-1) * ρ 3 + ((-1) * ρ 4 + 0)))
      omega
    · exact absurd hq List.not_mem_nil
  · refine ⟨_, (List.mem_cons_of_mem _ List.mem_cons_self), ρ, fun _ _ => rfl, fun q hq => absurd hq List.not_mem_nil, trivial, fun f hf => ?_, fun q hq => absurd hq List.not_mem_nil, fun q hq => absurd hq List.not_mem_nil, fun q hq => absurd hq List.not_mem_nil, fun q hq => ?_⟩
    · simp only [List.mem_cons, List.not_mem_nil, or_false] at hf
      subst hf
      show (0 : Int) ≤ ((-143) + ((1) * ρ 3 + ((1) * ρ 4 + 0)))
      omega
    · exact absurd hq List.not_mem_nil
/-- capX3 -/
theorem lem_154_ok (hU : uqG G C) : lem_154.1.2.1 = [] ∧ lemOK (PRd G C D xs) G rgs lem_154 := by
  refine ⟨rfl, fun ρ h ha hT => ?_⟩
  obtain ⟨-, -, hF, hG, hH, hA, hP⟩ := ha
  have f0 : (0 : Int) ≤ ((-143) + ((1) * ρ 3 + ((1) * ρ 4 + 0))) := hF _ (List.mem_of_getElem? (i := 0) rfl)
  have f1 : (0 : Int) ≤ ((142) + ((-1) * ρ 3 + ((-1) * ρ 4 + 0))) := hF _ (List.mem_of_getElem? (i := 1) rfl)
  have g1 : G (ρ 2).toNat = 603 := by
    have q := (hG _ (List.mem_of_getElem? (i := 1) rfl)).2
    rwa [show ev ρ (0, [(2, 1)]) = ρ 2 from ev_v] at q
  have p0 : ((0) + ((1) * ρ 4 + 0)) = szZ ((0) + ((1) * ρ 1 + 0)) := hP _ (List.mem_of_getElem? (i := 0) rfl)
  exact absurd f0 (by omega)
/-- capC3 -/
theorem lem_155_ok (hU : uqG G C) : lem_155.1.2.1 = [] ∧ lemOK (PRd G C D xs) G rgs lem_155 := by
  refine ⟨rfl, fun ρ h ha hT => ?_⟩
  obtain ⟨-, -, hF, hG, hH, hA, hP⟩ := ha
  have g1 : G (ρ 1).toNat = 603 := by
    have q := (hG _ (List.mem_of_getElem? (i := 1) rfl)).2
    rwa [show ev ρ (0, [(1, 1)]) = ρ 1 from ev_v] at q
  rcases (by omega : ρ 2 + 1 ≤ 142 ∨ 142 ≤ ρ 2) with hc | hc
  · refine ⟨_, List.mem_cons_self, ρ, fun _ _ => rfl, fun q hq => absurd hq List.not_mem_nil, trivial, fun f hf => ?_, fun q hq => absurd hq List.not_mem_nil, fun q hq => absurd hq List.not_mem_nil, fun q hq => absurd hq List.not_mem_nil, fun q hq => ?_⟩
    · simp only [List.mem_cons, List.not_mem_nil, or_false] at hf
      subst hf
      show (0 : Int) ≤ ((141) + ((-1) * ρ 2 + 0))
      omega
    · exact absurd hq List.not_mem_nil
  · refine ⟨_, (List.mem_cons_of_mem _ List.mem_cons_self), ρ, fun _ _ => rfl, fun q hq => absurd hq List.not_mem_nil, trivial, fun f hf => ?_, fun q hq => absurd hq List.not_mem_nil, fun q hq => absurd hq List.not_mem_nil, fun q hq => absurd hq List.not_mem_nil, fun q hq => ?_⟩
    · simp only [List.mem_cons, List.not_mem_nil, or_false] at hf
      subst hf
      show (0 : Int) ≤ ((-142) + ((1) * ρ 2 + 0))
      omega
    · exact absurd hq List.not_mem_nil
/-- capCX3 -/
theorem lem_156_ok (hU : uqG G C) : lem_156.1.2.1 = [] ∧ lemOK (PRd G C D xs) G rgs lem_156 := by
  refine ⟨rfl, fun ρ h ha hT => ?_⟩
  obtain ⟨-, -, hF, hG, hH, hA, hP⟩ := ha
  have f0 : (0 : Int) ≤ ((-142) + ((1) * ρ 2 + 0)) := hF _ (List.mem_of_getElem? (i := 0) rfl)
  have f1 : (0 : Int) ≤ ((141) + ((-1) * ρ 2 + 0)) := hF _ (List.mem_of_getElem? (i := 1) rfl)
  have g1 : G (ρ 1).toNat = 603 := by
    have q := (hG _ (List.mem_of_getElem? (i := 1) rfl)).2
    rwa [show ev ρ (0, [(1, 1)]) = ρ 1 from ev_v] at q
  exact absurd f0 (by omega)
/-- room3 -/
theorem lem_157_ok (hU : uqG G C) : lem_157.1.2.1 = [] ∧ lemOK (PRd G C D xs) G rgs lem_157 := by
  refine ⟨rfl, fun ρ h ha hT => ?_⟩
  obtain ⟨-, -, hF, hG, hH, hA, hP⟩ := ha
  have g2 : G (ρ 2).toNat = 603 := by
    have q := (hG _ (List.mem_of_getElem? (i := 2) rfl)).2
    rwa [show ev ρ (0, [(2, 1)]) = ρ 2 from ev_v] at q
  rcases (by omega : ρ 3 ≤ 22 ∨ 23 ≤ ρ 3) with hc | hc
  · refine ⟨_, List.mem_cons_self, ρ, fun _ _ => rfl, fun q hq => absurd hq List.not_mem_nil, trivial, fun f hf => ?_, fun q hq => absurd hq List.not_mem_nil, fun q hq => absurd hq List.not_mem_nil, fun q hq => absurd hq List.not_mem_nil, fun q hq => ?_⟩
    · simp only [List.mem_cons, List.not_mem_nil, or_false] at hf
      subst hf
      show (0 : Int) ≤ ((22) + ((-1) * ρ 3 + 0))
      omega
    · exact absurd hq List.not_mem_nil
  · refine ⟨_, (List.mem_cons_of_mem _ List.mem_cons_self), ρ, fun _ _ => rfl, fun q hq => absurd hq List.not_mem_nil, trivial, fun f hf => ?_, fun q hq => absurd hq List.not_mem_nil, fun q hq => absurd hq List.not_mem_nil, fun q hq => absurd hq List.not_mem_nil, fun q hq => ?_⟩
    · simp only [List.mem_cons, List.not_mem_nil, or_false] at hf
      subst hf
      show (0 : Int) ≤ ((-23) + ((1) * ρ 3 + 0))
      omega
    · exact absurd hq List.not_mem_nil
/-- cap4 -/
theorem lem_158_ok (hU : uqG G C) : lem_158.1.2.1 = [] ∧ lemOK (PRd G C D xs) G rgs lem_158 := by
  refine ⟨rfl, fun ρ h ha hT => ?_⟩
  obtain ⟨-, -, hF, hG, hH, hA, hP⟩ := ha
  have g1 : G (ρ 2).toNat = 604 := by
    have q := (hG _ (List.mem_of_getElem? (i := 1) rfl)).2
    rwa [show ev ρ (0, [(2, 1)]) = ρ 2 from ev_v] at q
  have p0 : ((0) + ((1) * ρ 4 + 0)) = szZ ((0) + ((1) * ρ 1 + 0)) := hP _ (List.mem_of_getElem? (i := 0) rfl)
  rcases (by omega : ρ 3 + ρ 4 ≤ 286 ∨ 287 ≤ ρ 3 + ρ 4) with hc | hc
  · refine ⟨_, List.mem_cons_self, ρ, fun _ _ => rfl, fun q hq => absurd hq List.not_mem_nil, trivial, fun f hf => ?_, fun q hq => absurd hq List.not_mem_nil, fun q hq => absurd hq List.not_mem_nil, fun q hq => absurd hq List.not_mem_nil, fun q hq => ?_⟩
    · simp only [List.mem_cons, List.not_mem_nil, or_false] at hf
      subst hf
      show (0 : Int) ≤ ((286) + ((-1) * ρ 3 + ((-1) * ρ 4 + 0)))
      omega
    · exact absurd hq List.not_mem_nil
  · refine ⟨_, (List.mem_cons_of_mem _ List.mem_cons_self), ρ, fun _ _ => rfl, fun q hq => absurd hq List.not_mem_nil, trivial, fun f hf => ?_, fun q hq => absurd hq List.not_mem_nil, fun q hq => absurd hq List.not_mem_nil, fun q hq => absurd hq List.not_mem_nil, fun q hq => ?_⟩
    · simp only [List.mem_cons, List.not_mem_nil, or_false] at hf
      subst hf
      show (0 : Int) ≤ ((-287) + ((1) * ρ 3 + ((1) * ρ 4 + 0)))
      omega
    · exact absurd hq List.not_mem_nil
/-- capX4 -/
theorem lem_159_ok (hU : uqG G C) : lem_159.1.2.1 = [] ∧ lemOK (PRd G C D xs) G rgs lem_159 := by
  refine ⟨rfl, fun ρ h ha hT => ?_⟩
  obtain ⟨-, -, hF, hG, hH, hA, hP⟩ := ha
  have f0 : (0 : Int) ≤ ((-287) + ((1) * ρ 3 + ((1) * ρ 4 + 0))) := hF _ (List.mem_of_getElem? (i := 0) rfl)
  have f1 : (0 : Int) ≤ ((286) + ((-1) * ρ 3 + ((-1) * ρ 4 + 0))) := hF _ (List.mem_of_getElem? (i := 1) rfl)
  have g1 : G (ρ 2).toNat = 604 := by
    have q := (hG _ (List.mem_of_getElem? (i := 1) rfl)).2
    rwa [show ev ρ (0, [(2, 1)]) = ρ 2 from ev_v] at q
  have p0 : ((0) + ((1) * ρ 4 + 0)) = szZ ((0) + ((1) * ρ 1 + 0)) := hP _ (List.mem_of_getElem? (i := 0) rfl)
  exact absurd f0 (by omega)
/-- capC4 -/
theorem lem_160_ok (hU : uqG G C) : lem_160.1.2.1 = [] ∧ lemOK (PRd G C D xs) G rgs lem_160 := by
  refine ⟨rfl, fun ρ h ha hT => ?_⟩
  obtain ⟨-, -, hF, hG, hH, hA, hP⟩ := ha
  have g1 : G (ρ 1).toNat = 604 := by
    have q := (hG _ (List.mem_of_getElem? (i := 1) rfl)).2
    rwa [show ev ρ (0, [(1, 1)]) = ρ 1 from ev_v] at q
  rcases (by omega : ρ 2 + 1 ≤ 286 ∨ 286 ≤ ρ 2) with hc | hc
  · refine ⟨_, List.mem_cons_self, ρ, fun _ _ => rfl, fun q hq => absurd hq List.not_mem_nil, trivial, fun f hf => ?_, fun q hq => absurd hq List.not_mem_nil, fun q hq => absurd hq List.not_mem_nil, fun q hq => absurd hq List.not_mem_nil, fun q hq => ?_⟩
    · simp only [List.mem_cons, List.not_mem_nil, or_false] at hf
      subst hf
      show (0 : Int) ≤ ((285) + ((-1) * ρ 2 + 0))
      omega
    · exact absurd hq List.not_mem_nil
  · refine ⟨_, (List.mem_cons_of_mem _ List.mem_cons_self), ρ, fun _ _ => rfl, fun q hq => absurd hq List.not_mem_nil, trivial, fun f hf => ?_, fun q hq => absurd hq List.not_mem_nil, fun q hq => absurd hq List.not_mem_nil, fun q hq => absurd hq List.not_mem_nil, fun q hq => ?_⟩
    · simp only [List.mem_cons, List.not_mem_nil, or_false] at hf
      subst hf
      show (0 : Int) ≤ ((-286) + ((1) * ρ 2 + 0))
      omega
    · exact absurd hq List.not_mem_nil
/-- capCX4 -/
theorem lem_161_ok (hU : uqG G C) : lem_161.1.2.1 = [] ∧ lemOK (PRd G C D xs) G rgs lem_161 := by
  refine ⟨rfl, fun ρ h ha hT => ?_⟩
  obtain ⟨-, -, hF, hG, hH, hA, hP⟩ := ha
  have f0 : (0 : Int) ≤ ((-286) + ((1) * ρ 2 + 0)) := hF _ (List.mem_of_getElem? (i := 0) rfl)
  have f1 : (0 : Int) ≤ ((285) + ((-1) * ρ 2 + 0)) := hF _ (List.mem_of_getElem? (i := 1) rfl)
  have g1 : G (ρ 1).toNat = 604 := by
    have q := (hG _ (List.mem_of_getElem? (i := 1) rfl)).2
    rwa [show ev ρ (0, [(1, 1)]) = ρ 1 from ev_v] at q
  exact absurd f0 (by omega)
/-- room4 -/
theorem lem_162_ok (hU : uqG G C) : lem_162.1.2.1 = [] ∧ lemOK (PRd G C D xs) G rgs lem_162 := by
  refine ⟨rfl, fun ρ h ha hT => ?_⟩
  obtain ⟨-, -, hF, hG, hH, hA, hP⟩ := ha
  have g2 : G (ρ 2).toNat = 604 := by
    have q := (hG _ (List.mem_of_getElem? (i := 2) rfl)).2
    rwa [show ev ρ (0, [(2, 1)]) = ρ 2 from ev_v] at q
  rcases (by omega : ρ 3 ≤ 166 ∨ 167 ≤ ρ 3) with hc | hc
  · refine ⟨_, List.mem_cons_self, ρ, fun _ _ => rfl, fun q hq => absurd hq List.not_mem_nil, trivial, fun f hf => ?_, fun q hq => absurd hq List.not_mem_nil, fun q hq => absurd hq List.not_mem_nil, fun q hq => absurd hq List.not_mem_nil, fun q hq => ?_⟩
    · simp only [List.mem_cons, List.not_mem_nil, or_false] at hf
      subst hf
      show (0 : Int) ≤ ((166) + ((-1) * ρ 3 + 0))
      omega
    · exact absurd hq List.not_mem_nil
  · refine ⟨_, (List.mem_cons_of_mem _ List.mem_cons_self), ρ, fun _ _ => rfl, fun q hq => absurd hq List.not_mem_nil, trivial, fun f hf => ?_, fun q hq => absurd hq List.not_mem_nil, fun q hq => absurd hq List.not_mem_nil, fun q hq => absurd hq List.not_mem_nil, fun q hq => ?_⟩
    · simp only [List.mem_cons, List.not_mem_nil, or_false] at hf
      subst hf
      show (0 : Int) ≤ ((-167) + ((1) * ρ 3 + 0))
      omega
    · exact absurd hq List.not_mem_nil
/-- cap5 -/
theorem lem_163_ok (hU : uqG G C) : lem_163.1.2.1 = [] ∧ lemOK (PRd G C D xs) G rgs lem_163 := by
  refine ⟨rfl, fun ρ h ha hT => ?_⟩
  obtain ⟨-, -, hF, hG, hH, hA, hP⟩ := ha
  have g1 : G (ρ 2).toNat = 605 := by
    have q := (hG _ (List.mem_of_getElem? (i := 1) rfl)).2
    rwa [show ev ρ (0, [(2, 1)]) = ρ 2 from ev_v] at q
  have p0 : ((0) + ((1) * ρ 4 + 0)) = szZ ((0) + ((1) * ρ 1 + 0)) := hP _ (List.mem_of_getElem? (i := 0) rfl)
  rcases (by omega : ρ 3 + ρ 4 ≤ 574 ∨ 575 ≤ ρ 3 + ρ 4) with hc | hc
  · refine ⟨_, List.mem_cons_self, ρ, fun _ _ => rfl, fun q hq => absurd hq List.not_mem_nil, trivial, fun f hf => ?_, fun q hq => absurd hq List.not_mem_nil, fun q hq => absurd hq List.not_mem_nil, fun q hq => absurd hq List.not_mem_nil, fun q hq => ?_⟩
    · simp only [List.mem_cons, List.not_mem_nil, or_false] at hf
      subst hf
      show (0 : Int) ≤ ((574) + ((-1) * ρ 3 + ((-1) * ρ 4 + 0)))
      omega
    · exact absurd hq List.not_mem_nil
  · refine ⟨_, (List.mem_cons_of_mem _ List.mem_cons_self), ρ, fun _ _ => rfl, fun q hq => absurd hq List.not_mem_nil, trivial, fun f hf => ?_, fun q hq => absurd hq List.not_mem_nil, fun q hq => absurd hq List.not_mem_nil, fun q hq => absurd hq List.not_mem_nil, fun q hq => ?_⟩
    · simp only [List.mem_cons, List.not_mem_nil, or_false] at hf
      subst hf
      show (0 : Int) ≤ ((-575) + ((1) * ρ 3 + ((1) * ρ 4 + 0)))
      omega
    · exact absurd hq List.not_mem_nil
/-- capX5 -/
theorem lem_164_ok (hU : uqG G C) : lem_164.1.2.1 = [] ∧ lemOK (PRd G C D xs) G rgs lem_164 := by
  refine ⟨rfl, fun ρ h ha hT => ?_⟩
  obtain ⟨-, -, hF, hG, hH, hA, hP⟩ := ha
  have f0 : (0 : Int) ≤ ((-575) + ((1) * ρ 3 + ((1) * ρ 4 + 0))) := hF _ (List.mem_of_getElem? (i := 0) rfl)
  have f1 : (0 : Int) ≤ ((574) + ((-1) * ρ 3 + ((-1) * ρ 4 + 0))) := hF _ (List.mem_of_getElem? (i := 1) rfl)
  have g1 : G (ρ 2).toNat = 605 := by
    have q := (hG _ (List.mem_of_getElem? (i := 1) rfl)).2
    rwa [show ev ρ (0, [(2, 1)]) = ρ 2 from ev_v] at q
  have p0 : ((0) + ((1) * ρ 4 + 0)) = szZ ((0) + ((1) * ρ 1 + 0)) := hP _ (List.mem_of_getElem? (i := 0) rfl)
  exact absurd f0 (by omega)
/-- capC5 -/
theorem lem_165_ok (hU : uqG G C) : lem_165.1.2.1 = [] ∧ lemOK (PRd G C D xs) G rgs lem_165 := by
  refine ⟨rfl, fun ρ h ha hT => ?_⟩
  obtain ⟨-, -, hF, hG, hH, hA, hP⟩ := ha
  have g1 : G (ρ 1).toNat = 605 := by
    have q := (hG _ (List.mem_of_getElem? (i := 1) rfl)).2
    rwa [show ev ρ (0, [(1, 1)]) = ρ 1 from ev_v] at q
  rcases (by omega : ρ 2 + 1 ≤ 574 ∨ 574 ≤ ρ 2) with hc | hc
  · refine ⟨_, List.mem_cons_self, ρ, fun _ _ => rfl, fun q hq => absurd hq List.not_mem_nil, trivial, fun f hf => ?_, fun q hq => absurd hq List.not_mem_nil, fun q hq => absurd hq List.not_mem_nil, fun q hq => absurd hq List.not_mem_nil, fun q hq => ?_⟩
    · simp only [List.mem_cons, List.not_mem_nil, or_false] at hf
      subst hf
      show (0 : Int) ≤ ((573) + ((-1) * ρ 2 + 0))
      omega
    · exact absurd hq List.not_mem_nil
  · refine ⟨_, (List.mem_cons_of_mem _ List.mem_cons_self), ρ, fun _ _ => rfl, fun q hq => absurd hq List.not_mem_nil, trivial, fun f hf => ?_, fun q hq => absurd hq List.not_mem_nil, fun q hq => absurd hq List.not_mem_nil, fun q hq => absurd hq List.not_mem_nil, fun q hq => ?_⟩
    · simp only [List.mem_cons, List.not_mem_nil, or_false] at hf
      subst hf
      show (0 : Int) ≤ ((-574) + ((1) * ρ 2 + 0))
      omega
    · exact absurd hq List.not_mem_nil
/-- capCX5 -/
theorem lem_166_ok (hU : uqG G C) : lem_166.1.2.1 = [] ∧ lemOK (PRd G C D xs) G rgs lem_166 := by
  refine ⟨rfl, fun ρ h ha hT => ?_⟩
  obtain ⟨-, -, hF, hG, hH, hA, hP⟩ := ha
  have f0 : (0 : Int) ≤ ((-574) + ((1) * ρ 2 + 0)) := hF _ (List.mem_of_getElem? (i := 0) rfl)
  have f1 : (0 : Int) ≤ ((573) + ((-1) * ρ 2 + 0)) := hF _ (List.mem_of_getElem? (i := 1) rfl)
  have g1 : G (ρ 1).toNat = 605 := by
    have q := (hG _ (List.mem_of_getElem? (i := 1) rfl)).2
    rwa [show ev ρ (0, [(1, 1)]) = ρ 1 from ev_v] at q
  exact absurd f0 (by omega)
/-- room5 -/
theorem lem_167_ok (hU : uqG G C) : lem_167.1.2.1 = [] ∧ lemOK (PRd G C D xs) G rgs lem_167 := by
  refine ⟨rfl, fun ρ h ha hT => ?_⟩
  obtain ⟨-, -, hF, hG, hH, hA, hP⟩ := ha
  have g2 : G (ρ 2).toNat = 605 := by
    have q := (hG _ (List.mem_of_getElem? (i := 2) rfl)).2
    rwa [show ev ρ (0, [(2, 1)]) = ρ 2 from ev_v] at q
  rcases (by omega : ρ 3 ≤ 454 ∨ 455 ≤ ρ 3) with hc | hc
  · refine ⟨_, List.mem_cons_self, ρ, fun _ _ => rfl, fun q hq => absurd hq List.not_mem_nil, trivial, fun f hf => ?_, fun q hq => absurd hq List.not_mem_nil, fun q hq => absurd hq List.not_mem_nil, fun q hq => absurd hq List.not_mem_nil, fun q hq => ?_⟩
    · simp only [List.mem_cons, List.not_mem_nil, or_false] at hf
      subst hf
      show (0 : Int) ≤ ((454) + ((-1) * ρ 3 + 0))
      omega
    · exact absurd hq List.not_mem_nil
  · refine ⟨_, (List.mem_cons_of_mem _ List.mem_cons_self), ρ, fun _ _ => rfl, fun q hq => absurd hq List.not_mem_nil, trivial, fun f hf => ?_, fun q hq => absurd hq List.not_mem_nil, fun q hq => absurd hq List.not_mem_nil, fun q hq => absurd hq List.not_mem_nil, fun q hq => ?_⟩
    · simp only [List.mem_cons, List.not_mem_nil, or_false] at hf
      subst hf
      show (0 : Int) ≤ ((-455) + ((1) * ρ 3 + 0))
      omega
    · exact absurd hq List.not_mem_nil
/-- cap6 -/
theorem lem_168_ok (hU : uqG G C) : lem_168.1.2.1 = [] ∧ lemOK (PRd G C D xs) G rgs lem_168 := by
  refine ⟨rfl, fun ρ h ha hT => ?_⟩
  obtain ⟨-, -, hF, hG, hH, hA, hP⟩ := ha
  have g1 : G (ρ 2).toNat = 606 := by
    have q := (hG _ (List.mem_of_getElem? (i := 1) rfl)).2
    rwa [show ev ρ (0, [(2, 1)]) = ρ 2 from ev_v] at q
  have p0 : ((0) + ((1) * ρ 4 + 0)) = szZ ((0) + ((1) * ρ 1 + 0)) := hP _ (List.mem_of_getElem? (i := 0) rfl)
  rcases (by omega : ρ 3 + ρ 4 ≤ 1150 ∨ 1151 ≤ ρ 3 + ρ 4) with hc | hc
  · refine ⟨_, List.mem_cons_self, ρ, fun _ _ => rfl, fun q hq => absurd hq List.not_mem_nil, trivial, fun f hf => ?_, fun q hq => absurd hq List.not_mem_nil, fun q hq => absurd hq List.not_mem_nil, fun q hq => absurd hq List.not_mem_nil, fun q hq => ?_⟩
    · simp only [List.mem_cons, List.not_mem_nil, or_false] at hf
      subst hf
      show (0 : Int) ≤ ((1150) + ((-1) * ρ 3 + ((-1) * ρ 4 + 0)))
      omega
    · exact absurd hq List.not_mem_nil
  · refine ⟨_, (List.mem_cons_of_mem _ List.mem_cons_self), ρ, fun _ _ => rfl, fun q hq => absurd hq List.not_mem_nil, trivial, fun f hf => ?_, fun q hq => absurd hq List.not_mem_nil, fun q hq => absurd hq List.not_mem_nil, fun q hq => absurd hq List.not_mem_nil, fun q hq => ?_⟩
    · simp only [List.mem_cons, List.not_mem_nil, or_false] at hf
      subst hf
      show (0 : Int) ≤ ((-1151) + ((1) * ρ 3 + ((1) * ρ 4 + 0)))
      omega
    · exact absurd hq List.not_mem_nil
/-- capX6 -/
theorem lem_169_ok (hU : uqG G C) : lem_169.1.2.1 = [] ∧ lemOK (PRd G C D xs) G rgs lem_169 := by
  refine ⟨rfl, fun ρ h ha hT => ?_⟩
  obtain ⟨-, -, hF, hG, hH, hA, hP⟩ := ha
  have f0 : (0 : Int) ≤ ((-1151) + ((1) * ρ 3 + ((1) * ρ 4 + 0))) := hF _ (List.mem_of_getElem? (i := 0) rfl)
  have f1 : (0 : Int) ≤ ((1150) + ((-1) * ρ 3 + ((-1) * ρ 4 + 0))) := hF _ (List.mem_of_getElem? (i := 1) rfl)
  have g1 : G (ρ 2).toNat = 606 := by
    have q := (hG _ (List.mem_of_getElem? (i := 1) rfl)).2
    rwa [show ev ρ (0, [(2, 1)]) = ρ 2 from ev_v] at q
  have p0 : ((0) + ((1) * ρ 4 + 0)) = szZ ((0) + ((1) * ρ 1 + 0)) := hP _ (List.mem_of_getElem? (i := 0) rfl)
  exact absurd f0 (by omega)
/-- capC6 -/
theorem lem_170_ok (hU : uqG G C) : lem_170.1.2.1 = [] ∧ lemOK (PRd G C D xs) G rgs lem_170 := by
  refine ⟨rfl, fun ρ h ha hT => ?_⟩
  obtain ⟨-, -, hF, hG, hH, hA, hP⟩ := ha
  have g1 : G (ρ 1).toNat = 606 := by
    have q := (hG _ (List.mem_of_getElem? (i := 1) rfl)).2
    rwa [show ev ρ (0, [(1, 1)]) = ρ 1 from ev_v] at q
  rcases (by omega : ρ 2 + 1 ≤ 1150 ∨ 1150 ≤ ρ 2) with hc | hc
  · refine ⟨_, List.mem_cons_self, ρ, fun _ _ => rfl, fun q hq => absurd hq List.not_mem_nil, trivial, fun f hf => ?_, fun q hq => absurd hq List.not_mem_nil, fun q hq => absurd hq List.not_mem_nil, fun q hq => absurd hq List.not_mem_nil, fun q hq => ?_⟩
    · simp only [List.mem_cons, List.not_mem_nil, or_false] at hf
      subst hf
      show (0 : Int) ≤ ((1149) + ((-1) * ρ 2 + 0))
      omega
    · exact absurd hq List.not_mem_nil
  · refine ⟨_, (List.mem_cons_of_mem _ List.mem_cons_self), ρ, fun _ _ => rfl, fun q hq => absurd hq List.not_mem_nil, trivial, fun f hf => ?_, fun q hq => absurd hq List.not_mem_nil, fun q hq => absurd hq List.not_mem_nil, fun q hq => absurd hq List.not_mem_nil, fun q hq => ?_⟩
    · simp only [List.mem_cons, List.not_mem_nil, or_false] at hf
      subst hf
      show (0 : Int) ≤ ((-1150) + ((1) * ρ 2 + 0))
      omega
    · exact absurd hq List.not_mem_nil
/-- capCX6 -/
theorem lem_171_ok (hU : uqG G C) : lem_171.1.2.1 = [] ∧ lemOK (PRd G C D xs) G rgs lem_171 := by
  refine ⟨rfl, fun ρ h ha hT => ?_⟩
  obtain ⟨-, -, hF, hG, hH, hA, hP⟩ := ha
  have f0 : (0 : Int) ≤ ((-1150) + ((1) * ρ 2 + 0)) := hF _ (List.mem_of_getElem? (i := 0) rfl)
  have f1 : (0 : Int) ≤ ((1149) + ((-1) * ρ 2 + 0)) := hF _ (List.mem_of_getElem? (i := 1) rfl)
  have g1 : G (ρ 1).toNat = 606 := by
    have q := (hG _ (List.mem_of_getElem? (i := 1) rfl)).2
    rwa [show ev ρ (0, [(1, 1)]) = ρ 1 from ev_v] at q
  exact absurd f0 (by omega)
/-- room6 -/
theorem lem_172_ok (hU : uqG G C) : lem_172.1.2.1 = [] ∧ lemOK (PRd G C D xs) G rgs lem_172 := by
  refine ⟨rfl, fun ρ h ha hT => ?_⟩
  obtain ⟨-, -, hF, hG, hH, hA, hP⟩ := ha
  have g2 : G (ρ 2).toNat = 606 := by
    have q := (hG _ (List.mem_of_getElem? (i := 2) rfl)).2
    rwa [show ev ρ (0, [(2, 1)]) = ρ 2 from ev_v] at q
  rcases (by omega : ρ 3 ≤ 1030 ∨ 1031 ≤ ρ 3) with hc | hc
  · refine ⟨_, List.mem_cons_self, ρ, fun _ _ => rfl, fun q hq => absurd hq List.not_mem_nil, trivial, fun f hf => ?_, fun q hq => absurd hq List.not_mem_nil, fun q hq => absurd hq List.not_mem_nil, fun q hq => absurd hq List.not_mem_nil, fun q hq => ?_⟩
    · simp only [List.mem_cons, List.not_mem_nil, or_false] at hf
      subst hf
      show (0 : Int) ≤ ((1030) + ((-1) * ρ 3 + 0))
      omega
    · exact absurd hq List.not_mem_nil
  · refine ⟨_, (List.mem_cons_of_mem _ List.mem_cons_self), ρ, fun _ _ => rfl, fun q hq => absurd hq List.not_mem_nil, trivial, fun f hf => ?_, fun q hq => absurd hq List.not_mem_nil, fun q hq => absurd hq List.not_mem_nil, fun q hq => absurd hq List.not_mem_nil, fun q hq => ?_⟩
    · simp only [List.mem_cons, List.not_mem_nil, or_false] at hf
      subst hf
      show (0 : Int) ≤ ((-1031) + ((1) * ρ 3 + 0))
      omega
    · exact absurd hq List.not_mem_nil
/-- ldC -/
theorem lem_173_ok (hU : uqG G C) : lem_173.1.2.1 = [] ∧ lemOK (PRd G C D xs) G rgs lem_173 := by
  refine ⟨rfl, fun ρ h ha hT => ?_⟩
  obtain ⟨-, -, hF, hG, hH, hA, hP⟩ := ha
  rcases (by omega : ρ 1 ≤ -1 ∨ ρ 2 + 1 ≤ ρ 1 ∨ (0 ≤ ρ 1 ∧ ρ 1 ≤ ρ 2)) with hc | hc | hc
  · exact ⟨_, List.mem_of_getElem? (i := 0) rfl, ρ, fun _ _ => rfl, pureP (fun f hf => by simp only [List.mem_cons, List.not_mem_nil, or_false] at hf; rcases hf with rfl <;> simp only [ev, evT] <;> omega)⟩
  · exact ⟨_, List.mem_of_getElem? (i := 1) rfl, ρ, fun _ _ => rfl, pureP (fun f hf => by simp only [List.mem_cons, List.not_mem_nil, or_false] at hf; rcases hf with rfl <;> simp only [ev, evT] <;> omega)⟩
  · exact ⟨_, List.mem_of_getElem? (i := 2) rfl, ρ, fun _ _ => rfl, pureP (fun f hf => by simp only [List.mem_cons, List.not_mem_nil, or_false] at hf; rcases hf with rfl | rfl <;> simp only [ev, evT] <;> omega)⟩
/-- ldM -/
theorem lem_174_ok (hU : uqG G C) : lem_174.1.2.1 = [] ∧ lemOK (PRd G C D xs) G rgs lem_174 := by
  refine ⟨rfl, fun ρ h ha hT => ?_⟩
  obtain ⟨-, -, hF, hG, hH, hA, hP⟩ := ha
  rcases (by omega : ρ 1 ≤ -1 ∨ ρ 2 + 1 ≤ ρ 1 ∨ (0 ≤ ρ 1 ∧ ρ 1 ≤ ρ 2)) with hc | hc | hc
  · exact ⟨_, List.mem_of_getElem? (i := 0) rfl, ρ, fun _ _ => rfl, pureP (fun f hf => by simp only [List.mem_cons, List.not_mem_nil, or_false] at hf; rcases hf with rfl <;> simp only [ev, evT] <;> omega)⟩
  · exact ⟨_, List.mem_of_getElem? (i := 1) rfl, ρ, fun _ _ => rfl, pureP (fun f hf => by simp only [List.mem_cons, List.not_mem_nil, or_false] at hf; rcases hf with rfl <;> simp only [ev, evT] <;> omega)⟩
  · exact ⟨_, List.mem_of_getElem? (i := 2) rfl, ρ, fun _ _ => rfl, pureP (fun f hf => by simp only [List.mem_cons, List.not_mem_nil, or_false] at hf; rcases hf with rfl | rfl <;> simp only [ev, evT] <;> omega)⟩
/-- next6 -/
theorem lem_175_ok (hU : uqG G C) : lem_175.1.2.1 = [] ∧ lemOK (PRd G C D xs) G rgs lem_175 := by
  refine ⟨rfl, fun ρ h ha hT => ?_⟩
  obtain ⟨-, -, hF, hG, hH, hA, hP⟩ := ha
  have p0 : ((0) + ((1) * ρ 0 + 0)) = 6 * ((0) + ((1) * ρ 1 + 0)) := hP _ (List.mem_of_getElem? (i := 0) rfl)
  refine ⟨_, List.mem_cons_self, ρ, fun _ _ => rfl, fun q hq => absurd hq List.not_mem_nil, trivial, fun f hf => ?_, fun q hq => absurd hq List.not_mem_nil, fun q hq => absurd hq List.not_mem_nil, fun q hq => absurd hq List.not_mem_nil, fun q hq => ?_⟩
  · exact absurd hf List.not_mem_nil
  · simp only [List.mem_cons, List.not_mem_nil, or_false] at hq
    subst hq
    show ((6) + ((1) * ρ 0 + 0)) = 6 * ((1) + ((1) * ρ 1 + 0))
    omega
/-- fleetC -/
theorem lem_176_ok (hU : uqG G C) : lem_176.1.2.1 = [] ∧ lemOK (PRd G C D xs) G rgs lem_176 := by
  refine ⟨rfl, fun ρ h ha hT => ?_⟩
  obtain ⟨-, -, hF, hG, hH, hA, hP⟩ := ha
  rcases (by omega : ρ 1 ≤ 0 ∨ 1 ≤ ρ 1) with hc | hc
  · refine ⟨_, List.mem_cons_self, ρ, fun _ _ => rfl, fun q hq => absurd hq List.not_mem_nil, trivial, fun f hf => ?_, fun q hq => absurd hq List.not_mem_nil, fun q hq => absurd hq List.not_mem_nil, fun q hq => absurd hq List.not_mem_nil, fun q hq => ?_⟩
    · simp only [List.mem_cons, List.not_mem_nil, or_false] at hf
      subst hf
      show (0 : Int) ≤ ((0) + ((-1) * ρ 1 + 0))
      omega
    · exact absurd hq List.not_mem_nil
  · refine ⟨_, (List.mem_cons_of_mem _ List.mem_cons_self), ρ, fun _ _ => rfl, fun q hq => absurd hq List.not_mem_nil, trivial, fun f hf => ?_, fun q hq => absurd hq List.not_mem_nil, fun q hq => absurd hq List.not_mem_nil, fun q hq => absurd hq List.not_mem_nil, fun q hq => ?_⟩
    · simp only [List.mem_cons, List.not_mem_nil, or_false] at hf
      subst hf
      show (0 : Int) ≤ ((-1) + ((1) * ρ 1 + 0))
      omega
    · exact absurd hq List.not_mem_nil
/-- noLo -/
theorem lem_177_ok (hU : uqG G C) : lem_177.1.2.1 = [] ∧ lemOK (PRd G C D xs) G rgs lem_177 := by
  refine ⟨rfl, fun ρ h ha hT => ?_⟩
  obtain ⟨-, -, hF, hG, hH, hA, hP⟩ := ha
  have f0 : (0 : Int) ≤ ((-1) + ((-1) * ρ 0 + 0)) := hF _ (List.mem_of_getElem? (i := 0) rfl)
  have f1 : (0 : Int) ≤ ((0) + ((1) * ρ 0 + 0)) := hF _ (List.mem_of_getElem? (i := 1) rfl)
  exact absurd f0 (by omega)
/-- noHi -/
theorem lem_178_ok (hU : uqG G C) : lem_178.1.2.1 = [] ∧ lemOK (PRd G C D xs) G rgs lem_178 := by
  refine ⟨rfl, fun ρ h ha hT => ?_⟩
  obtain ⟨-, -, hF, hG, hH, hA, hP⟩ := ha
  have f0 : (0 : Int) ≤ ((-1) + ((1) * ρ 1 + ((-1) * ρ 2 + 0))) := hF _ (List.mem_of_getElem? (i := 0) rfl)
  have f1 : (0 : Int) ≤ ((0) + ((-1) * ρ 1 + ((1) * ρ 2 + 0))) := hF _ (List.mem_of_getElem? (i := 1) rfl)
  exact absurd f0 (by omega)
/-- noTwo -/
theorem lem_179_ok (hU : uqG G C) : lem_179.1.2.1 = [] ∧ lemOK (PRd G C D xs) G rgs lem_179 := by
  refine ⟨rfl, fun ρ h ha hT => ?_⟩
  obtain ⟨-, -, hF, hG, hH, hA, hP⟩ := ha
  have f0 : (0 : Int) ≤ ((-1) + ((1) * ρ 1 + ((-1) * ρ 2 + 0))) := hF _ (List.mem_of_getElem? (i := 0) rfl)
  have f1 : (0 : Int) ≤ ((-1) + ((-1) * ρ 1 + 0)) := hF _ (List.mem_of_getElem? (i := 1) rfl)
  have f2 : (0 : Int) ≤ ((0) + ((1) * ρ 2 + 0)) := hF _ (List.mem_of_getElem? (i := 2) rfl)
  exact absurd f0 (by omega)
/-- bLe -/
theorem lem_180_ok (hU : uqG G C) : lem_180.1.2.1 = [] ∧ lemOK (PRd G C D xs) G rgs lem_180 := by
  refine ⟨rfl, fun ρ h ha hT => ?_⟩
  obtain ⟨-, -, hF, hG, hH, hA, hP⟩ := ha
  have f0 : (0 : Int) ≤ ((1180) + ((-1) * ρ 1 + 0)) := hF _ (List.mem_of_getElem? (i := 0) rfl)
  refine ⟨_, List.mem_cons_self, ρ, fun _ _ => rfl, fun q hq => absurd hq List.not_mem_nil, trivial, fun f hf => ?_, fun q hq => absurd hq List.not_mem_nil, fun q hq => absurd hq List.not_mem_nil, fun q hq => absurd hq List.not_mem_nil, fun q hq => ?_⟩
  · simp only [List.mem_cons, List.not_mem_nil, or_false] at hf
    subst hf
    show (0 : Int) ≤ ((1180) + ((-1) * ρ 1 + 0))
    omega
  · exact absurd hq List.not_mem_nil
/-- bGe -/
theorem lem_181_ok (hU : uqG G C) : lem_181.1.2.1 = [] ∧ lemOK (PRd G C D xs) G rgs lem_181 := by
  refine ⟨rfl, fun ρ h ha hT => ?_⟩
  obtain ⟨-, -, hF, hG, hH, hA, hP⟩ := ha
  have f0 : (0 : Int) ≤ ((-1181) + ((1) * ρ 1 + 0)) := hF _ (List.mem_of_getElem? (i := 0) rfl)
  refine ⟨_, List.mem_cons_self, ρ, fun _ _ => rfl, fun q hq => absurd hq List.not_mem_nil, trivial, fun f hf => ?_, fun q hq => absurd hq List.not_mem_nil, fun q hq => absurd hq List.not_mem_nil, fun q hq => absurd hq List.not_mem_nil, fun q hq => ?_⟩
  · simp only [List.mem_cons, List.not_mem_nil, or_false] at hf
    subst hf
    show (0 : Int) ≤ ((-1181) + ((1) * ρ 1 + 0))
    omega
  · exact absurd hq List.not_mem_nil
/-- dir1 -/
theorem lem_182_ok (hU : uqG G C) : lem_182.1.2.1 = [] ∧ lemOK (PRd G C D xs) G rgs lem_182 := by
  refine ⟨rfl, fun ρ h ha hT => ?_⟩
  obtain ⟨-, -, hF, hG, hH, hA, hP⟩ := ha
  have f0 : (0 : Int) ≤ ((1) + ((123) * ρ 1 + ((-1) * ρ 3 + 0))) := hF _ (List.mem_of_getElem? (i := 0) rfl)
  refine ⟨_, List.mem_cons_self, ρ, fun _ _ => rfl, fun q hq => absurd hq List.not_mem_nil, trivial, fun f hf => ?_, fun q hq => absurd hq List.not_mem_nil, fun q hq => absurd hq List.not_mem_nil, fun q hq => absurd hq List.not_mem_nil, fun q hq => ?_⟩
  · simp only [List.mem_cons, List.not_mem_nil, or_false] at hf
    subst hf
    show (0 : Int) ≤ ((1) + ((123) * ρ 1 + ((-1) * ρ 3 + 0)))
    omega
  · exact absurd hq List.not_mem_nil
/-- dir2 -/
theorem lem_183_ok (hU : uqG G C) : lem_183.1.2.1 = [] ∧ lemOK (PRd G C D xs) G rgs lem_183 := by
  refine ⟨rfl, fun ρ h ha hT => ?_⟩
  obtain ⟨-, -, hF, hG, hH, hA, hP⟩ := ha
  have f0 : (0 : Int) ≤ ((2) + ((123) * ρ 1 + ((-1) * ρ 3 + 0))) := hF _ (List.mem_of_getElem? (i := 0) rfl)
  refine ⟨_, List.mem_cons_self, ρ, fun _ _ => rfl, fun q hq => absurd hq List.not_mem_nil, trivial, fun f hf => ?_, fun q hq => absurd hq List.not_mem_nil, fun q hq => absurd hq List.not_mem_nil, fun q hq => absurd hq List.not_mem_nil, fun q hq => ?_⟩
  · simp only [List.mem_cons, List.not_mem_nil, or_false] at hf
    subst hf
    show (0 : Int) ≤ ((2) + ((123) * ρ 1 + ((-1) * ρ 3 + 0)))
    omega
  · exact absurd hq List.not_mem_nil
/-- dir3 -/
theorem lem_184_ok (hU : uqG G C) : lem_184.1.2.1 = [] ∧ lemOK (PRd G C D xs) G rgs lem_184 := by
  refine ⟨rfl, fun ρ h ha hT => ?_⟩
  obtain ⟨-, -, hF, hG, hH, hA, hP⟩ := ha
  have f0 : (0 : Int) ≤ ((3) + ((123) * ρ 1 + ((-1) * ρ 3 + 0))) := hF _ (List.mem_of_getElem? (i := 0) rfl)
  refine ⟨_, List.mem_cons_self, ρ, fun _ _ => rfl, fun q hq => absurd hq List.not_mem_nil, trivial, fun f hf => ?_, fun q hq => absurd hq List.not_mem_nil, fun q hq => absurd hq List.not_mem_nil, fun q hq => absurd hq List.not_mem_nil, fun q hq => ?_⟩
  · simp only [List.mem_cons, List.not_mem_nil, or_false] at hf
    subst hf
    show (0 : Int) ≤ ((3) + ((123) * ρ 1 + ((-1) * ρ 3 + 0)))
    omega
  · exact absurd hq List.not_mem_nil
/-- digP -/
theorem lem_185_ok (hU : uqG G C) : lem_185.1.2.1 = [] ∧ lemOK (PRd G C D xs) G rgs lem_185 := by
  refine ⟨rfl, fun ρ h ha hT => ?_⟩
  obtain ⟨-, -, hF, hG, hH, hA, hP⟩ := ha
  have f0 : (0 : Int) ≤ ((0) + ((1) * ρ 0 + 0)) := hF _ (List.mem_of_getElem? (i := 0) rfl)
  have p0 : ((0) + ((1) * ρ 1 + 0)) = szZ ((0) + ((1) * ρ 0 + 0)) := hP _ (List.mem_of_getElem? (i := 0) rfl)
  refine ⟨_, List.mem_cons_self, ρ, fun _ _ => rfl, fun q hq => absurd hq List.not_mem_nil, trivial, fun f hf => ?_, fun q hq => absurd hq List.not_mem_nil, fun q hq => absurd hq List.not_mem_nil, fun q hq => absurd hq List.not_mem_nil, fun q hq => ?_⟩
  · exact absurd hf List.not_mem_nil
  · simp only [List.mem_cons, List.not_mem_nil, or_false] at hq
    subst hq
    show ((0) + ((1) * ρ 1 + 0)) = szP (-(((0) + ((-1) * ρ 0 + 0))))
    rw [show (-(((0) + ((-1) * ρ 0 + 0))) : Int) = ρ 0 by omega]
    have e : szZ ((0 : Int) + (1 * ρ 0 + 0)) = szP (ρ 0) := by
      rw [show ((0 : Int) + (1 * ρ 0 + 0)) = ρ 0 by omega]
      unfold szZ
      rw [if_pos (by omega)]
    omega
/-- digN -/
theorem lem_186_ok (hU : uqG G C) : lem_186.1.2.1 = [] ∧ lemOK (PRd G C D xs) G rgs lem_186 := by
  refine ⟨rfl, fun ρ h ha hT => ?_⟩
  obtain ⟨-, -, hF, hG, hH, hA, hP⟩ := ha
  have f0 : (0 : Int) ≤ ((-1) + ((-1) * ρ 0 + 0)) := hF _ (List.mem_of_getElem? (i := 0) rfl)
  have p0 : ((0) + ((1) * ρ 1 + 0)) = szZ ((0) + ((1) * ρ 0 + 0)) := hP _ (List.mem_of_getElem? (i := 0) rfl)
  have e : szZ ((0 : Int) + (1 * ρ 0 + 0)) = 1 + szP (-(ρ 0)) := by
    rw [show ((0 : Int) + (1 * ρ 0 + 0)) = ρ 0 by omega]
    unfold szZ
    rw [if_neg (by omega)]
  have e2 := szP_rg (-(ρ 0))
  refine ⟨_, List.mem_cons_self, ρ, fun _ _ => rfl, fun q hq => absurd hq List.not_mem_nil, trivial, fun f hf => ?_, fun q hq => absurd hq List.not_mem_nil, fun q hq => absurd hq List.not_mem_nil, fun q hq => absurd hq List.not_mem_nil, fun q hq => ?_⟩
  · simp only [List.mem_cons, List.not_mem_nil, or_false] at hf
    subst hf
    show (0 : Int) ≤ ((-2) + ((1) * ρ 1 + 0))
    omega
  · simp only [List.mem_cons, List.not_mem_nil, or_false] at hq
    subst hq
    show ((-1) + ((1) * ρ 1 + 0)) = szP (-(((0) + ((1) * ρ 0 + 0))))
    rw [show (-(((0) + ((1) * ρ 0 + 0))) : Int) = -(ρ 0) by omega]
    omega
/-- digQ -/
theorem lem_187_ok (hU : uqG G C) : lem_187.1.2.1 = [] ∧ lemOK (PRd G C D xs) G rgs lem_187 := by
  refine ⟨rfl, fun ρ h ha hT => ?_⟩
  obtain ⟨-, -, hF, hG, hH, hA, hP⟩ := ha
  have f0 : (0 : Int) ≤ ((0) + ((100) * ρ 0 + ((-1) * ρ 1 + 0))) := hF _ (List.mem_of_getElem? (i := 0) rfl)
  have f1 : (0 : Int) ≤ ((99) + ((-100) * ρ 0 + ((1) * ρ 1 + 0))) := hF _ (List.mem_of_getElem? (i := 1) rfl)
  have f2 : (0 : Int) ≤ ((-100) + ((-1) * ρ 1 + 0)) := hF _ (List.mem_of_getElem? (i := 2) rfl)
  have f3 : (0 : Int) ≤ ((2147483648) + ((1) * ρ 1 + 0)) := hF _ (List.mem_of_getElem? (i := 3) rfl)
  have p0 : ((0) + ((1) * ρ 2 + 0)) = szP (-(((0) + ((1) * ρ 1 + 0)))) := hP _ (List.mem_of_getElem? (i := 0) rfl)
  refine ⟨_, List.mem_cons_self, ρ, fun _ _ => rfl, fun q hq => absurd hq List.not_mem_nil, trivial, fun f hf => ?_, fun q hq => absurd hq List.not_mem_nil, fun q hq => absurd hq List.not_mem_nil, fun q hq => absurd hq List.not_mem_nil, fun q hq => ?_⟩
  · exact absurd hf List.not_mem_nil
  · simp only [List.mem_cons, List.not_mem_nil, or_false] at hq
    subst hq
    show ((-2) + ((1) * ρ 2 + 0)) = szP (-(((0) + ((1) * ρ 0 + 0))))
    have e := szP_div (y := -(ρ 1)) (z := -(ρ 0)) (by omega) (by omega) (by omega) (by omega)
    rw [show (-(((0) + ((1) * ρ 0 + 0))) : Int) = -(ρ 0) by omega, e]
    rw [show (-(((0) + ((1) * ρ 1 + 0))) : Int) = -(ρ 1) by omega] at p0
    omega
/-- dig1 -/
theorem lem_188_ok (hU : uqG G C) : lem_188.1.2.1 = [] ∧ lemOK (PRd G C D xs) G rgs lem_188 := by
  refine ⟨rfl, fun ρ h ha hT => ?_⟩
  obtain ⟨-, -, hF, hG, hH, hA, hP⟩ := ha
  have f0 : (0 : Int) ≤ ((0) + ((-1) * ρ 0 + 0)) := hF _ (List.mem_of_getElem? (i := 0) rfl)
  have p0 : ((0) + ((1) * ρ 1 + 0)) = szP (-(((0) + ((1) * ρ 0 + 0)))) := hP _ (List.mem_of_getElem? (i := 0) rfl)
  have e := (szP_rg (-(ρ 0))).1
  rw [show (-(((0) + ((1) * ρ 0 + 0))) : Int) = -(ρ 0) by omega] at p0
  refine ⟨_, List.mem_cons_self, ρ, fun _ _ => rfl, fun q hq => absurd hq List.not_mem_nil, trivial, fun f hf => ?_, fun q hq => absurd hq List.not_mem_nil, fun q hq => absurd hq List.not_mem_nil, fun q hq => absurd hq List.not_mem_nil, fun q hq => ?_⟩
  · simp only [List.mem_cons, List.not_mem_nil, or_false] at hf
    subst hf
    show (0 : Int) ≤ ((-1) + ((1) * ρ 1 + 0))
    omega
  · exact absurd hq List.not_mem_nil
/-- dig2 -/
theorem lem_189_ok (hU : uqG G C) : lem_189.1.2.1 = [] ∧ lemOK (PRd G C D xs) G rgs lem_189 := by
  refine ⟨rfl, fun ρ h ha hT => ?_⟩
  obtain ⟨-, -, hF, hG, hH, hA, hP⟩ := ha
  have f0 : (0 : Int) ≤ ((-10) + ((-1) * ρ 0 + 0)) := hF _ (List.mem_of_getElem? (i := 0) rfl)
  have p0 : ((0) + ((1) * ρ 1 + 0)) = szP (-(((0) + ((1) * ρ 0 + 0)))) := hP _ (List.mem_of_getElem? (i := 0) rfl)
  have e := szP_2 (y := -(ρ 0)) (by omega)
  rw [show (-(((0) + ((1) * ρ 0 + 0))) : Int) = -(ρ 0) by omega] at p0
  refine ⟨_, List.mem_cons_self, ρ, fun _ _ => rfl, fun q hq => absurd hq List.not_mem_nil, trivial, fun f hf => ?_, fun q hq => absurd hq List.not_mem_nil, fun q hq => absurd hq List.not_mem_nil, fun q hq => absurd hq List.not_mem_nil, fun q hq => ?_⟩
  · simp only [List.mem_cons, List.not_mem_nil, or_false] at hf
    subst hf
    show (0 : Int) ≤ ((-2) + ((1) * ρ 1 + 0))
    omega
  · exact absurd hq List.not_mem_nil
/-- dig3 -/
theorem lem_190_ok (hU : uqG G C) : lem_190.1.2.1 = [] ∧ lemOK (PRd G C D xs) G rgs lem_190 := by
  refine ⟨rfl, fun ρ h ha hT => ?_⟩
  obtain ⟨-, -, hF, hG, hH, hA, hP⟩ := ha
  have f0 : (0 : Int) ≤ ((-100) + ((-1) * ρ 0 + 0)) := hF _ (List.mem_of_getElem? (i := 0) rfl)
  have p0 : ((0) + ((1) * ρ 1 + 0)) = szP (-(((0) + ((1) * ρ 0 + 0)))) := hP _ (List.mem_of_getElem? (i := 0) rfl)
  have e := szP_3 (y := -(ρ 0)) (by omega)
  rw [show (-(((0) + ((1) * ρ 0 + 0))) : Int) = -(ρ 0) by omega] at p0
  refine ⟨_, List.mem_cons_self, ρ, fun _ _ => rfl, fun q hq => absurd hq List.not_mem_nil, trivial, fun f hf => ?_, fun q hq => absurd hq List.not_mem_nil, fun q hq => absurd hq List.not_mem_nil, fun q hq => absurd hq List.not_mem_nil, fun q hq => ?_⟩
  · simp only [List.mem_cons, List.not_mem_nil, or_false] at hf
    subst hf
    show (0 : Int) ≤ ((-3) + ((1) * ρ 1 + 0))
    omega
  · exact absurd hq List.not_mem_nil
end LMS
