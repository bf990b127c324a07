section LMT
variable {G C : Nat → Nat} {h : mH} {D : Nat} {xs : Nat → Int32}
/-- kpSH -/
theorem lem_741_ok (hU : uqG G C) : lem_741.1.2.1 = [] ∧ lemOK (PRd G C D xs) G rgs lem_741 := by
  refine ⟨rfl, fun ρ h ha hT => ?_⟩
  obtain ⟨-, -, hF, hG, hH, hA, hP⟩ := ha
  have f0 : (0 : Int) ≤ ((0) + ((-1) * ρ 5 + ((1) * ρ 6 + 0))) := hF _ (List.mem_of_getElem? (i := 0) rfl)
  have f1 : (0 : Int) ≤ ((0) + ((1) * ρ 5 + ((-1) * ρ 6 + 0))) := hF _ (List.mem_of_getElem? (i := 1) rfl)
  have f2 : (0 : Int) ≤ ((0) + ((1) * ρ 2 + 0)) := hF _ (List.mem_of_getElem? (i := 2) rfl)
  have f3 : (0 : Int) ≤ ((5) + ((-1) * ρ 2 + 0)) := hF _ (List.mem_of_getElem? (i := 3) rfl)
  have f4 : (0 : Int) ≤ ((0) + ((1) * ρ 3 + 0)) := hF _ (List.mem_of_getElem? (i := 4) rfl)
  have f5 : (0 : Int) ≤ ((1776) + ((-1) * ρ 3 + 0)) := hF _ (List.mem_of_getElem? (i := 5) rfl)
  have g0 : G (ρ 0).toNat = 22 := by
    have q := (hG _ (List.mem_of_getElem? (i := 0) rfl)).2
    rwa [show ev ρ (0, [(0, 1)]) = ρ 0 from ev_v] at q
  have g1 : G (ρ 4).toNat = 118 := by
    have q := (hG _ (List.mem_of_getElem? (i := 1) rfl)).2
    rwa [show ev ρ (0, [(4, 1)]) = ρ 4 from ev_v] at q
  have g2 : G (ρ 1).toNat = 121 := by
    have q := (hG _ (List.mem_of_getElem? (i := 2) rfl)).2
    rwa [show ev ρ (0, [(1, 1)]) = ρ 1 from ev_v] at q
  have b0 : (0 : Int) ≤ ((0) + ((1777) * ρ 2 + ((1) * ρ 3 + 0))) := b_aA (hA _ (List.mem_of_getElem? (i := 0) rfl))
  have b1 : (0 : Int) ≤ ((0) + ((1) * ρ 3 + 0)) := b_aA (hA _ (List.mem_of_getElem? (i := 1) rfl))
  have a0 : vw C h 121 ((1777 * ρ 2 + ρ 3).toNat) = ρ 5 := vw_aA hU (hA _ (List.mem_of_getElem? (i := 0) rfl)) ev_v g2 (by omega) (by omega) (i := (1777 * ρ 2 + ρ 3).toNat) (show ((((1777 * ρ 2 + ρ 3).toNat : Nat)) : Int) = ((0) + ((1777) * ρ 2 + ((1) * ρ 3 + 0))) by omega) ev_v
  have a1 : vw C h 118 ((ρ 3).toNat) = ρ 6 := vw_aA hU (hA _ (List.mem_of_getElem? (i := 1) rfl)) ev_v g1 (by omega) (by omega) (i := (ρ 3).toNat) (show ((((ρ 3).toNat : Nat)) : Int) = ((0) + ((1) * ρ 3 + 0)) by omega) ev_v
  have p0 : q396 (vw C h) (ρ 7) := c2 (P := (fun (_ : Int) c => q396 (vw C h) c)) (r := 0) (r' := 0) (show q396 (vw C h) (((0) + ((1) * ρ 7 + 0))) from hP _ (List.mem_of_getElem? (i := 0) rfl)) rfl (by omega)
  have p1 : qKp (vw C h) 121 6 (1777 * ρ 2 + ρ 3) (ρ 2 + 16 * ρ 7) := c2 (P := (fun r c => qKp (vw C h) 121 6 r c)) (show qKp (vw C h) 121 6 (((0) + ((1777) * ρ 2 + ((1) * ρ 3 + 0)))) (((0) + ((1) * ρ 2 + ((16) * ρ 7 + 0)))) from hP _ (List.mem_of_getElem? (i := 1) rfl)) (by omega) (by omega)
  refine ⟨_, List.mem_cons_self, ρ, fun _ _ => rfl, fun q hq => absurd hq List.not_mem_nil, trivial, fun f hf => ?_, fun q hq => absurd hq List.not_mem_nil, fun q hq => absurd hq List.not_mem_nil, fun q hq => absurd hq List.not_mem_nil, fun q hq => ?_⟩
  · exact absurd hf List.not_mem_nil
  · simp only [List.mem_cons, List.not_mem_nil, or_false] at hq
    subst hq
    show qKp (vw C h) 121 6 (((1) + ((1777) * ρ 2 + ((1) * ρ 3 + 0)))) (((0) + ((1) * ρ 2 + ((16) * ρ 7 + 0))))
    refine c2 (P := (fun r c => qKp (vw C h) 121 6 r c)) (r := 1777 * ρ 2 + ρ 3 + 1) (c := ρ 2 + 16 * ρ 7) ?_ (by omega) (by omega)
    show qKp (vw C h) 121 6 (1777 * ρ 2 + ρ 3 + 1) (ρ 2 + 16 * ρ 7)
    exact (c2 (P := (fun r c => qKp (vw C h) 121 6 r c)) (r_kpS (p := (ρ 2).toNat) (k := ρ 3) (W := ρ 7) (by decide) (by omega) (by omega) (by omega) (by omega) (Eq.trans (congrArg (vw C h 121) (show 1777 * (ρ 2).toNat + (ρ 3).toNat = (1777 * ρ 2 + ρ 3).toNat by omega)) a0) a1 p0 (c2 (P := (fun r c => qKp (vw C h) 121 6 r c)) p1 (by omega) (by omega))) (by omega) (by omega))
/-- kpZH -/
theorem lem_742_ok (hU : uqG G C) : lem_742.1.2.1 = [] ∧ lemOK (PRd G C D xs) G rgs lem_742 := by
  refine ⟨rfl, fun ρ h ha hT => ?_⟩
  obtain ⟨-, -, hF, hG, hH, hA, hP⟩ := ha
  have f0 : (0 : Int) ≤ ((0) + ((1) * ρ 0 + 0)) := hF _ (List.mem_of_getElem? (i := 0) rfl)
  have f1 : (0 : Int) ≤ ((5) + ((-1) * ρ 0 + 0)) := hF _ (List.mem_of_getElem? (i := 1) rfl)
  have p0 : q396 (vw C h) (ρ 1) := c2 (P := (fun (_ : Int) c => q396 (vw C h) c)) (r := 0) (r' := 0) (show q396 (vw C h) (((0) + ((1) * ρ 1 + 0))) from hP _ (List.mem_of_getElem? (i := 0) rfl)) rfl (by omega)
  have p1 : qKp (vw C h) 121 6 (1777 * ρ 0 + 1777) (ρ 0 + 16 * ρ 1) := c2 (P := (fun r c => qKp (vw C h) 121 6 r c)) (show qKp (vw C h) 121 6 (((1777) + ((1777) * ρ 0 + 0))) (((0) + ((1) * ρ 0 + ((16) * ρ 1 + 0)))) from hP _ (List.mem_of_getElem? (i := 1) rfl)) (by omega) (by omega)
  refine ⟨_, List.mem_cons_self, ρ, fun _ _ => rfl, fun q hq => absurd hq List.not_mem_nil, trivial, fun f hf => ?_, fun q hq => absurd hq List.not_mem_nil, fun q hq => absurd hq List.not_mem_nil, fun q hq => absurd hq List.not_mem_nil, fun q hq => ?_⟩
  · exact absurd hf List.not_mem_nil
  · simp only [List.mem_cons, List.not_mem_nil, or_false] at hq
    subst hq
    show qBlk (vw C h) 121 6 (((0) + ((1777) * ρ 0 + 0))) (((0) + ((1) * ρ 1 + 0)))
    refine c2 (P := (fun r c => qBlk (vw C h) 121 6 r c)) (r := 1777 * ρ 0) (c := ρ 1) ?_ (by omega) (by omega)
    show qBlk (vw C h) 121 6 (1777 * ρ 0) (ρ 1)
    exact (c2 (P := (fun r c => qBlk (vw C h) 121 6 r c)) (r_kpZ (p := (ρ 0).toNat) (W := ρ 1) (by omega) (by decide) p0 (c2 (P := (fun r c => qKp (vw C h) 121 6 r c)) p1 (by omega) (by omega))) (by omega) (by omega))
/-- br0H -/
theorem lem_743_ok (hU : uqG G C) : lem_743.1.2.1 = [] ∧ lemOK (PRd G C D xs) G rgs lem_743 := by
  refine ⟨rfl, fun ρ h ha hT => ?_⟩
  obtain ⟨-, -, hF, hG, hH, hA, hP⟩ := ha
  have f0 : (0 : Int) ≤ ((0) + ((1) * ρ 0 + 0)) := hF _ (List.mem_of_getElem? (i := 0) rfl)
  have f1 : (0 : Int) ≤ ((5) + ((-1) * ρ 0 + 0)) := hF _ (List.mem_of_getElem? (i := 1) rfl)
  have p0 : qBlk (vw C h) 121 6 (1777 * ρ 0) (ρ 1) := c2 (P := (fun r c => qBlk (vw C h) 121 6 r c)) (show qBlk (vw C h) 121 6 (((0) + ((1777) * ρ 0 + 0))) (((0) + ((1) * ρ 1 + 0))) from hP _ (List.mem_of_getElem? (i := 0) rfl)) (by omega) (by omega)
  refine ⟨_, List.mem_cons_self, ρ, fun _ _ => rfl, fun q hq => absurd hq List.not_mem_nil, trivial, fun f hf => ?_, fun q hq => absurd hq List.not_mem_nil, fun q hq => absurd hq List.not_mem_nil, fun q hq => absurd hq List.not_mem_nil, fun q hq => ?_⟩
  · exact absurd hf List.not_mem_nil
  · simp only [List.mem_cons, List.not_mem_nil, or_false] at hq
    subst hq
    show q407 (vw C h) (((0) + 0)) (((0) + ((1) * ρ 1 + 0)))
    refine c2 (P := (fun r c => q407 (vw C h) r c)) (r := (0 : Int)) (c := ρ 1) ?_ (by omega) (by omega)
    show q407 (vw C h) ((0 : Int)) (ρ 1)
    exact r_br0 p0
/-- brSH -/
theorem lem_744_ok (hU : uqG G C) : lem_744.1.2.1 = [] ∧ lemOK (PRd G C D xs) G rgs lem_744 := by
  refine ⟨rfl, fun ρ h ha hT => ?_⟩
  obtain ⟨-, -, hF, hG, hH, hA, hP⟩ := ha
  have f0 : (0 : Int) ≤ ((0) + ((-1) * ρ 5 + ((1) * ρ 6 + 0))) := hF _ (List.mem_of_getElem? (i := 0) rfl)
  have f1 : (0 : Int) ≤ ((0) + ((1) * ρ 5 + ((-1) * ρ 6 + 0))) := hF _ (List.mem_of_getElem? (i := 1) rfl)
  have f2 : (0 : Int) ≤ ((0) + ((1) * ρ 2 + 0)) := hF _ (List.mem_of_getElem? (i := 2) rfl)
  have f3 : (0 : Int) ≤ ((5) + ((-1) * ρ 2 + 0)) := hF _ (List.mem_of_getElem? (i := 3) rfl)
  have f4 : (0 : Int) ≤ ((0) + ((1) * ρ 3 + 0)) := hF _ (List.mem_of_getElem? (i := 4) rfl)
  have f5 : (0 : Int) ≤ ((1776) + ((-1) * ρ 3 + 0)) := hF _ (List.mem_of_getElem? (i := 5) rfl)
  have g0 : G (ρ 0).toNat = 22 := by
    have q := (hG _ (List.mem_of_getElem? (i := 0) rfl)).2
    rwa [show ev ρ (0, [(0, 1)]) = ρ 0 from ev_v] at q
  have g1 : G (ρ 4).toNat = 118 := by
    have q := (hG _ (List.mem_of_getElem? (i := 1) rfl)).2
    rwa [show ev ρ (0, [(4, 1)]) = ρ 4 from ev_v] at q
  have g2 : G (ρ 1).toNat = 121 := by
    have q := (hG _ (List.mem_of_getElem? (i := 2) rfl)).2
    rwa [show ev ρ (0, [(1, 1)]) = ρ 1 from ev_v] at q
  have b0 : (0 : Int) ≤ ((0) + ((1777) * ρ 2 + ((1) * ρ 3 + 0))) := b_aA (hA _ (List.mem_of_getElem? (i := 0) rfl))
  have b1 : (0 : Int) ≤ ((0) + ((1) * ρ 3 + 0)) := b_aA (hA _ (List.mem_of_getElem? (i := 1) rfl))
  have a0 : vw C h 121 ((1777 * ρ 2 + ρ 3).toNat) = ρ 5 := vw_aA hU (hA _ (List.mem_of_getElem? (i := 0) rfl)) ev_v g2 (by omega) (by omega) (i := (1777 * ρ 2 + ρ 3).toNat) (show ((((1777 * ρ 2 + ρ 3).toNat : Nat)) : Int) = ((0) + ((1777) * ρ 2 + ((1) * ρ 3 + 0))) by omega) ev_v
  have a1 : vw C h 118 ((ρ 3).toNat) = ρ 6 := vw_aA hU (hA _ (List.mem_of_getElem? (i := 1) rfl)) ev_v g1 (by omega) (by omega) (i := (ρ 3).toNat) (show ((((ρ 3).toNat : Nat)) : Int) = ((0) + ((1) * ρ 3 + 0)) by omega) ev_v
  have p0 : qBlk (vw C h) 121 6 (1777 * ρ 2) (ρ 7) := c2 (P := (fun r c => qBlk (vw C h) 121 6 r c)) (show qBlk (vw C h) 121 6 (((0) + ((1777) * ρ 2 + 0))) (((0) + ((1) * ρ 7 + 0))) from hP _ (List.mem_of_getElem? (i := 0) rfl)) (by omega) (by omega)
  have p1 : q407 (vw C h) (ρ 3) (ρ 7) := c2 (P := (fun r c => q407 (vw C h) r c)) (show q407 (vw C h) (((0) + ((1) * ρ 3 + 0))) (((0) + ((1) * ρ 7 + 0))) from hP _ (List.mem_of_getElem? (i := 1) rfl)) (by omega) (by omega)
  refine ⟨_, List.mem_cons_self, ρ, fun _ _ => rfl, fun q hq => absurd hq List.not_mem_nil, trivial, fun f hf => ?_, fun q hq => absurd hq List.not_mem_nil, fun q hq => absurd hq List.not_mem_nil, fun q hq => absurd hq List.not_mem_nil, fun q hq => ?_⟩
  · exact absurd hf List.not_mem_nil
  · simp only [List.mem_cons, List.not_mem_nil, or_false] at hq
    subst hq
    show q407 (vw C h) (((1) + ((1) * ρ 3 + 0))) (((0) + ((1) * ρ 7 + 0)))
    refine c2 (P := (fun r c => q407 (vw C h) r c)) (r := ρ 3 + 1) (c := ρ 7) ?_ (by omega) (by omega)
    show q407 (vw C h) (ρ 3 + 1) (ρ 7)
    exact (c2 (P := (fun r c => q407 (vw C h) r c)) (r_brS (p := (ρ 2).toNat) (k := ρ 3) (by omega) (by omega) (Eq.trans (congrArg (vw C h 121) (show 1777 * (ρ 2).toNat + (ρ 3).toNat = (1777 * ρ 2 + ρ 3).toNat by omega)) a0) a1 (c2 (P := (fun r c => qBlk (vw C h) 121 6 r c)) p0 (by omega) (by omega)) p1) (by omega) (by omega))
/-- kp0S -/
theorem lem_745_ok (hU : uqG G C) : lem_745.1.2.1 = [] ∧ lemOK (PRd G C D xs) G rgs lem_745 := by
  refine ⟨rfl, fun ρ h ha hT => ?_⟩
  obtain ⟨-, -, hF, hG, hH, hA, hP⟩ := ha
  have f0 : (0 : Int) ≤ ((0) + ((1) * ρ 0 + 0)) := hF _ (List.mem_of_getElem? (i := 0) rfl)
  have f1 : (0 : Int) ≤ ((1) + ((-1) * ρ 0 + 0)) := hF _ (List.mem_of_getElem? (i := 1) rfl)
  have p0 : q396 (vw C h) (ρ 1) := c2 (P := (fun (_ : Int) c => q396 (vw C h) c)) (r := 0) (r' := 0) (show q396 (vw C h) (((0) + ((1) * ρ 1 + 0))) from hP _ (List.mem_of_getElem? (i := 0) rfl)) rfl (by omega)
  refine ⟨_, List.mem_cons_self, ρ, fun _ _ => rfl, fun q hq => absurd hq List.not_mem_nil, trivial, fun f hf => ?_, fun q hq => absurd hq List.not_mem_nil, fun q hq => absurd hq List.not_mem_nil, fun q hq => absurd hq List.not_mem_nil, fun q hq => ?_⟩
  · exact absurd hf List.not_mem_nil
  · simp only [List.mem_cons, List.not_mem_nil, or_false] at hq
    subst hq
    show qKp (vw C h) 122 2 (((0) + ((1777) * ρ 0 + 0))) (((0) + ((1) * ρ 0 + ((16) * ρ 1 + 0))))
    refine c2 (P := (fun r c => qKp (vw C h) 122 2 r c)) (r := 1777 * ρ 0) (c := ρ 0 + 16 * ρ 1) ?_ (by omega) (by omega)
    show qKp (vw C h) 122 2 (1777 * ρ 0) (ρ 0 + 16 * ρ 1)
    exact (c2 (P := (fun r c => qKp (vw C h) 122 2 r c)) (r_kp0 (p := (ρ 0).toNat) (by omega) p0.1) (by omega) (by omega))
/-- kpSS -/
theorem lem_746_ok (hU : uqG G C) : lem_746.1.2.1 = [] ∧ lemOK (PRd G C D xs) G rgs lem_746 := by
  refine ⟨rfl, fun ρ h ha hT => ?_⟩
  obtain ⟨-, -, hF, hG, hH, hA, hP⟩ := ha
  have f0 : (0 : Int) ≤ ((0) + ((-1) * ρ 5 + ((1) * ρ 6 + 0))) := hF _ (List.mem_of_getElem? (i := 0) rfl)
  have f1 : (0 : Int) ≤ ((0) + ((1) * ρ 5 + ((-1) * ρ 6 + 0))) := hF _ (List.mem_of_getElem? (i := 1) rfl)
  have f2 : (0 : Int) ≤ ((0) + ((1) * ρ 2 + 0)) := hF _ (List.mem_of_getElem? (i := 2) rfl)
  have f3 : (0 : Int) ≤ ((1) + ((-1) * ρ 2 + 0)) := hF _ (List.mem_of_getElem? (i := 3) rfl)
  have f4 : (0 : Int) ≤ ((0) + ((1) * ρ 3 + 0)) := hF _ (List.mem_of_getElem? (i := 4) rfl)
  have f5 : (0 : Int) ≤ ((1776) + ((-1) * ρ 3 + 0)) := hF _ (List.mem_of_getElem? (i := 5) rfl)
  have g0 : G (ρ 0).toNat = 22 := by
    have q := (hG _ (List.mem_of_getElem? (i := 0) rfl)).2
    rwa [show ev ρ (0, [(0, 1)]) = ρ 0 from ev_v] at q
  have g1 : G (ρ 4).toNat = 118 := by
    have q := (hG _ (List.mem_of_getElem? (i := 1) rfl)).2
    rwa [show ev ρ (0, [(4, 1)]) = ρ 4 from ev_v] at q
  have g2 : G (ρ 1).toNat = 122 := by
    have q := (hG _ (List.mem_of_getElem? (i := 2) rfl)).2
    rwa [show ev ρ (0, [(1, 1)]) = ρ 1 from ev_v] at q
  have b0 : (0 : Int) ≤ ((0) + ((1777) * ρ 2 + ((1) * ρ 3 + 0))) := b_aA (hA _ (List.mem_of_getElem? (i := 0) rfl))
  have b1 : (0 : Int) ≤ ((0) + ((1) * ρ 3 + 0)) := b_aA (hA _ (List.mem_of_getElem? (i := 1) rfl))
  have a0 : vw C h 122 ((1777 * ρ 2 + ρ 3).toNat) = ρ 5 := vw_aA hU (hA _ (List.mem_of_getElem? (i := 0) rfl)) ev_v g2 (by omega) (by omega) (i := (1777 * ρ 2 + ρ 3).toNat) (show ((((1777 * ρ 2 + ρ 3).toNat : Nat)) : Int) = ((0) + ((1777) * ρ 2 + ((1) * ρ 3 + 0))) by omega) ev_v
  have a1 : vw C h 118 ((ρ 3).toNat) = ρ 6 := vw_aA hU (hA _ (List.mem_of_getElem? (i := 1) rfl)) ev_v g1 (by omega) (by omega) (i := (ρ 3).toNat) (show ((((ρ 3).toNat : Nat)) : Int) = ((0) + ((1) * ρ 3 + 0)) by omega) ev_v
  have p0 : q396 (vw C h) (ρ 7) := c2 (P := (fun (_ : Int) c => q396 (vw C h) c)) (r := 0) (r' := 0) (show q396 (vw C h) (((0) + ((1) * ρ 7 + 0))) from hP _ (List.mem_of_getElem? (i := 0) rfl)) rfl (by omega)
  have p1 : qKp (vw C h) 122 2 (1777 * ρ 2 + ρ 3) (ρ 2 + 16 * ρ 7) := c2 (P := (fun r c => qKp (vw C h) 122 2 r c)) (show qKp (vw C h) 122 2 (((0) + ((1777) * ρ 2 + ((1) * ρ 3 + 0)))) (((0) + ((1) * ρ 2 + ((16) * ρ 7 + 0)))) from hP _ (List.mem_of_getElem? (i := 1) rfl)) (by omega) (by omega)
  refine ⟨_, List.mem_cons_self, ρ, fun _ _ => rfl, fun q hq => absurd hq List.not_mem_nil, trivial, fun f hf => ?_, fun q hq => absurd hq List.not_mem_nil, fun q hq => absurd hq List.not_mem_nil, fun q hq => absurd hq List.not_mem_nil, fun q hq => ?_⟩
  · exact absurd hf List.not_mem_nil
  · simp only [List.mem_cons, List.not_mem_nil, or_false] at hq
    subst hq
    show qKp (vw C h) 122 2 (((1) + ((1777) * ρ 2 + ((1) * ρ 3 + 0)))) (((0) + ((1) * ρ 2 + ((16) * ρ 7 + 0))))
    refine c2 (P := (fun r c => qKp (vw C h) 122 2 r c)) (r := 1777 * ρ 2 + ρ 3 + 1) (c := ρ 2 + 16 * ρ 7) ?_ (by omega) (by omega)
    show qKp (vw C h) 122 2 (1777 * ρ 2 + ρ 3 + 1) (ρ 2 + 16 * ρ 7)
    exact (c2 (P := (fun r c => qKp (vw C h) 122 2 r c)) (r_kpS (p := (ρ 2).toNat) (k := ρ 3) (W := ρ 7) (by decide) (by omega) (by omega) (by omega) (by omega) (Eq.trans (congrArg (vw C h 122) (show 1777 * (ρ 2).toNat + (ρ 3).toNat = (1777 * ρ 2 + ρ 3).toNat by omega)) a0) a1 p0 (c2 (P := (fun r c => qKp (vw C h) 122 2 r c)) p1 (by omega) (by omega))) (by omega) (by omega))
/-- kpZS -/
theorem lem_747_ok (hU : uqG G C) : lem_747.1.2.1 = [] ∧ lemOK (PRd G C D xs) G rgs lem_747 := by
  refine ⟨rfl, fun ρ h ha hT => ?_⟩
  obtain ⟨-, -, hF, hG, hH, hA, hP⟩ := ha
  have f0 : (0 : Int) ≤ ((0) + ((1) * ρ 0 + 0)) := hF _ (List.mem_of_getElem? (i := 0) rfl)
  have f1 : (0 : Int) ≤ ((1) + ((-1) * ρ 0 + 0)) := hF _ (List.mem_of_getElem? (i := 1) rfl)
  have p0 : q396 (vw C h) (ρ 1) := c2 (P := (fun (_ : Int) c => q396 (vw C h) c)) (r := 0) (r' := 0) (show q396 (vw C h) (((0) + ((1) * ρ 1 + 0))) from hP _ (List.mem_of_getElem? (i := 0) rfl)) rfl (by omega)
  have p1 : qKp (vw C h) 122 2 (1777 * ρ 0 + 1777) (ρ 0 + 16 * ρ 1) := c2 (P := (fun r c => qKp (vw C h) 122 2 r c)) (show qKp (vw C h) 122 2 (((1777) + ((1777) * ρ 0 + 0))) (((0) + ((1) * ρ 0 + ((16) * ρ 1 + 0)))) from hP _ (List.mem_of_getElem? (i := 1) rfl)) (by omega) (by omega)
  refine ⟨_, List.mem_cons_self, ρ, fun _ _ => rfl, fun q hq => absurd hq List.not_mem_nil, trivial, fun f hf => ?_, fun q hq => absurd hq List.not_mem_nil, fun q hq => absurd hq List.not_mem_nil, fun q hq => absurd hq List.not_mem_nil, fun q hq => ?_⟩
  · exact absurd hf List.not_mem_nil
  · simp only [List.mem_cons, List.not_mem_nil, or_false] at hq
    subst hq
    show qBlk (vw C h) 122 2 (((0) + ((1777) * ρ 0 + 0))) (((0) + ((1) * ρ 1 + 0)))
    refine c2 (P := (fun r c => qBlk (vw C h) 122 2 r c)) (r := 1777 * ρ 0) (c := ρ 1) ?_ (by omega) (by omega)
    show qBlk (vw C h) 122 2 (1777 * ρ 0) (ρ 1)
    exact (c2 (P := (fun r c => qBlk (vw C h) 122 2 r c)) (r_kpZ (p := (ρ 0).toNat) (W := ρ 1) (by omega) (by decide) p0 (c2 (P := (fun r c => qKp (vw C h) 122 2 r c)) p1 (by omega) (by omega))) (by omega) (by omega))
/-- br0S -/
theorem lem_748_ok (hU : uqG G C) : lem_748.1.2.1 = [] ∧ lemOK (PRd G C D xs) G rgs lem_748 := by
  refine ⟨rfl, fun ρ h ha hT => ?_⟩
  obtain ⟨-, -, hF, hG, hH, hA, hP⟩ := ha
  have f0 : (0 : Int) ≤ ((0) + ((1) * ρ 0 + 0)) := hF _ (List.mem_of_getElem? (i := 0) rfl)
  have f1 : (0 : Int) ≤ ((1) + ((-1) * ρ 0 + 0)) := hF _ (List.mem_of_getElem? (i := 1) rfl)
  have p0 : qBlk (vw C h) 122 2 (1777 * ρ 0) (ρ 1) := c2 (P := (fun r c => qBlk (vw C h) 122 2 r c)) (show qBlk (vw C h) 122 2 (((0) + ((1777) * ρ 0 + 0))) (((0) + ((1) * ρ 1 + 0))) from hP _ (List.mem_of_getElem? (i := 0) rfl)) (by omega) (by omega)
  refine ⟨_, List.mem_cons_self, ρ, fun _ _ => rfl, fun q hq => absurd hq List.not_mem_nil, trivial, fun f hf => ?_, fun q hq => absurd hq List.not_mem_nil, fun q hq => absurd hq List.not_mem_nil, fun q hq => absurd hq List.not_mem_nil, fun q hq => ?_⟩
  · exact absurd hf List.not_mem_nil
  · simp only [List.mem_cons, List.not_mem_nil, or_false] at hq
    subst hq
    show q407 (vw C h) (((0) + 0)) (((0) + ((1) * ρ 1 + 0)))
    refine c2 (P := (fun r c => q407 (vw C h) r c)) (r := (0 : Int)) (c := ρ 1) ?_ (by omega) (by omega)
    show q407 (vw C h) ((0 : Int)) (ρ 1)
    exact r_br0 p0
/-- brSS -/
theorem lem_749_ok (hU : uqG G C) : lem_749.1.2.1 = [] ∧ lemOK (PRd G C D xs) G rgs lem_749 := by
  refine ⟨rfl, fun ρ h ha hT => ?_⟩
  obtain ⟨-, -, hF, hG, hH, hA, hP⟩ := ha
  have f0 : (0 : Int) ≤ ((0) + ((-1) * ρ 5 + ((1) * ρ 6 + 0))) := hF _ (List.mem_of_getElem? (i := 0) rfl)
  have f1 : (0 : Int) ≤ ((0) + ((1) * ρ 5 + ((-1) * ρ 6 + 0))) := hF _ (List.mem_of_getElem? (i := 1) rfl)
  have f2 : (0 : Int) ≤ ((0) + ((1) * ρ 2 + 0)) := hF _ (List.mem_of_getElem? (i := 2) rfl)
  have f3 : (0 : Int) ≤ ((1) + ((-1) * ρ 2 + 0)) := hF _ (List.mem_of_getElem? (i := 3) rfl)
  have f4 : (0 : Int) ≤ ((0) + ((1) * ρ 3 + 0)) := hF _ (List.mem_of_getElem? (i := 4) rfl)
  have f5 : (0 : Int) ≤ ((1776) + ((-1) * ρ 3 + 0)) := hF _ (List.mem_of_getElem? (i := 5) rfl)
  have g0 : G (ρ 0).toNat = 22 := by
    have q := (hG _ (List.mem_of_getElem? (i := 0) rfl)).2
    rwa [show ev ρ (0, [(0, 1)]) = ρ 0 from ev_v] at q
  have g1 : G (ρ 4).toNat = 118 := by
    have q := (hG _ (List.mem_of_getElem? (i := 1) rfl)).2
    rwa [show ev ρ (0, [(4, 1)]) = ρ 4 from ev_v] at q
  have g2 : G (ρ 1).toNat = 122 := by
    have q := (hG _ (List.mem_of_getElem? (i := 2) rfl)).2
    rwa [show ev ρ (0, [(1, 1)]) = ρ 1 from ev_v] at q
  have b0 : (0 : Int) ≤ ((0) + ((1777) * ρ 2 + ((1) * ρ 3 + 0))) := b_aA (hA _ (List.mem_of_getElem? (i := 0) rfl))
  have b1 : (0 : Int) ≤ ((0) + ((1) * ρ 3 + 0)) := b_aA (hA _ (List.mem_of_getElem? (i := 1) rfl))
  have a0 : vw C h 122 ((1777 * ρ 2 + ρ 3).toNat) = ρ 5 := vw_aA hU (hA _ (List.mem_of_getElem? (i := 0) rfl)) ev_v g2 (by omega) (by omega) (i := (1777 * ρ 2 + ρ 3).toNat) (show ((((1777 * ρ 2 + ρ 3).toNat : Nat)) : Int) = ((0) + ((1777) * ρ 2 + ((1) * ρ 3 + 0))) by omega) ev_v
  have a1 : vw C h 118 ((ρ 3).toNat) = ρ 6 := vw_aA hU (hA _ (List.mem_of_getElem? (i := 1) rfl)) ev_v g1 (by omega) (by omega) (i := (ρ 3).toNat) (show ((((ρ 3).toNat : Nat)) : Int) = ((0) + ((1) * ρ 3 + 0)) by omega) ev_v
  have p0 : qBlk (vw C h) 122 2 (1777 * ρ 2) (ρ 7) := c2 (P := (fun r c => qBlk (vw C h) 122 2 r c)) (show qBlk (vw C h) 122 2 (((0) + ((1777) * ρ 2 + 0))) (((0) + ((1) * ρ 7 + 0))) from hP _ (List.mem_of_getElem? (i := 0) rfl)) (by omega) (by omega)
  have p1 : q407 (vw C h) (ρ 3) (ρ 7) := c2 (P := (fun r c => q407 (vw C h) r c)) (show q407 (vw C h) (((0) + ((1) * ρ 3 + 0))) (((0) + ((1) * ρ 7 + 0))) from hP _ (List.mem_of_getElem? (i := 1) rfl)) (by omega) (by omega)
  refine ⟨_, List.mem_cons_self, ρ, fun _ _ => rfl, fun q hq => absurd hq List.not_mem_nil, trivial, fun f hf => ?_, fun q hq => absurd hq List.not_mem_nil, fun q hq => absurd hq List.not_mem_nil, fun q hq => absurd hq List.not_mem_nil, fun q hq => ?_⟩
  · exact absurd hf List.not_mem_nil
  · simp only [List.mem_cons, List.not_mem_nil, or_false] at hq
    subst hq
    show q407 (vw C h) (((1) + ((1) * ρ 3 + 0))) (((0) + ((1) * ρ 7 + 0)))
    refine c2 (P := (fun r c => q407 (vw C h) r c)) (r := ρ 3 + 1) (c := ρ 7) ?_ (by omega) (by omega)
    show q407 (vw C h) (ρ 3 + 1) (ρ 7)
    exact (c2 (P := (fun r c => q407 (vw C h) r c)) (r_brS (p := (ρ 2).toNat) (k := ρ 3) (by omega) (by omega) (Eq.trans (congrArg (vw C h 122) (show 1777 * (ρ 2).toNat + (ρ 3).toNat = (1777 * ρ 2 + ρ 3).toNat by omega)) a0) a1 (c2 (P := (fun r c => qBlk (vw C h) 122 2 r c)) p0 (by omega) (by omega)) p1) (by omega) (by omega))
/-- brZ -/
theorem lem_750_ok (hU : uqG G C) : lem_750.1.2.1 = [] ∧ lemOK (PRd G C D xs) G rgs lem_750 := by
  refine ⟨rfl, fun ρ h ha hT => ?_⟩
  obtain ⟨-, -, hF, hG, hH, hA, hP⟩ := ha
  have p0 : q407 (vw C h) ((1777 : Int)) (ρ 0) := c2 (P := (fun r c => q407 (vw C h) r c)) (show q407 (vw C h) (((1777) + 0)) (((0) + ((1) * ρ 0 + 0))) from hP _ (List.mem_of_getElem? (i := 0) rfl)) (by omega) (by omega)
  refine ⟨_, List.mem_cons_self, ρ, fun _ _ => rfl, fun q hq => absurd hq List.not_mem_nil, trivial, fun f hf => ?_, fun q hq => absurd hq List.not_mem_nil, fun q hq => absurd hq List.not_mem_nil, fun q hq => absurd hq List.not_mem_nil, fun q hq => ?_⟩
  · exact absurd hf List.not_mem_nil
  · simp only [List.mem_cons, List.not_mem_nil, or_false] at hq
    subst hq
    show q396 (vw C h) (((0) + ((1) * ρ 0 + 0)))
    refine c2 (P := (fun (_ : Int) c => q396 (vw C h) c)) (r := 0) (r' := 0) (c := ρ 0) ?_ rfl (by omega)
    show q396 (vw C h) (ρ 0)
    exact r_brZ p0
/-- rrg -/
theorem lem_751_ok (hU : uqG G C) : lem_751.1.2.1 = [] ∧ lemOK (PRd G C D xs) G rgs lem_751 := by
  refine ⟨rfl, fun ρ h ha hT => ?_⟩
  obtain ⟨-, -, hF, hG, hH, hA, hP⟩ := ha
  have g0 : G (ρ 0).toNat = 22 := by
    have q := (hG _ (List.mem_of_getElem? (i := 0) rfl)).2
    rwa [show ev ρ (0, [(0, 1)]) = ρ 0 from ev_v] at q
  have h0 : (0 : Int) ≤ ρ 1 ∧ ρ 1 ≤ 6 := hf_rg hT (hH _ (List.mem_of_getElem? (i := 0) rfl)) ev_v g0 rfl rfl rfl ev_v
  have p0 : q404 (vw C h) (1777 * ρ 1) (ρ 2) := c2 (P := (fun r c => q404 (vw C h) r c)) (show q404 (vw C h) (((0) + ((1777) * ρ 1 + 0))) (((0) + ((1) * ρ 2 + 0))) from hP _ (List.mem_of_getElem? (i := 0) rfl)) (by omega) (by omega)
  refine ⟨_, List.mem_cons_self, ρ, fun _ _ => rfl, fun q hq => absurd hq List.not_mem_nil, trivial, fun f hf => ?_, fun q hq => absurd hq List.not_mem_nil, fun q hq => absurd hq List.not_mem_nil, fun q hq => absurd hq List.not_mem_nil, fun q hq => ?_⟩
  · exact absurd hf List.not_mem_nil
  · simp only [List.mem_cons, List.not_mem_nil, or_false] at hq
    subst hq
    show True
    refine c2 (P := (fun (_ _ : Int) => True)) (r := 0) (r' := 0) (c := 0) (c' := 0) ?_ rfl rfl
    show True
    trivial
/-- rnd -/
theorem lem_752_ok (hU : uqG G C) : lem_752.1.2.1 = [] ∧ lemOK (PRd G C D xs) G rgs lem_752 := by
  refine ⟨rfl, fun ρ h ha hT => ?_⟩
  obtain ⟨-, -, hF, hG, hH, hA, hP⟩ := ha
  have f0 : (0 : Int) ≤ ((5) + ((-1) * ρ 1 + 0)) := hF _ (List.mem_of_getElem? (i := 0) rfl)
  have g0 : G (ρ 0).toNat = 22 := by
    have q := (hG _ (List.mem_of_getElem? (i := 0) rfl)).2
    rwa [show ev ρ (0, [(0, 1)]) = ρ 0 from ev_v] at q
  have h0 : (0 : Int) ≤ ρ 1 ∧ ρ 1 ≤ 6 := hf_rg hT (hH _ (List.mem_of_getElem? (i := 0) rfl)) ev_v g0 rfl rfl rfl ev_v
  have p0 : q404 (vw C h) (1777 * ρ 1) (ρ 2) := c2 (P := (fun r c => q404 (vw C h) r c)) (show q404 (vw C h) (((0) + ((1777) * ρ 1 + 0))) (((0) + ((1) * ρ 2 + 0))) from hP _ (List.mem_of_getElem? (i := 0) rfl)) (by omega) (by omega)
  refine ⟨_, List.mem_cons_self, ρ, fun _ _ => rfl, fun q hq => absurd hq List.not_mem_nil, trivial, fun f hf => ?_, fun q hq => absurd hq List.not_mem_nil, fun q hq => absurd hq List.not_mem_nil, fun q hq => absurd hq List.not_mem_nil, fun q hq => ?_⟩
  · exact absurd hf List.not_mem_nil
  · simp only [List.mem_cons, List.not_mem_nil, or_false] at hq
    subst hq
    show qDrop (((0) + ((1) * ρ 2 + 0))) (((0) + ((1) * ρ 2 + 0)))
    refine c2 (P := qDrop) (r := ρ 2) (c := ρ 2) ?_ (by omega) (by omega)
    show qDrop (ρ 2) (ρ 2)
    exact r_rnd (u := ρ 1) (by omega) p0
/-- rpu -/
theorem lem_753_ok (hU : uqG G C) : lem_753.1.2.1 = [] ∧ lemOK (PRd G C D xs) G rgs lem_753 := by
  refine ⟨rfl, fun ρ h ha hT => ?_⟩
  obtain ⟨-, -, hF, hG, hH, hA, hP⟩ := ha
  have f0 : (0 : Int) ≤ ((0) + ((1) * ρ 0 + 0)) := hF _ (List.mem_of_getElem? (i := 0) rfl)
  have f1 : (0 : Int) ≤ ((5) + ((-1) * ρ 0 + 0)) := hF _ (List.mem_of_getElem? (i := 1) rfl)
  have p0 : q404 (vw C h) (1777 * ρ 0) (ρ 1) := c2 (P := (fun r c => q404 (vw C h) r c)) (show q404 (vw C h) (((0) + ((1777) * ρ 0 + 0))) (((0) + ((1) * ρ 1 + 0))) from hP _ (List.mem_of_getElem? (i := 0) rfl)) (by omega) (by omega)
  have p1 : True := c2 (P := (fun (_ _ : Int) => True)) (r := 0) (r' := 0) (c := 0) (c' := 0) (show True from hP _ (List.mem_of_getElem? (i := 1) rfl)) rfl rfl
  have p2 : qDrop (ρ 2) (ρ 1) := c2 (P := qDrop) (show qDrop (((0) + ((1) * ρ 2 + 0))) (((0) + ((1) * ρ 1 + 0))) from hP _ (List.mem_of_getElem? (i := 2) rfl)) (by omega) (by omega)
  have p3 : qBlk (vw C h) 121 6 (1777 * ρ 0) (ρ 3) := c2 (P := (fun r c => qBlk (vw C h) 121 6 r c)) (show qBlk (vw C h) 121 6 (((0) + ((1777) * ρ 0 + 0))) (((0) + ((1) * ρ 3 + 0))) from hP _ (List.mem_of_getElem? (i := 3) rfl)) (by omega) (by omega)
  obtain ⟨r1, r2, r3⟩ := r_rpu (u := ρ 0) (by omega) (by omega) p2 p0 p3
  obtain ⟨σ, sg1, sg2a⟩ : ∃ σ : Va, (∀ i, i < 4 → σ i = ρ i) ∧ σ 4 = ((((ρ 2).toNat % RB ^ 5) * RB + (ρ 3).toNat : Nat) : Int) := ⟨fun i => if i = 4 then ((((ρ 2).toNat % RB ^ 5) * RB + (ρ 3).toNat : Nat) : Int) else ρ i, fun i hi => by dsimp only; rw [if_neg (by omega)], by dsimp only; rw [if_pos rfl]⟩
  have s0 := sg1 0 (by omega)
  have s1 := sg1 1 (by omega)
  have s2 := sg1 2 (by omega)
  have s3 := sg1 3 (by omega)
  refine ⟨_, List.mem_cons_self, σ, sg1, fun q hq => absurd hq List.not_mem_nil, trivial, fun f hf => ?_, fun q hq => absurd hq List.not_mem_nil, fun q hq => absurd hq List.not_mem_nil, fun q hq => absurd hq List.not_mem_nil, fun q hq => ?_⟩
  · exact absurd hf List.not_mem_nil
  · simp only [List.mem_cons, List.not_mem_nil, or_false] at hq
    rcases hq with rfl | rfl
    · show q404 (vw C h) (((1777) + ((1777) * σ 0 + 0))) (((0) + ((1) * σ 4 + 0)))
      refine c2 (P := (fun r c => q404 (vw C h) r c)) (r := 1777 * ρ 0 + 1777) (c := ((((ρ 2).toNat % RB ^ 5) * RB + (ρ 3).toNat : Nat) : Int)) ?_ (by omega) (by omega)
      show q404 (vw C h) (1777 * ρ 0 + 1777) (((((ρ 2).toNat % RB ^ 5) * RB + (ρ 3).toNat : Nat) : Int))
      exact (c2 (P := (fun r c => q404 (vw C h) r c)) (r1) (by omega) (by omega))
    · show qPush (((0) + ((1128430269653696552505663664688505519051893948117725342710709407999638941941219040912833546632301522012495604549678634617312701794930960696933850145274509219899605219518447018369658381698338332600334225533767288503097470829739413943739519714331064178097205003926859545229038622328927117691927971265095131106901145206539640038505022502031780376472027866138952425537536) * σ 2 + ((1) * σ 3 + 0)))) (((0) + ((1) * σ 4 + 0)))
      refine c2 (P := qPush) (r := 1128430269653696552505663664688505519051893948117725342710709407999638941941219040912833546632301522012495604549678634617312701794930960696933850145274509219899605219518447018369658381698338332600334225533767288503097470829739413943739519714331064178097205003926859545229038622328927117691927971265095131106901145206539640038505022502031780376472027866138952425537536 * ρ 2 + ρ 3) (c := ((((ρ 2).toNat % RB ^ 5) * RB + (ρ 3).toNat : Nat) : Int)) ?_ (by omega) (by omega)
      show qPush (1128430269653696552505663664688505519051893948117725342710709407999638941941219040912833546632301522012495604549678634617312701794930960696933850145274509219899605219518447018369658381698338332600334225533767288503097470829739413943739519714331064178097205003926859545229038622328927117691927971265095131106901145206539640038505022502031780376472027866138952425537536 * ρ 2 + ρ 3) (((((ρ 2).toNat % RB ^ 5) * RB + (ρ 3).toNat : Nat) : Int))
      exact oPush (L := ρ 2) (V := ρ 3) (by rw [RBe] <;> omega) r2 r3 rfl
/-- rpuT -/
theorem lem_754_ok (hU : uqG G C) : lem_754.1.2.1 = [] ∧ lemOK (PRd G C D xs) G rgs lem_754 := by
  refine ⟨rfl, fun ρ h ha hT => ?_⟩
  obtain ⟨-, -, hF, hG, hH, hA, hP⟩ := ha
  have f0 : (0 : Int) ≤ ((0) + ((1) * ρ 1 + 0)) := hF _ (List.mem_of_getElem? (i := 0) rfl)
  have f1 : (0 : Int) ≤ ((5) + ((-1) * ρ 1 + 0)) := hF _ (List.mem_of_getElem? (i := 1) rfl)
  have g0 : G (ρ 0).toNat = 22 := by
    have q := (hG _ (List.mem_of_getElem? (i := 0) rfl)).2
    rwa [show ev ρ (0, [(0, 1)]) = ρ 0 from ev_v] at q
  have h0 : (0 : Int) ≤ ρ 1 ∧ ρ 1 ≤ 6 := hf_rg hT (hH _ (List.mem_of_getElem? (i := 0) rfl)) ev_v g0 rfl rfl rfl ev_v
  have p0 : q404 (vw C h) (1777 * ρ 1) (ρ 2) := c2 (P := (fun r c => q404 (vw C h) r c)) (show q404 (vw C h) (((0) + ((1777) * ρ 1 + 0))) (((0) + ((1) * ρ 2 + 0))) from hP _ (List.mem_of_getElem? (i := 0) rfl)) (by omega) (by omega)
  have p1 : True := c2 (P := (fun (_ _ : Int) => True)) (r := 0) (r' := 0) (c := 0) (c' := 0) (show True from hP _ (List.mem_of_getElem? (i := 1) rfl)) rfl rfl
  have p2 : qDrop (ρ 3) (ρ 2) := c2 (P := qDrop) (show qDrop (((0) + ((1) * ρ 3 + 0))) (((0) + ((1) * ρ 2 + 0))) from hP _ (List.mem_of_getElem? (i := 2) rfl)) (by omega) (by omega)
  have p3 : qBlk (vw C h) 121 6 (1777 * ρ 1) (ρ 4) := c2 (P := (fun r c => qBlk (vw C h) 121 6 r c)) (show qBlk (vw C h) 121 6 (((0) + ((1777) * ρ 1 + 0))) (((0) + ((1) * ρ 4 + 0))) from hP _ (List.mem_of_getElem? (i := 3) rfl)) (by omega) (by omega)
  obtain ⟨r1, r2, r3⟩ := r_rpu (u := ρ 1) (by omega) (by omega) p2 p0 p3
  obtain ⟨σ, sg1, sg2a⟩ : ∃ σ : Va, (∀ i, i < 5 → σ i = ρ i) ∧ σ 5 = ((((ρ 3).toNat % RB ^ 5) * RB + (ρ 4).toNat : Nat) : Int) := ⟨fun i => if i = 5 then ((((ρ 3).toNat % RB ^ 5) * RB + (ρ 4).toNat : Nat) : Int) else ρ i, fun i hi => by dsimp only; rw [if_neg (by omega)], by dsimp only; rw [if_pos rfl]⟩
  have s0 := sg1 0 (by omega)
  have s1 := sg1 1 (by omega)
  have s2 := sg1 2 (by omega)
  have s3 := sg1 3 (by omega)
  have s4 := sg1 4 (by omega)
  refine ⟨_, List.mem_cons_self, σ, sg1, fun q hq => absurd hq List.not_mem_nil, trivial, fun f hf => ?_, fun q hq => absurd hq List.not_mem_nil, fun q hq => absurd hq List.not_mem_nil, fun q hq => absurd hq List.not_mem_nil, fun q hq => ?_⟩
  · exact absurd hf List.not_mem_nil
  · simp only [List.mem_cons, List.not_mem_nil, or_false] at hq
    rcases hq with rfl | rfl
    · show q404 (vw C h) (((1777) + ((1777) * σ 1 + 0))) (((0) + ((1) * σ 5 + 0)))
      refine c2 (P := (fun r c => q404 (vw C h) r c)) (r := 1777 * ρ 1 + 1777) (c := ((((ρ 3).toNat % RB ^ 5) * RB + (ρ 4).toNat : Nat) : Int)) ?_ (by omega) (by omega)
      show q404 (vw C h) (1777 * ρ 1 + 1777) (((((ρ 3).toNat % RB ^ 5) * RB + (ρ 4).toNat : Nat) : Int))
      exact (c2 (P := (fun r c => q404 (vw C h) r c)) (r1) (by omega) (by omega))
    · show qPush (((0) + ((1128430269653696552505663664688505519051893948117725342710709407999638941941219040912833546632301522012495604549678634617312701794930960696933850145274509219899605219518447018369658381698338332600334225533767288503097470829739413943739519714331064178097205003926859545229038622328927117691927971265095131106901145206539640038505022502031780376472027866138952425537536) * σ 3 + ((1) * σ 4 + 0)))) (((0) + ((1) * σ 5 + 0)))
      refine c2 (P := qPush) (r := 1128430269653696552505663664688505519051893948117725342710709407999638941941219040912833546632301522012495604549678634617312701794930960696933850145274509219899605219518447018369658381698338332600334225533767288503097470829739413943739519714331064178097205003926859545229038622328927117691927971265095131106901145206539640038505022502031780376472027866138952425537536 * ρ 3 + ρ 4) (c := ((((ρ 3).toNat % RB ^ 5) * RB + (ρ 4).toNat : Nat) : Int)) ?_ (by omega) (by omega)
      show qPush (1128430269653696552505663664688505519051893948117725342710709407999638941941219040912833546632301522012495604549678634617312701794930960696933850145274509219899605219518447018369658381698338332600334225533767288503097470829739413943739519714331064178097205003926859545229038622328927117691927971265095131106901145206539640038505022502031780376472027866138952425537536 * ρ 3 + ρ 4) (((((ρ 3).toNat % RB ^ 5) * RB + (ρ 4).toNat : Nat) : Int))
      exact oPush (L := ρ 3) (V := ρ 4) (by rw [RBe] <;> omega) r2 r3 rfl
/-- rct0 -/
theorem lem_755_ok (hU : uqG G C) : lem_755.1.2.1 = [] ∧ lemOK (PRd G C D xs) G rgs lem_755 := by
  refine ⟨rfl, fun ρ h ha hT => ?_⟩
  obtain ⟨-, -, hF, hG, hH, hA, hP⟩ := ha
  have g0 : G (ρ 0).toNat = 22 := by
    have q := (hG _ (List.mem_of_getElem? (i := 0) rfl)).2
    rwa [show ev ρ (0, [(0, 1)]) = ρ 0 from ev_v] at q
  have h0 : (0 : Int) ≤ ρ 1 ∧ ρ 1 ≤ 6 := hf_rg hT (hH _ (List.mem_of_getElem? (i := 0) rfl)) ev_v g0 rfl rfl rfl ev_v
  refine ⟨_, List.mem_cons_self, ρ, fun _ _ => rfl, fun q hq => absurd hq List.not_mem_nil, trivial, fun f hf => ?_, fun q hq => absurd hq List.not_mem_nil, fun q hq => absurd hq List.not_mem_nil, fun q hq => absurd hq List.not_mem_nil, fun q hq => ?_⟩
  · exact absurd hf List.not_mem_nil
  · simp only [List.mem_cons, List.not_mem_nil, or_false] at hq
    subst hq
    show True
    refine c2 (P := (fun (_ _ : Int) => True)) (r := 0) (r' := 0) (c := 0) (c' := 0) ?_ rfl rfl
    show True
    trivial
/-- rctA -/
theorem lem_756_ok (hU : uqG G C) : lem_756.1.2.1 = [] ∧ lemOK (PRd G C D xs) G rgs lem_756 := by
  refine ⟨rfl, fun ρ h ha hT => ?_⟩
  obtain ⟨-, -, hF, hG, hH, hA, hP⟩ := ha
  have f0 : (0 : Int) ≤ ((5) + ((-1) * ρ 2 + 0)) := hF _ (List.mem_of_getElem? (i := 0) rfl)
  have f1 : (0 : Int) ≤ ((1) + ((-1) * ρ 1 + ((1) * ρ 2 + 0))) := hF _ (List.mem_of_getElem? (i := 1) rfl)
  have f2 : (0 : Int) ≤ ((-1) + ((1) * ρ 1 + ((-1) * ρ 2 + 0))) := hF _ (List.mem_of_getElem? (i := 2) rfl)
  have g0 : G (ρ 0).toNat = 22 := by
    have q := (hG _ (List.mem_of_getElem? (i := 0) rfl)).2
    rwa [show ev ρ (0, [(0, 1)]) = ρ 0 from ev_v] at q
  have h0 : (0 : Int) ≤ ρ 1 ∧ ρ 1 ≤ 6 := hf_rg hT (hH _ (List.mem_of_getElem? (i := 0) rfl)) ev_v g0 rfl rfl rfl ev_v
  have p0 : True := c2 (P := (fun (_ _ : Int) => True)) (r := 0) (r' := 0) (c := 0) (c' := 0) (show True from hP _ (List.mem_of_getElem? (i := 0) rfl)) rfl rfl
  refine ⟨_, List.mem_cons_self, ρ, fun _ _ => rfl, fun q hq => absurd hq List.not_mem_nil, trivial, fun f hf => ?_, fun q hq => absurd hq List.not_mem_nil, fun q hq => absurd hq List.not_mem_nil, fun q hq => absurd hq List.not_mem_nil, fun q hq => ?_⟩
  · exact absurd hf List.not_mem_nil
  · simp only [List.mem_cons, List.not_mem_nil, or_false] at hq
    subst hq
    show qCnt (((0) + ((1) * ρ 2 + 0))) (((0) + ((1) * ρ 1 + 0)))
    refine c2 (P := qCnt) (r := ρ 2) (c := ρ 1) ?_ (by omega) (by omega)
    show qCnt (ρ 2) (ρ 1)
    unfold qCnt
    rw [if_pos (by omega)]
    omega
/-- rctB -/
theorem lem_757_ok (hU : uqG G C) : lem_757.1.2.1 = [] ∧ lemOK (PRd G C D xs) G rgs lem_757 := by
  refine ⟨rfl, fun ρ h ha hT => ?_⟩
  obtain ⟨-, -, hF, hG, hH, hA, hP⟩ := ha
  have f0 : (0 : Int) ≤ ((-6) + ((1) * ρ 2 + 0)) := hF _ (List.mem_of_getElem? (i := 0) rfl)
  have f1 : (0 : Int) ≤ ((6) + ((-1) * ρ 1 + 0)) := hF _ (List.mem_of_getElem? (i := 1) rfl)
  have f2 : (0 : Int) ≤ ((-6) + ((1) * ρ 1 + 0)) := hF _ (List.mem_of_getElem? (i := 2) rfl)
  have g0 : G (ρ 0).toNat = 22 := by
    have q := (hG _ (List.mem_of_getElem? (i := 0) rfl)).2
    rwa [show ev ρ (0, [(0, 1)]) = ρ 0 from ev_v] at q
  have h0 : (0 : Int) ≤ ρ 1 ∧ ρ 1 ≤ 6 := hf_rg hT (hH _ (List.mem_of_getElem? (i := 0) rfl)) ev_v g0 rfl rfl rfl ev_v
  have p0 : True := c2 (P := (fun (_ _ : Int) => True)) (r := 0) (r' := 0) (c := 0) (c' := 0) (show True from hP _ (List.mem_of_getElem? (i := 0) rfl)) rfl rfl
  refine ⟨_, List.mem_cons_self, ρ, fun _ _ => rfl, fun q hq => absurd hq List.not_mem_nil, trivial, fun f hf => ?_, fun q hq => absurd hq List.not_mem_nil, fun q hq => absurd hq List.not_mem_nil, fun q hq => absurd hq List.not_mem_nil, fun q hq => ?_⟩
  · exact absurd hf List.not_mem_nil
  · simp only [List.mem_cons, List.not_mem_nil, or_false] at hq
    subst hq
    show qCnt (((0) + ((1) * ρ 2 + 0))) (((0) + ((1) * ρ 1 + 0)))
    refine c2 (P := qCnt) (r := ρ 2) (c := ρ 1) ?_ (by omega) (by omega)
    show qCnt (ρ 2) (ρ 1)
    unfold qCnt
    rw [if_neg (by omega)]
    omega
/-- spHF -/
theorem lem_758_ok (hU : uqG G C) : lem_758.1.2.1 = [] ∧ lemOK (PRd G C D xs) G rgs lem_758 := by
  refine ⟨rfl, fun ρ h ha hT => ?_⟩
  obtain ⟨-, -, hF, hG, hH, hA, hP⟩ := ha
  have f0 : (0 : Int) ≤ ((0) + ((1) * ρ 1 + 0)) := hF _ (List.mem_of_getElem? (i := 0) rfl)
  have f1 : (0 : Int) ≤ ((1) + ((-1) * ρ 1 + 0)) := hF _ (List.mem_of_getElem? (i := 1) rfl)
  have g0 : G (ρ 0).toNat = 22 := by
    have q := (hG _ (List.mem_of_getElem? (i := 0) rfl)).2
    rwa [show ev ρ (0, [(0, 1)]) = ρ 0 from ev_v] at q
  have h0 : (0 : Int) ≤ ρ 1 ∧ ρ 1 ≤ 1 := hf_rg hT (hH _ (List.mem_of_getElem? (i := 0) rfl)) ev_v g0 rfl rfl rfl ev_v
  rcases (by omega : ((0 : Int) ≤ (-1) * ρ 1) ∨ ((0 : Int) ≤ ρ 1 + (-1))) with hc | hc
  · refine ⟨_, List.mem_cons_self, ρ, fun _ _ => rfl, fun q hq => absurd hq List.not_mem_nil, trivial, fun f hf => ?_, fun q hq => absurd hq List.not_mem_nil, fun q hq => absurd hq List.not_mem_nil, fun q hq => absurd hq List.not_mem_nil, fun q hq => ?_⟩
    · simp only [List.mem_cons, List.not_mem_nil, or_false] at hf
      subst hf
      show (0 : Int) ≤ ((0) + ((-1) * ρ 1 + 0))
      omega
    · exact absurd hq List.not_mem_nil
  · refine ⟨_, (List.mem_cons_of_mem _ List.mem_cons_self), ρ, fun _ _ => rfl, fun q hq => absurd hq List.not_mem_nil, trivial, fun f hf => ?_, fun q hq => absurd hq List.not_mem_nil, fun q hq => absurd hq List.not_mem_nil, fun q hq => absurd hq List.not_mem_nil, fun q hq => ?_⟩
    · simp only [List.mem_cons, List.not_mem_nil, or_false] at hf
      subst hf
      show (0 : Int) ≤ ((-1) + ((1) * ρ 1 + 0))
      omega
    · exact absurd hq List.not_mem_nil
/-- spU -/
theorem lem_759_ok (hU : uqG G C) : lem_759.1.2.1 = [] ∧ lemOK (PRd G C D xs) G rgs lem_759 := by
  refine ⟨rfl, fun ρ h ha hT => ?_⟩
  obtain ⟨-, -, hF, hG, hH, hA, hP⟩ := ha
  have f0 : (0 : Int) ≤ ((0) + ((1) * ρ 1 + 0)) := hF _ (List.mem_of_getElem? (i := 0) rfl)
  have g0 : G (ρ 0).toNat = 22 := by
    have q := (hG _ (List.mem_of_getElem? (i := 0) rfl)).2
    rwa [show ev ρ (0, [(0, 1)]) = ρ 0 from ev_v] at q
  have h0 : (0 : Int) ≤ ρ 1 ∧ ρ 1 ≤ 6 := hf_rg hT (hH _ (List.mem_of_getElem? (i := 0) rfl)) ev_v g0 rfl rfl rfl ev_v
  rcases (by omega : ((0 : Int) ≤ (-1) * ρ 1) ∨ ((0 : Int) ≤ ρ 1 + (-1))) with hc | hc
  · refine ⟨_, List.mem_cons_self, ρ, fun _ _ => rfl, fun q hq => absurd hq List.not_mem_nil, trivial, fun f hf => ?_, fun q hq => absurd hq List.not_mem_nil, fun q hq => absurd hq List.not_mem_nil, fun q hq => absurd hq List.not_mem_nil, fun q hq => ?_⟩
    · simp only [List.mem_cons, List.not_mem_nil, or_false] at hf
      subst hf
      show (0 : Int) ≤ ((0) + ((-1) * ρ 1 + 0))
      omega
    · exact absurd hq List.not_mem_nil
  · refine ⟨_, (List.mem_cons_of_mem _ List.mem_cons_self), ρ, fun _ _ => rfl, fun q hq => absurd hq List.not_mem_nil, trivial, fun f hf => ?_, fun q hq => absurd hq List.not_mem_nil, fun q hq => absurd hq List.not_mem_nil, fun q hq => absurd hq List.not_mem_nil, fun q hq => ?_⟩
    · simp only [List.mem_cons, List.not_mem_nil, or_false] at hf
      subst hf
      show (0 : Int) ≤ ((-1) + ((1) * ρ 1 + 0))
      omega
    · exact absurd hq List.not_mem_nil
/-- sp0_9999 -/
theorem lem_760_ok (hU : uqG G C) : lem_760.1.2.1 = [] ∧ lemOK (PRd G C D xs) G rgs lem_760 := by
  refine ⟨rfl, fun ρ h ha hT => ?_⟩
  obtain ⟨-, -, hF, hG, hH, hA, hP⟩ := ha
  rcases (by omega : ((0 : Int) ≤ (-1) * ρ 0 + (-1)) ∨ ((0 : Int) ≤ ρ 0 + (-10000)) ∨ ((0 : Int) ≤ ρ 0 ∧ (0 : Int) ≤ (-1) * ρ 0 + 9999)) with hc | hc | hc
  · refine ⟨_, List.mem_cons_self, ρ, fun _ _ => rfl, fun q hq => absurd hq List.not_mem_nil, trivial, fun f hf => ?_, fun q hq => absurd hq List.not_mem_nil, fun q hq => absurd hq List.not_mem_nil, fun q hq => absurd hq List.not_mem_nil, fun q hq => ?_⟩
    · simp only [List.mem_cons, List.not_mem_nil, or_false] at hf
      subst hf
      show (0 : Int) ≤ ((-1) + ((-1) * ρ 0 + 0))
      omega
    · exact absurd hq List.not_mem_nil
  · refine ⟨_, (List.mem_cons_of_mem _ List.mem_cons_self), ρ, fun _ _ => rfl, fun q hq => absurd hq List.not_mem_nil, trivial, fun f hf => ?_, fun q hq => absurd hq List.not_mem_nil, fun q hq => absurd hq List.not_mem_nil, fun q hq => absurd hq List.not_mem_nil, fun q hq => ?_⟩
    · simp only [List.mem_cons, List.not_mem_nil, or_false] at hf
      subst hf
      show (0 : Int) ≤ ((-10000) + ((1) * ρ 0 + 0))
      omega
    · exact absurd hq List.not_mem_nil
  · refine ⟨_, (List.mem_cons_of_mem _ (List.mem_cons_of_mem _ List.mem_cons_self)), ρ, fun _ _ => rfl, fun q hq => absurd hq List.not_mem_nil, trivial, fun f hf => ?_, fun q hq => absurd hq List.not_mem_nil, fun q hq => absurd hq List.not_mem_nil, fun q hq => absurd hq List.not_mem_nil, fun q hq => ?_⟩
    · simp only [List.mem_cons, List.not_mem_nil, or_false] at hf
      rcases hf with rfl | rfl
      · show (0 : Int) ≤ ((0) + ((1) * ρ 0 + 0))
        omega
      · show (0 : Int) ≤ ((9999) + ((-1) * ρ 0 + 0))
        omega
    · exact absurd hq List.not_mem_nil
/-- sp0_100 -/
theorem lem_761_ok (hU : uqG G C) : lem_761.1.2.1 = [] ∧ lemOK (PRd G C D xs) G rgs lem_761 := by
  refine ⟨rfl, fun ρ h ha hT => ?_⟩
  obtain ⟨-, -, hF, hG, hH, hA, hP⟩ := ha
  rcases (by omega : ((0 : Int) ≤ (-1) * ρ 0 + (-1)) ∨ ((0 : Int) ≤ ρ 0 + (-101)) ∨ ((0 : Int) ≤ ρ 0 ∧ (0 : Int) ≤ (-1) * ρ 0 + 100)) with hc | hc | hc
  · refine ⟨_, List.mem_cons_self, ρ, fun _ _ => rfl, fun q hq => absurd hq List.not_mem_nil, trivial, fun f hf => ?_, fun q hq => absurd hq List.not_mem_nil, fun q hq => absurd hq List.not_mem_nil, fun q hq => absurd hq List.not_mem_nil, fun q hq => ?_⟩
    · simp only [List.mem_cons, List.not_mem_nil, or_false] at hf
      subst hf
      show (0 : Int) ≤ ((-1) + ((-1) * ρ 0 + 0))
      omega
    · exact absurd hq List.not_mem_nil
  · refine ⟨_, (List.mem_cons_of_mem _ List.mem_cons_self), ρ, fun _ _ => rfl, fun q hq => absurd hq List.not_mem_nil, trivial, fun f hf => ?_, fun q hq => absurd hq List.not_mem_nil, fun q hq => absurd hq List.not_mem_nil, fun q hq => absurd hq List.not_mem_nil, fun q hq => ?_⟩
    · simp only [List.mem_cons, List.not_mem_nil, or_false] at hf
      subst hf
      show (0 : Int) ≤ ((-101) + ((1) * ρ 0 + 0))
      omega
    · exact absurd hq List.not_mem_nil
  · refine ⟨_, (List.mem_cons_of_mem _ (List.mem_cons_of_mem _ List.mem_cons_self)), ρ, fun _ _ => rfl, fun q hq => absurd hq List.not_mem_nil, trivial, fun f hf => ?_, fun q hq => absurd hq List.not_mem_nil, fun q hq => absurd hq List.not_mem_nil, fun q hq => absurd hq List.not_mem_nil, fun q hq => ?_⟩
    · simp only [List.mem_cons, List.not_mem_nil, or_false] at hf
      rcases hf with rfl | rfl
      · show (0 : Int) ≤ ((0) + ((1) * ρ 0 + 0))
        omega
      · show (0 : Int) ≤ ((100) + ((-1) * ρ 0 + 0))
        omega
    · exact absurd hq List.not_mem_nil
/-- sp1_999 -/
theorem lem_762_ok (hU : uqG G C) : lem_762.1.2.1 = [] ∧ lemOK (PRd G C D xs) G rgs lem_762 := by
  refine ⟨rfl, fun ρ h ha hT => ?_⟩
  obtain ⟨-, -, hF, hG, hH, hA, hP⟩ := ha
  rcases (by omega : ((0 : Int) ≤ (-1) * ρ 0) ∨ ((0 : Int) ≤ ρ 0 + (-1000)) ∨ ((0 : Int) ≤ ρ 0 + (-1) ∧ (0 : Int) ≤ (-1) * ρ 0 + 999)) with hc | hc | hc
  · refine ⟨_, List.mem_cons_self, ρ, fun _ _ => rfl, fun q hq => absurd hq List.not_mem_nil, trivial, fun f hf => ?_, fun q hq => absurd hq List.not_mem_nil, fun q hq => absurd hq List.not_mem_nil, fun q hq => absurd hq List.not_mem_nil, fun q hq => ?_⟩
    · simp only [List.mem_cons, List.not_mem_nil, or_false] at hf
      subst hf
      show (0 : Int) ≤ ((0) + ((-1) * ρ 0 + 0))
      omega
    · exact absurd hq List.not_mem_nil
  · refine ⟨_, (List.mem_cons_of_mem _ List.mem_cons_self), ρ, fun _ _ => rfl, fun q hq => absurd hq List.not_mem_nil, trivial, fun f hf => ?_, fun q hq => absurd hq List.not_mem_nil, fun q hq => absurd hq List.not_mem_nil, fun q hq => absurd hq List.not_mem_nil, fun q hq => ?_⟩
    · simp only [List.mem_cons, List.not_mem_nil, or_false] at hf
      subst hf
      show (0 : Int) ≤ ((-1000) + ((1) * ρ 0 + 0))
      omega
    · exact absurd hq List.not_mem_nil
  · refine ⟨_, (List.mem_cons_of_mem _ (List.mem_cons_of_mem _ List.mem_cons_self)), ρ, fun _ _ => rfl, fun q hq => absurd hq List.not_mem_nil, trivial, fun f hf => ?_, fun q hq => absurd hq List.not_mem_nil, fun q hq => absurd hq List.not_mem_nil, fun q hq => absurd hq List.not_mem_nil, fun q hq => ?_⟩
    · simp only [List.mem_cons, List.not_mem_nil, or_false] at hf
      rcases hf with rfl | rfl
      · show (0 : Int) ≤ ((-1) + ((1) * ρ 0 + 0))
        omega
      · show (0 : Int) ≤ ((999) + ((-1) * ρ 0 + 0))
        omega
    · exact absurd hq List.not_mem_nil
/-- sp0_1000000000 -/
theorem lem_763_ok (hU : uqG G C) : lem_763.1.2.1 = [] ∧ lemOK (PRd G C D xs) G rgs lem_763 := by
  refine ⟨rfl, fun ρ h ha hT => ?_⟩
  obtain ⟨-, -, hF, hG, hH, hA, hP⟩ := ha
  rcases (by omega : ((0 : Int) ≤ (-1) * ρ 0 + (-1)) ∨ ((0 : Int) ≤ ρ 0 + (-1000000001)) ∨ ((0 : Int) ≤ ρ 0 ∧ (0 : Int) ≤ (-1) * ρ 0 + 1000000000)) with hc | hc | hc
  · refine ⟨_, List.mem_cons_self, ρ, fun _ _ => rfl, fun q hq => absurd hq List.not_mem_nil, trivial, fun f hf => ?_, fun q hq => absurd hq List.not_mem_nil, fun q hq => absurd hq List.not_mem_nil, fun q hq => absurd hq List.not_mem_nil, fun q hq => ?_⟩
    · simp only [List.mem_cons, List.not_mem_nil, or_false] at hf
      subst hf
      show (0 : Int) ≤ ((-1) + ((-1) * ρ 0 + 0))
      omega
    · exact absurd hq List.not_mem_nil
  · refine ⟨_, (List.mem_cons_of_mem _ List.mem_cons_self), ρ, fun _ _ => rfl, fun q hq => absurd hq List.not_mem_nil, trivial, fun f hf => ?_, fun q hq => absurd hq List.not_mem_nil, fun q hq => absurd hq List.not_mem_nil, fun q hq => absurd hq List.not_mem_nil, fun q hq => ?_⟩
    · simp only [List.mem_cons, List.not_mem_nil, or_false] at hf
      subst hf
      show (0 : Int) ≤ ((-1000000001) + ((1) * ρ 0 + 0))
      omega
    · exact absurd hq List.not_mem_nil
  · refine ⟨_, (List.mem_cons_of_mem _ (List.mem_cons_of_mem _ List.mem_cons_self)), ρ, fun _ _ => rfl, fun q hq => absurd hq List.not_mem_nil, trivial, fun f hf => ?_, fun q hq => absurd hq List.not_mem_nil, fun q hq => absurd hq List.not_mem_nil, fun q hq => absurd hq List.not_mem_nil, fun q hq => ?_⟩
    · simp only [List.mem_cons, List.not_mem_nil, or_false] at hf
      rcases hf with rfl | rfl
      · show (0 : Int) ≤ ((0) + ((1) * ρ 0 + 0))
        omega
      · show (0 : Int) ≤ ((1000000000) + ((-1) * ρ 0 + 0))
        omega
    · exact absurd hq List.not_mem_nil
/-- sp0_1 -/
theorem lem_764_ok (hU : uqG G C) : lem_764.1.2.1 = [] ∧ lemOK (PRd G C D xs) G rgs lem_764 := by
  refine ⟨rfl, fun ρ h ha hT => ?_⟩
  obtain ⟨-, -, hF, hG, hH, hA, hP⟩ := ha
  rcases (by omega : ((0 : Int) ≤ (-1) * ρ 0 + (-1)) ∨ ((0 : Int) ≤ ρ 0 + (-2)) ∨ ((0 : Int) ≤ ρ 0 ∧ (0 : Int) ≤ (-1) * ρ 0 + 1)) with hc | hc | hc
  · refine ⟨_, List.mem_cons_self, ρ, fun _ _ => rfl, fun q hq => absurd hq List.not_mem_nil, trivial, fun f hf => ?_, fun q hq => absurd hq List.not_mem_nil, fun q hq => absurd hq List.not_mem_nil, fun q hq => absurd hq List.not_mem_nil, fun q hq => ?_⟩
    · simp only [List.mem_cons, List.not_mem_nil, or_false] at hf
      subst hf
      show (0 : Int) ≤ ((-1) + ((-1) * ρ 0 + 0))
      omega
    · exact absurd hq List.not_mem_nil
  · refine ⟨_, (List.mem_cons_of_mem _ List.mem_cons_self), ρ, fun _ _ => rfl, fun q hq => absurd hq List.not_mem_nil, trivial, fun f hf => ?_, fun q hq => absurd hq List.not_mem_nil, fun q hq => absurd hq List.not_mem_nil, fun q hq => absurd hq List.not_mem_nil, fun q hq => ?_⟩
    · simp only [List.mem_cons, List.not_mem_nil, or_false] at hf
      subst hf
      show (0 : Int) ≤ ((-2) + ((1) * ρ 0 + 0))
      omega
    · exact absurd hq List.not_mem_nil
  · refine ⟨_, (List.mem_cons_of_mem _ (List.mem_cons_of_mem _ List.mem_cons_self)), ρ, fun _ _ => rfl, fun q hq => absurd hq List.not_mem_nil, trivial, fun f hf => ?_, fun q hq => absurd hq List.not_mem_nil, fun q hq => absurd hq List.not_mem_nil, fun q hq => absurd hq List.not_mem_nil, fun q hq => ?_⟩
    · simp only [List.mem_cons, List.not_mem_nil, or_false] at hf
      rcases hf with rfl | rfl
      · show (0 : Int) ≤ ((0) + ((1) * ρ 0 + 0))
        omega
      · show (0 : Int) ≤ ((1) + ((-1) * ρ 0 + 0))
        omega
    · exact absurd hq List.not_mem_nil
/-- mk256 -/
theorem lem_765_ok (hU : uqG G C) : lem_765.1.2.1 = [] ∧ lemOK (PRd G C D xs) G rgs lem_765 := by
  refine ⟨rfl, fun ρ h ha hT => ?_⟩
  obtain ⟨-, -, hF, hG, hH, hA, hP⟩ := ha
  have g0 : G (ρ 0).toNat = 21 := by
    have q := (hG _ (List.mem_of_getElem? (i := 0) rfl)).2
    rwa [show ev ρ (0, [(0, 1)]) = ρ 0 from ev_v] at q
  have g1 : G (ρ 1).toNat = 12 := by
    have q := (hG _ (List.mem_of_getElem? (i := 1) rfl)).2
    rwa [show ev ρ (0, [(1, 1)]) = ρ 1 from ev_v] at q
  have h1 : (0 : Int) ≤ ρ 2 ∧ ρ 2 ≤ 6 := hf_rg hT (hH _ (List.mem_of_getElem? (i := 1) rfl)) ev_v g1 rfl rfl rfl ev_v
  have cT : 0 ≤ ρ 0 := by
    have q := (hG _ (List.mem_of_getElem? (i := 0) rfl)).1
    rwa [show ev ρ (0, [(0, 1)]) = ρ 0 from ev_v] at q
  have cH : 0 ≤ ρ 1 := by
    have q := (hG _ (List.mem_of_getElem? (i := 1) rfl)).1
    rwa [show ev ρ (0, [(1, 1)]) = ρ 1 from ev_v] at q
  have y0 : rfv h (ρ 0).toNat 10 = some (.ref (ρ 1).toNat) := ob_v hT (hH _ (List.mem_of_getElem? (i := 0) rfl)) ev_v g0 rfl ev_v
  have y1 : hasI (rfv h (ρ 1).toNat 1) (ρ 2) := ob_i hT (hH _ (List.mem_of_getElem? (i := 1) rfl)) ev_v g1 rfl ev_v
  refine ⟨_, List.mem_cons_self, ρ, fun _ _ => rfl, fun q hq => absurd hq List.not_mem_nil, trivial, fun f hf => ?_, fun q hq => absurd hq List.not_mem_nil, fun q hq => absurd hq List.not_mem_nil, fun q hq => absurd hq List.not_mem_nil, fun q hq => ?_⟩
  · exact absurd hf List.not_mem_nil
  · simp only [List.mem_cons, List.not_mem_nil, or_false] at hq
    subst hq
    show q256 G (((0) + ((1) * ρ 1 + 0))) (((0) + ((1) * ρ 2 + 0))) (rfv h)
    refine c2 (P := (fun r c => q256 G r c (rfv h))) (r := ρ 1) (c := ρ 2) ?_ (by omega) (by omega)
    show q256 G (ρ 1) (ρ 2) (rfv h)
    exact ⟨cH, g1, y1⟩
/-- gt256 -/
theorem lem_766_ok (hU : uqG G C) : lem_766.1.2.1 = [] ∧ lemOK (PRd G C D xs) G rgs lem_766 := by
  refine ⟨rfl, fun ρ h ha hT => ?_⟩
  obtain ⟨-, -, hF, hG, hH, hA, hP⟩ := ha
  have g0 : G (ρ 0).toNat = 21 := by
    have q := (hG _ (List.mem_of_getElem? (i := 0) rfl)).2
    rwa [show ev ρ (0, [(0, 1)]) = ρ 0 from ev_v] at q
  have g1 : G (ρ 1).toNat = 12 := by
    have q := (hG _ (List.mem_of_getElem? (i := 1) rfl)).2
    rwa [show ev ρ (0, [(1, 1)]) = ρ 1 from ev_v] at q
  have h1 : (0 : Int) ≤ ρ 2 ∧ ρ 2 ≤ 6 := hf_rg hT (hH _ (List.mem_of_getElem? (i := 1) rfl)) ev_v g1 rfl rfl rfl ev_v
  have p0 : q256 G (ρ 1) (ρ 3) (rfv h) := c2 (P := (fun r c => q256 G r c (rfv h))) (show q256 G (((0) + ((1) * ρ 1 + 0))) (((0) + ((1) * ρ 3 + 0))) (rfv h) from hP _ (List.mem_of_getElem? (i := 0) rfl)) (by omega) (by omega)
  have cT : 0 ≤ ρ 0 := by
    have q := (hG _ (List.mem_of_getElem? (i := 0) rfl)).1
    rwa [show ev ρ (0, [(0, 1)]) = ρ 0 from ev_v] at q
  have cH : 0 ≤ ρ 1 := by
    have q := (hG _ (List.mem_of_getElem? (i := 1) rfl)).1
    rwa [show ev ρ (0, [(1, 1)]) = ρ 1 from ev_v] at q
  have y0 : rfv h (ρ 0).toNat 10 = some (.ref (ρ 1).toNat) := ob_v hT (hH _ (List.mem_of_getElem? (i := 0) rfl)) ev_v g0 rfl ev_v
  have y1 : hasI (rfv h (ρ 1).toNat 1) (ρ 2) := ob_i hT (hH _ (List.mem_of_getElem? (i := 1) rfl)) ev_v g1 rfl ev_v
  have r := hasI_eq y1 p0.2.2
  refine ⟨_, List.mem_cons_self, ρ, fun _ _ => rfl, fun q hq => absurd hq List.not_mem_nil, trivial, fun f hf => ?_, fun q hq => absurd hq List.not_mem_nil, fun q hq => absurd hq List.not_mem_nil, fun q hq => absurd hq List.not_mem_nil, fun q hq => ?_⟩
  · simp only [List.mem_cons, List.not_mem_nil, or_false] at hf
    rcases hf with rfl | rfl
    · show (0 : Int) ≤ ((0) + ((-1) * ρ 2 + ((1) * ρ 3 + 0)))
      omega
    · show (0 : Int) ≤ ((0) + ((1) * ρ 2 + ((-1) * ρ 3 + 0)))
      omega
  · exact absurd hq List.not_mem_nil
/-- mk257 -/
theorem lem_767_ok (hU : uqG G C) : lem_767.1.2.1 = [] ∧ lemOK (PRd G C D xs) G rgs lem_767 := by
  refine ⟨rfl, fun ρ h ha hT => ?_⟩
  obtain ⟨-, -, hF, hG, hH, hA, hP⟩ := ha
  have g0 : G (ρ 0).toNat = 21 := by
    have q := (hG _ (List.mem_of_getElem? (i := 0) rfl)).2
    rwa [show ev ρ (0, [(0, 1)]) = ρ 0 from ev_v] at q
  have h0 : (0 : Int) ≤ ρ 1 ∧ ρ 1 ≤ 1 := hf_rg hT (hH _ (List.mem_of_getElem? (i := 0) rfl)) ev_v g0 rfl rfl rfl ev_v
  have cT : 0 ≤ ρ 0 := by
    have q := (hG _ (List.mem_of_getElem? (i := 0) rfl)).1
    rwa [show ev ρ (0, [(0, 1)]) = ρ 0 from ev_v] at q
  have y0 : hasI (rfv h (ρ 0).toNat 7) (ρ 1) := ob_i hT (hH _ (List.mem_of_getElem? (i := 0) rfl)) ev_v g0 rfl ev_v
  refine ⟨_, List.mem_cons_self, ρ, fun _ _ => rfl, fun q hq => absurd hq List.not_mem_nil, trivial, fun f hf => ?_, fun q hq => absurd hq List.not_mem_nil, fun q hq => absurd hq List.not_mem_nil, fun q hq => absurd hq List.not_mem_nil, fun q hq => ?_⟩
  · exact absurd hf List.not_mem_nil
  · simp only [List.mem_cons, List.not_mem_nil, or_false] at hq
    subst hq
    show q257 G (((0) + ((1) * ρ 0 + 0))) (((0) + ((1) * ρ 1 + 0))) (rfv h)
    refine c2 (P := (fun r c => q257 G r c (rfv h))) (r := ρ 0) (c := ρ 1) ?_ (by omega) (by omega)
    show q257 G (ρ 0) (ρ 1) (rfv h)
    exact ⟨cT, g0, y0⟩
/-- gt257 -/
theorem lem_768_ok (hU : uqG G C) : lem_768.1.2.1 = [] ∧ lemOK (PRd G C D xs) G rgs lem_768 := by
  refine ⟨rfl, fun ρ h ha hT => ?_⟩
  obtain ⟨-, -, hF, hG, hH, hA, hP⟩ := ha
  have g0 : G (ρ 0).toNat = 21 := by
    have q := (hG _ (List.mem_of_getElem? (i := 0) rfl)).2
    rwa [show ev ρ (0, [(0, 1)]) = ρ 0 from ev_v] at q
  have h0 : (0 : Int) ≤ ρ 1 ∧ ρ 1 ≤ 1 := hf_rg hT (hH _ (List.mem_of_getElem? (i := 0) rfl)) ev_v g0 rfl rfl rfl ev_v
  have p0 : q257 G (ρ 0) (ρ 2) (rfv h) := c2 (P := (fun r c => q257 G r c (rfv h))) (show q257 G (((0) + ((1) * ρ 0 + 0))) (((0) + ((1) * ρ 2 + 0))) (rfv h) from hP _ (List.mem_of_getElem? (i := 0) rfl)) (by omega) (by omega)
  have cT : 0 ≤ ρ 0 := by
    have q := (hG _ (List.mem_of_getElem? (i := 0) rfl)).1
    rwa [show ev ρ (0, [(0, 1)]) = ρ 0 from ev_v] at q
  have y0 : hasI (rfv h (ρ 0).toNat 7) (ρ 1) := ob_i hT (hH _ (List.mem_of_getElem? (i := 0) rfl)) ev_v g0 rfl ev_v
  have r := hasI_eq y0 p0.2.2
  refine ⟨_, List.mem_cons_self, ρ, fun _ _ => rfl, fun q hq => absurd hq List.not_mem_nil, trivial, fun f hf => ?_, fun q hq => absurd hq List.not_mem_nil, fun q hq => absurd hq List.not_mem_nil, fun q hq => absurd hq List.not_mem_nil, fun q hq => ?_⟩
  · simp only [List.mem_cons, List.not_mem_nil, or_false] at hf
    rcases hf with rfl | rfl
    · show (0 : Int) ≤ ((0) + ((-1) * ρ 1 + ((1) * ρ 2 + 0)))
      omega
    · show (0 : Int) ≤ ((0) + ((1) * ρ 1 + ((-1) * ρ 2 + 0)))
      omega
  · exact absurd hq List.not_mem_nil
/-- mcJ -/
theorem lem_769_ok (hU : uqG G C) : lem_769.1.2.1 = [] ∧ lemOK (PRd G C D xs) G rgs lem_769 := by
  refine ⟨rfl, fun ρ h ha hT => ?_⟩
  obtain ⟨-, -, hF, hG, hH, hA, hP⟩ := ha
  have g0 : G (ρ 0).toNat = 22 := by
    have q := (hG _ (List.mem_of_getElem? (i := 0) rfl)).2
    rwa [show ev ρ (0, [(0, 1)]) = ρ 0 from ev_v] at q
  have g1 : G (ρ 1).toNat = 123 := by
    have q := (hG _ (List.mem_of_getElem? (i := 1) rfl)).2
    rwa [show ev ρ (0, [(1, 1)]) = ρ 1 from ev_v] at q
  have b0 : (0 : Int) ≤ ((7) + 0) := b_aA (hA _ (List.mem_of_getElem? (i := 0) rfl))
  have a0 : vw C h 123 (7) = ρ 2 := vw_aA hU (hA _ (List.mem_of_getElem? (i := 0) rfl)) ev_v g1 (by omega) (by omega) (i := 7) (show (((7 : Nat)) : Int) = ((7) + 0) by omega) ev_v
  have p0 : q396 (vw C h) (ρ 3) := c2 (P := (fun (_ : Int) c => q396 (vw C h) c)) (r := 0) (r' := 0) (show q396 (vw C h) (((0) + ((1) * ρ 3 + 0))) from hP _ (List.mem_of_getElem? (i := 0) rfl)) rfl (by omega)
  refine ⟨_, List.mem_cons_self, ρ, fun _ _ => rfl, fun q hq => absurd hq List.not_mem_nil, trivial, fun f hf => ?_, fun q hq => absurd hq List.not_mem_nil, fun q hq => absurd hq List.not_mem_nil, fun q hq => absurd hq List.not_mem_nil, fun q hq => ?_⟩
  · exact absurd hf List.not_mem_nil
  · simp only [List.mem_cons, List.not_mem_nil, or_false] at hq
    subst hq
    show qCp (((3) + ((128) * ρ 3 + 0))) (((0) + ((1) * ρ 2 + 0)))
    refine c2 (P := qCp) (r := 128 * ρ 3 + 3) (c := ρ 2) ?_ (by omega) (by omega)
    show qCp (128 * ρ 3 + 3) (ρ 2)
    exact oCp (V := ρ 3) (k := 3) (by omega) (by decide) (r_plan (k := 3) (q := 7) (by decide) isP3 rfl p0 a0)
/-- spM -/
theorem lem_770_ok (hU : uqG G C) : lem_770.1.2.1 = [] ∧ lemOK (PRd G C D xs) G rgs lem_770 := by
  refine ⟨rfl, fun ρ h ha hT => ?_⟩
  obtain ⟨-, -, hF, hG, hH, hA, hP⟩ := ha
  have f0 : (0 : Int) ≤ ((0) + ((1) * ρ 3 + 0)) := hF _ (List.mem_of_getElem? (i := 0) rfl)
  have g0 : G (ρ 1).toNat = 22 := by
    have q := (hG _ (List.mem_of_getElem? (i := 0) rfl)).2
    rwa [show ev ρ (0, [(1, 1)]) = ρ 1 from ev_v] at q
  have g1 : G (ρ 2).toNat = 123 := by
    have q := (hG _ (List.mem_of_getElem? (i := 1) rfl)).2
    rwa [show ev ρ (0, [(2, 1)]) = ρ 2 from ev_v] at q
  have b0 : (0 : Int) ≤ ((7) + 0) := b_aA (hA _ (List.mem_of_getElem? (i := 0) rfl))
  have a0 : vw C h 123 (7) = ρ 3 := vw_aA hU (hA _ (List.mem_of_getElem? (i := 0) rfl)) ev_v g1 (by omega) (by omega) (i := 7) (show (((7 : Nat)) : Int) = ((7) + 0) by omega) ev_v
  rcases (by omega : ((0 : Int) ≤ (-1) * ρ 0 + (-1)) ∨ ((0 : Int) ≤ ρ 0 + (-1) * ρ 3) ∨ ((0 : Int) ≤ ρ 0 ∧ (0 : Int) ≤ (-1) * ρ 0 + ρ 3 + (-1))) with hc | hc | hc
  · refine ⟨_, List.mem_cons_self, ρ, fun _ _ => rfl, fun q hq => absurd hq List.not_mem_nil, trivial, fun f hf => ?_, fun q hq => absurd hq List.not_mem_nil, fun q hq => absurd hq List.not_mem_nil, fun q hq => absurd hq List.not_mem_nil, fun q hq => ?_⟩
    · simp only [List.mem_cons, List.not_mem_nil, or_false] at hf
      subst hf
      show (0 : Int) ≤ ((-1) + ((-1) * ρ 0 + 0))
      omega
    · exact absurd hq List.not_mem_nil
  · refine ⟨_, (List.mem_cons_of_mem _ List.mem_cons_self), ρ, fun _ _ => rfl, fun q hq => absurd hq List.not_mem_nil, trivial, fun f hf => ?_, fun q hq => absurd hq List.not_mem_nil, fun q hq => absurd hq List.not_mem_nil, fun q hq => absurd hq List.not_mem_nil, fun q hq => ?_⟩
    · simp only [List.mem_cons, List.not_mem_nil, or_false] at hf
      subst hf
      show (0 : Int) ≤ ((0) + ((1) * ρ 0 + ((-1) * ρ 3 + 0)))
      omega
    · exact absurd hq List.not_mem_nil
  · refine ⟨_, (List.mem_cons_of_mem _ (List.mem_cons_of_mem _ List.mem_cons_self)), ρ, fun _ _ => rfl, fun q hq => absurd hq List.not_mem_nil, trivial, fun f hf => ?_, fun q hq => absurd hq List.not_mem_nil, fun q hq => absurd hq List.not_mem_nil, fun q hq => absurd hq List.not_mem_nil, fun q hq => ?_⟩
    · simp only [List.mem_cons, List.not_mem_nil, or_false] at hf
      rcases hf with rfl | rfl
      · show (0 : Int) ≤ ((0) + ((1) * ρ 0 + 0))
        omega
      · show (0 : Int) ≤ ((-1) + ((-1) * ρ 0 + ((1) * ρ 3 + 0)))
        omega
    · exact absurd hq List.not_mem_nil
/-- rgU -/
theorem lem_771_ok (hU : uqG G C) : lem_771.1.2.1 = [] ∧ lemOK (PRd G C D xs) G rgs lem_771 := by
  refine ⟨rfl, fun ρ h ha hT => ?_⟩
  obtain ⟨-, -, hF, hG, hH, hA, hP⟩ := ha
  have g0 : G (ρ 0).toNat = 22 := by
    have q := (hG _ (List.mem_of_getElem? (i := 0) rfl)).2
    rwa [show ev ρ (0, [(0, 1)]) = ρ 0 from ev_v] at q
  have h0 : (0 : Int) ≤ ρ 1 ∧ ρ 1 ≤ 6 := hf_rg hT (hH _ (List.mem_of_getElem? (i := 0) rfl)) ev_v g0 rfl rfl rfl ev_v
  refine ⟨_, List.mem_cons_self, ρ, fun _ _ => rfl, fun q hq => absurd hq List.not_mem_nil, trivial, fun f hf => ?_, fun q hq => absurd hq List.not_mem_nil, fun q hq => absurd hq List.not_mem_nil, fun q hq => absurd hq List.not_mem_nil, fun q hq => ?_⟩
  · exact absurd hf List.not_mem_nil
  · simp only [List.mem_cons, List.not_mem_nil, or_false] at hq
    subst hq
    show True
    refine c2 (P := (fun (_ _ : Int) => True)) (r := 0) (r' := 0) (c := 0) (c' := 0) ?_ rfl rfl
    show True
    trivial
/-- jCnt -/
theorem lem_772_ok (hU : uqG G C) : lem_772.1.2.1 = [] ∧ lemOK (PRd G C D xs) G rgs lem_772 := by
  refine ⟨rfl, fun ρ h ha hT => ?_⟩
  obtain ⟨-, -, hF, hG, hH, hA, hP⟩ := ha
  have p0 : True := c2 (P := (fun (_ _ : Int) => True)) (r := 0) (r' := 0) (c := 0) (c' := 0) (show True from hP _ (List.mem_of_getElem? (i := 0) rfl)) rfl rfl
  have p1 : qCnt (ρ 1) (ρ 2) := c2 (P := qCnt) (show qCnt (((0) + ((1) * ρ 1 + 0))) (((0) + ((1) * ρ 2 + 0))) from hP _ (List.mem_of_getElem? (i := 1) rfl)) (by omega) (by omega)
  have p2 : qCnt (ρ 1) (ρ 3) := c2 (P := qCnt) (show qCnt (((0) + ((1) * ρ 1 + 0))) (((0) + ((1) * ρ 3 + 0))) from hP _ (List.mem_of_getElem? (i := 2) rfl)) (by omega) (by omega)
  have r := qCnt_f p1 p2
  refine ⟨_, List.mem_cons_self, ρ, fun _ _ => rfl, fun q hq => absurd hq List.not_mem_nil, trivial, fun f hf => ?_, fun q hq => absurd hq List.not_mem_nil, fun q hq => absurd hq List.not_mem_nil, fun q hq => absurd hq List.not_mem_nil, fun q hq => ?_⟩
  · simp only [List.mem_cons, List.not_mem_nil, or_false] at hf
    rcases hf with rfl | rfl
    · show (0 : Int) ≤ ((0) + ((-1) * ρ 2 + ((1) * ρ 3 + 0)))
      omega
    · show (0 : Int) ≤ ((0) + ((1) * ρ 2 + ((-1) * ρ 3 + 0)))
      omega
  · exact absurd hq List.not_mem_nil
/-- lawV -/
theorem lem_773_ok (hU : uqG G C) : lem_773.1.2.1 = [] ∧ lemOK (PRd G C D xs) G rgs lem_773 := by
  refine ⟨rfl, fun ρ h ha hT => ?_⟩
  obtain ⟨-, -, hF, hG, hH, hA, hP⟩ := ha
  have p0 : True := c2 (P := (fun (_ _ : Int) => True)) (r := 0) (r' := 0) (c := 0) (c' := 0) (show True from hP _ (List.mem_of_getElem? (i := 0) rfl)) rfl rfl
  have p1 : q174 (tB (vw C h)) (ρ 1) (ρ 2) := c2 (P := q174 (tB (vw C h))) (show q174 (tB (vw C h)) (((0) + ((1) * ρ 1 + 0))) (((0) + ((1) * ρ 2 + 0))) from hP _ (List.mem_of_getElem? (i := 1) rfl)) (by omega) (by omega)
  have p2 : q174 (tB (vw C h)) (ρ 1) (ρ 3) := c2 (P := q174 (tB (vw C h))) (show q174 (tB (vw C h)) (((0) + ((1) * ρ 1 + 0))) (((0) + ((1) * ρ 3 + 0))) from hP _ (List.mem_of_getElem? (i := 2) rfl)) (by omega) (by omega)
  have r0 := p1.1
  have r1 := p2.1
  have r := endA_det p1.2 p2.2
  refine ⟨_, List.mem_cons_self, ρ, fun _ _ => rfl, fun q hq => absurd hq List.not_mem_nil, trivial, fun f hf => ?_, fun q hq => absurd hq List.not_mem_nil, fun q hq => absurd hq List.not_mem_nil, fun q hq => absurd hq List.not_mem_nil, fun q hq => ?_⟩
  · simp only [List.mem_cons, List.not_mem_nil, or_false] at hf
    rcases hf with rfl | rfl
    · show (0 : Int) ≤ ((0) + ((-1) * ρ 2 + ((1) * ρ 3 + 0)))
      omega
    · show (0 : Int) ≤ ((0) + ((1) * ρ 2 + ((-1) * ρ 3 + 0)))
      omega
  · exact absurd hq List.not_mem_nil
/-- rgLV -/
theorem lem_774_ok (hU : uqG G C) : lem_774.1.2.1 = [] ∧ lemOK (PRd G C D xs) G rgs lem_774 := by
  refine ⟨rfl, fun ρ h ha hT => ?_⟩
  obtain ⟨-, -, hF, hG, hH, hA, hP⟩ := ha
  have g0 : G (ρ 0).toNat = 21 := by
    have q := (hG _ (List.mem_of_getElem? (i := 0) rfl)).2
    rwa [show ev ρ (0, [(0, 1)]) = ρ 0 from ev_v] at q
  have g1 : G (ρ 1).toNat = 20 := by
    have q := (hG _ (List.mem_of_getElem? (i := 1) rfl)).2
    rwa [show ev ρ (0, [(1, 1)]) = ρ 1 from ev_v] at q
  have p0 : q210 G (ρ 1) (ρ 2) (rfv h) := c2 (P := (fun r c => q210 G r c (rfv h))) (show q210 G (((0) + ((1) * ρ 1 + 0))) (((0) + ((1) * ρ 2 + 0))) (rfv h) from hP _ (List.mem_of_getElem? (i := 0) rfl)) (by omega) (by omega)
  have p1 : q255 G (ρ 1) (ρ 3) (rfv h) (elv h) := c2 (P := (fun r c => q255 G r c (rfv h) (elv h))) (show q255 G (((0) + ((1) * ρ 1 + 0))) (((0) + ((1) * ρ 3 + 0))) (rfv h) (elv h) from hP _ (List.mem_of_getElem? (i := 1) rfl)) (by omega) (by omega)
  refine ⟨_, List.mem_cons_self, ρ, fun _ _ => rfl, fun q hq => absurd hq List.not_mem_nil, trivial, fun f hf => ?_, fun q hq => absurd hq List.not_mem_nil, fun q hq => absurd hq List.not_mem_nil, fun q hq => absurd hq List.not_mem_nil, fun q hq => ?_⟩
  · exact absurd hf List.not_mem_nil
  · simp only [List.mem_cons, List.not_mem_nil, or_false] at hq
    rcases hq with rfl | rfl
    · show True
      refine c2 (P := (fun (_ _ : Int) => True)) (r := 0) (r' := 0) (c := 0) (c' := 0) ?_ rfl rfl
      show True
      trivial
    · show True
      refine c2 (P := (fun (_ _ : Int) => True)) (r := 0) (r' := 0) (c := 0) (c' := 0) ?_ rfl rfl
      show True
      trivial
/-- rgP -/
theorem lem_775_ok (hU : uqG G C) : lem_775.1.2.1 = [] ∧ lemOK (PRd G C D xs) G rgs lem_775 := by
  refine ⟨rfl, fun ρ h ha hT => ?_⟩
  obtain ⟨-, -, hF, hG, hH, hA, hP⟩ := ha
  refine ⟨_, List.mem_cons_self, ρ, fun _ _ => rfl, fun q hq => absurd hq List.not_mem_nil, trivial, fun f hf => ?_, fun q hq => absurd hq List.not_mem_nil, fun q hq => absurd hq List.not_mem_nil, fun q hq => absurd hq List.not_mem_nil, fun q hq => ?_⟩
  · exact absurd hf List.not_mem_nil
  · simp only [List.mem_cons, List.not_mem_nil, or_false] at hq
    subst hq
    show True
    refine c2 (P := (fun (_ _ : Int) => True)) (r := 0) (r' := 0) (c := 0) (c' := 0) ?_ rfl rfl
    show True
    trivial
/-- jFor -/
theorem lem_776_ok (hU : uqG G C) : lem_776.1.2.1 = [] ∧ lemOK (PRd G C D xs) G rgs lem_776 := by
  refine ⟨rfl, fun ρ h ha hT => ?_⟩
  obtain ⟨-, -, hF, hG, hH, hA, hP⟩ := ha
  have p0 : True := c2 (P := (fun (_ _ : Int) => True)) (r := 0) (r' := 0) (c := 0) (c' := 0) (show True from hP _ (List.mem_of_getElem? (i := 0) rfl)) rfl rfl
  have p1 : True := c2 (P := (fun (_ _ : Int) => True)) (r := 0) (r' := 0) (c := 0) (c' := 0) (show True from hP _ (List.mem_of_getElem? (i := 1) rfl)) rfl rfl
  have p2 : True := c2 (P := (fun (_ _ : Int) => True)) (r := 0) (r' := 0) (c := 0) (c' := 0) (show True from hP _ (List.mem_of_getElem? (i := 2) rfl)) rfl rfl
  have p3 : qSet (16777216 * ρ 2 + 65536 * ρ 3 + 262145) (ρ 4) := c2 (P := qSet) (show qSet (((262145) + ((16777216) * ρ 2 + ((65536) * ρ 3 + 0)))) (((0) + ((1) * ρ 4 + 0))) from hP _ (List.mem_of_getElem? (i := 3) rfl)) (by omega) (by omega)
  have p4 : qSet (16777216 * ρ 2 + 65536 * ρ 3 + 262145) (ρ 5) := c2 (P := qSet) (show qSet (((262145) + ((16777216) * ρ 2 + ((65536) * ρ 3 + 0)))) (((0) + ((1) * ρ 5 + 0))) from hP _ (List.mem_of_getElem? (i := 4) rfl)) (by omega) (by omega)
  have r := qSet_f p3 p4
  refine ⟨_, List.mem_cons_self, ρ, fun _ _ => rfl, fun q hq => absurd hq List.not_mem_nil, trivial, fun f hf => ?_, fun q hq => absurd hq List.not_mem_nil, fun q hq => absurd hq List.not_mem_nil, fun q hq => absurd hq List.not_mem_nil, fun q hq => ?_⟩
  · simp only [List.mem_cons, List.not_mem_nil, or_false] at hf
    rcases hf with rfl | rfl
    · show (0 : Int) ≤ ((0) + ((-1) * ρ 4 + ((1) * ρ 5 + 0)))
      omega
    · show (0 : Int) ≤ ((0) + ((1) * ρ 4 + ((-1) * ρ 5 + 0)))
      omega
  · exact absurd hq List.not_mem_nil
/-- gdA -/
theorem lem_777_ok (hU : uqG G C) : lem_777.1.2.1 = [] ∧ lemOK (PRd G C D xs) G rgs lem_777 := by
  refine ⟨rfl, fun ρ h ha hT => ?_⟩
  obtain ⟨-, -, hF, hG, hH, hA, hP⟩ := ha
  have g0 : G (ρ 0).toNat = 118 := by
    have q := (hG _ (List.mem_of_getElem? (i := 0) rfl)).2
    rwa [show ev ρ (0, [(0, 1)]) = ρ 0 from ev_v] at q
  have b0 : (0 : Int) ≤ ((0) + 0) := b_aA (hA _ (List.mem_of_getElem? (i := 0) rfl))
  have a0 : vw C h 118 (0) = ρ 1 := vw_aA hU (hA _ (List.mem_of_getElem? (i := 0) rfl)) ev_v g0 (by omega) (by omega) (i := 0) (show (((0 : Nat)) : Int) = ((0) + 0) by omega) ev_v
  have p0 : q396 (vw C h) (ρ 2) := c2 (P := (fun (_ : Int) c => q396 (vw C h) c)) (r := 0) (r' := 0) (show q396 (vw C h) (((0) + ((1) * ρ 2 + 0))) from hP _ (List.mem_of_getElem? (i := 0) rfl)) rfl (by omega)
  refine ⟨_, List.mem_cons_self, ρ, fun _ _ => rfl, fun q hq => absurd hq List.not_mem_nil, trivial, fun f hf => ?_, fun q hq => absurd hq List.not_mem_nil, fun q hq => absurd hq List.not_mem_nil, fun q hq => absurd hq List.not_mem_nil, fun q hq => ?_⟩
  · exact absurd hf List.not_mem_nil
  · simp only [List.mem_cons, List.not_mem_nil, or_false] at hq
    rcases hq with rfl | rfl
    · show (((0) + 0)) = 0 ∧ qNB (vw C h) (fun q => q = 0) (((0) + ((1) * ρ 2 + 0)))
      refine c2 (P := (fun r c => r = 0 ∧ qNB (vw C h) (fun q => q = 0) c)) (r := (0 : Int)) (c := ρ 2) ?_ (by omega) (by omega)
      show ((0 : Int)) = 0 ∧ qNB (vw C h) (fun q => q = 0) (ρ 2)
      exact ⟨rfl, p0.1, nH_ex (fun _ _ _ _ hh => hh) p0.2.1, p0.2.2⟩
    · show qCp (((0) + ((128) * ρ 2 + 0))) (((0) + ((1) * ρ 1 + 0)))
      refine c2 (P := qCp) (r := 128 * ρ 2) (c := ρ 1) ?_ (by omega) (by omega)
      show qCp (128 * ρ 2) (ρ 1)
      exact oCp (V := ρ 2) (k := 0) (by omega) (by decide) (r_now (k := 0) (q := 0) (by omega) (nP (by omega)) rfl p0 (Eq.trans (congrArg (vw C h 118) (show 0 = 0 by omega)) a0))
/-- gdB -/
theorem lem_778_ok (hU : uqG G C) : lem_778.1.2.1 = [] ∧ lemOK (PRd G C D xs) G rgs lem_778 := by
  refine ⟨rfl, fun ρ h ha hT => ?_⟩
  obtain ⟨-, -, hF, hG, hH, hA, hP⟩ := ha
  have f0 : (0 : Int) ≤ ((1) + ((-1) * ρ 1 + ((1) * ρ 3 + 0))) := hF _ (List.mem_of_getElem? (i := 0) rfl)
  have f1 : (0 : Int) ≤ ((-1) + ((1) * ρ 1 + ((-1) * ρ 3 + 0))) := hF _ (List.mem_of_getElem? (i := 1) rfl)
  have f2 : (0 : Int) ≤ ((0) + ((1) * ρ 1 + 0)) := hF _ (List.mem_of_getElem? (i := 2) rfl)
  have f3 : (0 : Int) ≤ ((2000) + ((-1) * ρ 1 + 0)) := hF _ (List.mem_of_getElem? (i := 3) rfl)
  have g0 : G (ρ 0).toNat = 118 := by
    have q := (hG _ (List.mem_of_getElem? (i := 0) rfl)).2
    rwa [show ev ρ (0, [(0, 1)]) = ρ 0 from ev_v] at q
  have b0 : (0 : Int) ≤ ((0) + 0) := b_aA (hA _ (List.mem_of_getElem? (i := 0) rfl))
  have a0 : vw C h 118 (0) = ρ 1 := vw_aA hU (hA _ (List.mem_of_getElem? (i := 0) rfl)) ev_v g0 (by omega) (by omega) (i := 0) (show (((0 : Nat)) : Int) = ((0) + 0) by omega) ev_v
  have p0 : ((0 : Int)) = 0 ∧ qNB (vw C h) (fun q => q = 0) (ρ 2) := c2 (P := (fun r c => r = 0 ∧ qNB (vw C h) (fun q => q = 0) c)) (show (((0) + 0)) = 0 ∧ qNB (vw C h) (fun q => q = 0) (((0) + ((1) * ρ 2 + 0))) from hP _ (List.mem_of_getElem? (i := 0) rfl)) (by omega) (by omega)
  have p1 : qCp (128 * ρ 2) (ρ 3) := c2 (P := qCp) (show qCp (((0) + ((128) * ρ 2 + 0))) (((0) + ((1) * ρ 3 + 0))) from hP _ (List.mem_of_getElem? (i := 1) rfl)) (by omega) (by omega)
  obtain ⟨σ, r1, r2a⟩ : ∃ σ : Va, (∀ i, i < 4 → σ i = ρ i) ∧ σ 4 = ((day1 (ρ 2).toNat : Nat) : Int) := ⟨fun i => if i = 4 then ((day1 (ρ 2).toNat : Nat) : Int) else ρ i, fun i hi => by dsimp only; rw [if_neg (by omega)], by dsimp only; rw [if_pos rfl]⟩
  have s0 := r1 0 (by omega)
  have s1 := r1 1 (by omega)
  have s2 := r1 2 (by omega)
  have s3 := r1 3 (by omega)
  refine ⟨_, List.mem_cons_self, σ, r1, fun q hq => absurd hq List.not_mem_nil, trivial, fun f hf => ?_, fun q hq => absurd hq List.not_mem_nil, fun q hq => absurd hq List.not_mem_nil, fun q hq => absurd hq List.not_mem_nil, fun q hq => ?_⟩
  · exact absurd hf List.not_mem_nil
  · simp only [List.mem_cons, List.not_mem_nil, or_false] at hq
    rcases hq with rfl | rfl
    · show q420 (vw C h) (((0) + 0)) (((0) + ((1) * σ 4 + 0)))
      refine c2 (P := (fun r c => q420 (vw C h) r c)) (r := (0 : Int)) (c := ((day1 (ρ 2).toNat : Nat) : Int)) ?_ (by omega) (by omega)
      show q420 (vw C h) ((0 : Int)) (((day1 (ρ 2).toNat : Nat) : Int))
      exact (c2 (P := (fun r c => q420 (vw C h) r c)) (r_gdB (d := ρ 1) (e := ρ 3) (by omega) (by omega) (kCp (V := ρ 2) (k := 0) (by omega) (by omega) p1) a0 p0) (by omega) (by omega))
    · show qDay1 (((0) + ((1) * σ 2 + 0))) (((0) + ((1) * σ 4 + 0)))
      refine c2 (P := qDay1) (r := ρ 2) (c := ((day1 (ρ 2).toNat : Nat) : Int)) ?_ (by omega) (by omega)
      show qDay1 (ρ 2) (((day1 (ρ 2).toNat : Nat) : Int))
      exact rfl
/-- gdC -/
theorem lem_779_ok (hU : uqG G C) : lem_779.1.2.1 = [] ∧ lemOK (PRd G C D xs) G rgs lem_779 := by
  refine ⟨rfl, fun ρ h ha hT => ?_⟩
  obtain ⟨-, -, hF, hG, hH, hA, hP⟩ := ha
  have f0 : (0 : Int) ≤ ((0) + ((1) * ρ 1 + 0)) := hF _ (List.mem_of_getElem? (i := 0) rfl)
  have f1 : (0 : Int) ≤ ((7) + ((-1) * ρ 1 + 0)) := hF _ (List.mem_of_getElem? (i := 1) rfl)
  have f2 : (0 : Int) ≤ ((0) + ((-1) * ρ 2 + 0)) := hF _ (List.mem_of_getElem? (i := 2) rfl)
  have f3 : (0 : Int) ≤ ((0) + ((1) * ρ 2 + 0)) := hF _ (List.mem_of_getElem? (i := 3) rfl)
  have g0 : G (ρ 0).toNat = 118 := by
    have q := (hG _ (List.mem_of_getElem? (i := 0) rfl)).2
    rwa [show ev ρ (0, [(0, 1)]) = ρ 0 from ev_v] at q
  have b0 : (0 : Int) ≤ ((9) + ((1) * ρ 1 + 0)) := b_aA (hA _ (List.mem_of_getElem? (i := 0) rfl))
  have a0 : vw C h 118 (9 + (ρ 1).toNat) = ρ 2 := vw_aA hU (hA _ (List.mem_of_getElem? (i := 0) rfl)) ev_v g0 (by omega) (by omega) (i := 9 + (ρ 1).toNat) (show (((9 + (ρ 1).toNat : Nat)) : Int) = ((9) + ((1) * ρ 1 + 0)) by omega) ev_v
  have p0 : q420 (vw C h) (ρ 1) (ρ 3) := c2 (P := (fun r c => q420 (vw C h) r c)) (show q420 (vw C h) (((0) + ((1) * ρ 1 + 0))) (((0) + ((1) * ρ 3 + 0))) from hP _ (List.mem_of_getElem? (i := 0) rfl)) (by omega) (by omega)
  refine ⟨_, List.mem_cons_self, ρ, fun _ _ => rfl, fun q hq => absurd hq List.not_mem_nil, trivial, fun f hf => ?_, fun q hq => absurd hq List.not_mem_nil, fun q hq => absurd hq List.not_mem_nil, fun q hq => absurd hq List.not_mem_nil, fun q hq => ?_⟩
  · exact absurd hf List.not_mem_nil
  · simp only [List.mem_cons, List.not_mem_nil, or_false] at hq
    subst hq
    show q420 (vw C h) (((1) + ((1) * ρ 1 + 0))) (((0) + ((1) * ρ 3 + 0)))
    refine c2 (P := (fun r c => q420 (vw C h) r c)) (r := ρ 1 + 1) (c := ρ 3) ?_ (by omega) (by omega)
    show q420 (vw C h) (ρ 1 + 1) (ρ 3)
    exact (c2 (P := (fun r c => q420 (vw C h) r c)) (r_gdC (U := ρ 3) (m := (ρ 1).toNat) (q := ρ 2) (by omega) (by omega) a0 (c2 (P := (fun r c => q420 (vw C h) r c)) p0 (by omega) (by omega))) (by omega) (by omega))
/-- gdD -/
theorem lem_780_ok (hU : uqG G C) : lem_780.1.2.1 = [] ∧ lemOK (PRd G C D xs) G rgs lem_780 := by
  refine ⟨rfl, fun ρ h ha hT => ?_⟩
  obtain ⟨-, -, hF, hG, hH, hA, hP⟩ := ha
  have p0 : q420 (vw C h) ((8 : Int)) (ρ 0) := c2 (P := (fun r c => q420 (vw C h) r c)) (show q420 (vw C h) (((8) + 0)) (((0) + ((1) * ρ 0 + 0))) from hP _ (List.mem_of_getElem? (i := 0) rfl)) (by omega) (by omega)
  refine ⟨_, List.mem_cons_self, ρ, fun _ _ => rfl, fun q hq => absurd hq List.not_mem_nil, trivial, fun f hf => ?_, fun q hq => absurd hq List.not_mem_nil, fun q hq => absurd hq List.not_mem_nil, fun q hq => absurd hq List.not_mem_nil, fun q hq => ?_⟩
  · exact absurd hf List.not_mem_nil
  · simp only [List.mem_cons, List.not_mem_nil, or_false] at hq
    subst hq
    show q396 (vw C h) (((0) + ((1) * ρ 0 + 0)))
    refine c2 (P := (fun (_ : Int) c => q396 (vw C h) c)) (r := 0) (r' := 0) (c := ρ 0) ?_ rfl (by omega)
    show q396 (vw C h) (ρ 0)
    exact r_gdD p0
/-- ga0 -/
theorem lem_781_ok (hU : uqG G C) : lem_781.1.2.1 = [] ∧ lemOK (PRd G C D xs) G rgs lem_781 := by
  refine ⟨rfl, fun ρ h ha hT => ?_⟩
  obtain ⟨-, -, hF, hG, hH, hA, hP⟩ := ha
  have p0 : q396 (vw C h) (ρ 0) := c2 (P := (fun (_ : Int) c => q396 (vw C h) c)) (r := 0) (r' := 0) (show q396 (vw C h) (((0) + ((1) * ρ 0 + 0))) from hP _ (List.mem_of_getElem? (i := 0) rfl)) rfl (by omega)
  refine ⟨_, List.mem_cons_self, ρ, fun _ _ => rfl, fun q hq => absurd hq List.not_mem_nil, trivial, fun f hf => ?_, fun q hq => absurd hq List.not_mem_nil, fun q hq => absurd hq List.not_mem_nil, fun q hq => absurd hq List.not_mem_nil, fun q hq => ?_⟩
  · exact absurd hf List.not_mem_nil
  · simp only [List.mem_cons, List.not_mem_nil, or_false] at hq
    rcases hq with rfl | rfl
    · show qDay (((0) + ((256) * ρ 0 + 0))) (((0) + ((1) * ρ 0 + 0)))
      refine c2 (P := qDay) (r := 256 * ρ 0) (c := ρ 0) ?_ (by omega) (by omega)
      show qDay (256 * ρ 0) (ρ 0)
      exact oDay (V := ρ 0) (i := 0) (by omega) (by decide) (toN p0.1.1).symm
    · show True
      refine c2 (P := (fun (_ _ : Int) => True)) (r := 0) (r' := 0) (c := 0) (c' := 0) ?_ rfl rfl
      show True
      trivial
/-- ga1 -/
theorem lem_782_ok (hU : uqG G C) : lem_782.1.2.1 = [] ∧ lemOK (PRd G C D xs) G rgs lem_782 := by
  refine ⟨rfl, fun ρ h ha hT => ?_⟩
  obtain ⟨-, -, hF, hG, hH, hA, hP⟩ := ha
  have f0 : (0 : Int) ≤ ((0) + ((1) * ρ 0 + 0)) := hF _ (List.mem_of_getElem? (i := 0) rfl)
  have f1 : (0 : Int) ≤ ((254) + ((-1) * ρ 0 + 0)) := hF _ (List.mem_of_getElem? (i := 1) rfl)
  have p0 : q396 (vw C h) (ρ 1) := c2 (P := (fun (_ : Int) c => q396 (vw C h) c)) (r := 0) (r' := 0) (show q396 (vw C h) (((0) + ((1) * ρ 1 + 0))) from hP _ (List.mem_of_getElem? (i := 0) rfl)) rfl (by omega)
  have p1 : True := c2 (P := (fun (_ _ : Int) => True)) (r := 0) (r' := 0) (c := 0) (c' := 0) (show True from hP _ (List.mem_of_getElem? (i := 1) rfl)) rfl rfl
  have p2 : qDay (ρ 0 + 256 * ρ 2) (ρ 3) := c2 (P := qDay) (show qDay (((0) + ((1) * ρ 0 + ((256) * ρ 2 + 0)))) (((0) + ((1) * ρ 3 + 0))) from hP _ (List.mem_of_getElem? (i := 2) rfl)) (by omega) (by omega)
  have p3 : qDay1 (ρ 3) (ρ 1) := c2 (P := qDay1) (show qDay1 (((0) + ((1) * ρ 3 + 0))) (((0) + ((1) * ρ 1 + 0))) from hP _ (List.mem_of_getElem? (i := 3) rfl)) (by omega) (by omega)
  have rd := kDay (V := ρ 2) (i := (ρ 0).toNat) (by omega) (by omega) p2
  have ru : ρ 1 = ((day1 (ρ 3).toNat : Nat) : Int) := p3
  refine ⟨_, List.mem_cons_self, ρ, fun _ _ => rfl, fun q hq => absurd hq List.not_mem_nil, trivial, fun f hf => ?_, fun q hq => absurd hq List.not_mem_nil, fun q hq => absurd hq List.not_mem_nil, fun q hq => absurd hq List.not_mem_nil, fun q hq => ?_⟩
  · exact absurd hf List.not_mem_nil
  · simp only [List.mem_cons, List.not_mem_nil, or_false] at hq
    subst hq
    show qDay (((1) + ((1) * ρ 0 + ((256) * ρ 2 + 0)))) (((0) + ((1) * ρ 1 + 0)))
    refine c2 (P := qDay) (r := ρ 0 + 256 * ρ 2 + 1) (c := ρ 1) ?_ (by omega) (by omega)
    show qDay (ρ 0 + 256 * ρ 2 + 1) (ρ 1)
    exact oDay (V := ρ 2) (i := (ρ 0).toNat + 1) (by omega) (by omega) (ru.trans (s_dayS rd))
/-- rgD -/
theorem lem_783_ok (hU : uqG G C) : lem_783.1.2.1 = [] ∧ lemOK (PRd G C D xs) G rgs lem_783 := by
  refine ⟨rfl, fun ρ h ha hT => ?_⟩
  obtain ⟨-, -, hF, hG, hH, hA, hP⟩ := ha
  have g0 : G (ρ 0).toNat = 22 := by
    have q := (hG _ (List.mem_of_getElem? (i := 0) rfl)).2
    rwa [show ev ρ (0, [(0, 1)]) = ρ 0 from ev_v] at q
  have g1 : G (ρ 2).toNat = 118 := by
    have q := (hG _ (List.mem_of_getElem? (i := 1) rfl)).2
    rwa [show ev ρ (0, [(2, 1)]) = ρ 2 from ev_v] at q
  have b0 : (0 : Int) ≤ ((0) + 0) := b_aA (hA _ (List.mem_of_getElem? (i := 0) rfl))
  have a0 : vw C h 118 (0) = ρ 3 := vw_aA hU (hA _ (List.mem_of_getElem? (i := 0) rfl)) ev_v g1 (by omega) (by omega) (i := 0) (show (((0 : Nat)) : Int) = ((0) + 0) by omega) ev_v
  have p0 : q396 (vw C h) (ρ 4) := c2 (P := (fun (_ : Int) c => q396 (vw C h) c)) (r := 0) (r' := 0) (show q396 (vw C h) (((0) + ((1) * ρ 4 + 0))) from hP _ (List.mem_of_getElem? (i := 0) rfl)) rfl (by omega)
  have p1 : qCp (128 * ρ 4) (ρ 5) := c2 (P := qCp) (show qCp (((0) + ((128) * ρ 4 + 0))) (((0) + ((1) * ρ 5 + 0))) from hP _ (List.mem_of_getElem? (i := 1) rfl)) (by omega) (by omega)
  have r := (r_now (k := 0) (q := 0) (by omega) (nP (by omega)) rfl p0 (Eq.trans (congrArg (vw C h 118) (show 0 = 0 by omega)) a0))
  have r2 := (kCp (V := ρ 4) (k := 0) (by omega) (by omega) p1)
  rcases (by omega : ((0 : Int) ≤ (-1) * ρ 3 + ρ 5 ∧ (0 : Int) ≤ ρ 3 + (-1) * ρ 5 ∧ (0 : Int) ≤ (-1) * ρ 1 + (-1) * ρ 3 + 2000) ∨ ((0 : Int) ≤ (-1) * ρ 3 + ρ 5 ∧ (0 : Int) ≤ ρ 3 + (-1) * ρ 5 ∧ (0 : Int) ≤ ρ 1 + ρ 3 + (-2001))) with hc | hc
  · refine ⟨_, List.mem_cons_self, ρ, fun _ _ => rfl, fun q hq => absurd hq List.not_mem_nil, trivial, fun f hf => ?_, fun q hq => absurd hq List.not_mem_nil, fun q hq => absurd hq List.not_mem_nil, fun q hq => absurd hq List.not_mem_nil, fun q hq => ?_⟩
    · simp only [List.mem_cons, List.not_mem_nil, or_false] at hf
      rcases hf with rfl | rfl | rfl
      · show (0 : Int) ≤ ((0) + ((-1) * ρ 3 + ((1) * ρ 5 + 0)))
        omega
      · show (0 : Int) ≤ ((0) + ((1) * ρ 3 + ((-1) * ρ 5 + 0)))
        omega
      · show (0 : Int) ≤ ((2000) + ((-1) * ρ 1 + ((-1) * ρ 3 + 0)))
        omega
    · exact absurd hq List.not_mem_nil
  · refine ⟨_, (List.mem_cons_of_mem _ List.mem_cons_self), ρ, fun _ _ => rfl, fun q hq => absurd hq List.not_mem_nil, trivial, fun f hf => ?_, fun q hq => absurd hq List.not_mem_nil, fun q hq => absurd hq List.not_mem_nil, fun q hq => absurd hq List.not_mem_nil, fun q hq => ?_⟩
    · simp only [List.mem_cons, List.not_mem_nil, or_false] at hf
      rcases hf with rfl | rfl | rfl
      · show (0 : Int) ≤ ((0) + ((-1) * ρ 3 + ((1) * ρ 5 + 0)))
        omega
      · show (0 : Int) ≤ ((0) + ((1) * ρ 3 + ((-1) * ρ 5 + 0)))
        omega
      · show (0 : Int) ≤ ((-2001) + ((1) * ρ 1 + ((1) * ρ 3 + 0)))
        omega
    · exact absurd hq List.not_mem_nil
/-- sp1_100 -/
theorem lem_784_ok (hU : uqG G C) : lem_784.1.2.1 = [] ∧ lemOK (PRd G C D xs) G rgs lem_784 := by
  refine ⟨rfl, fun ρ h ha hT => ?_⟩
  obtain ⟨-, -, hF, hG, hH, hA, hP⟩ := ha
  rcases (by omega : ((0 : Int) ≤ (-1) * ρ 0) ∨ ((0 : Int) ≤ ρ 0 + (-101)) ∨ ((0 : Int) ≤ ρ 0 + (-1) ∧ (0 : Int) ≤ (-1) * ρ 0 + 100)) with hc | hc | hc
  · refine ⟨_, List.mem_cons_self, ρ, fun _ _ => rfl, fun q hq => absurd hq List.not_mem_nil, trivial, fun f hf => ?_, fun q hq => absurd hq List.not_mem_nil, fun q hq => absurd hq List.not_mem_nil, fun q hq => absurd hq List.not_mem_nil, fun q hq => ?_⟩
    · simp only [List.mem_cons, List.not_mem_nil, or_false] at hf
      subst hf
      show (0 : Int) ≤ ((0) + ((-1) * ρ 0 + 0))
      omega
    · exact absurd hq List.not_mem_nil
  · refine ⟨_, (List.mem_cons_of_mem _ List.mem_cons_self), ρ, fun _ _ => rfl, fun q hq => absurd hq List.not_mem_nil, trivial, fun f hf => ?_, fun q hq => absurd hq List.not_mem_nil, fun q hq => absurd hq List.not_mem_nil, fun q hq => absurd hq List.not_mem_nil, fun q hq => ?_⟩
    · simp only [List.mem_cons, List.not_mem_nil, or_false] at hf
      subst hf
      show (0 : Int) ≤ ((-101) + ((1) * ρ 0 + 0))
      omega
    · exact absurd hq List.not_mem_nil
  · refine ⟨_, (List.mem_cons_of_mem _ (List.mem_cons_of_mem _ List.mem_cons_self)), ρ, fun _ _ => rfl, fun q hq => absurd hq List.not_mem_nil, trivial, fun f hf => ?_, fun q hq => absurd hq List.not_mem_nil, fun q hq => absurd hq List.not_mem_nil, fun q hq => absurd hq List.not_mem_nil, fun q hq => ?_⟩
    · simp only [List.mem_cons, List.not_mem_nil, or_false] at hf
      rcases hf with rfl | rfl
      · show (0 : Int) ≤ ((-1) + ((1) * ρ 0 + 0))
        omega
      · show (0 : Int) ≤ ((100) + ((-1) * ρ 0 + 0))
        omega
    · exact absurd hq List.not_mem_nil
/-- rgQ -/
theorem lem_785_ok (hU : uqG G C) : lem_785.1.2.1 = [] ∧ lemOK (PRd G C D xs) G rgs lem_785 := by
  refine ⟨rfl, fun ρ h ha hT => ?_⟩
  obtain ⟨-, -, hF, hG, hH, hA, hP⟩ := ha
  refine ⟨_, List.mem_cons_self, ρ, fun _ _ => rfl, fun q hq => absurd hq List.not_mem_nil, trivial, fun f hf => ?_, fun q hq => absurd hq List.not_mem_nil, fun q hq => absurd hq List.not_mem_nil, fun q hq => absurd hq List.not_mem_nil, fun q hq => ?_⟩
  · exact absurd hf List.not_mem_nil
  · simp only [List.mem_cons, List.not_mem_nil, or_false] at hq
    rcases hq with rfl | rfl
    · show True
      refine c2 (P := (fun (_ _ : Int) => True)) (r := 0) (r' := 0) (c := 0) (c' := 0) ?_ rfl rfl
      show True
      trivial
    · show True
      refine c2 (P := (fun (_ _ : Int) => True)) (r := 0) (r' := 0) (c := 0) (c' := 0) ?_ rfl rfl
      show True
      trivial
/-- jGf -/
theorem lem_786_ok (hU : uqG G C) : lem_786.1.2.1 = [] ∧ lemOK (PRd G C D xs) G rgs lem_786 := by
  refine ⟨rfl, fun ρ h ha hT => ?_⟩
  obtain ⟨-, -, hF, hG, hH, hA, hP⟩ := ha
  have p0 : True := c2 (P := (fun (_ _ : Int) => True)) (r := 0) (r' := 0) (c := 0) (c' := 0) (show True from hP _ (List.mem_of_getElem? (i := 0) rfl)) rfl rfl
  have p1 : True := c2 (P := (fun (_ _ : Int) => True)) (r := 0) (r' := 0) (c := 0) (c' := 0) (show True from hP _ (List.mem_of_getElem? (i := 1) rfl)) rfl rfl
  have p2 : True := c2 (P := (fun (_ _ : Int) => True)) (r := 0) (r' := 0) (c := 0) (c' := 0) (show True from hP _ (List.mem_of_getElem? (i := 2) rfl)) rfl rfl
  have p3 : True := c2 (P := (fun (_ _ : Int) => True)) (r := 0) (r' := 0) (c := 0) (c' := 0) (show True from hP _ (List.mem_of_getElem? (i := 3) rfl)) rfl rfl
  have p4 : True := c2 (P := (fun (_ _ : Int) => True)) (r := 0) (r' := 0) (c := 0) (c' := 0) (show True from hP _ (List.mem_of_getElem? (i := 4) rfl)) rfl rfl
  have p5 : qSet (16777216 * ρ 2 + 65536 * ρ 3 + ρ 4 + 1310720) (ρ 6) := c2 (P := qSet) (show qSet (((1310720) + ((16777216) * ρ 2 + ((65536) * ρ 3 + ((1) * ρ 4 + 0))))) (((0) + ((1) * ρ 6 + 0))) from hP _ (List.mem_of_getElem? (i := 5) rfl)) (by omega) (by omega)
  have p6 : qSet (16777216 * ρ 2 + 65536 * ρ 3 + ρ 4 + 1310720) (ρ 7) := c2 (P := qSet) (show qSet (((1310720) + ((16777216) * ρ 2 + ((65536) * ρ 3 + ((1) * ρ 4 + 0))))) (((0) + ((1) * ρ 7 + 0))) from hP _ (List.mem_of_getElem? (i := 6) rfl)) (by omega) (by omega)
  have r := qSet_f p5 p6
  refine ⟨_, List.mem_cons_self, ρ, fun _ _ => rfl, fun q hq => absurd hq List.not_mem_nil, trivial, fun f hf => ?_, fun q hq => absurd hq List.not_mem_nil, fun q hq => absurd hq List.not_mem_nil, fun q hq => absurd hq List.not_mem_nil, fun q hq => ?_⟩
  · simp only [List.mem_cons, List.not_mem_nil, or_false] at hf
    rcases hf with rfl | rfl
    · show (0 : Int) ≤ ((0) + ((-1) * ρ 6 + ((1) * ρ 7 + 0)))
      omega
    · show (0 : Int) ≤ ((0) + ((1) * ρ 6 + ((-1) * ρ 7 + 0)))
      omega
  · exact absurd hq List.not_mem_nil
/-- jGu -/
theorem lem_787_ok (hU : uqG G C) : lem_787.1.2.1 = [] ∧ lemOK (PRd G C D xs) G rgs lem_787 := by
  refine ⟨rfl, fun ρ h ha hT => ?_⟩
  obtain ⟨-, -, hF, hG, hH, hA, hP⟩ := ha
  have p0 : True := c2 (P := (fun (_ _ : Int) => True)) (r := 0) (r' := 0) (c := 0) (c' := 0) (show True from hP _ (List.mem_of_getElem? (i := 0) rfl)) rfl rfl
  have p1 : True := c2 (P := (fun (_ _ : Int) => True)) (r := 0) (r' := 0) (c := 0) (c' := 0) (show True from hP _ (List.mem_of_getElem? (i := 1) rfl)) rfl rfl
  have p2 : True := c2 (P := (fun (_ _ : Int) => True)) (r := 0) (r' := 0) (c := 0) (c' := 0) (show True from hP _ (List.mem_of_getElem? (i := 2) rfl)) rfl rfl
  have p3 : True := c2 (P := (fun (_ _ : Int) => True)) (r := 0) (r' := 0) (c := 0) (c' := 0) (show True from hP _ (List.mem_of_getElem? (i := 3) rfl)) rfl rfl
  have p4 : True := c2 (P := (fun (_ _ : Int) => True)) (r := 0) (r' := 0) (c := 0) (c' := 0) (show True from hP _ (List.mem_of_getElem? (i := 4) rfl)) rfl rfl
  have p5 : qSet (16777216 * ρ 2 + 65536 * ρ 3 + ρ 4 + 1310720) (ρ 6) := c2 (P := qSet) (show qSet (((1310720) + ((16777216) * ρ 2 + ((65536) * ρ 3 + ((1) * ρ 4 + 0))))) (((0) + ((1) * ρ 6 + 0))) from hP _ (List.mem_of_getElem? (i := 5) rfl)) (by omega) (by omega)
  have p6 : qSet (65536 * ρ 3 + ρ 5 + 16777216 * ρ 6 + 1835008) (ρ 7) := c2 (P := qSet) (show qSet (((1835008) + ((65536) * ρ 3 + ((1) * ρ 5 + ((16777216) * ρ 6 + 0))))) (((0) + ((1) * ρ 7 + 0))) from hP _ (List.mem_of_getElem? (i := 6) rfl)) (by omega) (by omega)
  have p7 : qSet (65536 * ρ 3 + ρ 5 + 16777216 * ρ 6 + 1835008) (ρ 8) := c2 (P := qSet) (show qSet (((1835008) + ((65536) * ρ 3 + ((1) * ρ 5 + ((16777216) * ρ 6 + 0))))) (((0) + ((1) * ρ 8 + 0))) from hP _ (List.mem_of_getElem? (i := 7) rfl)) (by omega) (by omega)
  have r := qSet_f p6 p7
  refine ⟨_, List.mem_cons_self, ρ, fun _ _ => rfl, fun q hq => absurd hq List.not_mem_nil, trivial, fun f hf => ?_, fun q hq => absurd hq List.not_mem_nil, fun q hq => absurd hq List.not_mem_nil, fun q hq => absurd hq List.not_mem_nil, fun q hq => ?_⟩
  · simp only [List.mem_cons, List.not_mem_nil, or_false] at hf
    rcases hf with rfl | rfl
    · show (0 : Int) ≤ ((0) + ((-1) * ρ 7 + ((1) * ρ 8 + 0)))
      omega
    · show (0 : Int) ≤ ((0) + ((1) * ρ 7 + ((-1) * ρ 8 + 0)))
      omega
  · exact absurd hq List.not_mem_nil
/-- jTop -/
theorem lem_788_ok (hU : uqG G C) : lem_788.1.2.1 = [] ∧ lemOK (PRd G C D xs) G rgs lem_788 := by
  refine ⟨rfl, fun ρ h ha hT => ?_⟩
  obtain ⟨-, -, hF, hG, hH, hA, hP⟩ := ha
  have p0 : True := c2 (P := (fun (_ _ : Int) => True)) (r := 0) (r' := 0) (c := 0) (c' := 0) (show True from hP _ (List.mem_of_getElem? (i := 0) rfl)) rfl rfl
  have p1 : True := c2 (P := (fun (_ _ : Int) => True)) (r := 0) (r' := 0) (c := 0) (c' := 0) (show True from hP _ (List.mem_of_getElem? (i := 1) rfl)) rfl rfl
  have p2 : qTop (ρ 1) (ρ 3) := c2 (P := qTop) (show qTop (((0) + ((1) * ρ 1 + 0))) (((0) + ((1) * ρ 3 + 0))) from hP _ (List.mem_of_getElem? (i := 2) rfl)) (by omega) (by omega)
  have p3 : qTop (ρ 1) (ρ 4) := c2 (P := qTop) (show qTop (((0) + ((1) * ρ 1 + 0))) (((0) + ((1) * ρ 4 + 0))) from hP _ (List.mem_of_getElem? (i := 3) rfl)) (by omega) (by omega)
  have r := qTop_f p2 p3
  refine ⟨_, List.mem_cons_self, ρ, fun _ _ => rfl, fun q hq => absurd hq List.not_mem_nil, trivial, fun f hf => ?_, fun q hq => absurd hq List.not_mem_nil, fun q hq => absurd hq List.not_mem_nil, fun q hq => absurd hq List.not_mem_nil, fun q hq => ?_⟩
  · simp only [List.mem_cons, List.not_mem_nil, or_false] at hf
    rcases hf with rfl | rfl
    · show (0 : Int) ≤ ((0) + ((-1) * ρ 3 + ((1) * ρ 4 + 0)))
      omega
    · show (0 : Int) ≤ ((0) + ((1) * ρ 3 + ((-1) * ρ 4 + 0)))
      omega
  · exact absurd hq List.not_mem_nil
/-- jTail -/
theorem lem_789_ok (hU : uqG G C) : lem_789.1.2.1 = [] ∧ lemOK (PRd G C D xs) G rgs lem_789 := by
  refine ⟨rfl, fun ρ h ha hT => ?_⟩
  obtain ⟨-, -, hF, hG, hH, hA, hP⟩ := ha
  have p0 : True := c2 (P := (fun (_ _ : Int) => True)) (r := 0) (r' := 0) (c := 0) (c' := 0) (show True from hP _ (List.mem_of_getElem? (i := 0) rfl)) rfl rfl
  have p1 : True := c2 (P := (fun (_ _ : Int) => True)) (r := 0) (r' := 0) (c := 0) (c' := 0) (show True from hP _ (List.mem_of_getElem? (i := 1) rfl)) rfl rfl
  have p2 : qTail (ρ 1) (ρ 3) := c2 (P := qTail) (show qTail (((0) + ((1) * ρ 1 + 0))) (((0) + ((1) * ρ 3 + 0))) from hP _ (List.mem_of_getElem? (i := 2) rfl)) (by omega) (by omega)
  have p3 : qTail (ρ 1) (ρ 4) := c2 (P := qTail) (show qTail (((0) + ((1) * ρ 1 + 0))) (((0) + ((1) * ρ 4 + 0))) from hP _ (List.mem_of_getElem? (i := 3) rfl)) (by omega) (by omega)
  have r := qTail_f p2 p3
  refine ⟨_, List.mem_cons_self, ρ, fun _ _ => rfl, fun q hq => absurd hq List.not_mem_nil, trivial, fun f hf => ?_, fun q hq => absurd hq List.not_mem_nil, fun q hq => absurd hq List.not_mem_nil, fun q hq => absurd hq List.not_mem_nil, fun q hq => ?_⟩
  · simp only [List.mem_cons, List.not_mem_nil, or_false] at hf
    rcases hf with rfl | rfl
    · show (0 : Int) ≤ ((0) + ((-1) * ρ 3 + ((1) * ρ 4 + 0)))
      omega
    · show (0 : Int) ≤ ((0) + ((1) * ρ 3 + ((-1) * ρ 4 + 0)))
      omega
  · exact absurd hq List.not_mem_nil
/-- jPush -/
theorem lem_790_ok (hU : uqG G C) : lem_790.1.2.1 = [] ∧ lemOK (PRd G C D xs) G rgs lem_790 := by
  refine ⟨rfl, fun ρ h ha hT => ?_⟩
  obtain ⟨-, -, hF, hG, hH, hA, hP⟩ := ha
  have p0 : True := c2 (P := (fun (_ _ : Int) => True)) (r := 0) (r' := 0) (c := 0) (c' := 0) (show True from hP _ (List.mem_of_getElem? (i := 0) rfl)) rfl rfl
  have p1 : True := c2 (P := (fun (_ _ : Int) => True)) (r := 0) (r' := 0) (c := 0) (c' := 0) (show True from hP _ (List.mem_of_getElem? (i := 1) rfl)) rfl rfl
  have p2 : qPush (1128430269653696552505663664688505519051893948117725342710709407999638941941219040912833546632301522012495604549678634617312701794930960696933850145274509219899605219518447018369658381698338332600334225533767288503097470829739413943739519714331064178097205003926859545229038622328927117691927971265095131106901145206539640038505022502031780376472027866138952425537536 * ρ 1 + ρ 2) (ρ 3) := c2 (P := qPush) (show qPush (((0) + ((1128430269653696552505663664688505519051893948117725342710709407999638941941219040912833546632301522012495604549678634617312701794930960696933850145274509219899605219518447018369658381698338332600334225533767288503097470829739413943739519714331064178097205003926859545229038622328927117691927971265095131106901145206539640038505022502031780376472027866138952425537536) * ρ 1 + ((1) * ρ 2 + 0)))) (((0) + ((1) * ρ 3 + 0))) from hP _ (List.mem_of_getElem? (i := 2) rfl)) (by omega) (by omega)
  have p3 : qPush (1128430269653696552505663664688505519051893948117725342710709407999638941941219040912833546632301522012495604549678634617312701794930960696933850145274509219899605219518447018369658381698338332600334225533767288503097470829739413943739519714331064178097205003926859545229038622328927117691927971265095131106901145206539640038505022502031780376472027866138952425537536 * ρ 1 + ρ 2) (ρ 4) := c2 (P := qPush) (show qPush (((0) + ((1128430269653696552505663664688505519051893948117725342710709407999638941941219040912833546632301522012495604549678634617312701794930960696933850145274509219899605219518447018369658381698338332600334225533767288503097470829739413943739519714331064178097205003926859545229038622328927117691927971265095131106901145206539640038505022502031780376472027866138952425537536) * ρ 1 + ((1) * ρ 2 + 0)))) (((0) + ((1) * ρ 4 + 0))) from hP _ (List.mem_of_getElem? (i := 3) rfl)) (by omega) (by omega)
  have r := qPush_f p2 p3
  refine ⟨_, List.mem_cons_self, ρ, fun _ _ => rfl, fun q hq => absurd hq List.not_mem_nil, trivial, fun f hf => ?_, fun q hq => absurd hq List.not_mem_nil, fun q hq => absurd hq List.not_mem_nil, fun q hq => absurd hq List.not_mem_nil, fun q hq => ?_⟩
  · simp only [List.mem_cons, List.not_mem_nil, or_false] at hf
    rcases hf with rfl | rfl
    · show (0 : Int) ≤ ((0) + ((-1) * ρ 3 + ((1) * ρ 4 + 0)))
      omega
    · show (0 : Int) ≤ ((0) + ((1) * ρ 3 + ((-1) * ρ 4 + 0)))
      omega
  · exact absurd hq List.not_mem_nil
/-- jLev -/
theorem lem_791_ok (hU : uqG G C) : lem_791.1.2.1 = [] ∧ lemOK (PRd G C D xs) G rgs lem_791 := by
  refine ⟨rfl, fun ρ h ha hT => ?_⟩
  obtain ⟨-, -, hF, hG, hH, hA, hP⟩ := ha
  have p0 : True := c2 (P := (fun (_ _ : Int) => True)) (r := 0) (r' := 0) (c := 0) (c' := 0) (show True from hP _ (List.mem_of_getElem? (i := 0) rfl)) rfl rfl
  have p1 : True := c2 (P := (fun (_ _ : Int) => True)) (r := 0) (r' := 0) (c := 0) (c' := 0) (show True from hP _ (List.mem_of_getElem? (i := 1) rfl)) rfl rfl
  have p2 : True := c2 (P := (fun (_ _ : Int) => True)) (r := 0) (r' := 0) (c := 0) (c' := 0) (show True from hP _ (List.mem_of_getElem? (i := 2) rfl)) rfl rfl
  have p3 : qSet (16777216 * ρ 2 + ρ 3 + 65536) (ρ 4) := c2 (P := qSet) (show qSet (((65536) + ((16777216) * ρ 2 + ((1) * ρ 3 + 0)))) (((0) + ((1) * ρ 4 + 0))) from hP _ (List.mem_of_getElem? (i := 3) rfl)) (by omega) (by omega)
  have p4 : qSet (16777216 * ρ 2 + ρ 3 + 65536) (ρ 5) := c2 (P := qSet) (show qSet (((65536) + ((16777216) * ρ 2 + ((1) * ρ 3 + 0)))) (((0) + ((1) * ρ 5 + 0))) from hP _ (List.mem_of_getElem? (i := 4) rfl)) (by omega) (by omega)
  have r := qSet_f p3 p4
  refine ⟨_, List.mem_cons_self, ρ, fun _ _ => rfl, fun q hq => absurd hq List.not_mem_nil, trivial, fun f hf => ?_, fun q hq => absurd hq List.not_mem_nil, fun q hq => absurd hq List.not_mem_nil, fun q hq => absurd hq List.not_mem_nil, fun q hq => ?_⟩
  · simp only [List.mem_cons, List.not_mem_nil, or_false] at hf
    rcases hf with rfl | rfl
    · show (0 : Int) ≤ ((0) + ((-1) * ρ 4 + ((1) * ρ 5 + 0)))
      omega
    · show (0 : Int) ≤ ((0) + ((1) * ρ 4 + ((-1) * ρ 5 + 0)))
      omega
  · exact absurd hq List.not_mem_nil
/-- jShi -/
theorem lem_792_ok (hU : uqG G C) : lem_792.1.2.1 = [] ∧ lemOK (PRd G C D xs) G rgs lem_792 := by
  refine ⟨rfl, fun ρ h ha hT => ?_⟩
  obtain ⟨-, -, hF, hG, hH, hA, hP⟩ := ha
  have p0 : True := c2 (P := (fun (_ _ : Int) => True)) (r := 0) (r' := 0) (c := 0) (c' := 0) (show True from hP _ (List.mem_of_getElem? (i := 0) rfl)) rfl rfl
  have p1 : True := c2 (P := (fun (_ _ : Int) => True)) (r := 0) (r' := 0) (c := 0) (c' := 0) (show True from hP _ (List.mem_of_getElem? (i := 1) rfl)) rfl rfl
  have p2 : True := c2 (P := (fun (_ _ : Int) => True)) (r := 0) (r' := 0) (c := 0) (c' := 0) (show True from hP _ (List.mem_of_getElem? (i := 2) rfl)) rfl rfl
  have p3 : qSet (16777216 * ρ 2 + ρ 3 + 131072) (ρ 4) := c2 (P := qSet) (show qSet (((131072) + ((16777216) * ρ 2 + ((1) * ρ 3 + 0)))) (((0) + ((1) * ρ 4 + 0))) from hP _ (List.mem_of_getElem? (i := 3) rfl)) (by omega) (by omega)
  have p4 : qSet (16777216 * ρ 2 + ρ 3 + 131072) (ρ 5) := c2 (P := qSet) (show qSet (((131072) + ((16777216) * ρ 2 + ((1) * ρ 3 + 0)))) (((0) + ((1) * ρ 5 + 0))) from hP _ (List.mem_of_getElem? (i := 4) rfl)) (by omega) (by omega)
  have r := qSet_f p3 p4
  refine ⟨_, List.mem_cons_self, ρ, fun _ _ => rfl, fun q hq => absurd hq List.not_mem_nil, trivial, fun f hf => ?_, fun q hq => absurd hq List.not_mem_nil, fun q hq => absurd hq List.not_mem_nil, fun q hq => absurd hq List.not_mem_nil, fun q hq => ?_⟩
  · simp only [List.mem_cons, List.not_mem_nil, or_false] at hf
    rcases hf with rfl | rfl
    · show (0 : Int) ≤ ((0) + ((-1) * ρ 4 + ((1) * ρ 5 + 0)))
      omega
    · show (0 : Int) ≤ ((0) + ((1) * ρ 4 + ((-1) * ρ 5 + 0)))
      omega
  · exact absurd hq List.not_mem_nil
/-- jDay -/
theorem lem_793_ok (hU : uqG G C) : lem_793.1.2.1 = [] ∧ lemOK (PRd G C D xs) G rgs lem_793 := by
  refine ⟨rfl, fun ρ h ha hT => ?_⟩
  obtain ⟨-, -, hF, hG, hH, hA, hP⟩ := ha
  have p0 : True := c2 (P := (fun (_ _ : Int) => True)) (r := 0) (r' := 0) (c := 0) (c' := 0) (show True from hP _ (List.mem_of_getElem? (i := 0) rfl)) rfl rfl
  have p1 : True := c2 (P := (fun (_ _ : Int) => True)) (r := 0) (r' := 0) (c := 0) (c' := 0) (show True from hP _ (List.mem_of_getElem? (i := 1) rfl)) rfl rfl
  have p2 : True := c2 (P := (fun (_ _ : Int) => True)) (r := 0) (r' := 0) (c := 0) (c' := 0) (show True from hP _ (List.mem_of_getElem? (i := 2) rfl)) rfl rfl
  have p3 : qDay (256 * ρ 2 + ρ 3) (ρ 4) := c2 (P := qDay) (show qDay (((0) + ((256) * ρ 2 + ((1) * ρ 3 + 0)))) (((0) + ((1) * ρ 4 + 0))) from hP _ (List.mem_of_getElem? (i := 3) rfl)) (by omega) (by omega)
  have p4 : qDay (256 * ρ 2 + ρ 3) (ρ 5) := c2 (P := qDay) (show qDay (((0) + ((256) * ρ 2 + ((1) * ρ 3 + 0)))) (((0) + ((1) * ρ 5 + 0))) from hP _ (List.mem_of_getElem? (i := 4) rfl)) (by omega) (by omega)
  have r := qDay_f p3 p4
  refine ⟨_, List.mem_cons_self, ρ, fun _ _ => rfl, fun q hq => absurd hq List.not_mem_nil, trivial, fun f hf => ?_, fun q hq => absurd hq List.not_mem_nil, fun q hq => absurd hq List.not_mem_nil, fun q hq => absurd hq List.not_mem_nil, fun q hq => ?_⟩
  · simp only [List.mem_cons, List.not_mem_nil, or_false] at hf
    rcases hf with rfl | rfl
    · show (0 : Int) ≤ ((0) + ((-1) * ρ 4 + ((1) * ρ 5 + 0)))
      omega
    · show (0 : Int) ≤ ((0) + ((1) * ρ 4 + ((-1) * ρ 5 + 0)))
      omega
  · exact absurd hq List.not_mem_nil
/-- rpo -/
theorem lem_794_ok (hU : uqG G C) : lem_794.1.2.1 = [] ∧ lemOK (PRd G C D xs) G rgs lem_794 := by
  refine ⟨rfl, fun ρ h ha hT => ?_⟩
  obtain ⟨-, -, hF, hG, hH, hA, hP⟩ := ha
  have f0 : (0 : Int) ≤ ((0) + ((1) * ρ 0 + 0)) := hF _ (List.mem_of_getElem? (i := 0) rfl)
  have f1 : (0 : Int) ≤ ((5) + ((-1) * ρ 0 + 0)) := hF _ (List.mem_of_getElem? (i := 1) rfl)
  have p0 : q404 (vw C h) (1777 * ρ 0 + 1777) (ρ 1) := c2 (P := (fun r c => q404 (vw C h) r c)) (show q404 (vw C h) (((1777) + ((1777) * ρ 0 + 0))) (((0) + ((1) * ρ 1 + 0))) from hP _ (List.mem_of_getElem? (i := 0) rfl)) (by omega) (by omega)
  obtain ⟨r1, r2⟩ := r_rpo (u := ρ 0) (by omega) (by omega) p0
  obtain ⟨σ, sg1, sg2a, sg2b⟩ : ∃ σ : Va, (∀ i, i < 2 → σ i = ρ i) ∧ σ 2 = (((ρ 1).toNat % RB : Nat) : Int) ∧ σ 3 = (((ρ 1).toNat / RB : Nat) : Int) := ⟨fun i => if i = 2 then (((ρ 1).toNat % RB : Nat) : Int) else if i = 3 then (((ρ 1).toNat / RB : Nat) : Int) else ρ i, fun i hi => by dsimp only; rw [if_neg (by omega), if_neg (by omega)], by dsimp only; rw [if_pos rfl], by dsimp only; rw [if_neg (by decide), if_pos rfl]⟩
  have s0 := sg1 0 (by omega)
  have s1 := sg1 1 (by omega)
  refine ⟨_, List.mem_cons_self, σ, sg1, fun q hq => absurd hq List.not_mem_nil, trivial, fun f hf => ?_, fun q hq => absurd hq List.not_mem_nil, fun q hq => absurd hq List.not_mem_nil, fun q hq => absurd hq List.not_mem_nil, fun q hq => ?_⟩
  · exact absurd hf List.not_mem_nil
  · simp only [List.mem_cons, List.not_mem_nil, or_false] at hq
    rcases hq with rfl | rfl | rfl | rfl
    · show qBlk (vw C h) 121 6 (((0) + ((1777) * σ 0 + 0))) (((0) + ((1) * σ 2 + 0)))
      refine c2 (P := (fun r c => qBlk (vw C h) 121 6 r c)) (r := 1777 * ρ 0) (c := (((ρ 1).toNat % RB : Nat) : Int)) ?_ (by omega) (by omega)
      show qBlk (vw C h) 121 6 (1777 * ρ 0) ((((ρ 1).toNat % RB : Nat) : Int))
      exact (c2 (P := (fun r c => qBlk (vw C h) 121 6 r c)) (r1) (by omega) (by omega))
    · show q404 (vw C h) (((0) + ((1777) * σ 0 + 0))) (((0) + ((1) * σ 3 + 0)))
      refine c2 (P := (fun r c => q404 (vw C h) r c)) (r := 1777 * ρ 0) (c := (((ρ 1).toNat / RB : Nat) : Int)) ?_ (by omega) (by omega)
      show q404 (vw C h) (1777 * ρ 0) ((((ρ 1).toNat / RB : Nat) : Int))
      exact (c2 (P := (fun r c => q404 (vw C h) r c)) (r2) (by omega) (by omega))
    · show qTop (((0) + ((1) * σ 1 + 0))) (((0) + ((1) * σ 2 + 0)))
      refine c2 (P := qTop) (r := ρ 1) (c := (((ρ 1).toNat % RB : Nat) : Int)) ?_ (by omega) (by omega)
      show qTop (ρ 1) ((((ρ 1).toNat % RB : Nat) : Int))
      exact rfl
    · show qTail (((0) + ((1) * σ 1 + 0))) (((0) + ((1) * σ 3 + 0)))
      refine c2 (P := qTail) (r := ρ 1) (c := (((ρ 1).toNat / RB : Nat) : Int)) ?_ (by omega) (by omega)
      show qTail (ρ 1) ((((ρ 1).toNat / RB : Nat) : Int))
      exact rfl
/-- rsh0 -/
theorem lem_795_ok (hU : uqG G C) : lem_795.1.2.1 = [] ∧ lemOK (PRd G C D xs) G rgs lem_795 := by
  refine ⟨rfl, fun ρ h ha hT => ?_⟩
  obtain ⟨-, -, hF, hG, hH, hA, hP⟩ := ha
  have p0 : q404 (vw C h) ((10662 : Int)) (ρ 0) := c2 (P := (fun r c => q404 (vw C h) r c)) (show q404 (vw C h) (((10662) + 0)) (((0) + ((1) * ρ 0 + 0))) from hP _ (List.mem_of_getElem? (i := 0) rfl)) (by omega) (by omega)
  refine ⟨_, List.mem_cons_self, ρ, fun _ _ => rfl, fun q hq => absurd hq List.not_mem_nil, trivial, fun f hf => ?_, fun q hq => absurd hq List.not_mem_nil, fun q hq => absurd hq List.not_mem_nil, fun q hq => absurd hq List.not_mem_nil, fun q hq => ?_⟩
  · exact absurd hf List.not_mem_nil
  · simp only [List.mem_cons, List.not_mem_nil, or_false] at hq
    subst hq
    show q405 (vw C h) (((1777) + 0)) (((0) + ((1) * ρ 0 + 0)))
    refine c2 (P := (fun r c => q405 (vw C h) r c)) (r := (1777 : Int)) (c := ρ 0) ?_ (by omega) (by omega)
    show q405 (vw C h) ((1777 : Int)) (ρ 0)
    exact r_rsh0 p0
/-- rshS -/
theorem lem_796_ok (hU : uqG G C) : lem_796.1.2.1 = [] ∧ lemOK (PRd G C D xs) G rgs lem_796 := by
  refine ⟨rfl, fun ρ h ha hT => ?_⟩
  obtain ⟨-, -, hF, hG, hH, hA, hP⟩ := ha
  have f0 : (0 : Int) ≤ ((0) + ((-1) * ρ 3 + ((1) * ρ 4 + 0))) := hF _ (List.mem_of_getElem? (i := 0) rfl)
  have f1 : (0 : Int) ≤ ((0) + ((1) * ρ 3 + ((-1) * ρ 4 + 0))) := hF _ (List.mem_of_getElem? (i := 1) rfl)
  have f2 : (0 : Int) ≤ ((-1777) + ((1) * ρ 1 + 0)) := hF _ (List.mem_of_getElem? (i := 2) rfl)
  have f3 : (0 : Int) ≤ ((10661) + ((-1) * ρ 1 + 0)) := hF _ (List.mem_of_getElem? (i := 3) rfl)
  have g0 : G (ρ 0).toNat = 22 := by
    have q := (hG _ (List.mem_of_getElem? (i := 0) rfl)).2
    rwa [show ev ρ (0, [(0, 1)]) = ρ 0 from ev_v] at q
  have g1 : G (ρ 2).toNat = 121 := by
    have q := (hG _ (List.mem_of_getElem? (i := 1) rfl)).2
    rwa [show ev ρ (0, [(2, 1)]) = ρ 2 from ev_v] at q
  have b0 : (0 : Int) ≤ ((-1777) + ((1) * ρ 1 + 0)) := b_aA (hA _ (List.mem_of_getElem? (i := 0) rfl))
  have b1 : (0 : Int) ≤ ((0) + ((1) * ρ 1 + 0)) := b_aA (hA _ (List.mem_of_getElem? (i := 1) rfl))
  have a0 : vw C h 121 ((ρ 1 + (-1777)).toNat) = ρ 3 := vw_aA hU (hA _ (List.mem_of_getElem? (i := 0) rfl)) ev_v g1 (by omega) (by omega) (i := (ρ 1 + (-1777)).toNat) (show ((((ρ 1 + (-1777)).toNat : Nat)) : Int) = ((-1777) + ((1) * ρ 1 + 0)) by omega) ev_v
  have a1 : vw C h 121 ((ρ 1).toNat) = ρ 4 := vw_aA hU (hA _ (List.mem_of_getElem? (i := 1) rfl)) ev_v g1 (by omega) (by omega) (i := (ρ 1).toNat) (show ((((ρ 1).toNat : Nat)) : Int) = ((0) + ((1) * ρ 1 + 0)) by omega) ev_v
  have p0 : q405 (vw C h) (ρ 1) (ρ 5) := c2 (P := (fun r c => q405 (vw C h) r c)) (show q405 (vw C h) (((0) + ((1) * ρ 1 + 0))) (((0) + ((1) * ρ 5 + 0))) from hP _ (List.mem_of_getElem? (i := 0) rfl)) (by omega) (by omega)
  refine ⟨_, List.mem_cons_self, ρ, fun _ _ => rfl, fun q hq => absurd hq List.not_mem_nil, trivial, fun f hf => ?_, fun q hq => absurd hq List.not_mem_nil, fun q hq => absurd hq List.not_mem_nil, fun q hq => absurd hq List.not_mem_nil, fun q hq => ?_⟩
  · exact absurd hf List.not_mem_nil
  · simp only [List.mem_cons, List.not_mem_nil, or_false] at hq
    subst hq
    show q405 (vw C h) (((1) + ((1) * ρ 1 + 0))) (((0) + ((1) * ρ 5 + 0)))
    refine c2 (P := (fun r c => q405 (vw C h) r c)) (r := ρ 1 + 1) (c := ρ 5) ?_ (by omega) (by omega)
    show q405 (vw C h) (ρ 1 + 1) (ρ 5)
    exact (c2 (P := (fun r c => q405 (vw C h) r c)) (r_rshS (k := ρ 1) (by omega) (by omega) (by omega) (Eq.trans (congrArg (vw C h 121) (show (ρ 1 - 1777).toNat = (ρ 1 + (-1777)).toNat by omega)) a0) a1 p0) (by omega) (by omega))
/-- rshZ -/
theorem lem_797_ok (hU : uqG G C) : lem_797.1.2.1 = [] ∧ lemOK (PRd G C D xs) G rgs lem_797 := by
  refine ⟨rfl, fun ρ h ha hT => ?_⟩
  obtain ⟨-, -, hF, hG, hH, hA, hP⟩ := ha
  have p0 : q405 (vw C h) ((10662 : Int)) (ρ 0) := c2 (P := (fun r c => q405 (vw C h) r c)) (show q405 (vw C h) (((10662) + 0)) (((0) + ((1) * ρ 0 + 0))) from hP _ (List.mem_of_getElem? (i := 0) rfl)) (by omega) (by omega)
  obtain ⟨σ, r1, r2a⟩ : ∃ σ : Va, (∀ i, i < 1 → σ i = ρ i) ∧ σ 1 = (((ρ 0).toNat % RB ^ 5 : Nat) : Int) := ⟨fun i => if i = 1 then (((ρ 0).toNat % RB ^ 5 : Nat) : Int) else ρ i, fun i hi => by dsimp only; rw [if_neg (by omega)], by dsimp only; rw [if_pos rfl]⟩
  have s0 := r1 0 (by omega)
  refine ⟨_, List.mem_cons_self, σ, r1, fun q hq => absurd hq List.not_mem_nil, trivial, fun f hf => ?_, fun q hq => absurd hq List.not_mem_nil, fun q hq => absurd hq List.not_mem_nil, fun q hq => absurd hq List.not_mem_nil, fun q hq => ?_⟩
  · exact absurd hf List.not_mem_nil
  · simp only [List.mem_cons, List.not_mem_nil, or_false] at hq
    rcases hq with rfl | rfl
    · show q404 (vw C h) (((8885) + 0)) (((0) + ((1) * σ 1 + 0)))
      refine c2 (P := (fun r c => q404 (vw C h) r c)) (r := (8885 : Int)) (c := (((ρ 0).toNat % RB ^ 5 : Nat) : Int)) ?_ (by omega) (by omega)
      show q404 (vw C h) ((8885 : Int)) ((((ρ 0).toNat % RB ^ 5 : Nat) : Int))
      exact (c2 (P := (fun r c => q404 (vw C h) r c)) (r_rshZ p0) (by omega) (by omega))
    · show qDrop (((0) + ((1) * σ 0 + 0))) (((0) + ((1) * σ 1 + 0)))
      refine c2 (P := qDrop) (r := ρ 0) (c := (((ρ 0).toNat % RB ^ 5 : Nat) : Int)) ?_ (by omega) (by omega)
      show qDrop (ρ 0) ((((ρ 0).toNat % RB ^ 5 : Nat) : Int))
      exact rfl
/-- rsv -/
theorem lem_798_ok (hU : uqG G C) : lem_798.1.2.1 = [] ∧ lemOK (PRd G C D xs) G rgs lem_798 := by
  refine ⟨rfl, fun ρ h ha hT => ?_⟩
  obtain ⟨-, -, hF, hG, hH, hA, hP⟩ := ha
  have f0 : (0 : Int) ≤ ((0) + ((1) * ρ 1 + 0)) := hF _ (List.mem_of_getElem? (i := 0) rfl)
  have f1 : (0 : Int) ≤ ((1) + ((-1) * ρ 1 + 0)) := hF _ (List.mem_of_getElem? (i := 1) rfl)
  have g0 : G (ρ 0).toNat = 22 := by
    have q := (hG _ (List.mem_of_getElem? (i := 0) rfl)).2
    rwa [show ev ρ (0, [(0, 1)]) = ρ 0 from ev_v] at q
  have g1 : G (ρ 2).toNat = 135 := by
    have q := (hG _ (List.mem_of_getElem? (i := 1) rfl)).2
    rwa [show ev ρ (0, [(2, 1)]) = ρ 2 from ev_v] at q
  have b0 : (0 : Int) ≤ ((0) + ((1) * ρ 1 + 0)) := b_aA (hA _ (List.mem_of_getElem? (i := 0) rfl))
  have a0 : vw C h 135 ((ρ 1).toNat) = ρ 3 := vw_aA hU (hA _ (List.mem_of_getElem? (i := 0) rfl)) ev_v g1 (by omega) (by omega) (i := (ρ 1).toNat) (show ((((ρ 1).toNat : Nat)) : Int) = ((0) + ((1) * ρ 1 + 0)) by omega) ev_v
  have p0 : qBlk (vw C h) 122 2 (1777 * ρ 1) (ρ 4) := c2 (P := (fun r c => qBlk (vw C h) 122 2 r c)) (show qBlk (vw C h) 122 2 (((0) + ((1777) * ρ 1 + 0))) (((0) + ((1) * ρ 4 + 0))) from hP _ (List.mem_of_getElem? (i := 0) rfl)) (by omega) (by omega)
  refine ⟨_, List.mem_cons_self, ρ, fun _ _ => rfl, fun q hq => absurd hq List.not_mem_nil, trivial, fun f hf => ?_, fun q hq => absurd hq List.not_mem_nil, fun q hq => absurd hq List.not_mem_nil, fun q hq => absurd hq List.not_mem_nil, fun q hq => ?_⟩
  · exact absurd hf List.not_mem_nil
  · simp only [List.mem_cons, List.not_mem_nil, or_false] at hq
    subst hq
    show q408 (vw C h) (((0) + ((1) * ρ 1 + 0))) (((0) + ((1) * ρ 4 + 0)))
    refine c2 (P := (fun r c => q408 (vw C h) r c)) (r := ρ 1) (c := ρ 4) ?_ (by omega) (by omega)
    show q408 (vw C h) (ρ 1) (ρ 4)
    exact r_rsv (by omega) (by omega) p0
/-- rrs -/
theorem lem_799_ok (hU : uqG G C) : lem_799.1.2.1 = [] ∧ lemOK (PRd G C D xs) G rgs lem_799 := by
  refine ⟨rfl, fun ρ h ha hT => ?_⟩
  obtain ⟨-, -, hF, hG, hH, hA, hP⟩ := ha
  have f0 : (0 : Int) ≤ ((0) + ((1) * ρ 1 + 0)) := hF _ (List.mem_of_getElem? (i := 0) rfl)
  have f1 : (0 : Int) ≤ ((1) + ((-1) * ρ 1 + 0)) := hF _ (List.mem_of_getElem? (i := 1) rfl)
  have f2 : (0 : Int) ≤ ((-1) + ((1) * ρ 3 + 0)) := hF _ (List.mem_of_getElem? (i := 2) rfl)
  have g0 : G (ρ 0).toNat = 22 := by
    have q := (hG _ (List.mem_of_getElem? (i := 0) rfl)).2
    rwa [show ev ρ (0, [(0, 1)]) = ρ 0 from ev_v] at q
  have g1 : G (ρ 2).toNat = 135 := by
    have q := (hG _ (List.mem_of_getElem? (i := 1) rfl)).2
    rwa [show ev ρ (0, [(2, 1)]) = ρ 2 from ev_v] at q
  have b0 : (0 : Int) ≤ ((0) + ((1) * ρ 1 + 0)) := b_aA (hA _ (List.mem_of_getElem? (i := 0) rfl))
  have a0 : vw C h 135 ((ρ 1).toNat) = ρ 3 := vw_aA hU (hA _ (List.mem_of_getElem? (i := 0) rfl)) ev_v g1 (by omega) (by omega) (i := (ρ 1).toNat) (show ((((ρ 1).toNat : Nat)) : Int) = ((0) + ((1) * ρ 1 + 0)) by omega) ev_v
  have p0 : q408 (vw C h) (ρ 1) (ρ 4) := c2 (P := (fun r c => q408 (vw C h) r c)) (show q408 (vw C h) (((0) + ((1) * ρ 1 + 0))) (((0) + ((1) * ρ 4 + 0))) from hP _ (List.mem_of_getElem? (i := 0) rfl)) (by omega) (by omega)
  refine ⟨_, List.mem_cons_self, ρ, fun _ _ => rfl, fun q hq => absurd hq List.not_mem_nil, trivial, fun f hf => ?_, fun q hq => absurd hq List.not_mem_nil, fun q hq => absurd hq List.not_mem_nil, fun q hq => absurd hq List.not_mem_nil, fun q hq => ?_⟩
  · exact absurd hf List.not_mem_nil
  · simp only [List.mem_cons, List.not_mem_nil, or_false] at hq
    subst hq
    show qBlk (vw C h) 122 2 (((0) + ((1777) * ρ 1 + 0))) (((0) + ((1) * ρ 4 + 0)))
    refine c2 (P := (fun r c => qBlk (vw C h) 122 2 r c)) (r := 1777 * ρ 1) (c := ρ 4) ?_ (by omega) (by omega)
    show qBlk (vw C h) 122 2 (1777 * ρ 1) (ρ 4)
    exact r_rrs (by omega) a0 p0
/-- rr0 -/
theorem lem_800_ok (hU : uqG G C) : lem_800.1.2.1 = [] ∧ lemOK (PRd G C D xs) G rgs lem_800 := by
  refine ⟨rfl, fun ρ h ha hT => ?_⟩
  obtain ⟨-, -, hF, hG, hH, hA, hP⟩ := ha
  refine ⟨_, List.mem_cons_self, ρ, fun _ _ => rfl, fun q hq => absurd hq List.not_mem_nil, trivial, fun f hf => ?_, fun q hq => absurd hq List.not_mem_nil, fun q hq => absurd hq List.not_mem_nil, fun q hq => absurd hq List.not_mem_nil, fun q hq => ?_⟩
  · exact absurd hf List.not_mem_nil
  · simp only [List.mem_cons, List.not_mem_nil, or_false] at hq
    subst hq
    show q404 (vw C h) (((0) + 0)) (((0) + 0))
    refine c2 (P := (fun r c => q404 (vw C h) r c)) (r := (0 : Int)) (c := (0 : Int)) ?_ (by omega) (by omega)
    show q404 (vw C h) ((0 : Int)) ((0 : Int))
    exact r_404_0
/-- any370 -/
theorem lem_801_ok (hU : uqG G C) : lem_801.1.2.1 = [] ∧ lemOK (PRd G C D xs) G rgs lem_801 := by
  refine ⟨rfl, fun ρ h ha hT => ?_⟩
  obtain ⟨-, -, hF, hG, hH, hA, hP⟩ := ha
  have g0 : G (ρ 0).toNat = 22 := by
    have q := (hG _ (List.mem_of_getElem? (i := 0) rfl)).2
    rwa [show ev ρ (0, [(0, 1)]) = ρ 0 from ev_v] at q
  have p0 : q396 (vw C h) (ρ 2) := c2 (P := (fun (_ : Int) c => q396 (vw C h) c)) (r := 0) (r' := 0) (show q396 (vw C h) (((0) + ((1) * ρ 2 + 0))) from hP _ (List.mem_of_getElem? (i := 0) rfl)) rfl (by omega)
  obtain ⟨σ, r1, r2a⟩ : ∃ σ : Va, (∀ i, i < 3 → σ i = ρ i) ∧ σ 3 = ((cp ((ρ 1 + 128 * ρ 2 + 12) / 128).toNat ((ρ 1 + 128 * ρ 2 + 12) % 128).toNat : Nat) : Int) := ⟨fun i => if i = 3 then ((cp ((ρ 1 + 128 * ρ 2 + 12) / 128).toNat ((ρ 1 + 128 * ρ 2 + 12) % 128).toNat : Nat) : Int) else ρ i, fun i hi => by dsimp only; rw [if_neg (by omega)], by dsimp only; rw [if_pos rfl]⟩
  have s0 := r1 0 (by omega)
  have s1 := r1 1 (by omega)
  have s2 := r1 2 (by omega)
  refine ⟨_, List.mem_cons_self, σ, r1, fun q hq => absurd hq List.not_mem_nil, trivial, fun f hf => ?_, fun q hq => absurd hq List.not_mem_nil, fun q hq => absurd hq List.not_mem_nil, fun q hq => absurd hq List.not_mem_nil, fun q hq => ?_⟩
  · exact absurd hf List.not_mem_nil
  · simp only [List.mem_cons, List.not_mem_nil, or_false] at hq
    subst hq
    show qCp (((12) + ((1) * σ 1 + ((128) * σ 2 + 0)))) (((0) + ((1) * σ 3 + 0)))
    refine c2 (P := qCp) (r := ρ 1 + 128 * ρ 2 + 12) (c := ((cp ((ρ 1 + 128 * ρ 2 + 12) / 128).toNat ((ρ 1 + 128 * ρ 2 + 12) % 128).toNat : Nat) : Int)) ?_ (by omega) (by omega)
    show qCp (ρ 1 + 128 * ρ 2 + 12) (((cp ((ρ 1 + 128 * ρ 2 + 12) / 128).toNat ((ρ 1 + 128 * ρ 2 + 12) % 128).toNat : Nat) : Int))
    exact rfl
/-- scJ -/
theorem lem_802_ok (hU : uqG G C) : lem_802.1.2.1 = [] ∧ lemOK (PRd G C D xs) G rgs lem_802 := by
  refine ⟨rfl, fun ρ h ha hT => ?_⟩
  obtain ⟨-, -, hF, hG, hH, hA, hP⟩ := ha
  have f0 : (0 : Int) ≤ ((0) + ((1) * ρ 1 + 0)) := hF _ (List.mem_of_getElem? (i := 0) rfl)
  have f1 : (0 : Int) ≤ ((7) + ((-1) * ρ 1 + 0)) := hF _ (List.mem_of_getElem? (i := 1) rfl)
  have f2 : (0 : Int) ≤ ((-1) + ((-1) * ρ 1 + ((1) * ρ 3 + 0))) := hF _ (List.mem_of_getElem? (i := 2) rfl)
  have g0 : G (ρ 0).toNat = 22 := by
    have q := (hG _ (List.mem_of_getElem? (i := 0) rfl)).2
    rwa [show ev ρ (0, [(0, 1)]) = ρ 0 from ev_v] at q
  have g1 : G (ρ 2).toNat = 123 := by
    have q := (hG _ (List.mem_of_getElem? (i := 1) rfl)).2
    rwa [show ev ρ (0, [(2, 1)]) = ρ 2 from ev_v] at q
  have b0 : (0 : Int) ≤ ((7) + 0) := b_aA (hA _ (List.mem_of_getElem? (i := 0) rfl))
  have b1 : (0 : Int) ≤ ((24) + ((1) * ρ 1 + 0)) := b_aA (hA _ (List.mem_of_getElem? (i := 1) rfl))
  have a0 : vw C h 123 (7) = ρ 3 := vw_aA hU (hA _ (List.mem_of_getElem? (i := 0) rfl)) ev_v g1 (by omega) (by omega) (i := 7) (show (((7 : Nat)) : Int) = ((7) + 0) by omega) ev_v
  have a1 : vw C h 123 (24 + (ρ 1).toNat) = ρ 4 := vw_aA hU (hA _ (List.mem_of_getElem? (i := 1) rfl)) ev_v g1 (by omega) (by omega) (i := 24 + (ρ 1).toNat) (show (((24 + (ρ 1).toNat : Nat)) : Int) = ((24) + ((1) * ρ 1 + 0)) by omega) ev_v
  have p0 : q396 (vw C h) (ρ 5) := c2 (P := (fun (_ : Int) c => q396 (vw C h) c)) (r := 0) (r' := 0) (show q396 (vw C h) (((0) + ((1) * ρ 5 + 0))) from hP _ (List.mem_of_getElem? (i := 0) rfl)) rfl (by omega)
  have p1 : qCp (ρ 1 + 128 * ρ 5 + 12) (ρ 6) := c2 (P := qCp) (show qCp (((12) + ((1) * ρ 1 + ((128) * ρ 5 + 0)))) (((0) + ((1) * ρ 6 + 0))) from hP _ (List.mem_of_getElem? (i := 1) rfl)) (by omega) (by omega)
  have r := r_plan (k := 12 + (ρ 1).toNat) (q := 24 + (ρ 1).toNat) (by omega) (isP12 (by omega)) (pi12 (by omega)) p0 a1
  have r2 := (kCp (V := ρ 5) (k := 12 + (ρ 1).toNat) (by omega) (by omega) p1)
  refine ⟨_, List.mem_cons_self, ρ, fun _ _ => rfl, fun q hq => absurd hq List.not_mem_nil, trivial, fun f hf => ?_, fun q hq => absurd hq List.not_mem_nil, fun q hq => absurd hq List.not_mem_nil, fun q hq => absurd hq List.not_mem_nil, fun q hq => ?_⟩
  · simp only [List.mem_cons, List.not_mem_nil, or_false] at hf
    rcases hf with rfl | rfl
    · show (0 : Int) ≤ ((0) + ((-1) * ρ 4 + ((1) * ρ 6 + 0)))
      omega
    · show (0 : Int) ≤ ((0) + ((1) * ρ 4 + ((-1) * ρ 6 + 0)))
      omega
  · exact absurd hq List.not_mem_nil
/-- spMh -/
theorem lem_803_ok (hU : uqG G C) : lem_803.1.2.1 = [] ∧ lemOK (PRd G C D xs) G rgs lem_803 := by
  refine ⟨rfl, fun ρ h ha hT => ?_⟩
  obtain ⟨-, -, hF, hG, hH, hA, hP⟩ := ha
  have f0 : (0 : Int) ≤ ((-1) + ((1) * ρ 2 + 0)) := hF _ (List.mem_of_getElem? (i := 0) rfl)
  have f1 : (0 : Int) ≤ ((0) + ((1) * ρ 4 + 0)) := hF _ (List.mem_of_getElem? (i := 1) rfl)
  have g0 : G (ρ 1).toNat = 22 := by
    have q := (hG _ (List.mem_of_getElem? (i := 0) rfl)).2
    rwa [show ev ρ (0, [(1, 1)]) = ρ 1 from ev_v] at q
  have g1 : G (ρ 3).toNat = 123 := by
    have q := (hG _ (List.mem_of_getElem? (i := 1) rfl)).2
    rwa [show ev ρ (0, [(3, 1)]) = ρ 3 from ev_v] at q
  have h0 : (0 : Int) ≤ ρ 2 ∧ ρ 2 ≤ 1 := hf_rg hT (hH _ (List.mem_of_getElem? (i := 0) rfl)) ev_v g0 rfl rfl rfl ev_v
  have b0 : (0 : Int) ≤ ((7) + 0) := b_aA (hA _ (List.mem_of_getElem? (i := 0) rfl))
  have a0 : vw C h 123 (7) = ρ 4 := vw_aA hU (hA _ (List.mem_of_getElem? (i := 0) rfl)) ev_v g1 (by omega) (by omega) (i := 7) (show (((7 : Nat)) : Int) = ((7) + 0) by omega) ev_v
  rcases (by omega : ((0 : Int) ≤ (-1) * ρ 0 + (-1)) ∨ ((0 : Int) ≤ ρ 0 + (-1) * ρ 4) ∨ ((0 : Int) ≤ ρ 0 ∧ (0 : Int) ≤ (-1) * ρ 0 + ρ 4 + (-1))) with hc | hc | hc
  · refine ⟨_, List.mem_cons_self, ρ, fun _ _ => rfl, fun q hq => absurd hq List.not_mem_nil, trivial, fun f hf => ?_, fun q hq => absurd hq List.not_mem_nil, fun q hq => absurd hq List.not_mem_nil, fun q hq => absurd hq List.not_mem_nil, fun q hq => ?_⟩
    · simp only [List.mem_cons, List.not_mem_nil, or_false] at hf
      subst hf
      show (0 : Int) ≤ ((-1) + ((-1) * ρ 0 + 0))
      omega
    · exact absurd hq List.not_mem_nil
  · refine ⟨_, (List.mem_cons_of_mem _ List.mem_cons_self), ρ, fun _ _ => rfl, fun q hq => absurd hq List.not_mem_nil, trivial, fun f hf => ?_, fun q hq => absurd hq List.not_mem_nil, fun q hq => absurd hq List.not_mem_nil, fun q hq => absurd hq List.not_mem_nil, fun q hq => ?_⟩
    · simp only [List.mem_cons, List.not_mem_nil, or_false] at hf
      subst hf
      show (0 : Int) ≤ ((0) + ((1) * ρ 0 + ((-1) * ρ 4 + 0)))
      omega
    · exact absurd hq List.not_mem_nil
  · refine ⟨_, (List.mem_cons_of_mem _ (List.mem_cons_of_mem _ List.mem_cons_self)), ρ, fun _ _ => rfl, fun q hq => absurd hq List.not_mem_nil, trivial, fun f hf => ?_, fun q hq => absurd hq List.not_mem_nil, fun q hq => absurd hq List.not_mem_nil, fun q hq => absurd hq List.not_mem_nil, fun q hq => ?_⟩
    · simp only [List.mem_cons, List.not_mem_nil, or_false] at hf
      rcases hf with rfl | rfl
      · show (0 : Int) ≤ ((0) + ((1) * ρ 0 + 0))
        omega
      · show (0 : Int) ≤ ((-1) + ((-1) * ρ 0 + ((1) * ρ 4 + 0)))
        omega
    · exact absurd hq List.not_mem_nil
/-- spS -/
theorem lem_804_ok (hU : uqG G C) : lem_804.1.2.1 = [] ∧ lemOK (PRd G C D xs) G rgs lem_804 := by
  refine ⟨rfl, fun ρ h ha hT => ?_⟩
  obtain ⟨-, -, hF, hG, hH, hA, hP⟩ := ha
  have f0 : (0 : Int) ≤ ((-1) + ((1) * ρ 3 + 0)) := hF _ (List.mem_of_getElem? (i := 0) rfl)
  have f1 : (0 : Int) ≤ ((0) + ((1) * ρ 1 + 0)) := hF _ (List.mem_of_getElem? (i := 1) rfl)
  have f2 : (0 : Int) ≤ ((-1) + ((-1) * ρ 1 + ((1) * ρ 5 + 0))) := hF _ (List.mem_of_getElem? (i := 2) rfl)
  have f3 : (0 : Int) ≤ ((0) + ((1) * ρ 7 + 0)) := hF _ (List.mem_of_getElem? (i := 3) rfl)
  have g0 : G (ρ 2).toNat = 22 := by
    have q := (hG _ (List.mem_of_getElem? (i := 0) rfl)).2
    rwa [show ev ρ (0, [(2, 1)]) = ρ 2 from ev_v] at q
  have g1 : G (ρ 4).toNat = 123 := by
    have q := (hG _ (List.mem_of_getElem? (i := 1) rfl)).2
    rwa [show ev ρ (0, [(4, 1)]) = ρ 4 from ev_v] at q
  have h0 : (0 : Int) ≤ ρ 3 ∧ ρ 3 ≤ 1 := hf_rg hT (hH _ (List.mem_of_getElem? (i := 0) rfl)) ev_v g0 rfl rfl rfl ev_v
  have b0 : (0 : Int) ≤ ((7) + 0) := b_aA (hA _ (List.mem_of_getElem? (i := 0) rfl))
  have a0 : vw C h 123 (7) = ρ 5 := vw_aA hU (hA _ (List.mem_of_getElem? (i := 0) rfl)) ev_v g1 (by omega) (by omega) (i := 7) (show (((7 : Nat)) : Int) = ((7) + 0) by omega) ev_v
  have p0 : q396 (vw C h) (ρ 6) := c2 (P := (fun (_ : Int) c => q396 (vw C h) c)) (r := 0) (r' := 0) (show q396 (vw C h) (((0) + ((1) * ρ 6 + 0))) from hP _ (List.mem_of_getElem? (i := 0) rfl)) rfl (by omega)
  have p1 : qCp (ρ 1 + 128 * ρ 6 + 12) (ρ 7) := c2 (P := qCp) (show qCp (((12) + ((1) * ρ 1 + ((128) * ρ 6 + 0)))) (((0) + ((1) * ρ 7 + 0))) from hP _ (List.mem_of_getElem? (i := 1) rfl)) (by omega) (by omega)
  rcases (by omega : ((0 : Int) ≤ (-1) * ρ 0 + (-1)) ∨ ((0 : Int) ≤ ρ 0 + (-1) * ρ 7) ∨ ((0 : Int) ≤ ρ 0 ∧ (0 : Int) ≤ (-1) * ρ 0 + ρ 7 + (-1))) with hc | hc | hc
  · refine ⟨_, List.mem_cons_self, ρ, fun _ _ => rfl, fun q hq => absurd hq List.not_mem_nil, trivial, fun f hf => ?_, fun q hq => absurd hq List.not_mem_nil, fun q hq => absurd hq List.not_mem_nil, fun q hq => absurd hq List.not_mem_nil, fun q hq => ?_⟩
    · simp only [List.mem_cons, List.not_mem_nil, or_false] at hf
      subst hf
      show (0 : Int) ≤ ((-1) + ((-1) * ρ 0 + 0))
      omega
    · exact absurd hq List.not_mem_nil
  · refine ⟨_, (List.mem_cons_of_mem _ List.mem_cons_self), ρ, fun _ _ => rfl, fun q hq => absurd hq List.not_mem_nil, trivial, fun f hf => ?_, fun q hq => absurd hq List.not_mem_nil, fun q hq => absurd hq List.not_mem_nil, fun q hq => absurd hq List.not_mem_nil, fun q hq => ?_⟩
    · simp only [List.mem_cons, List.not_mem_nil, or_false] at hf
      subst hf
      show (0 : Int) ≤ ((0) + ((1) * ρ 0 + ((-1) * ρ 7 + 0)))
      omega
    · exact absurd hq List.not_mem_nil
  · refine ⟨_, (List.mem_cons_of_mem _ (List.mem_cons_of_mem _ List.mem_cons_self)), ρ, fun _ _ => rfl, fun q hq => absurd hq List.not_mem_nil, trivial, fun f hf => ?_, fun q hq => absurd hq List.not_mem_nil, fun q hq => absurd hq List.not_mem_nil, fun q hq => absurd hq List.not_mem_nil, fun q hq => ?_⟩
    · simp only [List.mem_cons, List.not_mem_nil, or_false] at hf
      rcases hf with rfl | rfl
      · show (0 : Int) ≤ ((0) + ((1) * ρ 0 + 0))
        omega
      · show (0 : Int) ≤ ((-1) + ((-1) * ρ 0 + ((1) * ρ 7 + 0)))
        omega
    · exact absurd hq List.not_mem_nil
/-- spP -/
theorem lem_805_ok (hU : uqG G C) : lem_805.1.2.1 = [] ∧ lemOK (PRd G C D xs) G rgs lem_805 := by
  refine ⟨rfl, fun ρ h ha hT => ?_⟩
  obtain ⟨-, -, hF, hG, hH, hA, hP⟩ := ha
  have f0 : (0 : Int) ≤ ((-1) + ((1) * ρ 4 + 0)) := hF _ (List.mem_of_getElem? (i := 0) rfl)
  have f1 : (0 : Int) ≤ ((0) + ((1) * ρ 2 + 0)) := hF _ (List.mem_of_getElem? (i := 1) rfl)
  have f2 : (0 : Int) ≤ ((-1) + ((-1) * ρ 2 + ((1) * ρ 6 + 0))) := hF _ (List.mem_of_getElem? (i := 2) rfl)
  have f3 : (0 : Int) ≤ ((0) + ((1) * ρ 1 + 0)) := hF _ (List.mem_of_getElem? (i := 3) rfl)
  have f4 : (0 : Int) ≤ ((-1) + ((-1) * ρ 1 + ((1) * ρ 9 + 0))) := hF _ (List.mem_of_getElem? (i := 4) rfl)
  have f5 : (0 : Int) ≤ ((0) + ((1) * ρ 7 + 0)) := hF _ (List.mem_of_getElem? (i := 5) rfl)
  have g0 : G (ρ 3).toNat = 22 := by
    have q := (hG _ (List.mem_of_getElem? (i := 0) rfl)).2
    rwa [show ev ρ (0, [(3, 1)]) = ρ 3 from ev_v] at q
  have g1 : G (ρ 5).toNat = 123 := by
    have q := (hG _ (List.mem_of_getElem? (i := 1) rfl)).2
    rwa [show ev ρ (0, [(5, 1)]) = ρ 5 from ev_v] at q
  have h0 : (0 : Int) ≤ ρ 4 ∧ ρ 4 ≤ 1 := hf_rg hT (hH _ (List.mem_of_getElem? (i := 0) rfl)) ev_v g0 rfl rfl rfl ev_v
  have b0 : (0 : Int) ≤ ((7) + 0) := b_aA (hA _ (List.mem_of_getElem? (i := 0) rfl))
  have b1 : (0 : Int) ≤ ((6) + 0) := b_aA (hA _ (List.mem_of_getElem? (i := 1) rfl))
  have a0 : vw C h 123 (7) = ρ 6 := vw_aA hU (hA _ (List.mem_of_getElem? (i := 0) rfl)) ev_v g1 (by omega) (by omega) (i := 7) (show (((7 : Nat)) : Int) = ((7) + 0) by omega) ev_v
  have a1 : vw C h 123 (6) = ρ 7 := vw_aA hU (hA _ (List.mem_of_getElem? (i := 1) rfl)) ev_v g1 (by omega) (by omega) (i := 6) (show (((6 : Nat)) : Int) = ((6) + 0) by omega) ev_v
  have p0 : q396 (vw C h) (ρ 8) := c2 (P := (fun (_ : Int) c => q396 (vw C h) c)) (r := 0) (r' := 0) (show q396 (vw C h) (((0) + ((1) * ρ 8 + 0))) from hP _ (List.mem_of_getElem? (i := 0) rfl)) rfl (by omega)
  have p1 : qCp (ρ 2 + 128 * ρ 8 + 12) (ρ 9) := c2 (P := qCp) (show qCp (((12) + ((1) * ρ 2 + ((128) * ρ 8 + 0)))) (((0) + ((1) * ρ 9 + 0))) from hP _ (List.mem_of_getElem? (i := 1) rfl)) (by omega) (by omega)
  rcases (by omega : ((0 : Int) ≤ (-1) * ρ 0 + (-1)) ∨ ((0 : Int) ≤ ρ 0 + (-1) * ρ 7) ∨ ((0 : Int) ≤ ρ 0 ∧ (0 : Int) ≤ (-1) * ρ 0 + ρ 7 + (-1))) with hc | hc | hc
  · refine ⟨_, List.mem_cons_self, ρ, fun _ _ => rfl, fun q hq => absurd hq List.not_mem_nil, trivial, fun f hf => ?_, fun q hq => absurd hq List.not_mem_nil, fun q hq => absurd hq List.not_mem_nil, fun q hq => absurd hq List.not_mem_nil, fun q hq => ?_⟩
    · simp only [List.mem_cons, List.not_mem_nil, or_false] at hf
      subst hf
      show (0 : Int) ≤ ((-1) + ((-1) * ρ 0 + 0))
      omega
    · exact absurd hq List.not_mem_nil
  · refine ⟨_, (List.mem_cons_of_mem _ List.mem_cons_self), ρ, fun _ _ => rfl, fun q hq => absurd hq List.not_mem_nil, trivial, fun f hf => ?_, fun q hq => absurd hq List.not_mem_nil, fun q hq => absurd hq List.not_mem_nil, fun q hq => absurd hq List.not_mem_nil, fun q hq => ?_⟩
    · simp only [List.mem_cons, List.not_mem_nil, or_false] at hf
      subst hf
      show (0 : Int) ≤ ((0) + ((1) * ρ 0 + ((-1) * ρ 7 + 0)))
      omega
    · exact absurd hq List.not_mem_nil
  · refine ⟨_, (List.mem_cons_of_mem _ (List.mem_cons_of_mem _ List.mem_cons_self)), ρ, fun _ _ => rfl, fun q hq => absurd hq List.not_mem_nil, trivial, fun f hf => ?_, fun q hq => absurd hq List.not_mem_nil, fun q hq => absurd hq List.not_mem_nil, fun q hq => absurd hq List.not_mem_nil, fun q hq => ?_⟩
    · simp only [List.mem_cons, List.not_mem_nil, or_false] at hf
      rcases hf with rfl | rfl
      · show (0 : Int) ≤ ((0) + ((1) * ρ 0 + 0))
        omega
      · show (0 : Int) ≤ ((-1) + ((-1) * ρ 0 + ((1) * ρ 7 + 0)))
        omega
    · exact absurd hq List.not_mem_nil
/-- spR -/
theorem lem_806_ok (hU : uqG G C) : lem_806.1.2.1 = [] ∧ lemOK (PRd G C D xs) G rgs lem_806 := by
  refine ⟨rfl, fun ρ h ha hT => ?_⟩
  obtain ⟨-, -, hF, hG, hH, hA, hP⟩ := ha
  have f0 : (0 : Int) ≤ ((0) + ((1) * ρ 1 + 0)) := hF _ (List.mem_of_getElem? (i := 0) rfl)
  have f1 : (0 : Int) ≤ ((-1) + ((-1) * ρ 1 + ((1) * ρ 5 + 0))) := hF _ (List.mem_of_getElem? (i := 1) rfl)
  have f2 : (0 : Int) ≤ ((0) + ((1) * ρ 2 + 0)) := hF _ (List.mem_of_getElem? (i := 2) rfl)
  have f3 : (0 : Int) ≤ ((4) + ((-1) * ρ 2 + 0)) := hF _ (List.mem_of_getElem? (i := 3) rfl)
  have g0 : G (ρ 3).toNat = 22 := by
    have q := (hG _ (List.mem_of_getElem? (i := 0) rfl)).2
    rwa [show ev ρ (0, [(3, 1)]) = ρ 3 from ev_v] at q
  have g1 : G (ρ 4).toNat = 123 := by
    have q := (hG _ (List.mem_of_getElem? (i := 1) rfl)).2
    rwa [show ev ρ (0, [(4, 1)]) = ρ 4 from ev_v] at q
  have b0 : (0 : Int) ≤ ((6) + 0) := b_aA (hA _ (List.mem_of_getElem? (i := 0) rfl))
  have a0 : vw C h 123 (6) = ρ 5 := vw_aA hU (hA _ (List.mem_of_getElem? (i := 0) rfl)) ev_v g1 (by omega) (by omega) (i := 6) (show (((6 : Nat)) : Int) = ((6) + 0) by omega) ev_v
  rcases (by omega : ((0 : Int) ≤ (-1) * ρ 0 + (-1)) ∨ ((0 : Int) ≤ ρ 0 + (-2001)) ∨ ((0 : Int) ≤ ρ 0 ∧ (0 : Int) ≤ (-1) * ρ 0 + 2000)) with hc | hc | hc
  · refine ⟨_, List.mem_cons_self, ρ, fun _ _ => rfl, fun q hq => absurd hq List.not_mem_nil, trivial, fun f hf => ?_, fun q hq => absurd hq List.not_mem_nil, fun q hq => absurd hq List.not_mem_nil, fun q hq => absurd hq List.not_mem_nil, fun q hq => ?_⟩
    · simp only [List.mem_cons, List.not_mem_nil, or_false] at hf
      subst hf
      show (0 : Int) ≤ ((-1) + ((-1) * ρ 0 + 0))
      omega
    · exact absurd hq List.not_mem_nil
  · refine ⟨_, (List.mem_cons_of_mem _ List.mem_cons_self), ρ, fun _ _ => rfl, fun q hq => absurd hq List.not_mem_nil, trivial, fun f hf => ?_, fun q hq => absurd hq List.not_mem_nil, fun q hq => absurd hq List.not_mem_nil, fun q hq => absurd hq List.not_mem_nil, fun q hq => ?_⟩
    · simp only [List.mem_cons, List.not_mem_nil, or_false] at hf
      subst hf
      show (0 : Int) ≤ ((-2001) + ((1) * ρ 0 + 0))
      omega
    · exact absurd hq List.not_mem_nil
  · refine ⟨_, (List.mem_cons_of_mem _ (List.mem_cons_of_mem _ List.mem_cons_self)), ρ, fun _ _ => rfl, fun q hq => absurd hq List.not_mem_nil, trivial, fun f hf => ?_, fun q hq => absurd hq List.not_mem_nil, fun q hq => absurd hq List.not_mem_nil, fun q hq => absurd hq List.not_mem_nil, fun q hq => ?_⟩
    · simp only [List.mem_cons, List.not_mem_nil, or_false] at hf
      rcases hf with rfl | rfl
      · show (0 : Int) ≤ ((0) + ((1) * ρ 0 + 0))
        omega
      · show (0 : Int) ≤ ((2000) + ((-1) * ρ 0 + 0))
        omega
    · exact absurd hq List.not_mem_nil
/-- mixC -/
theorem lem_807_ok (hU : uqG G C) : lem_807.1.2.1 = [] ∧ lemOK (PRd G C D xs) G rgs lem_807 := by
  refine ⟨rfl, fun ρ h ha hT => ?_⟩
  obtain ⟨-, -, hF, hG, hH, hA, hP⟩ := ha
  have g0 : G (ρ 0).toNat = 21 := by
    have q := (hG _ (List.mem_of_getElem? (i := 0) rfl)).2
    rwa [show ev ρ (0, [(0, 1)]) = ρ 0 from ev_v] at q
  have g1 : G (ρ 2).toNat = 20 := by
    have q := (hG _ (List.mem_of_getElem? (i := 1) rfl)).2
    rwa [show ev ρ (0, [(2, 1)]) = ρ 2 from ev_v] at q
  have g2 : G (ρ 4).toNat = 11 := by
    have q := (hG _ (List.mem_of_getElem? (i := 2) rfl)).2
    rwa [show ev ρ (0, [(4, 1)]) = ρ 4 from ev_v] at q
  have h1 : (0 : Int) ≤ ρ 3 ∧ ρ 3 ≤ 8 := hf_rg hT (hH _ (List.mem_of_getElem? (i := 1) rfl)) ev_v g1 rfl rfl rfl ev_v
  have h3 : (0 : Int) ≤ ρ 5 ∧ ρ 5 ≤ 6 := hf_rg hT (hH _ (List.mem_of_getElem? (i := 3) rfl)) ev_v g2 rfl rfl rfl ev_v
  have p0 : q210 G (ρ 2) (ρ 6) (rfv h) := c2 (P := (fun r c => q210 G r c (rfv h))) (show q210 G (((0) + ((1) * ρ 2 + 0))) (((0) + ((1) * ρ 6 + 0))) (rfv h) from hP _ (List.mem_of_getElem? (i := 0) rfl)) (by omega) (by omega)
  have cT : 0 ≤ ρ 0 := by
    have q := (hG _ (List.mem_of_getElem? (i := 0) rfl)).1
    rwa [show ev ρ (0, [(0, 1)]) = ρ 0 from ev_v] at q
  have cX : 0 ≤ ρ 2 := by
    have q := (hG _ (List.mem_of_getElem? (i := 1) rfl)).1
    rwa [show ev ρ (0, [(2, 1)]) = ρ 2 from ev_v] at q
  have cA : 0 ≤ ρ 4 := by
    have q := (hG _ (List.mem_of_getElem? (i := 2) rfl)).1
    rwa [show ev ρ (0, [(4, 1)]) = ρ 4 from ev_v] at q
  have y0 : rfv h (ρ 0).toNat 8 = some (.ref (ρ 2).toNat) := ob_v hT (hH _ (List.mem_of_getElem? (i := 0) rfl)) ev_v g0 rfl ev_v
  have y1 : hasI (rfv h (ρ 2).toNat 12) (ρ 3) := ob_i hT (hH _ (List.mem_of_getElem? (i := 1) rfl)) ev_v g1 rfl ev_v
  have y2 : rfv h (ρ 0).toNat 5 = some (.ref (ρ 4).toNat) := ob_v hT (hH _ (List.mem_of_getElem? (i := 2) rfl)) ev_v g0 rfl ev_v
  have y3 : hasI (rfv h (ρ 4).toNat 6) (ρ 5) := ob_i hT (hH _ (List.mem_of_getElem? (i := 3) rfl)) ev_v g2 rfl ev_v
  obtain ⟨σ, r1, r2a⟩ : ∃ σ : Va, (∀ i, i < 7 → σ i = ρ i) ∧ σ 7 = ((cp ((ρ 1 + 128 * ρ 6 + 12) / 128).toNat ((ρ 1 + 128 * ρ 6 + 12) % 128).toNat : Nat) : Int) := ⟨fun i => if i = 7 then ((cp ((ρ 1 + 128 * ρ 6 + 12) / 128).toNat ((ρ 1 + 128 * ρ 6 + 12) % 128).toNat : Nat) : Int) else ρ i, fun i hi => by dsimp only; rw [if_neg (by omega)], by dsimp only; rw [if_pos rfl]⟩
  have s0 := r1 0 (by omega)
  have s1 := r1 1 (by omega)
  have s2 := r1 2 (by omega)
  have s3 := r1 3 (by omega)
  have s4 := r1 4 (by omega)
  have s5 := r1 5 (by omega)
  have s6 := r1 6 (by omega)
  refine ⟨_, List.mem_cons_self, σ, r1, fun q hq => absurd hq List.not_mem_nil, trivial, fun f hf => ?_, fun q hq => absurd hq List.not_mem_nil, fun q hq => absurd hq List.not_mem_nil, fun q hq => absurd hq List.not_mem_nil, fun q hq => ?_⟩
  · exact absurd hf List.not_mem_nil
  · simp only [List.mem_cons, List.not_mem_nil, or_false] at hq
    rcases hq with rfl | rfl | rfl
    · show qCp (((3) + ((128) * σ 6 + 0))) (((0) + ((1) * σ 3 + 0)))
      refine c2 (P := qCp) (r := 128 * ρ 6 + 3) (c := ρ 3) ?_ (by omega) (by omega)
      show qCp (128 * ρ 6 + 3) (ρ 3)
      exact oCp (V := ρ 6) (k := 3) (by omega) (by decide) (s_f4 (k := 3) (by decide) rfl (q210.o p0) y1)
    · show qCp (((12) + ((1) * σ 1 + ((128) * σ 6 + 0)))) (((0) + ((1) * σ 7 + 0)))
      refine c2 (P := qCp) (r := ρ 1 + 128 * ρ 6 + 12) (c := ((cp ((ρ 1 + 128 * ρ 6 + 12) / 128).toNat ((ρ 1 + 128 * ρ 6 + 12) % 128).toNat : Nat) : Int)) ?_ (by omega) (by omega)
      show qCp (ρ 1 + 128 * ρ 6 + 12) (((cp ((ρ 1 + 128 * ρ 6 + 12) / 128).toNat ((ρ 1 + 128 * ρ 6 + 12) % 128).toNat : Nat) : Int))
      exact rfl
    · show q201 G (((0) + ((1) * σ 4 + 0))) (((0) + ((1) * σ 5 + 0))) (rfv h)
      refine c2 (P := (fun r c => q201 G r c (rfv h))) (r := ρ 4) (c := ρ 5) ?_ (by omega) (by omega)
      show q201 G (ρ 4) (ρ 5) (rfv h)
      exact ⟨cA, g2, y3⟩
/-- fs -/
theorem lem_808_ok (hU : uqG G C) : lem_808.1.2.1 = [] ∧ lemOK (PRd G C D xs) G rgs lem_808 := by
  refine ⟨rfl, fun ρ h ha hT => ?_⟩
  obtain ⟨-, -, hF, hG, hH, hA, hP⟩ := ha
  have f0 : (0 : Int) ≤ ((0) + ((1) * ρ 1 + 0)) := hF _ (List.mem_of_getElem? (i := 0) rfl)
  have f1 : (0 : Int) ≤ ((1) + ((-1) * ρ 1 + 0)) := hF _ (List.mem_of_getElem? (i := 1) rfl)
  have g0 : G (ρ 0).toNat = 21 := by
    have q := (hG _ (List.mem_of_getElem? (i := 0) rfl)).2
    rwa [show ev ρ (0, [(0, 1)]) = ρ 0 from ev_v] at q
  have g1 : G (ρ 2).toNat = 101 := by
    have q := (hG _ (List.mem_of_getElem? (i := 1) rfl)).2
    rwa [show ev ρ (0, [(2, 1)]) = ρ 2 from ev_v] at q
  have b0 : (0 : Int) ≤ ((0) + ((1) * ρ 1 + 0)) := b_aA (hA _ (List.mem_of_getElem? (i := 0) rfl))
  have p0 : q206 G := c2 (P := (fun (_ _ : Int) => q206 G)) (r := 0) (r' := 0) (c := 0) (c' := 0) (show q206 G from hP _ (List.mem_of_getElem? (i := 0) rfl)) rfl rfl
  have cT : 0 ≤ ρ 0 := by
    have q := (hG _ (List.mem_of_getElem? (i := 0) rfl)).1
    rwa [show ev ρ (0, [(0, 1)]) = ρ 0 from ev_v] at q
  have cB : 0 ≤ ρ 2 := by
    have q := (hG _ (List.mem_of_getElem? (i := 1) rfl)).1
    rwa [show ev ρ (0, [(2, 1)]) = ρ 2 from ev_v] at q
  have y0 : rfv h (ρ 0).toNat 12 = some (.ref (ρ 2).toNat) := ob_v hT (hH _ (List.mem_of_getElem? (i := 0) rfl)) ev_v g0 rfl ev_v
  have z0 : hasI (elv h (ρ 2).toNat (ρ 1).toNat) (ρ 3) := ar_i (j := ρ 1) (hA _ (List.mem_of_getElem? (i := 0) rfl)) ev_v (show (ρ 1 : Int) = ((0) + ((1) * ρ 1 + 0)) by omega) ev_v
  have rB := (show LG G from p0).is g1
  rw [rB] at z0
  refine ⟨_, List.mem_cons_self, ρ, fun _ _ => rfl, fun q hq => absurd hq List.not_mem_nil, trivial, fun f hf => ?_, fun q hq => absurd hq List.not_mem_nil, fun q hq => absurd hq List.not_mem_nil, fun q hq => absurd hq List.not_mem_nil, fun q hq => ?_⟩
  · exact absurd hf List.not_mem_nil
  · simp only [List.mem_cons, List.not_mem_nil, or_false] at hq
    subst hq
    show q258 G (((0) + ((1) * ρ 1 + 0))) (((0) + ((1) * ρ 3 + 0))) (elv h)
    refine c2 (P := (fun r c => q258 G r c (elv h))) (r := ρ 1) (c := ρ 3) ?_ (by omega) (by omega)
    show q258 G (ρ 1) (ρ 3) (elv h)
    exact ⟨(show LG G from p0).e.2.2.1, by omega, by omega, z0⟩
/-- fsg -/
theorem lem_809_ok (hU : uqG G C) : lem_809.1.2.1 = [] ∧ lemOK (PRd G C D xs) G rgs lem_809 := by
  refine ⟨rfl, fun ρ h ha hT => ?_⟩
  obtain ⟨-, -, hF, hG, hH, hA, hP⟩ := ha
  have f0 : (0 : Int) ≤ ((0) + ((1) * ρ 1 + 0)) := hF _ (List.mem_of_getElem? (i := 0) rfl)
  have f1 : (0 : Int) ≤ ((1) + ((-1) * ρ 1 + 0)) := hF _ (List.mem_of_getElem? (i := 1) rfl)
  have g0 : G (ρ 0).toNat = 21 := by
    have q := (hG _ (List.mem_of_getElem? (i := 0) rfl)).2
    rwa [show ev ρ (0, [(0, 1)]) = ρ 0 from ev_v] at q
  have g1 : G (ρ 2).toNat = 101 := by
    have q := (hG _ (List.mem_of_getElem? (i := 1) rfl)).2
    rwa [show ev ρ (0, [(2, 1)]) = ρ 2 from ev_v] at q
  have b0 : (0 : Int) ≤ ((0) + ((1) * ρ 1 + 0)) := b_aA (hA _ (List.mem_of_getElem? (i := 0) rfl))
  have p0 : q206 G := c2 (P := (fun (_ _ : Int) => q206 G)) (r := 0) (r' := 0) (c := 0) (c' := 0) (show q206 G from hP _ (List.mem_of_getElem? (i := 0) rfl)) rfl rfl
  have p1 : q258 G (ρ 1) (ρ 4) (elv h) := c2 (P := (fun r c => q258 G r c (elv h))) (show q258 G (((0) + ((1) * ρ 1 + 0))) (((0) + ((1) * ρ 4 + 0))) (elv h) from hP _ (List.mem_of_getElem? (i := 1) rfl)) (by omega) (by omega)
  have cT : 0 ≤ ρ 0 := by
    have q := (hG _ (List.mem_of_getElem? (i := 0) rfl)).1
    rwa [show ev ρ (0, [(0, 1)]) = ρ 0 from ev_v] at q
  have cB : 0 ≤ ρ 2 := by
    have q := (hG _ (List.mem_of_getElem? (i := 1) rfl)).1
    rwa [show ev ρ (0, [(2, 1)]) = ρ 2 from ev_v] at q
  have y0 : rfv h (ρ 0).toNat 12 = some (.ref (ρ 2).toNat) := ob_v hT (hH _ (List.mem_of_getElem? (i := 0) rfl)) ev_v g0 rfl ev_v
  have z0 : hasI (elv h (ρ 2).toNat (ρ 1).toNat) (ρ 3) := ar_i (j := ρ 1) (hA _ (List.mem_of_getElem? (i := 0) rfl)) ev_v (show (ρ 1 : Int) = ((0) + ((1) * ρ 1 + 0)) by omega) ev_v
  have rB := (show LG G from p0).is g1
  rw [rB] at z0
  have r := hasI_eq z0 p1.2.2.2
  refine ⟨_, List.mem_cons_self, ρ, fun _ _ => rfl, fun q hq => absurd hq List.not_mem_nil, trivial, fun f hf => ?_, fun q hq => absurd hq List.not_mem_nil, fun q hq => absurd hq List.not_mem_nil, fun q hq => absurd hq List.not_mem_nil, fun q hq => ?_⟩
  · simp only [List.mem_cons, List.not_mem_nil, or_false] at hf
    rcases hf with rfl | rfl
    · show (0 : Int) ≤ ((0) + ((-1) * ρ 3 + ((1) * ρ 4 + 0)))
      omega
    · show (0 : Int) ≤ ((0) + ((1) * ρ 3 + ((-1) * ρ 4 + 0)))
      omega
  · exact absurd hq List.not_mem_nil
/-- fm -/
theorem lem_810_ok (hU : uqG G C) : lem_810.1.2.1 = [] ∧ lemOK (PRd G C D xs) G rgs lem_810 := by
  refine ⟨rfl, fun ρ h ha hT => ?_⟩
  obtain ⟨-, -, hF, hG, hH, hA, hP⟩ := ha
  have f0 : (0 : Int) ≤ ((0) + ((1) * ρ 1 + 0)) := hF _ (List.mem_of_getElem? (i := 0) rfl)
  have f1 : (0 : Int) ≤ ((1) + ((-1) * ρ 1 + 0)) := hF _ (List.mem_of_getElem? (i := 1) rfl)
  have g0 : G (ρ 0).toNat = 22 := by
    have q := (hG _ (List.mem_of_getElem? (i := 0) rfl)).2
    rwa [show ev ρ (0, [(0, 1)]) = ρ 0 from ev_v] at q
  have g1 : G (ρ 2).toNat = 135 := by
    have q := (hG _ (List.mem_of_getElem? (i := 1) rfl)).2
    rwa [show ev ρ (0, [(2, 1)]) = ρ 2 from ev_v] at q
  have b0 : (0 : Int) ≤ ((0) + ((1) * ρ 1 + 0)) := b_aA (hA _ (List.mem_of_getElem? (i := 0) rfl))
  have a0 : vw C h 135 ((ρ 1).toNat) = ρ 3 := vw_aA hU (hA _ (List.mem_of_getElem? (i := 0) rfl)) ev_v g1 (by omega) (by omega) (i := (ρ 1).toNat) (show ((((ρ 1).toNat : Nat)) : Int) = ((0) + ((1) * ρ 1 + 0)) by omega) ev_v
  refine ⟨_, List.mem_cons_self, ρ, fun _ _ => rfl, fun q hq => absurd hq List.not_mem_nil, trivial, fun f hf => ?_, fun q hq => absurd hq List.not_mem_nil, fun q hq => absurd hq List.not_mem_nil, fun q hq => absurd hq List.not_mem_nil, fun q hq => ?_⟩
  · exact absurd hf List.not_mem_nil
  · simp only [List.mem_cons, List.not_mem_nil, or_false] at hq
    subst hq
    show q429 (vw C h) (((0) + ((1) * ρ 1 + 0))) (((0) + ((1) * ρ 3 + 0)))
    refine c2 (P := (fun r c => q429 (vw C h) r c)) (r := ρ 1) (c := ρ 3) ?_ (by omega) (by omega)
    show q429 (vw C h) (ρ 1) (ρ 3)
    exact ⟨by omega, by omega, a0⟩
/-- fmg -/
theorem lem_811_ok (hU : uqG G C) : lem_811.1.2.1 = [] ∧ lemOK (PRd G C D xs) G rgs lem_811 := by
  refine ⟨rfl, fun ρ h ha hT => ?_⟩
  obtain ⟨-, -, hF, hG, hH, hA, hP⟩ := ha
  have f0 : (0 : Int) ≤ ((0) + ((1) * ρ 1 + 0)) := hF _ (List.mem_of_getElem? (i := 0) rfl)
  have f1 : (0 : Int) ≤ ((1) + ((-1) * ρ 1 + 0)) := hF _ (List.mem_of_getElem? (i := 1) rfl)
  have g0 : G (ρ 0).toNat = 22 := by
    have q := (hG _ (List.mem_of_getElem? (i := 0) rfl)).2
    rwa [show ev ρ (0, [(0, 1)]) = ρ 0 from ev_v] at q
  have g1 : G (ρ 2).toNat = 135 := by
    have q := (hG _ (List.mem_of_getElem? (i := 1) rfl)).2
    rwa [show ev ρ (0, [(2, 1)]) = ρ 2 from ev_v] at q
  have b0 : (0 : Int) ≤ ((0) + ((1) * ρ 1 + 0)) := b_aA (hA _ (List.mem_of_getElem? (i := 0) rfl))
  have a0 : vw C h 135 ((ρ 1).toNat) = ρ 3 := vw_aA hU (hA _ (List.mem_of_getElem? (i := 0) rfl)) ev_v g1 (by omega) (by omega) (i := (ρ 1).toNat) (show ((((ρ 1).toNat : Nat)) : Int) = ((0) + ((1) * ρ 1 + 0)) by omega) ev_v
  have p0 : q429 (vw C h) (ρ 1) (ρ 4) := c2 (P := (fun r c => q429 (vw C h) r c)) (show q429 (vw C h) (((0) + ((1) * ρ 1 + 0))) (((0) + ((1) * ρ 4 + 0))) from hP _ (List.mem_of_getElem? (i := 0) rfl)) (by omega) (by omega)
  have r := a0.symm.trans p0.2.2
  refine ⟨_, List.mem_cons_self, ρ, fun _ _ => rfl, fun q hq => absurd hq List.not_mem_nil, trivial, fun f hf => ?_, fun q hq => absurd hq List.not_mem_nil, fun q hq => absurd hq List.not_mem_nil, fun q hq => absurd hq List.not_mem_nil, fun q hq => ?_⟩
  · simp only [List.mem_cons, List.not_mem_nil, or_false] at hf
    rcases hf with rfl | rfl
    · show (0 : Int) ≤ ((0) + ((-1) * ρ 3 + ((1) * ρ 4 + 0)))
      omega
    · show (0 : Int) ≤ ((0) + ((1) * ρ 3 + ((-1) * ρ 4 + 0)))
      omega
  · exact absurd hq List.not_mem_nil
/-- spFl0 -/
theorem lem_812_ok (hU : uqG G C) : lem_812.1.2.1 = [] ∧ lemOK (PRd G C D xs) G rgs lem_812 := by
  refine ⟨rfl, fun ρ h ha hT => ?_⟩
  obtain ⟨-, -, hF, hG, hH, hA, hP⟩ := ha
  have f0 : (0 : Int) ≤ ((0) + ((-1) * ρ 0 + 0)) := hF _ (List.mem_of_getElem? (i := 0) rfl)
  have f1 : (0 : Int) ≤ ((0) + ((1) * ρ 0 + 0)) := hF _ (List.mem_of_getElem? (i := 1) rfl)
  have p0 : q258 G ((0 : Int)) (ρ 1) (elv h) := c2 (P := (fun r c => q258 G r c (elv h))) (show q258 G (((0) + 0)) (((0) + ((1) * ρ 1 + 0))) (elv h) from hP _ (List.mem_of_getElem? (i := 0) rfl)) (by omega) (by omega)
  rcases (by omega : ((0 : Int) ≤ (-1) * ρ 1) ∨ ((0 : Int) ≤ ρ 1 + (-1))) with hc | hc
  · refine ⟨_, List.mem_cons_self, ρ, fun _ _ => rfl, fun q hq => absurd hq List.not_mem_nil, trivial, fun f hf => ?_, fun q hq => absurd hq List.not_mem_nil, fun q hq => absurd hq List.not_mem_nil, fun q hq => absurd hq List.not_mem_nil, fun q hq => ?_⟩
    · simp only [List.mem_cons, List.not_mem_nil, or_false] at hf
      subst hf
      show (0 : Int) ≤ ((0) + ((-1) * ρ 1 + 0))
      omega
    · exact absurd hq List.not_mem_nil
  · refine ⟨_, (List.mem_cons_of_mem _ List.mem_cons_self), ρ, fun _ _ => rfl, fun q hq => absurd hq List.not_mem_nil, trivial, fun f hf => ?_, fun q hq => absurd hq List.not_mem_nil, fun q hq => absurd hq List.not_mem_nil, fun q hq => absurd hq List.not_mem_nil, fun q hq => ?_⟩
    · simp only [List.mem_cons, List.not_mem_nil, or_false] at hf
      subst hf
      show (0 : Int) ≤ ((-1) + ((1) * ρ 1 + 0))
      omega
    · exact absurd hq List.not_mem_nil
/-- spFl1 -/
theorem lem_813_ok (hU : uqG G C) : lem_813.1.2.1 = [] ∧ lemOK (PRd G C D xs) G rgs lem_813 := by
  refine ⟨rfl, fun ρ h ha hT => ?_⟩
  obtain ⟨-, -, hF, hG, hH, hA, hP⟩ := ha
  have f0 : (0 : Int) ≤ ((1) + ((-1) * ρ 0 + 0)) := hF _ (List.mem_of_getElem? (i := 0) rfl)
  have f1 : (0 : Int) ≤ ((-1) + ((1) * ρ 0 + 0)) := hF _ (List.mem_of_getElem? (i := 1) rfl)
  have p0 : q258 G ((1 : Int)) (ρ 1) (elv h) := c2 (P := (fun r c => q258 G r c (elv h))) (show q258 G (((1) + 0)) (((0) + ((1) * ρ 1 + 0))) (elv h) from hP _ (List.mem_of_getElem? (i := 0) rfl)) (by omega) (by omega)
  rcases (by omega : ((0 : Int) ≤ (-1) * ρ 1) ∨ ((0 : Int) ≤ ρ 1 + (-1))) with hc | hc
  · refine ⟨_, List.mem_cons_self, ρ, fun _ _ => rfl, fun q hq => absurd hq List.not_mem_nil, trivial, fun f hf => ?_, fun q hq => absurd hq List.not_mem_nil, fun q hq => absurd hq List.not_mem_nil, fun q hq => absurd hq List.not_mem_nil, fun q hq => ?_⟩
    · simp only [List.mem_cons, List.not_mem_nil, or_false] at hf
      subst hf
      show (0 : Int) ≤ ((0) + ((-1) * ρ 1 + 0))
      omega
    · exact absurd hq List.not_mem_nil
  · refine ⟨_, (List.mem_cons_of_mem _ List.mem_cons_self), ρ, fun _ _ => rfl, fun q hq => absurd hq List.not_mem_nil, trivial, fun f hf => ?_, fun q hq => absurd hq List.not_mem_nil, fun q hq => absurd hq List.not_mem_nil, fun q hq => absurd hq List.not_mem_nil, fun q hq => ?_⟩
    · simp only [List.mem_cons, List.not_mem_nil, or_false] at hf
      subst hf
      show (0 : Int) ≤ ((-1) + ((1) * ρ 1 + 0))
      omega
    · exact absurd hq List.not_mem_nil
/-- anyF -/
theorem lem_814_ok (hU : uqG G C) : lem_814.1.2.1 = [] ∧ lemOK (PRd G C D xs) G rgs lem_814 := by
  refine ⟨rfl, fun ρ h ha hT => ?_⟩
  obtain ⟨-, -, hF, hG, hH, hA, hP⟩ := ha
  have g0 : G (ρ 0).toNat = 22 := by
    have q := (hG _ (List.mem_of_getElem? (i := 0) rfl)).2
    rwa [show ev ρ (0, [(0, 1)]) = ρ 0 from ev_v] at q
  have p0 : q396 (vw C h) (ρ 2) := c2 (P := (fun (_ : Int) c => q396 (vw C h) c)) (r := 0) (r' := 0) (show q396 (vw C h) (((0) + ((1) * ρ 2 + 0))) from hP _ (List.mem_of_getElem? (i := 0) rfl)) rfl (by omega)
  obtain ⟨σ, r1, r2a⟩ : ∃ σ : Va, (∀ i, i < 3 → σ i = ρ i) ∧ σ 3 = ((cp ((ρ 1 + 128 * ρ 2 + 4) / 128).toNat ((ρ 1 + 128 * ρ 2 + 4) % 128).toNat : Nat) : Int) := ⟨fun i => if i = 3 then ((cp ((ρ 1 + 128 * ρ 2 + 4) / 128).toNat ((ρ 1 + 128 * ρ 2 + 4) % 128).toNat : Nat) : Int) else ρ i, fun i hi => by dsimp only; rw [if_neg (by omega)], by dsimp only; rw [if_pos rfl]⟩
  have s0 := r1 0 (by omega)
  have s1 := r1 1 (by omega)
  have s2 := r1 2 (by omega)
  refine ⟨_, List.mem_cons_self, σ, r1, fun q hq => absurd hq List.not_mem_nil, trivial, fun f hf => ?_, fun q hq => absurd hq List.not_mem_nil, fun q hq => absurd hq List.not_mem_nil, fun q hq => absurd hq List.not_mem_nil, fun q hq => ?_⟩
  · exact absurd hf List.not_mem_nil
  · simp only [List.mem_cons, List.not_mem_nil, or_false] at hq
    subst hq
    show qCp (((4) + ((1) * σ 1 + ((128) * σ 2 + 0)))) (((0) + ((1) * σ 3 + 0)))
    refine c2 (P := qCp) (r := ρ 1 + 128 * ρ 2 + 4) (c := ((cp ((ρ 1 + 128 * ρ 2 + 4) / 128).toNat ((ρ 1 + 128 * ρ 2 + 4) % 128).toNat : Nat) : Int)) ?_ (by omega) (by omega)
    show qCp (ρ 1 + 128 * ρ 2 + 4) (((cp ((ρ 1 + 128 * ρ 2 + 4) / 128).toNat ((ρ 1 + 128 * ρ 2 + 4) % 128).toNat : Nat) : Int))
    exact rfl
/-- anyGf -/
theorem lem_815_ok (hU : uqG G C) : lem_815.1.2.1 = [] ∧ lemOK (PRd G C D xs) G rgs lem_815 := by
  refine ⟨rfl, fun ρ h ha hT => ?_⟩
  obtain ⟨-, -, hF, hG, hH, hA, hP⟩ := ha
  have g0 : G (ρ 0).toNat = 22 := by
    have q := (hG _ (List.mem_of_getElem? (i := 0) rfl)).2
    rwa [show ev ρ (0, [(0, 1)]) = ρ 0 from ev_v] at q
  have p0 : q396 (vw C h) (ρ 2) := c2 (P := (fun (_ : Int) c => q396 (vw C h) c)) (r := 0) (r' := 0) (show q396 (vw C h) (((0) + ((1) * ρ 2 + 0))) from hP _ (List.mem_of_getElem? (i := 0) rfl)) rfl (by omega)
  obtain ⟨σ, r1, r2a⟩ : ∃ σ : Va, (∀ i, i < 3 → σ i = ρ i) ∧ σ 3 = ((cp ((ρ 1 + 128 * ρ 2 + 20) / 128).toNat ((ρ 1 + 128 * ρ 2 + 20) % 128).toNat : Nat) : Int) := ⟨fun i => if i = 3 then ((cp ((ρ 1 + 128 * ρ 2 + 20) / 128).toNat ((ρ 1 + 128 * ρ 2 + 20) % 128).toNat : Nat) : Int) else ρ i, fun i hi => by dsimp only; rw [if_neg (by omega)], by dsimp only; rw [if_pos rfl]⟩
  have s0 := r1 0 (by omega)
  have s1 := r1 1 (by omega)
  have s2 := r1 2 (by omega)
  refine ⟨_, List.mem_cons_self, σ, r1, fun q hq => absurd hq List.not_mem_nil, trivial, fun f hf => ?_, fun q hq => absurd hq List.not_mem_nil, fun q hq => absurd hq List.not_mem_nil, fun q hq => absurd hq List.not_mem_nil, fun q hq => ?_⟩
  · exact absurd hf List.not_mem_nil
  · simp only [List.mem_cons, List.not_mem_nil, or_false] at hq
    subst hq
    show qCp (((20) + ((1) * σ 1 + ((128) * σ 2 + 0)))) (((0) + ((1) * σ 3 + 0)))
    refine c2 (P := qCp) (r := ρ 1 + 128 * ρ 2 + 20) (c := ((cp ((ρ 1 + 128 * ρ 2 + 20) / 128).toNat ((ρ 1 + 128 * ρ 2 + 20) % 128).toNat : Nat) : Int)) ?_ (by omega) (by omega)
    show qCp (ρ 1 + 128 * ρ 2 + 20) (((cp ((ρ 1 + 128 * ρ 2 + 20) / 128).toNat ((ρ 1 + 128 * ρ 2 + 20) % 128).toNat : Nat) : Int))
    exact rfl
/-- anyGu -/
theorem lem_816_ok (hU : uqG G C) : lem_816.1.2.1 = [] ∧ lemOK (PRd G C D xs) G rgs lem_816 := by
  refine ⟨rfl, fun ρ h ha hT => ?_⟩
  obtain ⟨-, -, hF, hG, hH, hA, hP⟩ := ha
  have g0 : G (ρ 0).toNat = 22 := by
    have q := (hG _ (List.mem_of_getElem? (i := 0) rfl)).2
    rwa [show ev ρ (0, [(0, 1)]) = ρ 0 from ev_v] at q
  have p0 : q396 (vw C h) (ρ 2) := c2 (P := (fun (_ : Int) c => q396 (vw C h) c)) (r := 0) (r' := 0) (show q396 (vw C h) (((0) + ((1) * ρ 2 + 0))) from hP _ (List.mem_of_getElem? (i := 0) rfl)) rfl (by omega)
  obtain ⟨σ, r1, r2a⟩ : ∃ σ : Va, (∀ i, i < 3 → σ i = ρ i) ∧ σ 3 = ((cp ((ρ 1 + 128 * ρ 2 + 28) / 128).toNat ((ρ 1 + 128 * ρ 2 + 28) % 128).toNat : Nat) : Int) := ⟨fun i => if i = 3 then ((cp ((ρ 1 + 128 * ρ 2 + 28) / 128).toNat ((ρ 1 + 128 * ρ 2 + 28) % 128).toNat : Nat) : Int) else ρ i, fun i hi => by dsimp only; rw [if_neg (by omega)], by dsimp only; rw [if_pos rfl]⟩
  have s0 := r1 0 (by omega)
  have s1 := r1 1 (by omega)
  have s2 := r1 2 (by omega)
  refine ⟨_, List.mem_cons_self, σ, r1, fun q hq => absurd hq List.not_mem_nil, trivial, fun f hf => ?_, fun q hq => absurd hq List.not_mem_nil, fun q hq => absurd hq List.not_mem_nil, fun q hq => absurd hq List.not_mem_nil, fun q hq => ?_⟩
  · exact absurd hf List.not_mem_nil
  · simp only [List.mem_cons, List.not_mem_nil, or_false] at hq
    subst hq
    show qCp (((28) + ((1) * σ 1 + ((128) * σ 2 + 0)))) (((0) + ((1) * σ 3 + 0)))
    refine c2 (P := qCp) (r := ρ 1 + 128 * ρ 2 + 28) (c := ((cp ((ρ 1 + 128 * ρ 2 + 28) / 128).toNat ((ρ 1 + 128 * ρ 2 + 28) % 128).toNat : Nat) : Int)) ?_ (by omega) (by omega)
    show qCp (ρ 1 + 128 * ρ 2 + 28) (((cp ((ρ 1 + 128 * ρ 2 + 28) / 128).toNat ((ρ 1 + 128 * ρ 2 + 28) % 128).toNat : Nat) : Int))
    exact rfl
/-- any0 -/
theorem lem_817_ok (hU : uqG G C) : lem_817.1.2.1 = [] ∧ lemOK (PRd G C D xs) G rgs lem_817 := by
  refine ⟨rfl, fun ρ h ha hT => ?_⟩
  obtain ⟨-, -, hF, hG, hH, hA, hP⟩ := ha
  have g0 : G (ρ 0).toNat = 22 := by
    have q := (hG _ (List.mem_of_getElem? (i := 0) rfl)).2
    rwa [show ev ρ (0, [(0, 1)]) = ρ 0 from ev_v] at q
  have p0 : q396 (vw C h) (ρ 1) := c2 (P := (fun (_ : Int) c => q396 (vw C h) c)) (r := 0) (r' := 0) (show q396 (vw C h) (((0) + ((1) * ρ 1 + 0))) from hP _ (List.mem_of_getElem? (i := 0) rfl)) rfl (by omega)
  obtain ⟨σ, r1, r2a⟩ : ∃ σ : Va, (∀ i, i < 2 → σ i = ρ i) ∧ σ 2 = ((cp ((128 * ρ 1) / 128).toNat ((128 * ρ 1) % 128).toNat : Nat) : Int) := ⟨fun i => if i = 2 then ((cp ((128 * ρ 1) / 128).toNat ((128 * ρ 1) % 128).toNat : Nat) : Int) else ρ i, fun i hi => by dsimp only; rw [if_neg (by omega)], by dsimp only; rw [if_pos rfl]⟩
  have s0 := r1 0 (by omega)
  have s1 := r1 1 (by omega)
  refine ⟨_, List.mem_cons_self, σ, r1, fun q hq => absurd hq List.not_mem_nil, trivial, fun f hf => ?_, fun q hq => absurd hq List.not_mem_nil, fun q hq => absurd hq List.not_mem_nil, fun q hq => absurd hq List.not_mem_nil, fun q hq => ?_⟩
  · exact absurd hf List.not_mem_nil
  · simp only [List.mem_cons, List.not_mem_nil, or_false] at hq
    subst hq
    show qCp (((0) + ((128) * σ 1 + 0))) (((0) + ((1) * σ 2 + 0)))
    refine c2 (P := qCp) (r := 128 * ρ 1) (c := ((cp ((128 * ρ 1) / 128).toNat ((128 * ρ 1) % 128).toNat : Nat) : Int)) ?_ (by omega) (by omega)
    show qCp (128 * ρ 1) (((cp ((128 * ρ 1) / 128).toNat ((128 * ρ 1) % 128).toNat : Nat) : Int))
    exact rfl
/-- any1 -/
theorem lem_818_ok (hU : uqG G C) : lem_818.1.2.1 = [] ∧ lemOK (PRd G C D xs) G rgs lem_818 := by
  refine ⟨rfl, fun ρ h ha hT => ?_⟩
  obtain ⟨-, -, hF, hG, hH, hA, hP⟩ := ha
  have g0 : G (ρ 0).toNat = 22 := by
    have q := (hG _ (List.mem_of_getElem? (i := 0) rfl)).2
    rwa [show ev ρ (0, [(0, 1)]) = ρ 0 from ev_v] at q
  have p0 : q396 (vw C h) (ρ 1) := c2 (P := (fun (_ : Int) c => q396 (vw C h) c)) (r := 0) (r' := 0) (show q396 (vw C h) (((0) + ((1) * ρ 1 + 0))) from hP _ (List.mem_of_getElem? (i := 0) rfl)) rfl (by omega)
  obtain ⟨σ, r1, r2a⟩ : ∃ σ : Va, (∀ i, i < 2 → σ i = ρ i) ∧ σ 2 = ((cp ((128 * ρ 1 + 1) / 128).toNat ((128 * ρ 1 + 1) % 128).toNat : Nat) : Int) := ⟨fun i => if i = 2 then ((cp ((128 * ρ 1 + 1) / 128).toNat ((128 * ρ 1 + 1) % 128).toNat : Nat) : Int) else ρ i, fun i hi => by dsimp only; rw [if_neg (by omega)], by dsimp only; rw [if_pos rfl]⟩
  have s0 := r1 0 (by omega)
  have s1 := r1 1 (by omega)
  refine ⟨_, List.mem_cons_self, σ, r1, fun q hq => absurd hq List.not_mem_nil, trivial, fun f hf => ?_, fun q hq => absurd hq List.not_mem_nil, fun q hq => absurd hq List.not_mem_nil, fun q hq => absurd hq List.not_mem_nil, fun q hq => ?_⟩
  · exact absurd hf List.not_mem_nil
  · simp only [List.mem_cons, List.not_mem_nil, or_false] at hq
    subst hq
    show qCp (((1) + ((128) * σ 1 + 0))) (((0) + ((1) * σ 2 + 0)))
    refine c2 (P := qCp) (r := 128 * ρ 1 + 1) (c := ((cp ((128 * ρ 1 + 1) / 128).toNat ((128 * ρ 1 + 1) % 128).toNat : Nat) : Int)) ?_ (by omega) (by omega)
    show qCp (128 * ρ 1 + 1) (((cp ((128 * ρ 1 + 1) / 128).toNat ((128 * ρ 1 + 1) % 128).toNat : Nat) : Int))
    exact rfl
/-- any2 -/
theorem lem_819_ok (hU : uqG G C) : lem_819.1.2.1 = [] ∧ lemOK (PRd G C D xs) G rgs lem_819 := by
  refine ⟨rfl, fun ρ h ha hT => ?_⟩
  obtain ⟨-, -, hF, hG, hH, hA, hP⟩ := ha
  have g0 : G (ρ 0).toNat = 22 := by
    have q := (hG _ (List.mem_of_getElem? (i := 0) rfl)).2
    rwa [show ev ρ (0, [(0, 1)]) = ρ 0 from ev_v] at q
  have p0 : q396 (vw C h) (ρ 1) := c2 (P := (fun (_ : Int) c => q396 (vw C h) c)) (r := 0) (r' := 0) (show q396 (vw C h) (((0) + ((1) * ρ 1 + 0))) from hP _ (List.mem_of_getElem? (i := 0) rfl)) rfl (by omega)
  obtain ⟨σ, r1, r2a⟩ : ∃ σ : Va, (∀ i, i < 2 → σ i = ρ i) ∧ σ 2 = ((cp ((128 * ρ 1 + 2) / 128).toNat ((128 * ρ 1 + 2) % 128).toNat : Nat) : Int) := ⟨fun i => if i = 2 then ((cp ((128 * ρ 1 + 2) / 128).toNat ((128 * ρ 1 + 2) % 128).toNat : Nat) : Int) else ρ i, fun i hi => by dsimp only; rw [if_neg (by omega)], by dsimp only; rw [if_pos rfl]⟩
  have s0 := r1 0 (by omega)
  have s1 := r1 1 (by omega)
  refine ⟨_, List.mem_cons_self, σ, r1, fun q hq => absurd hq List.not_mem_nil, trivial, fun f hf => ?_, fun q hq => absurd hq List.not_mem_nil, fun q hq => absurd hq List.not_mem_nil, fun q hq => absurd hq List.not_mem_nil, fun q hq => ?_⟩
  · exact absurd hf List.not_mem_nil
  · simp only [List.mem_cons, List.not_mem_nil, or_false] at hq
    subst hq
    show qCp (((2) + ((128) * σ 1 + 0))) (((0) + ((1) * σ 2 + 0)))
    refine c2 (P := qCp) (r := 128 * ρ 1 + 2) (c := ((cp ((128 * ρ 1 + 2) / 128).toNat ((128 * ρ 1 + 2) % 128).toNat : Nat) : Int)) ?_ (by omega) (by omega)
    show qCp (128 * ρ 1 + 2) (((cp ((128 * ρ 1 + 2) / 128).toNat ((128 * ρ 1 + 2) % 128).toNat : Nat) : Int))
    exact rfl
/-- anyQ0 -/
theorem lem_820_ok (hU : uqG G C) : lem_820.1.2.1 = [] ∧ lemOK (PRd G C D xs) G rgs lem_820 := by
  refine ⟨rfl, fun ρ h ha hT => ?_⟩
  obtain ⟨-, -, hF, hG, hH, hA, hP⟩ := ha
  have g0 : G (ρ 0).toNat = 22 := by
    have q := (hG _ (List.mem_of_getElem? (i := 0) rfl)).2
    rwa [show ev ρ (0, [(0, 1)]) = ρ 0 from ev_v] at q
  have p0 : q408 (vw C h) ((0 : Int)) (ρ 1) := c2 (P := (fun r c => q408 (vw C h) r c)) (show q408 (vw C h) (((0) + 0)) (((0) + ((1) * ρ 1 + 0))) from hP _ (List.mem_of_getElem? (i := 0) rfl)) (by omega) (by omega)
  obtain ⟨σ, r1, r2a⟩ : ∃ σ : Va, (∀ i, i < 2 → σ i = ρ i) ∧ σ 2 = ((cp ((128 * ρ 1) / 128).toNat ((128 * ρ 1) % 128).toNat : Nat) : Int) := ⟨fun i => if i = 2 then ((cp ((128 * ρ 1) / 128).toNat ((128 * ρ 1) % 128).toNat : Nat) : Int) else ρ i, fun i hi => by dsimp only; rw [if_neg (by omega)], by dsimp only; rw [if_pos rfl]⟩
  have s0 := r1 0 (by omega)
  have s1 := r1 1 (by omega)
  refine ⟨_, List.mem_cons_self, σ, r1, fun q hq => absurd hq List.not_mem_nil, trivial, fun f hf => ?_, fun q hq => absurd hq List.not_mem_nil, fun q hq => absurd hq List.not_mem_nil, fun q hq => absurd hq List.not_mem_nil, fun q hq => ?_⟩
  · exact absurd hf List.not_mem_nil
  · simp only [List.mem_cons, List.not_mem_nil, or_false] at hq
    subst hq
    show qCp (((0) + ((128) * σ 1 + 0))) (((0) + ((1) * σ 2 + 0)))
    refine c2 (P := qCp) (r := 128 * ρ 1) (c := ((cp ((128 * ρ 1) / 128).toNat ((128 * ρ 1) % 128).toNat : Nat) : Int)) ?_ (by omega) (by omega)
    show qCp (128 * ρ 1) (((cp ((128 * ρ 1) / 128).toNat ((128 * ρ 1) % 128).toNat : Nat) : Int))
    exact rfl
/-- anyQ1 -/
theorem lem_821_ok (hU : uqG G C) : lem_821.1.2.1 = [] ∧ lemOK (PRd G C D xs) G rgs lem_821 := by
  refine ⟨rfl, fun ρ h ha hT => ?_⟩
  obtain ⟨-, -, hF, hG, hH, hA, hP⟩ := ha
  have g0 : G (ρ 0).toNat = 22 := by
    have q := (hG _ (List.mem_of_getElem? (i := 0) rfl)).2
    rwa [show ev ρ (0, [(0, 1)]) = ρ 0 from ev_v] at q
  have p0 : q408 (vw C h) ((1 : Int)) (ρ 1) := c2 (P := (fun r c => q408 (vw C h) r c)) (show q408 (vw C h) (((1) + 0)) (((0) + ((1) * ρ 1 + 0))) from hP _ (List.mem_of_getElem? (i := 0) rfl)) (by omega) (by omega)
  obtain ⟨σ, r1, r2a⟩ : ∃ σ : Va, (∀ i, i < 2 → σ i = ρ i) ∧ σ 2 = ((cp ((128 * ρ 1) / 128).toNat ((128 * ρ 1) % 128).toNat : Nat) : Int) := ⟨fun i => if i = 2 then ((cp ((128 * ρ 1) / 128).toNat ((128 * ρ 1) % 128).toNat : Nat) : Int) else ρ i, fun i hi => by dsimp only; rw [if_neg (by omega)], by dsimp only; rw [if_pos rfl]⟩
  have s0 := r1 0 (by omega)
  have s1 := r1 1 (by omega)
  refine ⟨_, List.mem_cons_self, σ, r1, fun q hq => absurd hq List.not_mem_nil, trivial, fun f hf => ?_, fun q hq => absurd hq List.not_mem_nil, fun q hq => absurd hq List.not_mem_nil, fun q hq => absurd hq List.not_mem_nil, fun q hq => ?_⟩
  · exact absurd hf List.not_mem_nil
  · simp only [List.mem_cons, List.not_mem_nil, or_false] at hq
    subst hq
    show qCp (((0) + ((128) * σ 1 + 0))) (((0) + ((1) * σ 2 + 0)))
    refine c2 (P := qCp) (r := 128 * ρ 1) (c := ((cp ((128 * ρ 1) / 128).toNat ((128 * ρ 1) % 128).toNat : Nat) : Int)) ?_ (by omega) (by omega)
    show qCp (128 * ρ 1) (((cp ((128 * ρ 1) / 128).toNat ((128 * ρ 1) % 128).toNat : Nat) : Int))
    exact rfl
/-- dyJ -/
theorem lem_822_ok (hU : uqG G C) : lem_822.1.2.1 = [] ∧ lemOK (PRd G C D xs) G rgs lem_822 := by
  refine ⟨rfl, fun ρ h ha hT => ?_⟩
  obtain ⟨-, -, hF, hG, hH, hA, hP⟩ := ha
  have g0 : G (ρ 0).toNat = 22 := by
    have q := (hG _ (List.mem_of_getElem? (i := 0) rfl)).2
    rwa [show ev ρ (0, [(0, 1)]) = ρ 0 from ev_v] at q
  have g1 : G (ρ 1).toNat = 118 := by
    have q := (hG _ (List.mem_of_getElem? (i := 1) rfl)).2
    rwa [show ev ρ (0, [(1, 1)]) = ρ 1 from ev_v] at q
  have b0 : (0 : Int) ≤ ((0) + 0) := b_aA (hA _ (List.mem_of_getElem? (i := 0) rfl))
  have a0 : vw C h 118 (0) = ρ 2 := vw_aA hU (hA _ (List.mem_of_getElem? (i := 0) rfl)) ev_v g1 (by omega) (by omega) (i := 0) (show (((0 : Nat)) : Int) = ((0) + 0) by omega) ev_v
  have p0 : q396 (vw C h) (ρ 3) := c2 (P := (fun (_ : Int) c => q396 (vw C h) c)) (r := 0) (r' := 0) (show q396 (vw C h) (((0) + ((1) * ρ 3 + 0))) from hP _ (List.mem_of_getElem? (i := 0) rfl)) rfl (by omega)
  have p1 : qCp (128 * ρ 3) (ρ 4) := c2 (P := qCp) (show qCp (((0) + ((128) * ρ 3 + 0))) (((0) + ((1) * ρ 4 + 0))) from hP _ (List.mem_of_getElem? (i := 1) rfl)) (by omega) (by omega)
  have r := (r_now (k := 0) (q := 0) (by omega) (nP (by omega)) rfl p0 (Eq.trans (congrArg (vw C h 118) (show 0 = 0 by omega)) a0))
  have r2 := (kCp (V := ρ 3) (k := 0) (by omega) (by omega) p1)
  refine ⟨_, List.mem_cons_self, ρ, fun _ _ => rfl, fun q hq => absurd hq List.not_mem_nil, trivial, fun f hf => ?_, fun q hq => absurd hq List.not_mem_nil, fun q hq => absurd hq List.not_mem_nil, fun q hq => absurd hq List.not_mem_nil, fun q hq => ?_⟩
  · simp only [List.mem_cons, List.not_mem_nil, or_false] at hf
    rcases hf with rfl | rfl
    · show (0 : Int) ≤ ((0) + ((-1) * ρ 2 + ((1) * ρ 4 + 0)))
      omega
    · show (0 : Int) ≤ ((0) + ((1) * ρ 2 + ((-1) * ρ 4 + 0)))
      omega
  · exact absurd hq List.not_mem_nil
/-- dyN -/
theorem lem_823_ok (hU : uqG G C) : lem_823.1.2.1 = [] ∧ lemOK (PRd G C D xs) G rgs lem_823 := by
  refine ⟨rfl, fun ρ h ha hT => ?_⟩
  obtain ⟨-, -, hF, hG, hH, hA, hP⟩ := ha
  have f0 : (0 : Int) ≤ ((-1) + ((1) * ρ 2 + 0)) := hF _ (List.mem_of_getElem? (i := 0) rfl)
  have g0 : G (ρ 0).toNat = 22 := by
    have q := (hG _ (List.mem_of_getElem? (i := 0) rfl)).2
    rwa [show ev ρ (0, [(0, 1)]) = ρ 0 from ev_v] at q
  have g1 : G (ρ 1).toNat = 118 := by
    have q := (hG _ (List.mem_of_getElem? (i := 1) rfl)).2
    rwa [show ev ρ (0, [(1, 1)]) = ρ 1 from ev_v] at q
  have h1 : (0 : Int) ≤ ρ 2 ∧ ρ 2 ≤ 1 := hf_rg hT (hH _ (List.mem_of_getElem? (i := 1) rfl)) ev_v g0 rfl rfl rfl ev_v
  have b0 : (0 : Int) ≤ ((0) + 0) := b_aA (hA _ (List.mem_of_getElem? (i := 0) rfl))
  have a0 : vw C h 118 (0) = ρ 3 := vw_aA hU (hA _ (List.mem_of_getElem? (i := 0) rfl)) ev_v g1 (by omega) (by omega) (i := 0) (show (((0 : Nat)) : Int) = ((0) + 0) by omega) ev_v
  have p0 : q396 (vw C h) (ρ 4) := c2 (P := (fun (_ : Int) c => q396 (vw C h) c)) (r := 0) (r' := 0) (show q396 (vw C h) (((0) + ((1) * ρ 4 + 0))) from hP _ (List.mem_of_getElem? (i := 0) rfl)) rfl (by omega)
  refine ⟨_, List.mem_cons_self, ρ, fun _ _ => rfl, fun q hq => absurd hq List.not_mem_nil, trivial, fun f hf => ?_, fun q hq => absurd hq List.not_mem_nil, fun q hq => absurd hq List.not_mem_nil, fun q hq => absurd hq List.not_mem_nil, fun q hq => ?_⟩
  · simp only [List.mem_cons, List.not_mem_nil, or_false] at hf
    subst hf
    show (0 : Int) ≤ ((-1) + ((1) * ρ 2 + 0))
    omega
  · simp only [List.mem_cons, List.not_mem_nil, or_false] at hq
    subst hq
    show qCp (((0) + ((128) * ρ 4 + 0))) (((0) + ((1) * ρ 3 + 0)))
    refine c2 (P := qCp) (r := 128 * ρ 4) (c := ρ 3) ?_ (by omega) (by omega)
    show qCp (128 * ρ 4) (ρ 3)
    exact oCp (V := ρ 4) (k := 0) (by omega) (by decide) (r_now (k := 0) (q := 0) (by omega) (nP (by omega)) rfl p0 (Eq.trans (congrArg (vw C h 118) (show 0 = 0 by omega)) a0))
/-- leE -/
theorem lem_824_ok (hU : uqG G C) : lem_824.1.2.1 = [] ∧ lemOK (PRd G C D xs) G rgs lem_824 := by
  refine ⟨rfl, fun ρ h ha hT => ?_⟩
  obtain ⟨-, -, hF, hG, hH, hA, hP⟩ := ha
  have g0 : G (ρ 0).toNat = 21 := by
    have q := (hG _ (List.mem_of_getElem? (i := 0) rfl)).2
    rwa [show ev ρ (0, [(0, 1)]) = ρ 0 from ev_v] at q
  have g1 : G (ρ 1).toNat = 20 := by
    have q := (hG _ (List.mem_of_getElem? (i := 1) rfl)).2
    rwa [show ev ρ (0, [(1, 1)]) = ρ 1 from ev_v] at q
  have p0 : q210 G (ρ 1) (ρ 3) (rfv h) := c2 (P := (fun r c => q210 G r c (rfv h))) (show q210 G (((0) + ((1) * ρ 1 + 0))) (((0) + ((1) * ρ 3 + 0))) (rfv h) from hP _ (List.mem_of_getElem? (i := 0) rfl)) (by omega) (by omega)
  have p1 : qCp (128 * ρ 3 + 1) (ρ 4) := c2 (P := qCp) (show qCp (((1) + ((128) * ρ 3 + 0))) (((0) + ((1) * ρ 4 + 0))) from hP _ (List.mem_of_getElem? (i := 1) rfl)) (by omega) (by omega)
  have cT : 0 ≤ ρ 0 := by
    have q := (hG _ (List.mem_of_getElem? (i := 0) rfl)).1
    rwa [show ev ρ (0, [(0, 1)]) = ρ 0 from ev_v] at q
  have cX : 0 ≤ ρ 1 := by
    have q := (hG _ (List.mem_of_getElem? (i := 1) rfl)).1
    rwa [show ev ρ (0, [(1, 1)]) = ρ 1 from ev_v] at q
  have y0 : rfv h (ρ 0).toNat 8 = some (.ref (ρ 1).toNat) := ob_v hT (hH _ (List.mem_of_getElem? (i := 0) rfl)) ev_v g0 rfl ev_v
  have y1 : hasI (rfv h (ρ 1).toNat 1) (ρ 2) := ob_i hT (hH _ (List.mem_of_getElem? (i := 1) rfl)) ev_v g1 rfl ev_v
  have r := (s_f4 (k := 1) (by decide) rfl (q210.o p0) y1)
  have r2 := (kCp (V := ρ 3) (k := 1) (by omega) (by omega) p1)
  refine ⟨_, List.mem_cons_self, ρ, fun _ _ => rfl, fun q hq => absurd hq List.not_mem_nil, trivial, fun f hf => ?_, fun q hq => absurd hq List.not_mem_nil, fun q hq => absurd hq List.not_mem_nil, fun q hq => absurd hq List.not_mem_nil, fun q hq => ?_⟩
  · simp only [List.mem_cons, List.not_mem_nil, or_false] at hf
    rcases hf with rfl | rfl
    · show (0 : Int) ≤ ((0) + ((-1) * ρ 2 + ((1) * ρ 4 + 0)))
      omega
    · show (0 : Int) ≤ ((0) + ((1) * ρ 2 + ((-1) * ρ 4 + 0)))
      omega
  · exact absurd hq List.not_mem_nil
/-- shE -/
theorem lem_825_ok (hU : uqG G C) : lem_825.1.2.1 = [] ∧ lemOK (PRd G C D xs) G rgs lem_825 := by
  refine ⟨rfl, fun ρ h ha hT => ?_⟩
  obtain ⟨-, -, hF, hG, hH, hA, hP⟩ := ha
  have g0 : G (ρ 0).toNat = 21 := by
    have q := (hG _ (List.mem_of_getElem? (i := 0) rfl)).2
    rwa [show ev ρ (0, [(0, 1)]) = ρ 0 from ev_v] at q
  have g1 : G (ρ 1).toNat = 20 := by
    have q := (hG _ (List.mem_of_getElem? (i := 1) rfl)).2
    rwa [show ev ρ (0, [(1, 1)]) = ρ 1 from ev_v] at q
  have p0 : q210 G (ρ 1) (ρ 3) (rfv h) := c2 (P := (fun r c => q210 G r c (rfv h))) (show q210 G (((0) + ((1) * ρ 1 + 0))) (((0) + ((1) * ρ 3 + 0))) (rfv h) from hP _ (List.mem_of_getElem? (i := 0) rfl)) (by omega) (by omega)
  have p1 : qCp (128 * ρ 3 + 2) (ρ 4) := c2 (P := qCp) (show qCp (((2) + ((128) * ρ 3 + 0))) (((0) + ((1) * ρ 4 + 0))) from hP _ (List.mem_of_getElem? (i := 1) rfl)) (by omega) (by omega)
  have cT : 0 ≤ ρ 0 := by
    have q := (hG _ (List.mem_of_getElem? (i := 0) rfl)).1
    rwa [show ev ρ (0, [(0, 1)]) = ρ 0 from ev_v] at q
  have cX : 0 ≤ ρ 1 := by
    have q := (hG _ (List.mem_of_getElem? (i := 1) rfl)).1
    rwa [show ev ρ (0, [(1, 1)]) = ρ 1 from ev_v] at q
  have y0 : rfv h (ρ 0).toNat 8 = some (.ref (ρ 1).toNat) := ob_v hT (hH _ (List.mem_of_getElem? (i := 0) rfl)) ev_v g0 rfl ev_v
  have y1 : hasI (rfv h (ρ 1).toNat 2) (ρ 2) := ob_i hT (hH _ (List.mem_of_getElem? (i := 1) rfl)) ev_v g1 rfl ev_v
  have r := (s_f4 (k := 2) (by decide) rfl (q210.o p0) y1)
  have r2 := (kCp (V := ρ 3) (k := 2) (by omega) (by omega) p1)
  refine ⟨_, List.mem_cons_self, ρ, fun _ _ => rfl, fun q hq => absurd hq List.not_mem_nil, trivial, fun f hf => ?_, fun q hq => absurd hq List.not_mem_nil, fun q hq => absurd hq List.not_mem_nil, fun q hq => absurd hq List.not_mem_nil, fun q hq => ?_⟩
  · simp only [List.mem_cons, List.not_mem_nil, or_false] at hf
    rcases hf with rfl | rfl
    · show (0 : Int) ≤ ((0) + ((-1) * ρ 2 + ((1) * ρ 4 + 0)))
      omega
    · show (0 : Int) ≤ ((0) + ((1) * ρ 2 + ((-1) * ρ 4 + 0)))
      omega
  · exact absurd hq List.not_mem_nil
/-- foE -/
theorem lem_826_ok (hU : uqG G C) : lem_826.1.2.1 = [] ∧ lemOK (PRd G C D xs) G rgs lem_826 := by
  refine ⟨rfl, fun ρ h ha hT => ?_⟩
  obtain ⟨-, -, hF, hG, hH, hA, hP⟩ := ha
  have f0 : (0 : Int) ≤ ((2) + ((-1) * ρ 1 + ((7) * ρ 2 + ((1) * ρ 3 + 0)))) := hF _ (List.mem_of_getElem? (i := 0) rfl)
  have f1 : (0 : Int) ≤ ((-2) + ((1) * ρ 1 + ((-7) * ρ 2 + ((-1) * ρ 3 + 0)))) := hF _ (List.mem_of_getElem? (i := 1) rfl)
  have f2 : (0 : Int) ≤ ((0) + ((1) * ρ 2 + 0)) := hF _ (List.mem_of_getElem? (i := 2) rfl)
  have f3 : (0 : Int) ≤ ((7) + ((-1) * ρ 2 + 0)) := hF _ (List.mem_of_getElem? (i := 3) rfl)
  have f4 : (0 : Int) ≤ ((-1) + ((-1) * ρ 2 + ((1) * ρ 6 + 0))) := hF _ (List.mem_of_getElem? (i := 4) rfl)
  have g0 : G (ρ 0).toNat = 21 := by
    have q := (hG _ (List.mem_of_getElem? (i := 0) rfl)).2
    rwa [show ev ρ (0, [(0, 1)]) = ρ 0 from ev_v] at q
  have g1 : G (ρ 3).toNat = 20 := by
    have q := (hG _ (List.mem_of_getElem? (i := 1) rfl)).2
    rwa [show ev ρ (0, [(3, 1)]) = ρ 3 from ev_v] at q
  have g2 : G (ρ 1).toNat = 13 := by
    have q := (hG _ (List.mem_of_getElem? (i := 2) rfl)).2
    rwa [show ev ρ (0, [(1, 1)]) = ρ 1 from ev_v] at q
  have h1 : (0 : Int) ≤ ρ 4 ∧ ρ 4 ≤ 1 := hf_rg hT (hH _ (List.mem_of_getElem? (i := 1) rfl)) ev_v g2 rfl rfl rfl ev_v
  have p0 : q210 G (ρ 3) (ρ 5) (rfv h) := c2 (P := (fun r c => q210 G r c (rfv h))) (show q210 G (((0) + ((1) * ρ 3 + 0))) (((0) + ((1) * ρ 5 + 0))) (rfv h) from hP _ (List.mem_of_getElem? (i := 0) rfl)) (by omega) (by omega)
  have p1 : qCp (128 * ρ 5 + 3) (ρ 6) := c2 (P := qCp) (show qCp (((3) + ((128) * ρ 5 + 0))) (((0) + ((1) * ρ 6 + 0))) from hP _ (List.mem_of_getElem? (i := 1) rfl)) (by omega) (by omega)
  have p2 : qCp (ρ 2 + 128 * ρ 5 + 4) (ρ 7) := c2 (P := qCp) (show qCp (((4) + ((1) * ρ 2 + ((128) * ρ 5 + 0)))) (((0) + ((1) * ρ 7 + 0))) from hP _ (List.mem_of_getElem? (i := 2) rfl)) (by omega) (by omega)
  have cT : 0 ≤ ρ 0 := by
    have q := (hG _ (List.mem_of_getElem? (i := 0) rfl)).1
    rwa [show ev ρ (0, [(0, 1)]) = ρ 0 from ev_v] at q
  have cX : 0 ≤ ρ 3 := by
    have q := (hG _ (List.mem_of_getElem? (i := 1) rfl)).1
    rwa [show ev ρ (0, [(3, 1)]) = ρ 3 from ev_v] at q
  have cM : 0 ≤ ρ 1 := by
    have q := (hG _ (List.mem_of_getElem? (i := 2) rfl)).1
    rwa [show ev ρ (0, [(1, 1)]) = ρ 1 from ev_v] at q
  have y0 : rfv h (ρ 0).toNat 8 = some (.ref (ρ 3).toNat) := ob_v hT (hH _ (List.mem_of_getElem? (i := 0) rfl)) ev_v g0 rfl ev_v
  have y1 : hasI (rfv h (ρ 1).toNat 2) (ρ 4) := ob_i hT (hH _ (List.mem_of_getElem? (i := 1) rfl)) ev_v g2 rfl ev_v
  have hm := (kCp (V := ρ 5) (k := 3) (by omega) (by omega) p1)
  have r := (s_mf (k := 4 + (ρ 2).toNat) (f := 2) (m := (ρ 2).toNat) (by omega) (by omega) (by omega) (by omega) (q210.o p0) y1)
  have r2 := (kCp (V := ρ 5) (k := 4 + (ρ 2).toNat) (by omega) (by omega) p2)
  refine ⟨_, List.mem_cons_self, ρ, fun _ _ => rfl, fun q hq => absurd hq List.not_mem_nil, trivial, fun f hf => ?_, fun q hq => absurd hq List.not_mem_nil, fun q hq => absurd hq List.not_mem_nil, fun q hq => absurd hq List.not_mem_nil, fun q hq => ?_⟩
  · simp only [List.mem_cons, List.not_mem_nil, or_false] at hf
    rcases hf with rfl | rfl
    · show (0 : Int) ≤ ((0) + ((-1) * ρ 4 + ((1) * ρ 7 + 0)))
      omega
    · show (0 : Int) ≤ ((0) + ((1) * ρ 4 + ((-1) * ρ 7 + 0)))
      omega
  · exact absurd hq List.not_mem_nil
/-- gfE -/
theorem lem_827_ok (hU : uqG G C) : lem_827.1.2.1 = [] ∧ lemOK (PRd G C D xs) G rgs lem_827 := by
  refine ⟨rfl, fun ρ h ha hT => ?_⟩
  obtain ⟨-, -, hF, hG, hH, hA, hP⟩ := ha
  have f0 : (0 : Int) ≤ ((2) + ((-1) * ρ 1 + ((7) * ρ 2 + ((1) * ρ 3 + 0)))) := hF _ (List.mem_of_getElem? (i := 0) rfl)
  have f1 : (0 : Int) ≤ ((-2) + ((1) * ρ 1 + ((-7) * ρ 2 + ((-1) * ρ 3 + 0)))) := hF _ (List.mem_of_getElem? (i := 1) rfl)
  have f2 : (0 : Int) ≤ ((0) + ((1) * ρ 2 + 0)) := hF _ (List.mem_of_getElem? (i := 2) rfl)
  have f3 : (0 : Int) ≤ ((7) + ((-1) * ρ 2 + 0)) := hF _ (List.mem_of_getElem? (i := 3) rfl)
  have f4 : (0 : Int) ≤ ((-1) + ((-1) * ρ 2 + ((1) * ρ 6 + 0))) := hF _ (List.mem_of_getElem? (i := 4) rfl)
  have g0 : G (ρ 0).toNat = 21 := by
    have q := (hG _ (List.mem_of_getElem? (i := 0) rfl)).2
    rwa [show ev ρ (0, [(0, 1)]) = ρ 0 from ev_v] at q
  have g1 : G (ρ 3).toNat = 20 := by
    have q := (hG _ (List.mem_of_getElem? (i := 1) rfl)).2
    rwa [show ev ρ (0, [(3, 1)]) = ρ 3 from ev_v] at q
  have g2 : G (ρ 1).toNat = 13 := by
    have q := (hG _ (List.mem_of_getElem? (i := 2) rfl)).2
    rwa [show ev ρ (0, [(1, 1)]) = ρ 1 from ev_v] at q
  have p0 : q210 G (ρ 3) (ρ 5) (rfv h) := c2 (P := (fun r c => q210 G r c (rfv h))) (show q210 G (((0) + ((1) * ρ 3 + 0))) (((0) + ((1) * ρ 5 + 0))) (rfv h) from hP _ (List.mem_of_getElem? (i := 0) rfl)) (by omega) (by omega)
  have p1 : qCp (128 * ρ 5 + 3) (ρ 6) := c2 (P := qCp) (show qCp (((3) + ((128) * ρ 5 + 0))) (((0) + ((1) * ρ 6 + 0))) from hP _ (List.mem_of_getElem? (i := 1) rfl)) (by omega) (by omega)
  have p2 : qCp (ρ 2 + 128 * ρ 5 + 20) (ρ 7) := c2 (P := qCp) (show qCp (((20) + ((1) * ρ 2 + ((128) * ρ 5 + 0)))) (((0) + ((1) * ρ 7 + 0))) from hP _ (List.mem_of_getElem? (i := 2) rfl)) (by omega) (by omega)
  have cT : 0 ≤ ρ 0 := by
    have q := (hG _ (List.mem_of_getElem? (i := 0) rfl)).1
    rwa [show ev ρ (0, [(0, 1)]) = ρ 0 from ev_v] at q
  have cX : 0 ≤ ρ 3 := by
    have q := (hG _ (List.mem_of_getElem? (i := 1) rfl)).1
    rwa [show ev ρ (0, [(3, 1)]) = ρ 3 from ev_v] at q
  have cM : 0 ≤ ρ 1 := by
    have q := (hG _ (List.mem_of_getElem? (i := 2) rfl)).1
    rwa [show ev ρ (0, [(1, 1)]) = ρ 1 from ev_v] at q
  have y0 : rfv h (ρ 0).toNat 8 = some (.ref (ρ 3).toNat) := ob_v hT (hH _ (List.mem_of_getElem? (i := 0) rfl)) ev_v g0 rfl ev_v
  have y1 : hasI (rfv h (ρ 1).toNat 0) (ρ 4) := ob_i hT (hH _ (List.mem_of_getElem? (i := 1) rfl)) ev_v g2 rfl ev_v
  have hm := (kCp (V := ρ 5) (k := 3) (by omega) (by omega) p1)
  have r := (s_mf (k := 20 + (ρ 2).toNat) (f := 0) (m := (ρ 2).toNat) (by omega) (by omega) (by omega) (by omega) (q210.o p0) y1)
  have r2 := (kCp (V := ρ 5) (k := 20 + (ρ 2).toNat) (by omega) (by omega) p2)
  refine ⟨_, List.mem_cons_self, ρ, fun _ _ => rfl, fun q hq => absurd hq List.not_mem_nil, trivial, fun f hf => ?_, fun q hq => absurd hq List.not_mem_nil, fun q hq => absurd hq List.not_mem_nil, fun q hq => absurd hq List.not_mem_nil, fun q hq => ?_⟩
  · simp only [List.mem_cons, List.not_mem_nil, or_false] at hf
    rcases hf with rfl | rfl
    · show (0 : Int) ≤ ((0) + ((-1) * ρ 4 + ((1) * ρ 7 + 0)))
      omega
    · show (0 : Int) ≤ ((0) + ((1) * ρ 4 + ((-1) * ρ 7 + 0)))
      omega
  · exact absurd hq List.not_mem_nil
/-- guE -/
theorem lem_828_ok (hU : uqG G C) : lem_828.1.2.1 = [] ∧ lemOK (PRd G C D xs) G rgs lem_828 := by
  refine ⟨rfl, fun ρ h ha hT => ?_⟩
  obtain ⟨-, -, hF, hG, hH, hA, hP⟩ := ha
  have f0 : (0 : Int) ≤ ((2) + ((-1) * ρ 1 + ((7) * ρ 2 + ((1) * ρ 3 + 0)))) := hF _ (List.mem_of_getElem? (i := 0) rfl)
  have f1 : (0 : Int) ≤ ((-2) + ((1) * ρ 1 + ((-7) * ρ 2 + ((-1) * ρ 3 + 0)))) := hF _ (List.mem_of_getElem? (i := 1) rfl)
  have f2 : (0 : Int) ≤ ((0) + ((1) * ρ 2 + 0)) := hF _ (List.mem_of_getElem? (i := 2) rfl)
  have f3 : (0 : Int) ≤ ((7) + ((-1) * ρ 2 + 0)) := hF _ (List.mem_of_getElem? (i := 3) rfl)
  have f4 : (0 : Int) ≤ ((-1) + ((-1) * ρ 2 + ((1) * ρ 6 + 0))) := hF _ (List.mem_of_getElem? (i := 4) rfl)
  have g0 : G (ρ 0).toNat = 21 := by
    have q := (hG _ (List.mem_of_getElem? (i := 0) rfl)).2
    rwa [show ev ρ (0, [(0, 1)]) = ρ 0 from ev_v] at q
  have g1 : G (ρ 3).toNat = 20 := by
    have q := (hG _ (List.mem_of_getElem? (i := 1) rfl)).2
    rwa [show ev ρ (0, [(3, 1)]) = ρ 3 from ev_v] at q
  have g2 : G (ρ 1).toNat = 13 := by
    have q := (hG _ (List.mem_of_getElem? (i := 2) rfl)).2
    rwa [show ev ρ (0, [(1, 1)]) = ρ 1 from ev_v] at q
  have p0 : q210 G (ρ 3) (ρ 5) (rfv h) := c2 (P := (fun r c => q210 G r c (rfv h))) (show q210 G (((0) + ((1) * ρ 3 + 0))) (((0) + ((1) * ρ 5 + 0))) (rfv h) from hP _ (List.mem_of_getElem? (i := 0) rfl)) (by omega) (by omega)
  have p1 : qCp (128 * ρ 5 + 3) (ρ 6) := c2 (P := qCp) (show qCp (((3) + ((128) * ρ 5 + 0))) (((0) + ((1) * ρ 6 + 0))) from hP _ (List.mem_of_getElem? (i := 1) rfl)) (by omega) (by omega)
  have p2 : qCp (ρ 2 + 128 * ρ 5 + 28) (ρ 7) := c2 (P := qCp) (show qCp (((28) + ((1) * ρ 2 + ((128) * ρ 5 + 0)))) (((0) + ((1) * ρ 7 + 0))) from hP _ (List.mem_of_getElem? (i := 2) rfl)) (by omega) (by omega)
  have cT : 0 ≤ ρ 0 := by
    have q := (hG _ (List.mem_of_getElem? (i := 0) rfl)).1
    rwa [show ev ρ (0, [(0, 1)]) = ρ 0 from ev_v] at q
  have cX : 0 ≤ ρ 3 := by
    have q := (hG _ (List.mem_of_getElem? (i := 1) rfl)).1
    rwa [show ev ρ (0, [(3, 1)]) = ρ 3 from ev_v] at q
  have cM : 0 ≤ ρ 1 := by
    have q := (hG _ (List.mem_of_getElem? (i := 2) rfl)).1
    rwa [show ev ρ (0, [(1, 1)]) = ρ 1 from ev_v] at q
  have y0 : rfv h (ρ 0).toNat 8 = some (.ref (ρ 3).toNat) := ob_v hT (hH _ (List.mem_of_getElem? (i := 0) rfl)) ev_v g0 rfl ev_v
  have y1 : hasI (rfv h (ρ 1).toNat 1) (ρ 4) := ob_i hT (hH _ (List.mem_of_getElem? (i := 1) rfl)) ev_v g2 rfl ev_v
  have hm := (kCp (V := ρ 5) (k := 3) (by omega) (by omega) p1)
  have r := (s_mf (k := 28 + (ρ 2).toNat) (f := 1) (m := (ρ 2).toNat) (by omega) (by omega) (by omega) (by omega) (q210.o p0) y1)
  have r2 := (kCp (V := ρ 5) (k := 28 + (ρ 2).toNat) (by omega) (by omega) p2)
  refine ⟨_, List.mem_cons_self, ρ, fun _ _ => rfl, fun q hq => absurd hq List.not_mem_nil, trivial, fun f hf => ?_, fun q hq => absurd hq List.not_mem_nil, fun q hq => absurd hq List.not_mem_nil, fun q hq => absurd hq List.not_mem_nil, fun q hq => ?_⟩
  · simp only [List.mem_cons, List.not_mem_nil, or_false] at hf
    rcases hf with rfl | rfl
    · show (0 : Int) ≤ ((0) + ((-1) * ρ 4 + ((1) * ρ 7 + 0)))
      omega
    · show (0 : Int) ≤ ((0) + ((1) * ρ 4 + ((-1) * ρ 7 + 0)))
      omega
  · exact absurd hq List.not_mem_nil
/-- rdL -/
theorem lem_829_ok (hU : uqG G C) : lem_829.1.2.1 = [] ∧ lemOK (PRd G C D xs) G rgs lem_829 := by
  refine ⟨rfl, fun ρ h ha hT => ?_⟩
  obtain ⟨-, -, hF, hG, hH, hA, hP⟩ := ha
  have f0 : (0 : Int) ≤ ((2) + ((-1) * ρ 1 + 0)) := hF _ (List.mem_of_getElem? (i := 0) rfl)
  have f1 : (0 : Int) ≤ ((-2) + ((1) * ρ 1 + 0)) := hF _ (List.mem_of_getElem? (i := 1) rfl)
  have g0 : G (ρ 0).toNat = 22 := by
    have q := (hG _ (List.mem_of_getElem? (i := 0) rfl)).2
    rwa [show ev ρ (0, [(0, 1)]) = ρ 0 from ev_v] at q
  have g1 : G (ρ 2).toNat = 118 := by
    have q := (hG _ (List.mem_of_getElem? (i := 1) rfl)).2
    rwa [show ev ρ (0, [(2, 1)]) = ρ 2 from ev_v] at q
  have b0 : (0 : Int) ≤ ((0) + ((1) * ρ 1 + 0)) := b_aA (hA _ (List.mem_of_getElem? (i := 0) rfl))
  have a0 : vw C h 118 ((ρ 1).toNat) = ρ 3 := vw_aA hU (hA _ (List.mem_of_getElem? (i := 0) rfl)) ev_v g1 (by omega) (by omega) (i := (ρ 1).toNat) (show ((((ρ 1).toNat : Nat)) : Int) = ((0) + ((1) * ρ 1 + 0)) by omega) ev_v
  have p0 : q396 (vw C h) (ρ 4) := c2 (P := (fun (_ : Int) c => q396 (vw C h) c)) (r := 0) (r' := 0) (show q396 (vw C h) (((0) + ((1) * ρ 4 + 0))) from hP _ (List.mem_of_getElem? (i := 0) rfl)) rfl (by omega)
  have p1 : qCp (128 * ρ 4 + 1) (ρ 5) := c2 (P := qCp) (show qCp (((1) + ((128) * ρ 4 + 0))) (((0) + ((1) * ρ 5 + 0))) from hP _ (List.mem_of_getElem? (i := 1) rfl)) (by omega) (by omega)
  have r := (r_now (k := 1) (q := 2) (by omega) (nP (by omega)) rfl p0 (Eq.trans (congrArg (vw C h 118) (show 2 = (ρ 1).toNat by omega)) a0))
  have r2 := (kCp (V := ρ 4) (k := 1) (by omega) (by omega) p1)
  refine ⟨_, List.mem_cons_self, ρ, fun _ _ => rfl, fun q hq => absurd hq List.not_mem_nil, trivial, fun f hf => ?_, fun q hq => absurd hq List.not_mem_nil, fun q hq => absurd hq List.not_mem_nil, fun q hq => absurd hq List.not_mem_nil, fun q hq => ?_⟩
  · simp only [List.mem_cons, List.not_mem_nil, or_false] at hf
    rcases hf with rfl | rfl
    · show (0 : Int) ≤ ((0) + ((-1) * ρ 3 + ((1) * ρ 5 + 0)))
      omega
    · show (0 : Int) ≤ ((0) + ((1) * ρ 3 + ((-1) * ρ 5 + 0)))
      omega
  · exact absurd hq List.not_mem_nil
/-- rdH -/
theorem lem_830_ok (hU : uqG G C) : lem_830.1.2.1 = [] ∧ lemOK (PRd G C D xs) G rgs lem_830 := by
  refine ⟨rfl, fun ρ h ha hT => ?_⟩
  obtain ⟨-, -, hF, hG, hH, hA, hP⟩ := ha
  have f0 : (0 : Int) ≤ ((1) + ((-1) * ρ 1 + 0)) := hF _ (List.mem_of_getElem? (i := 0) rfl)
  have f1 : (0 : Int) ≤ ((-1) + ((1) * ρ 1 + 0)) := hF _ (List.mem_of_getElem? (i := 1) rfl)
  have g0 : G (ρ 0).toNat = 22 := by
    have q := (hG _ (List.mem_of_getElem? (i := 0) rfl)).2
    rwa [show ev ρ (0, [(0, 1)]) = ρ 0 from ev_v] at q
  have g1 : G (ρ 2).toNat = 118 := by
    have q := (hG _ (List.mem_of_getElem? (i := 1) rfl)).2
    rwa [show ev ρ (0, [(2, 1)]) = ρ 2 from ev_v] at q
  have b0 : (0 : Int) ≤ ((0) + ((1) * ρ 1 + 0)) := b_aA (hA _ (List.mem_of_getElem? (i := 0) rfl))
  have a0 : vw C h 118 ((ρ 1).toNat) = ρ 3 := vw_aA hU (hA _ (List.mem_of_getElem? (i := 0) rfl)) ev_v g1 (by omega) (by omega) (i := (ρ 1).toNat) (show ((((ρ 1).toNat : Nat)) : Int) = ((0) + ((1) * ρ 1 + 0)) by omega) ev_v
  have p0 : q396 (vw C h) (ρ 4) := c2 (P := (fun (_ : Int) c => q396 (vw C h) c)) (r := 0) (r' := 0) (show q396 (vw C h) (((0) + ((1) * ρ 4 + 0))) from hP _ (List.mem_of_getElem? (i := 0) rfl)) rfl (by omega)
  have p1 : qCp (128 * ρ 4 + 2) (ρ 5) := c2 (P := qCp) (show qCp (((2) + ((128) * ρ 4 + 0))) (((0) + ((1) * ρ 5 + 0))) from hP _ (List.mem_of_getElem? (i := 1) rfl)) (by omega) (by omega)
  have r := (r_now (k := 2) (q := 1) (by omega) (nP (by omega)) rfl p0 (Eq.trans (congrArg (vw C h 118) (show 1 = (ρ 1).toNat by omega)) a0))
  have r2 := (kCp (V := ρ 4) (k := 2) (by omega) (by omega) p1)
  refine ⟨_, List.mem_cons_self, ρ, fun _ _ => rfl, fun q hq => absurd hq List.not_mem_nil, trivial, fun f hf => ?_, fun q hq => absurd hq List.not_mem_nil, fun q hq => absurd hq List.not_mem_nil, fun q hq => absurd hq List.not_mem_nil, fun q hq => ?_⟩
  · simp only [List.mem_cons, List.not_mem_nil, or_false] at hf
    rcases hf with rfl | rfl
    · show (0 : Int) ≤ ((0) + ((-1) * ρ 3 + ((1) * ρ 5 + 0)))
      omega
    · show (0 : Int) ≤ ((0) + ((1) * ρ 3 + ((-1) * ρ 5 + 0)))
      omega
  · exact absurd hq List.not_mem_nil
/-- rdF -/
theorem lem_831_ok (hU : uqG G C) : lem_831.1.2.1 = [] ∧ lemOK (PRd G C D xs) G rgs lem_831 := by
  refine ⟨rfl, fun ρ h ha hT => ?_⟩
  obtain ⟨-, -, hF, hG, hH, hA, hP⟩ := ha
  have f0 : (0 : Int) ≤ ((-9) + ((1) * ρ 1 + 0)) := hF _ (List.mem_of_getElem? (i := 0) rfl)
  have f1 : (0 : Int) ≤ ((16) + ((-1) * ρ 1 + 0)) := hF _ (List.mem_of_getElem? (i := 1) rfl)
  have g0 : G (ρ 0).toNat = 22 := by
    have q := (hG _ (List.mem_of_getElem? (i := 0) rfl)).2
    rwa [show ev ρ (0, [(0, 1)]) = ρ 0 from ev_v] at q
  have g1 : G (ρ 2).toNat = 118 := by
    have q := (hG _ (List.mem_of_getElem? (i := 1) rfl)).2
    rwa [show ev ρ (0, [(2, 1)]) = ρ 2 from ev_v] at q
  have b0 : (0 : Int) ≤ ((0) + ((1) * ρ 1 + 0)) := b_aA (hA _ (List.mem_of_getElem? (i := 0) rfl))
  have a0 : vw C h 118 ((ρ 1).toNat) = ρ 3 := vw_aA hU (hA _ (List.mem_of_getElem? (i := 0) rfl)) ev_v g1 (by omega) (by omega) (i := (ρ 1).toNat) (show ((((ρ 1).toNat : Nat)) : Int) = ((0) + ((1) * ρ 1 + 0)) by omega) ev_v
  have p0 : q396 (vw C h) (ρ 4) := c2 (P := (fun (_ : Int) c => q396 (vw C h) c)) (r := 0) (r' := 0) (show q396 (vw C h) (((0) + ((1) * ρ 4 + 0))) from hP _ (List.mem_of_getElem? (i := 0) rfl)) rfl (by omega)
  have p1 : qCp (ρ 1 + 128 * ρ 4 + (-5)) (ρ 5) := c2 (P := qCp) (show qCp (((-5) + ((1) * ρ 1 + ((128) * ρ 4 + 0)))) (((0) + ((1) * ρ 5 + 0))) from hP _ (List.mem_of_getElem? (i := 1) rfl)) (by omega) (by omega)
  have r := (r_now (k := 4 + ((ρ 1).toNat - 9)) (q := (ρ 1).toNat) (by omega) (nP (by omega)) (by rw [ri4 (by omega)]; omega) p0 (Eq.trans (congrArg (vw C h 118) (show (ρ 1).toNat = (ρ 1).toNat by omega)) a0))
  have r2 := (kCp (V := ρ 4) (k := 4 + ((ρ 1).toNat - 9)) (by omega) (by omega) p1)
  refine ⟨_, List.mem_cons_self, ρ, fun _ _ => rfl, fun q hq => absurd hq List.not_mem_nil, trivial, fun f hf => ?_, fun q hq => absurd hq List.not_mem_nil, fun q hq => absurd hq List.not_mem_nil, fun q hq => absurd hq List.not_mem_nil, fun q hq => ?_⟩
  · simp only [List.mem_cons, List.not_mem_nil, or_false] at hf
    rcases hf with rfl | rfl
    · show (0 : Int) ≤ ((0) + ((-1) * ρ 3 + ((1) * ρ 5 + 0)))
      omega
    · show (0 : Int) ≤ ((0) + ((1) * ρ 3 + ((-1) * ρ 5 + 0)))
      omega
  · exact absurd hq List.not_mem_nil
/-- rdG -/
theorem lem_832_ok (hU : uqG G C) : lem_832.1.2.1 = [] ∧ lemOK (PRd G C D xs) G rgs lem_832 := by
  refine ⟨rfl, fun ρ h ha hT => ?_⟩
  obtain ⟨-, -, hF, hG, hH, hA, hP⟩ := ha
  have f0 : (0 : Int) ≤ ((-41) + ((1) * ρ 1 + 0)) := hF _ (List.mem_of_getElem? (i := 0) rfl)
  have f1 : (0 : Int) ≤ ((48) + ((-1) * ρ 1 + 0)) := hF _ (List.mem_of_getElem? (i := 1) rfl)
  have g0 : G (ρ 0).toNat = 22 := by
    have q := (hG _ (List.mem_of_getElem? (i := 0) rfl)).2
    rwa [show ev ρ (0, [(0, 1)]) = ρ 0 from ev_v] at q
  have g1 : G (ρ 2).toNat = 118 := by
    have q := (hG _ (List.mem_of_getElem? (i := 1) rfl)).2
    rwa [show ev ρ (0, [(2, 1)]) = ρ 2 from ev_v] at q
  have b0 : (0 : Int) ≤ ((0) + ((1) * ρ 1 + 0)) := b_aA (hA _ (List.mem_of_getElem? (i := 0) rfl))
  have a0 : vw C h 118 ((ρ 1).toNat) = ρ 3 := vw_aA hU (hA _ (List.mem_of_getElem? (i := 0) rfl)) ev_v g1 (by omega) (by omega) (i := (ρ 1).toNat) (show ((((ρ 1).toNat : Nat)) : Int) = ((0) + ((1) * ρ 1 + 0)) by omega) ev_v
  have p0 : q396 (vw C h) (ρ 4) := c2 (P := (fun (_ : Int) c => q396 (vw C h) c)) (r := 0) (r' := 0) (show q396 (vw C h) (((0) + ((1) * ρ 4 + 0))) from hP _ (List.mem_of_getElem? (i := 0) rfl)) rfl (by omega)
  have p1 : qCp (ρ 1 + 128 * ρ 4 + (-21)) (ρ 5) := c2 (P := qCp) (show qCp (((-21) + ((1) * ρ 1 + ((128) * ρ 4 + 0)))) (((0) + ((1) * ρ 5 + 0))) from hP _ (List.mem_of_getElem? (i := 1) rfl)) (by omega) (by omega)
  have r := (r_now (k := 20 + ((ρ 1).toNat - 41)) (q := (ρ 1).toNat) (by omega) (nP (by omega)) (by rw [ri20 (by omega)]; omega) p0 (Eq.trans (congrArg (vw C h 118) (show (ρ 1).toNat = (ρ 1).toNat by omega)) a0))
  have r2 := (kCp (V := ρ 4) (k := 20 + ((ρ 1).toNat - 41)) (by omega) (by omega) p1)
  refine ⟨_, List.mem_cons_self, ρ, fun _ _ => rfl, fun q hq => absurd hq List.not_mem_nil, trivial, fun f hf => ?_, fun q hq => absurd hq List.not_mem_nil, fun q hq => absurd hq List.not_mem_nil, fun q hq => absurd hq List.not_mem_nil, fun q hq => ?_⟩
  · simp only [List.mem_cons, List.not_mem_nil, or_false] at hf
    rcases hf with rfl | rfl
    · show (0 : Int) ≤ ((0) + ((-1) * ρ 3 + ((1) * ρ 5 + 0)))
      omega
    · show (0 : Int) ≤ ((0) + ((1) * ρ 3 + ((-1) * ρ 5 + 0)))
      omega
  · exact absurd hq List.not_mem_nil
/-- rdU -/
theorem lem_833_ok (hU : uqG G C) : lem_833.1.2.1 = [] ∧ lemOK (PRd G C D xs) G rgs lem_833 := by
  refine ⟨rfl, fun ρ h ha hT => ?_⟩
  obtain ⟨-, -, hF, hG, hH, hA, hP⟩ := ha
  have f0 : (0 : Int) ≤ ((0) + ((1) * ρ 1 + 0)) := hF _ (List.mem_of_getElem? (i := 0) rfl)
  have f1 : (0 : Int) ≤ ((7) + ((-1) * ρ 1 + 0)) := hF _ (List.mem_of_getElem? (i := 1) rfl)
  have g0 : G (ρ 0).toNat = 22 := by
    have q := (hG _ (List.mem_of_getElem? (i := 0) rfl)).2
    rwa [show ev ρ (0, [(0, 1)]) = ρ 0 from ev_v] at q
  have g1 : G (ρ 2).toNat = 118 := by
    have q := (hG _ (List.mem_of_getElem? (i := 1) rfl)).2
    rwa [show ev ρ (0, [(2, 1)]) = ρ 2 from ev_v] at q
  have b0 : (0 : Int) ≤ ((49) + ((1) * ρ 1 + 0)) := b_aA (hA _ (List.mem_of_getElem? (i := 0) rfl))
  have a0 : vw C h 118 (49 + (ρ 1).toNat) = ρ 3 := vw_aA hU (hA _ (List.mem_of_getElem? (i := 0) rfl)) ev_v g1 (by omega) (by omega) (i := 49 + (ρ 1).toNat) (show (((49 + (ρ 1).toNat : Nat)) : Int) = ((49) + ((1) * ρ 1 + 0)) by omega) ev_v
  have p0 : q396 (vw C h) (ρ 4) := c2 (P := (fun (_ : Int) c => q396 (vw C h) c)) (r := 0) (r' := 0) (show q396 (vw C h) (((0) + ((1) * ρ 4 + 0))) from hP _ (List.mem_of_getElem? (i := 0) rfl)) rfl (by omega)
  have p1 : qCp (ρ 1 + 128 * ρ 4 + 28) (ρ 5) := c2 (P := qCp) (show qCp (((28) + ((1) * ρ 1 + ((128) * ρ 4 + 0)))) (((0) + ((1) * ρ 5 + 0))) from hP _ (List.mem_of_getElem? (i := 1) rfl)) (by omega) (by omega)
  have r := (r_now (k := 28 + (ρ 1).toNat) (q := 49 + (ρ 1).toNat) (by omega) (nP (by omega)) (ri28 (by omega)) p0 (Eq.trans (congrArg (vw C h 118) (show 49 + (ρ 1).toNat = 49 + (ρ 1).toNat by omega)) a0))
  have r2 := (kCp (V := ρ 4) (k := 28 + (ρ 1).toNat) (by omega) (by omega) p1)
  refine ⟨_, List.mem_cons_self, ρ, fun _ _ => rfl, fun q hq => absurd hq List.not_mem_nil, trivial, fun f hf => ?_, fun q hq => absurd hq List.not_mem_nil, fun q hq => absurd hq List.not_mem_nil, fun q hq => absurd hq List.not_mem_nil, fun q hq => ?_⟩
  · simp only [List.mem_cons, List.not_mem_nil, or_false] at hf
    rcases hf with rfl | rfl
    · show (0 : Int) ≤ ((0) + ((-1) * ρ 3 + ((1) * ρ 5 + 0)))
      omega
    · show (0 : Int) ≤ ((0) + ((1) * ρ 3 + ((-1) * ρ 5 + 0)))
      omega
  · exact absurd hq List.not_mem_nil
/-- kpGu -/
theorem lem_834_ok (hU : uqG G C) : lem_834.1.2.1 = [] ∧ lemOK (PRd G C D xs) G rgs lem_834 := by
  refine ⟨rfl, fun ρ h ha hT => ?_⟩
  obtain ⟨-, -, hF, hG, hH, hA, hP⟩ := ha
  have f0 : (0 : Int) ≤ ((0) + ((1) * ρ 0 + 0)) := hF _ (List.mem_of_getElem? (i := 0) rfl)
  have f1 : (0 : Int) ≤ ((7) + ((-1) * ρ 0 + 0)) := hF _ (List.mem_of_getElem? (i := 1) rfl)
  have f2 : (0 : Int) ≤ ((0) + ((1) * ρ 1 + 0)) := hF _ (List.mem_of_getElem? (i := 2) rfl)
  have f3 : (0 : Int) ≤ ((9999) + ((-1) * ρ 1 + 0)) := hF _ (List.mem_of_getElem? (i := 3) rfl)
  have p0 : q396 (vw C h) (ρ 2) := c2 (P := (fun (_ : Int) c => q396 (vw C h) c)) (r := 0) (r' := 0) (show q396 (vw C h) (((0) + ((1) * ρ 2 + 0))) from hP _ (List.mem_of_getElem? (i := 0) rfl)) rfl (by omega)
  have p1 : True := c2 (P := (fun (_ _ : Int) => True)) (r := 0) (r' := 0) (c := 0) (c' := 0) (show True from hP _ (List.mem_of_getElem? (i := 1) rfl)) rfl rfl
  have p2 : qSet (65536 * ρ 0 + ρ 1 + 16777216 * ρ 3 + 1310720) (ρ 2) := c2 (P := qSet) (show qSet (((1310720) + ((65536) * ρ 0 + ((1) * ρ 1 + ((16777216) * ρ 3 + 0))))) (((0) + ((1) * ρ 2 + 0))) from hP _ (List.mem_of_getElem? (i := 2) rfl)) (by omega) (by omega)
  have p3 : qCp (ρ 0 + 128 * ρ 3 + 28) (ρ 4) := c2 (P := qCp) (show qCp (((28) + ((1) * ρ 0 + ((128) * ρ 3 + 0)))) (((0) + ((1) * ρ 4 + 0))) from hP _ (List.mem_of_getElem? (i := 3) rfl)) (by omega) (by omega)
  have rb := kSet (V := ρ 3) (v := ρ 1) (k := 20 + (ρ 0).toNat) (by omega) (by omega) (by omega) (by omega) p2
  refine ⟨_, List.mem_cons_self, ρ, fun _ _ => rfl, fun q hq => absurd hq List.not_mem_nil, trivial, fun f hf => ?_, fun q hq => absurd hq List.not_mem_nil, fun q hq => absurd hq List.not_mem_nil, fun q hq => absurd hq List.not_mem_nil, fun q hq => ?_⟩
  · exact absurd hf List.not_mem_nil
  · simp only [List.mem_cons, List.not_mem_nil, or_false] at hq
    subst hq
    show qCp (((28) + ((1) * ρ 0 + ((128) * ρ 2 + 0)))) (((0) + ((1) * ρ 4 + 0)))
    refine c2 (P := qCp) (r := ρ 0 + 128 * ρ 2 + 28) (c := ρ 4) ?_ (by omega) (by omega)
    show qCp (ρ 0 + 128 * ρ 2 + 28) (ρ 4)
    exact oCp (V := ρ 2) (k := 28 + (ρ 0).toNat) (by omega) (by omega) (by rw [rb, Int.toNat_natCast, cp_ne (by omega)]; exact (kCp (V := ρ 3) (k := 28 + (ρ 0).toNat) (by omega) (by omega) p3))
/-- rg37 -/
theorem lem_835_ok (hU : uqG G C) : lem_835.1.2.1 = [] ∧ lemOK (PRd G C D xs) G rgs lem_835 := by
  refine ⟨rfl, fun ρ h ha hT => ?_⟩
  obtain ⟨-, -, hF, hG, hH, hA, hP⟩ := ha
  have p0 : q396 (vw C h) (ρ 0) := c2 (P := (fun (_ : Int) c => q396 (vw C h) c)) (r := 0) (r' := 0) (show q396 (vw C h) (((0) + ((1) * ρ 0 + 0))) from hP _ (List.mem_of_getElem? (i := 0) rfl)) rfl (by omega)
  refine ⟨_, List.mem_cons_self, ρ, fun _ _ => rfl, fun q hq => absurd hq List.not_mem_nil, trivial, fun f hf => ?_, fun q hq => absurd hq List.not_mem_nil, fun q hq => absurd hq List.not_mem_nil, fun q hq => absurd hq List.not_mem_nil, fun q hq => ?_⟩
  · exact absurd hf List.not_mem_nil
  · simp only [List.mem_cons, List.not_mem_nil, or_false] at hq
    subst hq
    show True
    refine c2 (P := (fun (_ _ : Int) => True)) (r := 0) (r' := 0) (c := 0) (c' := 0) ?_ rfl rfl
    show True
    trivial
/-- spG1 -/
theorem lem_836_ok (hU : uqG G C) : lem_836.1.2.1 = [] ∧ lemOK (PRd G C D xs) G rgs lem_836 := by
  refine ⟨rfl, fun ρ h ha hT => ?_⟩
  obtain ⟨-, -, hF, hG, hH, hA, hP⟩ := ha
  have f0 : (0 : Int) ≤ ((-1) + ((1) * ρ 3 + 0)) := hF _ (List.mem_of_getElem? (i := 0) rfl)
  have f1 : (0 : Int) ≤ ((0) + ((1) * ρ 1 + 0)) := hF _ (List.mem_of_getElem? (i := 1) rfl)
  have f2 : (0 : Int) ≤ ((-1) + ((-1) * ρ 1 + ((1) * ρ 5 + 0))) := hF _ (List.mem_of_getElem? (i := 2) rfl)
  have g0 : G (ρ 2).toNat = 22 := by
    have q := (hG _ (List.mem_of_getElem? (i := 0) rfl)).2
    rwa [show ev ρ (0, [(2, 1)]) = ρ 2 from ev_v] at q
  have g1 : G (ρ 4).toNat = 123 := by
    have q := (hG _ (List.mem_of_getElem? (i := 1) rfl)).2
    rwa [show ev ρ (0, [(4, 1)]) = ρ 4 from ev_v] at q
  have h0 : (0 : Int) ≤ ρ 3 ∧ ρ 3 ≤ 1 := hf_rg hT (hH _ (List.mem_of_getElem? (i := 0) rfl)) ev_v g0 rfl rfl rfl ev_v
  have b0 : (0 : Int) ≤ ((7) + 0) := b_aA (hA _ (List.mem_of_getElem? (i := 0) rfl))
  have a0 : vw C h 123 (7) = ρ 5 := vw_aA hU (hA _ (List.mem_of_getElem? (i := 0) rfl)) ev_v g1 (by omega) (by omega) (i := 7) (show (((7 : Nat)) : Int) = ((7) + 0) by omega) ev_v
  rcases (by omega : ((0 : Int) ≤ (-1) * ρ 0 + (-1)) ∨ ((0 : Int) ≤ ρ 0 + (-10000)) ∨ ((0 : Int) ≤ ρ 0 ∧ (0 : Int) ≤ (-1) * ρ 0 + 9999)) with hc | hc | hc
  · refine ⟨_, List.mem_cons_self, ρ, fun _ _ => rfl, fun q hq => absurd hq List.not_mem_nil, trivial, fun f hf => ?_, fun q hq => absurd hq List.not_mem_nil, fun q hq => absurd hq List.not_mem_nil, fun q hq => absurd hq List.not_mem_nil, fun q hq => ?_⟩
    · simp only [List.mem_cons, List.not_mem_nil, or_false] at hf
      subst hf
      show (0 : Int) ≤ ((-1) + ((-1) * ρ 0 + 0))
      omega
    · exact absurd hq List.not_mem_nil
  · refine ⟨_, (List.mem_cons_of_mem _ List.mem_cons_self), ρ, fun _ _ => rfl, fun q hq => absurd hq List.not_mem_nil, trivial, fun f hf => ?_, fun q hq => absurd hq List.not_mem_nil, fun q hq => absurd hq List.not_mem_nil, fun q hq => absurd hq List.not_mem_nil, fun q hq => ?_⟩
    · simp only [List.mem_cons, List.not_mem_nil, or_false] at hf
      subst hf
      show (0 : Int) ≤ ((-10000) + ((1) * ρ 0 + 0))
      omega
    · exact absurd hq List.not_mem_nil
  · refine ⟨_, (List.mem_cons_of_mem _ (List.mem_cons_of_mem _ List.mem_cons_self)), ρ, fun _ _ => rfl, fun q hq => absurd hq List.not_mem_nil, trivial, fun f hf => ?_, fun q hq => absurd hq List.not_mem_nil, fun q hq => absurd hq List.not_mem_nil, fun q hq => absurd hq List.not_mem_nil, fun q hq => ?_⟩
    · simp only [List.mem_cons, List.not_mem_nil, or_false] at hf
      rcases hf with rfl | rfl
      · show (0 : Int) ≤ ((0) + ((1) * ρ 0 + 0))
        omega
      · show (0 : Int) ≤ ((9999) + ((-1) * ρ 0 + 0))
        omega
    · exact absurd hq List.not_mem_nil
/-- spG2 -/
theorem lem_837_ok (hU : uqG G C) : lem_837.1.2.1 = [] ∧ lemOK (PRd G C D xs) G rgs lem_837 := by
  refine ⟨rfl, fun ρ h ha hT => ?_⟩
  obtain ⟨-, -, hF, hG, hH, hA, hP⟩ := ha
  have f0 : (0 : Int) ≤ ((-1) + ((1) * ρ 4 + 0)) := hF _ (List.mem_of_getElem? (i := 0) rfl)
  have f1 : (0 : Int) ≤ ((0) + ((1) * ρ 2 + 0)) := hF _ (List.mem_of_getElem? (i := 1) rfl)
  have f2 : (0 : Int) ≤ ((-1) + ((-1) * ρ 2 + ((1) * ρ 6 + 0))) := hF _ (List.mem_of_getElem? (i := 2) rfl)
  have f3 : (0 : Int) ≤ ((0) + ((1) * ρ 1 + 0)) := hF _ (List.mem_of_getElem? (i := 3) rfl)
  have f4 : (0 : Int) ≤ ((9999) + ((-1) * ρ 1 + 0)) := hF _ (List.mem_of_getElem? (i := 4) rfl)
  have g0 : G (ρ 3).toNat = 22 := by
    have q := (hG _ (List.mem_of_getElem? (i := 0) rfl)).2
    rwa [show ev ρ (0, [(3, 1)]) = ρ 3 from ev_v] at q
  have g1 : G (ρ 5).toNat = 123 := by
    have q := (hG _ (List.mem_of_getElem? (i := 1) rfl)).2
    rwa [show ev ρ (0, [(5, 1)]) = ρ 5 from ev_v] at q
  have h0 : (0 : Int) ≤ ρ 4 ∧ ρ 4 ≤ 1 := hf_rg hT (hH _ (List.mem_of_getElem? (i := 0) rfl)) ev_v g0 rfl rfl rfl ev_v
  have b0 : (0 : Int) ≤ ((7) + 0) := b_aA (hA _ (List.mem_of_getElem? (i := 0) rfl))
  have a0 : vw C h 123 (7) = ρ 6 := vw_aA hU (hA _ (List.mem_of_getElem? (i := 0) rfl)) ev_v g1 (by omega) (by omega) (i := 7) (show (((7 : Nat)) : Int) = ((7) + 0) by omega) ev_v
  rcases (by omega : ((0 : Int) ≤ (-1) * ρ 0 + (-1)) ∨ ((0 : Int) ≤ ρ 0 + (-10000)) ∨ ((0 : Int) ≤ ρ 0 ∧ (0 : Int) ≤ (-1) * ρ 0 + 9999)) with hc | hc | hc
  · refine ⟨_, List.mem_cons_self, ρ, fun _ _ => rfl, fun q hq => absurd hq List.not_mem_nil, trivial, fun f hf => ?_, fun q hq => absurd hq List.not_mem_nil, fun q hq => absurd hq List.not_mem_nil, fun q hq => absurd hq List.not_mem_nil, fun q hq => ?_⟩
    · simp only [List.mem_cons, List.not_mem_nil, or_false] at hf
      subst hf
      show (0 : Int) ≤ ((-1) + ((-1) * ρ 0 + 0))
      omega
    · exact absurd hq List.not_mem_nil
  · refine ⟨_, (List.mem_cons_of_mem _ List.mem_cons_self), ρ, fun _ _ => rfl, fun q hq => absurd hq List.not_mem_nil, trivial, fun f hf => ?_, fun q hq => absurd hq List.not_mem_nil, fun q hq => absurd hq List.not_mem_nil, fun q hq => absurd hq List.not_mem_nil, fun q hq => ?_⟩
    · simp only [List.mem_cons, List.not_mem_nil, or_false] at hf
      subst hf
      show (0 : Int) ≤ ((-10000) + ((1) * ρ 0 + 0))
      omega
    · exact absurd hq List.not_mem_nil
  · refine ⟨_, (List.mem_cons_of_mem _ (List.mem_cons_of_mem _ List.mem_cons_self)), ρ, fun _ _ => rfl, fun q hq => absurd hq List.not_mem_nil, trivial, fun f hf => ?_, fun q hq => absurd hq List.not_mem_nil, fun q hq => absurd hq List.not_mem_nil, fun q hq => absurd hq List.not_mem_nil, fun q hq => ?_⟩
    · simp only [List.mem_cons, List.not_mem_nil, or_false] at hf
      rcases hf with rfl | rfl
      · show (0 : Int) ≤ ((0) + ((1) * ρ 0 + 0))
        omega
      · show (0 : Int) ≤ ((9999) + ((-1) * ρ 0 + 0))
        omega
    · exact absurd hq List.not_mem_nil
/-- spG3 -/
theorem lem_838_ok (hU : uqG G C) : lem_838.1.2.1 = [] ∧ lemOK (PRd G C D xs) G rgs lem_838 := by
  refine ⟨rfl, fun ρ h ha hT => ?_⟩
  obtain ⟨-, -, hF, hG, hH, hA, hP⟩ := ha
  have f0 : (0 : Int) ≤ ((-1) + ((1) * ρ 4 + 0)) := hF _ (List.mem_of_getElem? (i := 0) rfl)
  have f1 : (0 : Int) ≤ ((0) + ((1) * ρ 2 + 0)) := hF _ (List.mem_of_getElem? (i := 1) rfl)
  have f2 : (0 : Int) ≤ ((-1) + ((-1) * ρ 2 + ((1) * ρ 6 + 0))) := hF _ (List.mem_of_getElem? (i := 2) rfl)
  have f3 : (0 : Int) ≤ ((0) + ((1) * ρ 1 + 0)) := hF _ (List.mem_of_getElem? (i := 3) rfl)
  have f4 : (0 : Int) ≤ ((9999) + ((-1) * ρ 1 + 0)) := hF _ (List.mem_of_getElem? (i := 4) rfl)
  have f5 : (0 : Int) ≤ ((0) + ((1) * ρ 0 + 0)) := hF _ (List.mem_of_getElem? (i := 5) rfl)
  have f6 : (0 : Int) ≤ ((9999) + ((-1) * ρ 0 + 0)) := hF _ (List.mem_of_getElem? (i := 6) rfl)
  have g0 : G (ρ 3).toNat = 22 := by
    have q := (hG _ (List.mem_of_getElem? (i := 0) rfl)).2
    rwa [show ev ρ (0, [(3, 1)]) = ρ 3 from ev_v] at q
  have g1 : G (ρ 5).toNat = 123 := by
    have q := (hG _ (List.mem_of_getElem? (i := 1) rfl)).2
    rwa [show ev ρ (0, [(5, 1)]) = ρ 5 from ev_v] at q
  have h0 : (0 : Int) ≤ ρ 4 ∧ ρ 4 ≤ 1 := hf_rg hT (hH _ (List.mem_of_getElem? (i := 0) rfl)) ev_v g0 rfl rfl rfl ev_v
  have b0 : (0 : Int) ≤ ((7) + 0) := b_aA (hA _ (List.mem_of_getElem? (i := 0) rfl))
  have a0 : vw C h 123 (7) = ρ 6 := vw_aA hU (hA _ (List.mem_of_getElem? (i := 0) rfl)) ev_v g1 (by omega) (by omega) (i := 7) (show (((7 : Nat)) : Int) = ((7) + 0) by omega) ev_v
  have p0 : q396 (vw C h) (ρ 7) := c2 (P := (fun (_ : Int) c => q396 (vw C h) c)) (r := 0) (r' := 0) (show q396 (vw C h) (((0) + ((1) * ρ 7 + 0))) from hP _ (List.mem_of_getElem? (i := 0) rfl)) rfl (by omega)
  have p1 : qCp (ρ 2 + 128 * ρ 7 + 20) (ρ 8) := c2 (P := qCp) (show qCp (((20) + ((1) * ρ 2 + ((128) * ρ 7 + 0)))) (((0) + ((1) * ρ 8 + 0))) from hP _ (List.mem_of_getElem? (i := 1) rfl)) (by omega) (by omega)
  rcases (by omega : ((0 : Int) ≤ ρ 1 + (-1) * ρ 8 + (-1)) ∨ ((0 : Int) ≤ (-1) * ρ 1 + ρ 8 + (-1)) ∨ ((0 : Int) ≤ ρ 1 + (-1) * ρ 8 ∧ (0 : Int) ≤ (-1) * ρ 1 + ρ 8)) with hc | hc | hc
  · refine ⟨_, List.mem_cons_self, ρ, fun _ _ => rfl, fun q hq => absurd hq List.not_mem_nil, trivial, fun f hf => ?_, fun q hq => absurd hq List.not_mem_nil, fun q hq => absurd hq List.not_mem_nil, fun q hq => absurd hq List.not_mem_nil, fun q hq => ?_⟩
    · simp only [List.mem_cons, List.not_mem_nil, or_false] at hf
      subst hf
      show (0 : Int) ≤ ((-1) + ((1) * ρ 1 + ((-1) * ρ 8 + 0)))
      omega
    · exact absurd hq List.not_mem_nil
  · refine ⟨_, (List.mem_cons_of_mem _ List.mem_cons_self), ρ, fun _ _ => rfl, fun q hq => absurd hq List.not_mem_nil, trivial, fun f hf => ?_, fun q hq => absurd hq List.not_mem_nil, fun q hq => absurd hq List.not_mem_nil, fun q hq => absurd hq List.not_mem_nil, fun q hq => ?_⟩
    · simp only [List.mem_cons, List.not_mem_nil, or_false] at hf
      subst hf
      show (0 : Int) ≤ ((-1) + ((-1) * ρ 1 + ((1) * ρ 8 + 0)))
      omega
    · exact absurd hq List.not_mem_nil
  · refine ⟨_, (List.mem_cons_of_mem _ (List.mem_cons_of_mem _ List.mem_cons_self)), ρ, fun _ _ => rfl, fun q hq => absurd hq List.not_mem_nil, trivial, fun f hf => ?_, fun q hq => absurd hq List.not_mem_nil, fun q hq => absurd hq List.not_mem_nil, fun q hq => absurd hq List.not_mem_nil, fun q hq => ?_⟩
    · simp only [List.mem_cons, List.not_mem_nil, or_false] at hf
      rcases hf with rfl | rfl
      · show (0 : Int) ≤ ((0) + ((1) * ρ 1 + ((-1) * ρ 8 + 0)))
        omega
      · show (0 : Int) ≤ ((0) + ((-1) * ρ 1 + ((1) * ρ 8 + 0)))
        omega
    · exact absurd hq List.not_mem_nil
/-- spG4 -/
theorem lem_839_ok (hU : uqG G C) : lem_839.1.2.1 = [] ∧ lemOK (PRd G C D xs) G rgs lem_839 := by
  refine ⟨rfl, fun ρ h ha hT => ?_⟩
  obtain ⟨-, -, hF, hG, hH, hA, hP⟩ := ha
  have f0 : (0 : Int) ≤ ((-1) + ((1) * ρ 4 + 0)) := hF _ (List.mem_of_getElem? (i := 0) rfl)
  have f1 : (0 : Int) ≤ ((0) + ((1) * ρ 2 + 0)) := hF _ (List.mem_of_getElem? (i := 1) rfl)
  have f2 : (0 : Int) ≤ ((-1) + ((-1) * ρ 2 + ((1) * ρ 6 + 0))) := hF _ (List.mem_of_getElem? (i := 2) rfl)
  have f3 : (0 : Int) ≤ ((0) + ((1) * ρ 1 + 0)) := hF _ (List.mem_of_getElem? (i := 3) rfl)
  have f4 : (0 : Int) ≤ ((9999) + ((-1) * ρ 1 + 0)) := hF _ (List.mem_of_getElem? (i := 4) rfl)
  have f5 : (0 : Int) ≤ ((0) + ((1) * ρ 0 + 0)) := hF _ (List.mem_of_getElem? (i := 5) rfl)
  have f6 : (0 : Int) ≤ ((9999) + ((-1) * ρ 0 + 0)) := hF _ (List.mem_of_getElem? (i := 6) rfl)
  have f7 : (0 : Int) ≤ ((0) + ((1) * ρ 1 + ((-1) * ρ 8 + 0))) := hF _ (List.mem_of_getElem? (i := 7) rfl)
  have f8 : (0 : Int) ≤ ((0) + ((-1) * ρ 1 + ((1) * ρ 8 + 0))) := hF _ (List.mem_of_getElem? (i := 8) rfl)
  have g0 : G (ρ 3).toNat = 22 := by
    have q := (hG _ (List.mem_of_getElem? (i := 0) rfl)).2
    rwa [show ev ρ (0, [(3, 1)]) = ρ 3 from ev_v] at q
  have g1 : G (ρ 5).toNat = 123 := by
    have q := (hG _ (List.mem_of_getElem? (i := 1) rfl)).2
    rwa [show ev ρ (0, [(5, 1)]) = ρ 5 from ev_v] at q
  have h0 : (0 : Int) ≤ ρ 4 ∧ ρ 4 ≤ 1 := hf_rg hT (hH _ (List.mem_of_getElem? (i := 0) rfl)) ev_v g0 rfl rfl rfl ev_v
  have b0 : (0 : Int) ≤ ((7) + 0) := b_aA (hA _ (List.mem_of_getElem? (i := 0) rfl))
  have a0 : vw C h 123 (7) = ρ 6 := vw_aA hU (hA _ (List.mem_of_getElem? (i := 0) rfl)) ev_v g1 (by omega) (by omega) (i := 7) (show (((7 : Nat)) : Int) = ((7) + 0) by omega) ev_v
  have p0 : q396 (vw C h) (ρ 7) := c2 (P := (fun (_ : Int) c => q396 (vw C h) c)) (r := 0) (r' := 0) (show q396 (vw C h) (((0) + ((1) * ρ 7 + 0))) from hP _ (List.mem_of_getElem? (i := 0) rfl)) rfl (by omega)
  have p1 : qCp (ρ 2 + 128 * ρ 7 + 20) (ρ 8) := c2 (P := qCp) (show qCp (((20) + ((1) * ρ 2 + ((128) * ρ 7 + 0)))) (((0) + ((1) * ρ 8 + 0))) from hP _ (List.mem_of_getElem? (i := 1) rfl)) (by omega) (by omega)
  have p2 : qCp (ρ 2 + 128 * ρ 7 + 28) (ρ 9) := c2 (P := qCp) (show qCp (((28) + ((1) * ρ 2 + ((128) * ρ 7 + 0)))) (((0) + ((1) * ρ 9 + 0))) from hP _ (List.mem_of_getElem? (i := 2) rfl)) (by omega) (by omega)
  rcases (by omega : ((0 : Int) ≤ ρ 0 + (-1) * ρ 9 + (-1)) ∨ ((0 : Int) ≤ (-1) * ρ 0 + ρ 9 + (-1)) ∨ ((0 : Int) ≤ ρ 0 + (-1) * ρ 9 ∧ (0 : Int) ≤ (-1) * ρ 0 + ρ 9)) with hc | hc | hc
  · refine ⟨_, List.mem_cons_self, ρ, fun _ _ => rfl, fun q hq => absurd hq List.not_mem_nil, trivial, fun f hf => ?_, fun q hq => absurd hq List.not_mem_nil, fun q hq => absurd hq List.not_mem_nil, fun q hq => absurd hq List.not_mem_nil, fun q hq => ?_⟩
    · simp only [List.mem_cons, List.not_mem_nil, or_false] at hf
      subst hf
      show (0 : Int) ≤ ((-1) + ((1) * ρ 0 + ((-1) * ρ 9 + 0)))
      omega
    · exact absurd hq List.not_mem_nil
  · refine ⟨_, (List.mem_cons_of_mem _ List.mem_cons_self), ρ, fun _ _ => rfl, fun q hq => absurd hq List.not_mem_nil, trivial, fun f hf => ?_, fun q hq => absurd hq List.not_mem_nil, fun q hq => absurd hq List.not_mem_nil, fun q hq => absurd hq List.not_mem_nil, fun q hq => ?_⟩
    · simp only [List.mem_cons, List.not_mem_nil, or_false] at hf
      subst hf
      show (0 : Int) ≤ ((-1) + ((-1) * ρ 0 + ((1) * ρ 9 + 0)))
      omega
    · exact absurd hq List.not_mem_nil
  · refine ⟨_, (List.mem_cons_of_mem _ (List.mem_cons_of_mem _ List.mem_cons_self)), ρ, fun _ _ => rfl, fun q hq => absurd hq List.not_mem_nil, trivial, fun f hf => ?_, fun q hq => absurd hq List.not_mem_nil, fun q hq => absurd hq List.not_mem_nil, fun q hq => absurd hq List.not_mem_nil, fun q hq => ?_⟩
    · simp only [List.mem_cons, List.not_mem_nil, or_false] at hf
      rcases hf with rfl | rfl
      · show (0 : Int) ≤ ((0) + ((1) * ρ 0 + ((-1) * ρ 9 + 0)))
        omega
      · show (0 : Int) ≤ ((0) + ((-1) * ρ 0 + ((1) * ρ 9 + 0)))
        omega
    · exact absurd hq List.not_mem_nil
/-- rpM -/
theorem lem_840_ok (hU : uqG G C) : lem_840.1.2.1 = [] ∧ lemOK (PRd G C D xs) G rgs lem_840 := by
  refine ⟨rfl, fun ρ h ha hT => ?_⟩
  obtain ⟨-, -, hF, hG, hH, hA, hP⟩ := ha
  have f0 : (0 : Int) ≤ ((2) + ((-1) * ρ 1 + ((7) * ρ 2 + ((1) * ρ 3 + 0)))) := hF _ (List.mem_of_getElem? (i := 0) rfl)
  have f1 : (0 : Int) ≤ ((-2) + ((1) * ρ 1 + ((-7) * ρ 2 + ((-1) * ρ 3 + 0)))) := hF _ (List.mem_of_getElem? (i := 1) rfl)
  have f2 : (0 : Int) ≤ ((0) + ((1) * ρ 2 + 0)) := hF _ (List.mem_of_getElem? (i := 2) rfl)
  have f3 : (0 : Int) ≤ ((7) + ((-1) * ρ 2 + 0)) := hF _ (List.mem_of_getElem? (i := 3) rfl)
  have f4 : (0 : Int) ≤ ((-1) + ((-1) * ρ 2 + ((1) * ρ 5 + 0))) := hF _ (List.mem_of_getElem? (i := 4) rfl)
  have g0 : G (ρ 0).toNat = 21 := by
    have q := (hG _ (List.mem_of_getElem? (i := 0) rfl)).2
    rwa [show ev ρ (0, [(0, 1)]) = ρ 0 from ev_v] at q
  have g1 : G (ρ 3).toNat = 20 := by
    have q := (hG _ (List.mem_of_getElem? (i := 1) rfl)).2
    rwa [show ev ρ (0, [(3, 1)]) = ρ 3 from ev_v] at q
  have g2 : G (ρ 1).toNat = 13 := by
    have q := (hG _ (List.mem_of_getElem? (i := 2) rfl)).2
    rwa [show ev ρ (0, [(1, 1)]) = ρ 1 from ev_v] at q
  have p0 : q210 G (ρ 3) (ρ 4) (rfv h) := c2 (P := (fun r c => q210 G r c (rfv h))) (show q210 G (((0) + ((1) * ρ 3 + 0))) (((0) + ((1) * ρ 4 + 0))) (rfv h) from hP _ (List.mem_of_getElem? (i := 0) rfl)) (by omega) (by omega)
  have p1 : qCp (128 * ρ 4 + 3) (ρ 5) := c2 (P := qCp) (show qCp (((3) + ((128) * ρ 4 + 0))) (((0) + ((1) * ρ 5 + 0))) from hP _ (List.mem_of_getElem? (i := 1) rfl)) (by omega) (by omega)
  have p2 : qCp (ρ 2 + 128 * ρ 4 + 20) (ρ 6) := c2 (P := qCp) (show qCp (((20) + ((1) * ρ 2 + ((128) * ρ 4 + 0)))) (((0) + ((1) * ρ 6 + 0))) from hP _ (List.mem_of_getElem? (i := 2) rfl)) (by omega) (by omega)
  have p3 : qCp (ρ 2 + 128 * ρ 4 + 28) (ρ 7) := c2 (P := qCp) (show qCp (((28) + ((1) * ρ 2 + ((128) * ρ 4 + 0)))) (((0) + ((1) * ρ 7 + 0))) from hP _ (List.mem_of_getElem? (i := 3) rfl)) (by omega) (by omega)
  have cT : 0 ≤ ρ 0 := by
    have q := (hG _ (List.mem_of_getElem? (i := 0) rfl)).1
    rwa [show ev ρ (0, [(0, 1)]) = ρ 0 from ev_v] at q
  have cX : 0 ≤ ρ 3 := by
    have q := (hG _ (List.mem_of_getElem? (i := 1) rfl)).1
    rwa [show ev ρ (0, [(3, 1)]) = ρ 3 from ev_v] at q
  have cM : 0 ≤ ρ 1 := by
    have q := (hG _ (List.mem_of_getElem? (i := 2) rfl)).1
    rwa [show ev ρ (0, [(1, 1)]) = ρ 1 from ev_v] at q
  have y0 : rfv h (ρ 0).toNat 8 = some (.ref (ρ 3).toNat) := ob_v hT (hH _ (List.mem_of_getElem? (i := 0) rfl)) ev_v g0 rfl ev_v
  obtain ⟨r1, r2, r3⟩ := s_rpM (V := ρ 4) (m := (ρ 2).toNat) (c := ρ 5) (f := ρ 6) (u := ρ 7) (by omega) g2 (by omega) (kCp (V := ρ 4) (k := 3) (by omega) (by omega) p1) (by omega) (kCp (V := ρ 4) (k := 20 + (ρ 2).toNat) (by omega) (by omega) p2) (kCp (V := ρ 4) (k := 28 + (ρ 2).toNat) (by omega) (by omega) p3) (q210.o p0)
  refine ⟨_, List.mem_cons_self, ρ, fun _ _ => rfl, fun q hq => absurd hq List.not_mem_nil, trivial, fun f hf => ?_, fun q hq => absurd hq List.not_mem_nil, fun q hq => absurd hq List.not_mem_nil, fun q hq => absurd hq List.not_mem_nil, fun q hq => ?_⟩
  · exact absurd hf List.not_mem_nil
  · simp only [List.mem_cons, List.not_mem_nil, or_false] at hq
    rcases hq with rfl | rfl | rfl
    · show q390 G (((0) + ((1) * ρ 1 + 0))) (((0) + ((1) * ρ 2 + ((8) * ρ 4 + 0)))) (rfv h)
      refine c2 (P := (fun r c => q390 G r c (rfv h))) (r := ρ 1) (c := ρ 2 + 8 * ρ 4) ?_ (by omega) (by omega)
      show q390 G (ρ 1) (ρ 2 + 8 * ρ 4) (rfv h)
      exact (c2 (P := (fun r c => q390 G r c (rfv h))) (r1) (by omega) (by omega))
    · show qMp (((0) + ((4) * ρ 2 + ((32) * ρ 4 + 0)))) (((0) + ((1) * ρ 6 + 0)))
      refine c2 (P := qMp) (r := 4 * ρ 2 + 32 * ρ 4) (c := ρ 6) ?_ (by omega) (by omega)
      show qMp (4 * ρ 2 + 32 * ρ 4) (ρ 6)
      exact (c2 (P := qMp) (r2) (by omega) (by omega))
    · show qMp (((1) + ((4) * ρ 2 + ((32) * ρ 4 + 0)))) (((0) + ((1) * ρ 7 + 0)))
      refine c2 (P := qMp) (r := 4 * ρ 2 + 32 * ρ 4 + 1) (c := ρ 7) ?_ (by omega) (by omega)
      show qMp (4 * ρ 2 + 32 * ρ 4 + 1) (ρ 7)
      exact (c2 (P := qMp) (r3) (by omega) (by omega))
/-- rpS -/
theorem lem_841_ok (hU : uqG G C) : lem_841.1.2.1 = [] ∧ lemOK (PRd G C D xs) G rgs lem_841 := by
  refine ⟨rfl, fun ρ h ha hT => ?_⟩
  obtain ⟨-, -, hF, hG, hH, hA, hP⟩ := ha
  have f0 : (0 : Int) ≤ ((4) + ((-1) * ρ 1 + ((7) * ρ 2 + ((1) * ρ 3 + ((1) * ρ 4 + 0))))) := hF _ (List.mem_of_getElem? (i := 0) rfl)
  have f1 : (0 : Int) ≤ ((-4) + ((1) * ρ 1 + ((-7) * ρ 2 + ((-1) * ρ 3 + ((-1) * ρ 4 + 0))))) := hF _ (List.mem_of_getElem? (i := 1) rfl)
  have f2 : (0 : Int) ≤ ((0) + ((1) * ρ 2 + 0)) := hF _ (List.mem_of_getElem? (i := 2) rfl)
  have f3 : (0 : Int) ≤ ((7) + ((-1) * ρ 2 + 0)) := hF _ (List.mem_of_getElem? (i := 3) rfl)
  have f4 : (0 : Int) ≤ ((-1) + ((-1) * ρ 2 + ((1) * ρ 6 + 0))) := hF _ (List.mem_of_getElem? (i := 4) rfl)
  have f5 : (0 : Int) ≤ ((0) + ((1) * ρ 3 + 0)) := hF _ (List.mem_of_getElem? (i := 5) rfl)
  have f6 : (0 : Int) ≤ ((4) + ((-1) * ρ 3 + 0)) := hF _ (List.mem_of_getElem? (i := 6) rfl)
  have f7 : (0 : Int) ≤ ((-1) + ((-1) * ρ 3 + ((1) * ρ 7 + 0))) := hF _ (List.mem_of_getElem? (i := 7) rfl)
  have g0 : G (ρ 0).toNat = 21 := by
    have q := (hG _ (List.mem_of_getElem? (i := 0) rfl)).2
    rwa [show ev ρ (0, [(0, 1)]) = ρ 0 from ev_v] at q
  have g1 : G (ρ 4).toNat = 20 := by
    have q := (hG _ (List.mem_of_getElem? (i := 1) rfl)).2
    rwa [show ev ρ (0, [(4, 1)]) = ρ 4 from ev_v] at q
  have g2 : G (ρ 1).toNat = 19 := by
    have q := (hG _ (List.mem_of_getElem? (i := 2) rfl)).2
    rwa [show ev ρ (0, [(1, 1)]) = ρ 1 from ev_v] at q
  have p0 : q210 G (ρ 4) (ρ 5) (rfv h) := c2 (P := (fun r c => q210 G r c (rfv h))) (show q210 G (((0) + ((1) * ρ 4 + 0))) (((0) + ((1) * ρ 5 + 0))) (rfv h) from hP _ (List.mem_of_getElem? (i := 0) rfl)) (by omega) (by omega)
  have p1 : qCp (128 * ρ 5 + 3) (ρ 6) := c2 (P := qCp) (show qCp (((3) + ((128) * ρ 5 + 0))) (((0) + ((1) * ρ 6 + 0))) from hP _ (List.mem_of_getElem? (i := 1) rfl)) (by omega) (by omega)
  have p2 : qCp (ρ 2 + 128 * ρ 5 + 12) (ρ 7) := c2 (P := qCp) (show qCp (((12) + ((1) * ρ 2 + ((128) * ρ 5 + 0)))) (((0) + ((1) * ρ 7 + 0))) from hP _ (List.mem_of_getElem? (i := 2) rfl)) (by omega) (by omega)
  have p3 : qCp (5 * ρ 2 + ρ 3 + 128 * ρ 5 + 36) (ρ 8) := c2 (P := qCp) (show qCp (((36) + ((5) * ρ 2 + ((1) * ρ 3 + ((128) * ρ 5 + 0))))) (((0) + ((1) * ρ 8 + 0))) from hP _ (List.mem_of_getElem? (i := 3) rfl)) (by omega) (by omega)
  have cT : 0 ≤ ρ 0 := by
    have q := (hG _ (List.mem_of_getElem? (i := 0) rfl)).1
    rwa [show ev ρ (0, [(0, 1)]) = ρ 0 from ev_v] at q
  have cX : 0 ≤ ρ 4 := by
    have q := (hG _ (List.mem_of_getElem? (i := 1) rfl)).1
    rwa [show ev ρ (0, [(4, 1)]) = ρ 4 from ev_v] at q
  have cs : 0 ≤ ρ 1 := by
    have q := (hG _ (List.mem_of_getElem? (i := 2) rfl)).1
    rwa [show ev ρ (0, [(1, 1)]) = ρ 1 from ev_v] at q
  have y0 : rfv h (ρ 0).toNat 8 = some (.ref (ρ 4).toNat) := ob_v hT (hH _ (List.mem_of_getElem? (i := 0) rfl)) ev_v g0 rfl ev_v
  have r0 := (kCp (V := ρ 5) (k := 36 + 5 * (ρ 2).toNat + (ρ 3).toNat) (by omega) (by omega) p3)
  refine ⟨_, List.mem_cons_self, ρ, fun _ _ => rfl, fun q hq => absurd hq List.not_mem_nil, trivial, fun f hf => ?_, fun q hq => absurd hq List.not_mem_nil, fun q hq => absurd hq List.not_mem_nil, fun q hq => absurd hq List.not_mem_nil, fun q hq => ?_⟩
  · simp only [List.mem_cons, List.not_mem_nil, or_false] at hf
    subst hf
    show (0 : Int) ≤ ((0) + ((1) * ρ 8 + 0))
    omega
  · simp only [List.mem_cons, List.not_mem_nil, or_false] at hq
    subst hq
    show q395 G (((0) + ((1) * ρ 1 + 0))) (((0) + ((1) * ρ 8 + 0))) (rfv h)
    refine c2 (P := (fun r c => q395 G r c (rfv h))) (r := ρ 1) (c := ρ 8) ?_ (by omega) (by omega)
    show q395 G (ρ 1) (ρ 8) (rfv h)
    exact (c2 (P := (fun r c => q395 G r c (rfv h))) (s_rpS (V := ρ 5) (m := (ρ 2).toNat) (j := (ρ 3).toNat) (c := ρ 6) (n := ρ 7) (e := ρ 8) (by omega) (by omega) g2 (by omega) (kCp (V := ρ 5) (k := 3) (by omega) (by omega) p1) (by omega) (kCp (V := ρ 5) (k := 12 + (ρ 2).toNat) (by omega) (by omega) p2) (by omega) r0 (q210.o p0)) (by omega) (by omega))
/-- rpD -/
theorem lem_842_ok (hU : uqG G C) : lem_842.1.2.1 = [] ∧ lemOK (PRd G C D xs) G rgs lem_842 := by
  refine ⟨rfl, fun ρ h ha hT => ?_⟩
  obtain ⟨-, -, hF, hG, hH, hA, hP⟩ := ha
  have f0 : (0 : Int) ≤ ((0) + ((-1) * ρ 3 + ((1) * ρ 4 + 0))) := hF _ (List.mem_of_getElem? (i := 0) rfl)
  have f1 : (0 : Int) ≤ ((0) + ((1) * ρ 3 + ((-1) * ρ 4 + 0))) := hF _ (List.mem_of_getElem? (i := 1) rfl)
  have g0 : G (ρ 2).toNat = 19 := by
    have q := (hG _ (List.mem_of_getElem? (i := 0) rfl)).2
    rwa [show ev ρ (0, [(2, 1)]) = ρ 2 from ev_v] at q
  have p0 : q395 G (ρ 2) (ρ 4) (rfv h) := c2 (P := (fun r c => q395 G r c (rfv h))) (show q395 G (((0) + ((1) * ρ 2 + 0))) (((0) + ((1) * ρ 4 + 0))) (rfv h) from hP _ (List.mem_of_getElem? (i := 0) rfl)) (by omega) (by omega)
  have p1 : q130 (8589934592 * ρ 1 + ρ 4) (ρ 5) := c2 (P := q130) (show q130 (((0) + ((8589934592) * ρ 1 + ((1) * ρ 4 + 0)))) (((0) + ((1) * ρ 5 + 0))) from hP _ (List.mem_of_getElem? (i := 1) rfl)) (by omega) (by omega)
  have p2 : q130 (8589934592 * ρ 1 + ρ 3) (ρ 0) := c2 (P := q130) (show q130 (((0) + ((8589934592) * ρ 1 + ((1) * ρ 3 + 0)))) (((0) + ((1) * ρ 0 + 0))) from hP _ (List.mem_of_getElem? (i := 2) rfl)) (by omega) (by omega)
  have r := q130_f (by omega) p1 p2
  refine ⟨_, List.mem_cons_self, ρ, fun _ _ => rfl, fun q hq => absurd hq List.not_mem_nil, trivial, fun f hf => ?_, fun q hq => absurd hq List.not_mem_nil, fun q hq => absurd hq List.not_mem_nil, fun q hq => absurd hq List.not_mem_nil, fun q hq => ?_⟩
  · simp only [List.mem_cons, List.not_mem_nil, or_false] at hf
    rcases hf with rfl | rfl
    · show (0 : Int) ≤ ((0) + ((-1) * ρ 0 + ((1) * ρ 5 + 0)))
      omega
    · show (0 : Int) ≤ ((0) + ((1) * ρ 0 + ((-1) * ρ 5 + 0)))
      omega
  · exact absurd hq List.not_mem_nil
/-- rpZ -/
theorem lem_843_ok (hU : uqG G C) : lem_843.1.2.1 = [] ∧ lemOK (PRd G C D xs) G rgs lem_843 := by
  refine ⟨rfl, fun ρ h ha hT => ?_⟩
  obtain ⟨-, -, hF, hG, hH, hA, hP⟩ := ha
  have f0 : (0 : Int) ≤ ((0) + ((-1) * ρ 2 + 0)) := hF _ (List.mem_of_getElem? (i := 0) rfl)
  have f1 : (0 : Int) ≤ ((0) + ((-1) * ρ 2 + ((1) * ρ 3 + 0))) := hF _ (List.mem_of_getElem? (i := 1) rfl)
  have f2 : (0 : Int) ≤ ((0) + ((1) * ρ 2 + ((-1) * ρ 3 + 0))) := hF _ (List.mem_of_getElem? (i := 2) rfl)
  have f3 : (0 : Int) ≤ ((0) + ((1) * ρ 3 + 0)) := hF _ (List.mem_of_getElem? (i := 3) rfl)
  have f4 : (0 : Int) ≤ ((-1) + ((1) * ρ 0 + 0)) := hF _ (List.mem_of_getElem? (i := 4) rfl)
  have f5 : (0 : Int) ≤ ((0) + ((-1) * ρ 4 + 0)) := hF _ (List.mem_of_getElem? (i := 5) rfl)
  have g0 : G (ρ 1).toNat = 19 := by
    have q := (hG _ (List.mem_of_getElem? (i := 0) rfl)).2
    rwa [show ev ρ (0, [(1, 1)]) = ρ 1 from ev_v] at q
  have p0 : q395 G (ρ 1) (ρ 3) (rfv h) := c2 (P := (fun r c => q395 G r c (rfv h))) (show q395 G (((0) + ((1) * ρ 1 + 0))) (((0) + ((1) * ρ 3 + 0))) (rfv h) from hP _ (List.mem_of_getElem? (i := 0) rfl)) (by omega) (by omega)
  have p1 : q130 (8589934592 * ρ 0 + ρ 3) (ρ 4) := c2 (P := q130) (show q130 (((0) + ((8589934592) * ρ 0 + ((1) * ρ 3 + 0)))) (((0) + ((1) * ρ 4 + 0))) from hP _ (List.mem_of_getElem? (i := 1) rfl)) (by omega) (by omega)
  have q := k130 (x := ρ 0) (y := 0) (by omega) (by omega) (by omega) p1
  rw [Int.emod_zero] at q
  omega
/-- rpF -/
theorem lem_844_ok (hU : uqG G C) : lem_844.1.2.1 = [] ∧ lemOK (PRd G C D xs) G rgs lem_844 := by
  refine ⟨rfl, fun ρ h ha hT => ?_⟩
  obtain ⟨-, -, hF, hG, hH, hA, hP⟩ := ha
  have g0 : G (ρ 0).toNat = 13 := by
    have q := (hG _ (List.mem_of_getElem? (i := 0) rfl)).2
    rwa [show ev ρ (0, [(0, 1)]) = ρ 0 from ev_v] at q
  have p0 : q390 G (ρ 0) (ρ 2) (rfv h) := c2 (P := (fun r c => q390 G r c (rfv h))) (show q390 G (((0) + ((1) * ρ 0 + 0))) (((0) + ((1) * ρ 2 + 0))) (rfv h) from hP _ (List.mem_of_getElem? (i := 0) rfl)) (by omega) (by omega)
  have p1 : qMp (4 * ρ 2) (ρ 3) := c2 (P := qMp) (show qMp (((0) + ((4) * ρ 2 + 0))) (((0) + ((1) * ρ 3 + 0))) from hP _ (List.mem_of_getElem? (i := 1) rfl)) (by omega) (by omega)
  have cM : 0 ≤ ρ 0 := by
    have q := (hG _ (List.mem_of_getElem? (i := 0) rfl)).1
    rwa [show ev ρ (0, [(0, 1)]) = ρ 0 from ev_v] at q
  have y0 : hasI (rfv h (ρ 0).toNat 0) (ρ 1) := ob_i hT (hH _ (List.mem_of_getElem? (i := 0) rfl)) ev_v g0 rfl ev_v
  have r := s_rpF y0 p0 p1
  refine ⟨_, List.mem_cons_self, ρ, fun _ _ => rfl, fun q hq => absurd hq List.not_mem_nil, trivial, fun f hf => ?_, fun q hq => absurd hq List.not_mem_nil, fun q hq => absurd hq List.not_mem_nil, fun q hq => absurd hq List.not_mem_nil, fun q hq => ?_⟩
  · simp only [List.mem_cons, List.not_mem_nil, or_false] at hf
    rcases hf with rfl | rfl
    · show (0 : Int) ≤ ((0) + ((-1) * ρ 1 + ((1) * ρ 3 + 0)))
      omega
    · show (0 : Int) ≤ ((0) + ((1) * ρ 1 + ((-1) * ρ 3 + 0)))
      omega
  · exact absurd hq List.not_mem_nil
/-- rpU -/
theorem lem_845_ok (hU : uqG G C) : lem_845.1.2.1 = [] ∧ lemOK (PRd G C D xs) G rgs lem_845 := by
  refine ⟨rfl, fun ρ h ha hT => ?_⟩
  obtain ⟨-, -, hF, hG, hH, hA, hP⟩ := ha
  have g0 : G (ρ 0).toNat = 13 := by
    have q := (hG _ (List.mem_of_getElem? (i := 0) rfl)).2
    rwa [show ev ρ (0, [(0, 1)]) = ρ 0 from ev_v] at q
  have p0 : q390 G (ρ 0) (ρ 2) (rfv h) := c2 (P := (fun r c => q390 G r c (rfv h))) (show q390 G (((0) + ((1) * ρ 0 + 0))) (((0) + ((1) * ρ 2 + 0))) (rfv h) from hP _ (List.mem_of_getElem? (i := 0) rfl)) (by omega) (by omega)
  have p1 : qMp (4 * ρ 2 + 1) (ρ 3) := c2 (P := qMp) (show qMp (((1) + ((4) * ρ 2 + 0))) (((0) + ((1) * ρ 3 + 0))) from hP _ (List.mem_of_getElem? (i := 1) rfl)) (by omega) (by omega)
  have cM : 0 ≤ ρ 0 := by
    have q := (hG _ (List.mem_of_getElem? (i := 0) rfl)).1
    rwa [show ev ρ (0, [(0, 1)]) = ρ 0 from ev_v] at q
  have y0 : hasI (rfv h (ρ 0).toNat 1) (ρ 1) := ob_i hT (hH _ (List.mem_of_getElem? (i := 0) rfl)) ev_v g0 rfl ev_v
  have r := s_rpU y0 p0 p1
  refine ⟨_, List.mem_cons_self, ρ, fun _ _ => rfl, fun q hq => absurd hq List.not_mem_nil, trivial, fun f hf => ?_, fun q hq => absurd hq List.not_mem_nil, fun q hq => absurd hq List.not_mem_nil, fun q hq => absurd hq List.not_mem_nil, fun q hq => ?_⟩
  · simp only [List.mem_cons, List.not_mem_nil, or_false] at hf
    rcases hf with rfl | rfl
    · show (0 : Int) ≤ ((0) + ((-1) * ρ 1 + ((1) * ρ 3 + 0)))
      omega
    · show (0 : Int) ≤ ((0) + ((1) * ρ 1 + ((-1) * ρ 3 + 0)))
      omega
  · exact absurd hq List.not_mem_nil
/-- rdGm -/
theorem lem_846_ok (hU : uqG G C) : lem_846.1.2.1 = [] ∧ lemOK (PRd G C D xs) G rgs lem_846 := by
  refine ⟨rfl, fun ρ h ha hT => ?_⟩
  obtain ⟨-, -, hF, hG, hH, hA, hP⟩ := ha
  have f0 : (0 : Int) ≤ ((0) + ((1) * ρ 1 + 0)) := hF _ (List.mem_of_getElem? (i := 0) rfl)
  have f1 : (0 : Int) ≤ ((7) + ((-1) * ρ 1 + 0)) := hF _ (List.mem_of_getElem? (i := 1) rfl)
  have g0 : G (ρ 0).toNat = 118 := by
    have q := (hG _ (List.mem_of_getElem? (i := 0) rfl)).2
    rwa [show ev ρ (0, [(0, 1)]) = ρ 0 from ev_v] at q
  have b0 : (0 : Int) ≤ ((41) + ((1) * ρ 1 + 0)) := b_aA (hA _ (List.mem_of_getElem? (i := 0) rfl))
  have a0 : vw C h 118 (41 + (ρ 1).toNat) = ρ 2 := vw_aA hU (hA _ (List.mem_of_getElem? (i := 0) rfl)) ev_v g0 (by omega) (by omega) (i := 41 + (ρ 1).toNat) (show (((41 + (ρ 1).toNat : Nat)) : Int) = ((41) + ((1) * ρ 1 + 0)) by omega) ev_v
  have p0 : q396 (vw C h) (ρ 3) := c2 (P := (fun (_ : Int) c => q396 (vw C h) c)) (r := 0) (r' := 0) (show q396 (vw C h) (((0) + ((1) * ρ 3 + 0))) from hP _ (List.mem_of_getElem? (i := 0) rfl)) rfl (by omega)
  have p1 : qCp (ρ 1 + 128 * ρ 3 + 20) (ρ 4) := c2 (P := qCp) (show qCp (((20) + ((1) * ρ 1 + ((128) * ρ 3 + 0)))) (((0) + ((1) * ρ 4 + 0))) from hP _ (List.mem_of_getElem? (i := 1) rfl)) (by omega) (by omega)
  have r := (r_now (k := 20 + (ρ 1).toNat) (q := 41 + (ρ 1).toNat) (by omega) (nP (by omega)) (ri20 (by omega)) p0 (Eq.trans (congrArg (vw C h 118) (show 41 + (ρ 1).toNat = 41 + (ρ 1).toNat by omega)) a0))
  have r2 := (kCp (V := ρ 3) (k := 20 + (ρ 1).toNat) (by omega) (by omega) p1)
  refine ⟨_, List.mem_cons_self, ρ, fun _ _ => rfl, fun q hq => absurd hq List.not_mem_nil, trivial, fun f hf => ?_, fun q hq => absurd hq List.not_mem_nil, fun q hq => absurd hq List.not_mem_nil, fun q hq => absurd hq List.not_mem_nil, fun q hq => ?_⟩
  · simp only [List.mem_cons, List.not_mem_nil, or_false] at hf
    rcases hf with rfl | rfl
    · show (0 : Int) ≤ ((0) + ((-1) * ρ 2 + ((1) * ρ 4 + 0)))
      omega
    · show (0 : Int) ≤ ((0) + ((1) * ρ 2 + ((-1) * ρ 4 + 0)))
      omega
  · exact absurd hq List.not_mem_nil
/-- rdUm -/
theorem lem_847_ok (hU : uqG G C) : lem_847.1.2.1 = [] ∧ lemOK (PRd G C D xs) G rgs lem_847 := by
  refine ⟨rfl, fun ρ h ha hT => ?_⟩
  obtain ⟨-, -, hF, hG, hH, hA, hP⟩ := ha
  have f0 : (0 : Int) ≤ ((0) + ((1) * ρ 1 + 0)) := hF _ (List.mem_of_getElem? (i := 0) rfl)
  have f1 : (0 : Int) ≤ ((7) + ((-1) * ρ 1 + 0)) := hF _ (List.mem_of_getElem? (i := 1) rfl)
  have g0 : G (ρ 0).toNat = 118 := by
    have q := (hG _ (List.mem_of_getElem? (i := 0) rfl)).2
    rwa [show ev ρ (0, [(0, 1)]) = ρ 0 from ev_v] at q
  have b0 : (0 : Int) ≤ ((49) + ((1) * ρ 1 + 0)) := b_aA (hA _ (List.mem_of_getElem? (i := 0) rfl))
  have a0 : vw C h 118 (49 + (ρ 1).toNat) = ρ 2 := vw_aA hU (hA _ (List.mem_of_getElem? (i := 0) rfl)) ev_v g0 (by omega) (by omega) (i := 49 + (ρ 1).toNat) (show (((49 + (ρ 1).toNat : Nat)) : Int) = ((49) + ((1) * ρ 1 + 0)) by omega) ev_v
  have p0 : q396 (vw C h) (ρ 3) := c2 (P := (fun (_ : Int) c => q396 (vw C h) c)) (r := 0) (r' := 0) (show q396 (vw C h) (((0) + ((1) * ρ 3 + 0))) from hP _ (List.mem_of_getElem? (i := 0) rfl)) rfl (by omega)
  have p1 : qCp (ρ 1 + 128 * ρ 3 + 28) (ρ 4) := c2 (P := qCp) (show qCp (((28) + ((1) * ρ 1 + ((128) * ρ 3 + 0)))) (((0) + ((1) * ρ 4 + 0))) from hP _ (List.mem_of_getElem? (i := 1) rfl)) (by omega) (by omega)
  have r := (r_now (k := 28 + (ρ 1).toNat) (q := 49 + (ρ 1).toNat) (by omega) (nP (by omega)) (ri28 (by omega)) p0 (Eq.trans (congrArg (vw C h 118) (show 49 + (ρ 1).toNat = 49 + (ρ 1).toNat by omega)) a0))
  have r2 := (kCp (V := ρ 3) (k := 28 + (ρ 1).toNat) (by omega) (by omega) p1)
  refine ⟨_, List.mem_cons_self, ρ, fun _ _ => rfl, fun q hq => absurd hq List.not_mem_nil, trivial, fun f hf => ?_, fun q hq => absurd hq List.not_mem_nil, fun q hq => absurd hq List.not_mem_nil, fun q hq => absurd hq List.not_mem_nil, fun q hq => ?_⟩
  · simp only [List.mem_cons, List.not_mem_nil, or_false] at hf
    rcases hf with rfl | rfl
    · show (0 : Int) ≤ ((0) + ((-1) * ρ 2 + ((1) * ρ 4 + 0)))
      omega
    · show (0 : Int) ≤ ((0) + ((1) * ρ 2 + ((-1) * ρ 4 + 0)))
      omega
  · exact absurd hq List.not_mem_nil
/-- rdE -/
theorem lem_848_ok (hU : uqG G C) : lem_848.1.2.1 = [] ∧ lemOK (PRd G C D xs) G rgs lem_848 := by
  refine ⟨rfl, fun ρ h ha hT => ?_⟩
  obtain ⟨-, -, hF, hG, hH, hA, hP⟩ := ha
  have f0 : (0 : Int) ≤ ((0) + ((1) * ρ 1 + 0)) := hF _ (List.mem_of_getElem? (i := 0) rfl)
  have f1 : (0 : Int) ≤ ((39) + ((-1) * ρ 1 + 0)) := hF _ (List.mem_of_getElem? (i := 1) rfl)
  have g0 : G (ρ 0).toNat = 118 := by
    have q := (hG _ (List.mem_of_getElem? (i := 0) rfl)).2
    rwa [show ev ρ (0, [(0, 1)]) = ρ 0 from ev_v] at q
  have b0 : (0 : Int) ≤ ((217) + ((1) * ρ 1 + 0)) := b_aA (hA _ (List.mem_of_getElem? (i := 0) rfl))
  have a0 : vw C h 118 (217 + (ρ 1).toNat) = ρ 2 := vw_aA hU (hA _ (List.mem_of_getElem? (i := 0) rfl)) ev_v g0 (by omega) (by omega) (i := 217 + (ρ 1).toNat) (show (((217 + (ρ 1).toNat : Nat)) : Int) = ((217) + ((1) * ρ 1 + 0)) by omega) ev_v
  have p0 : q396 (vw C h) (ρ 3) := c2 (P := (fun (_ : Int) c => q396 (vw C h) c)) (r := 0) (r' := 0) (show q396 (vw C h) (((0) + ((1) * ρ 3 + 0))) from hP _ (List.mem_of_getElem? (i := 0) rfl)) rfl (by omega)
  have p1 : qCp (ρ 1 + 128 * ρ 3 + 36) (ρ 4) := c2 (P := qCp) (show qCp (((36) + ((1) * ρ 1 + ((128) * ρ 3 + 0)))) (((0) + ((1) * ρ 4 + 0))) from hP _ (List.mem_of_getElem? (i := 1) rfl)) (by omega) (by omega)
  have r := (r_now (k := 36 + (ρ 1).toNat) (q := 217 + (ρ 1).toNat) (by omega) (nP (by omega)) (ri36 (by omega)) p0 (Eq.trans (congrArg (vw C h 118) (show 217 + (ρ 1).toNat = 217 + (ρ 1).toNat by omega)) a0))
  have r2 := (kCp (V := ρ 3) (k := 36 + (ρ 1).toNat) (by omega) (by omega) p1)
  refine ⟨_, List.mem_cons_self, ρ, fun _ _ => rfl, fun q hq => absurd hq List.not_mem_nil, trivial, fun f hf => ?_, fun q hq => absurd hq List.not_mem_nil, fun q hq => absurd hq List.not_mem_nil, fun q hq => absurd hq List.not_mem_nil, fun q hq => ?_⟩
  · simp only [List.mem_cons, List.not_mem_nil, or_false] at hf
    rcases hf with rfl | rfl
    · show (0 : Int) ≤ ((0) + ((-1) * ρ 2 + ((1) * ρ 4 + 0)))
      omega
    · show (0 : Int) ≤ ((0) + ((1) * ρ 2 + ((-1) * ρ 4 + 0)))
      omega
  · exact absurd hq List.not_mem_nil
/-- rpR -/
theorem lem_849_ok (hU : uqG G C) : lem_849.1.2.1 = [] ∧ lemOK (PRd G C D xs) G rgs lem_849 := by
  refine ⟨rfl, fun ρ h ha hT => ?_⟩
  obtain ⟨-, -, hF, hG, hH, hA, hP⟩ := ha
  have f0 : (0 : Int) ≤ ((0) + ((1) * ρ 2 + 0)) := hF _ (List.mem_of_getElem? (i := 0) rfl)
  have f1 : (0 : Int) ≤ ((0) + ((-1) * ρ 4 + ((1) * ρ 6 + 0))) := hF _ (List.mem_of_getElem? (i := 1) rfl)
  have f2 : (0 : Int) ≤ ((0) + ((1) * ρ 4 + ((-1) * ρ 6 + 0))) := hF _ (List.mem_of_getElem? (i := 2) rfl)
  have g0 : G (ρ 1).toNat = 118 := by
    have q := (hG _ (List.mem_of_getElem? (i := 0) rfl)).2
    rwa [show ev ρ (0, [(1, 1)]) = ρ 1 from ev_v] at q
  have b0 : (0 : Int) ≤ ((217) + ((1) * ρ 2 + 0)) := b_aA (hA _ (List.mem_of_getElem? (i := 0) rfl))
  have a0 : vw C h 118 (217 + (ρ 2).toNat) = ρ 4 := vw_aA hU (hA _ (List.mem_of_getElem? (i := 0) rfl)) ev_v g0 (by omega) (by omega) (i := 217 + (ρ 2).toNat) (show (((217 + (ρ 2).toNat : Nat)) : Int) = ((217) + ((1) * ρ 2 + 0)) by omega) ev_v
  have p0 : q396 (vw C h) (ρ 5) := c2 (P := (fun (_ : Int) c => q396 (vw C h) c)) (r := 0) (r' := 0) (show q396 (vw C h) (((0) + ((1) * ρ 5 + 0))) from hP _ (List.mem_of_getElem? (i := 0) rfl)) rfl (by omega)
  have p1 : qCp (ρ 2 + 128 * ρ 5 + 36) (ρ 6) := c2 (P := qCp) (show qCp (((36) + ((1) * ρ 2 + ((128) * ρ 5 + 0)))) (((0) + ((1) * ρ 6 + 0))) from hP _ (List.mem_of_getElem? (i := 1) rfl)) (by omega) (by omega)
  have p2 : q130 (8589934592 * ρ 3 + ρ 6) (ρ 7) := c2 (P := q130) (show q130 (((0) + ((8589934592) * ρ 3 + ((1) * ρ 6 + 0)))) (((0) + ((1) * ρ 7 + 0))) from hP _ (List.mem_of_getElem? (i := 2) rfl)) (by omega) (by omega)
  have p3 : q130 (8589934592 * ρ 3 + ρ 4) (ρ 0) := c2 (P := q130) (show q130 (((0) + ((8589934592) * ρ 3 + ((1) * ρ 4 + 0)))) (((0) + ((1) * ρ 0 + 0))) from hP _ (List.mem_of_getElem? (i := 3) rfl)) (by omega) (by omega)
  have r := q130_f (by omega) p2 p3
  refine ⟨_, List.mem_cons_self, ρ, fun _ _ => rfl, fun q hq => absurd hq List.not_mem_nil, trivial, fun f hf => ?_, fun q hq => absurd hq List.not_mem_nil, fun q hq => absurd hq List.not_mem_nil, fun q hq => absurd hq List.not_mem_nil, fun q hq => ?_⟩
  · simp only [List.mem_cons, List.not_mem_nil, or_false] at hf
    rcases hf with rfl | rfl
    · show (0 : Int) ≤ ((0) + ((-1) * ρ 0 + ((1) * ρ 7 + 0)))
      omega
    · show (0 : Int) ≤ ((0) + ((1) * ρ 0 + ((-1) * ρ 7 + 0)))
      omega
  · exact absurd hq List.not_mem_nil
/-- anyE -/
theorem lem_850_ok (hU : uqG G C) : lem_850.1.2.1 = [] ∧ lemOK (PRd G C D xs) G rgs lem_850 := by
  refine ⟨rfl, fun ρ h ha hT => ?_⟩
  obtain ⟨-, -, hF, hG, hH, hA, hP⟩ := ha
  have g0 : G (ρ 0).toNat = 22 := by
    have q := (hG _ (List.mem_of_getElem? (i := 0) rfl)).2
    rwa [show ev ρ (0, [(0, 1)]) = ρ 0 from ev_v] at q
  have p0 : q396 (vw C h) (ρ 3) := c2 (P := (fun (_ : Int) c => q396 (vw C h) c)) (r := 0) (r' := 0) (show q396 (vw C h) (((0) + ((1) * ρ 3 + 0))) from hP _ (List.mem_of_getElem? (i := 0) rfl)) rfl (by omega)
  obtain ⟨σ, r1, r2a⟩ : ∃ σ : Va, (∀ i, i < 4 → σ i = ρ i) ∧ σ 4 = ((cp ((5 * ρ 1 + ρ 2 + 128 * ρ 3 + 36) / 128).toNat ((5 * ρ 1 + ρ 2 + 128 * ρ 3 + 36) % 128).toNat : Nat) : Int) := ⟨fun i => if i = 4 then ((cp ((5 * ρ 1 + ρ 2 + 128 * ρ 3 + 36) / 128).toNat ((5 * ρ 1 + ρ 2 + 128 * ρ 3 + 36) % 128).toNat : Nat) : Int) else ρ i, fun i hi => by dsimp only; rw [if_neg (by omega)], by dsimp only; rw [if_pos rfl]⟩
  have s0 := r1 0 (by omega)
  have s1 := r1 1 (by omega)
  have s2 := r1 2 (by omega)
  have s3 := r1 3 (by omega)
  refine ⟨_, List.mem_cons_self, σ, r1, fun q hq => absurd hq List.not_mem_nil, trivial, fun f hf => ?_, fun q hq => absurd hq List.not_mem_nil, fun q hq => absurd hq List.not_mem_nil, fun q hq => absurd hq List.not_mem_nil, fun q hq => ?_⟩
  · exact absurd hf List.not_mem_nil
  · simp only [List.mem_cons, List.not_mem_nil, or_false] at hq
    subst hq
    show qCp (((36) + ((5) * σ 1 + ((1) * σ 2 + ((128) * σ 3 + 0))))) (((0) + ((1) * σ 4 + 0)))
    refine c2 (P := qCp) (r := 5 * ρ 1 + ρ 2 + 128 * ρ 3 + 36) (c := ((cp ((5 * ρ 1 + ρ 2 + 128 * ρ 3 + 36) / 128).toNat ((5 * ρ 1 + ρ 2 + 128 * ρ 3 + 36) % 128).toNat : Nat) : Int)) ?_ (by omega) (by omega)
    show qCp (5 * ρ 1 + ρ 2 + 128 * ρ 3 + 36) (((cp ((5 * ρ 1 + ρ 2 + 128 * ρ 3 + 36) / 128).toNat ((5 * ρ 1 + ρ 2 + 128 * ρ 3 + 36) % 128).toNat : Nat) : Int))
    exact rfl
end LMT
