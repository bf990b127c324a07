section LMT
variable {G C : Nat → Nat} {h : mH} {D : Nat} {xs : Nat → Int32}
/-- spD -/
theorem lem_851_ok (hU : uqG G C) : lem_851.1.2.1 = [] ∧ lemOK (PRd G C D xs) G rgs lem_851 := by
  refine ⟨rfl, fun ρ h ha hT => ?_⟩
  obtain ⟨-, -, hF, hG, hH, hA, hP⟩ := ha
  have f0 : (0 : Int) ≤ ((-1) + ((1) * ρ 4 + 0)) := hF _ (List.mem_of_getElem? (i := 0) rfl)
  have f1 : (0 : Int) ≤ ((0) + ((1) * ρ 2 + 0)) := hF _ (List.mem_of_getElem? (i := 1) rfl)
  have f2 : (0 : Int) ≤ ((-1) + ((-1) * ρ 2 + ((1) * ρ 6 + 0))) := hF _ (List.mem_of_getElem? (i := 2) rfl)
  have f3 : (0 : Int) ≤ ((0) + ((1) * ρ 1 + 0)) := hF _ (List.mem_of_getElem? (i := 3) rfl)
  have f4 : (0 : Int) ≤ ((-1) + ((-1) * ρ 1 + ((1) * ρ 8 + 0))) := hF _ (List.mem_of_getElem? (i := 4) rfl)
  have g0 : G (ρ 3).toNat = 22 := by
    have q := (hG _ (List.mem_of_getElem? (i := 0) rfl)).2
    rwa [show ev ρ (0, [(3, 1)]) = ρ 3 from ev_v] at q
  have g1 : G (ρ 5).toNat = 123 := by
    have q := (hG _ (List.mem_of_getElem? (i := 1) rfl)).2
    rwa [show ev ρ (0, [(5, 1)]) = ρ 5 from ev_v] at q
  have h0 : (0 : Int) ≤ ρ 4 ∧ ρ 4 ≤ 1 := hf_rg hT (hH _ (List.mem_of_getElem? (i := 0) rfl)) ev_v g0 rfl rfl rfl ev_v
  have b0 : (0 : Int) ≤ ((7) + 0) := b_aA (hA _ (List.mem_of_getElem? (i := 0) rfl))
  have a0 : vw C h 123 (7) = ρ 6 := vw_aA hU (hA _ (List.mem_of_getElem? (i := 0) rfl)) ev_v g1 (by omega) (by omega) (i := 7) (show (((7 : Nat)) : Int) = ((7) + 0) by omega) ev_v
  have p0 : q396 (vw C h) (ρ 7) := c2 (P := (fun (_ : Int) c => q396 (vw C h) c)) (r := 0) (r' := 0) (show q396 (vw C h) (((0) + ((1) * ρ 7 + 0))) from hP _ (List.mem_of_getElem? (i := 0) rfl)) rfl (by omega)
  have p1 : qCp (ρ 2 + 128 * ρ 7 + 12) (ρ 8) := c2 (P := qCp) (show qCp (((12) + ((1) * ρ 2 + ((128) * ρ 7 + 0)))) (((0) + ((1) * ρ 8 + 0))) from hP _ (List.mem_of_getElem? (i := 1) rfl)) (by omega) (by omega)
  rcases (by omega : ((0 : Int) ≤ (-1) * ρ 0) ∨ ((0 : Int) ≤ ρ 0 + (-2001)) ∨ ((0 : Int) ≤ ρ 0 + (-1) ∧ (0 : Int) ≤ (-1) * ρ 0 + 2000)) with hc | hc | hc
  · refine ⟨_, List.mem_cons_self, ρ, fun _ _ => rfl, fun q hq => absurd hq List.not_mem_nil, trivial, fun f hf => ?_, fun q hq => absurd hq List.not_mem_nil, fun q hq => absurd hq List.not_mem_nil, fun q hq => absurd hq List.not_mem_nil, fun q hq => ?_⟩
    · simp only [List.mem_cons, List.not_mem_nil, or_false] at hf
      subst hf
      show (0 : Int) ≤ ((0) + ((-1) * ρ 0 + 0))
      omega
    · exact absurd hq List.not_mem_nil
  · refine ⟨_, (List.mem_cons_of_mem _ List.mem_cons_self), ρ, fun _ _ => rfl, fun q hq => absurd hq List.not_mem_nil, trivial, fun f hf => ?_, fun q hq => absurd hq List.not_mem_nil, fun q hq => absurd hq List.not_mem_nil, fun q hq => absurd hq List.not_mem_nil, fun q hq => ?_⟩
    · simp only [List.mem_cons, List.not_mem_nil, or_false] at hf
      subst hf
      show (0 : Int) ≤ ((-2001) + ((1) * ρ 0 + 0))
      omega
    · exact absurd hq List.not_mem_nil
  · refine ⟨_, (List.mem_cons_of_mem _ (List.mem_cons_of_mem _ List.mem_cons_self)), ρ, fun _ _ => rfl, fun q hq => absurd hq List.not_mem_nil, trivial, fun f hf => ?_, fun q hq => absurd hq List.not_mem_nil, fun q hq => absurd hq List.not_mem_nil, fun q hq => absurd hq List.not_mem_nil, fun q hq => ?_⟩
    · simp only [List.mem_cons, List.not_mem_nil, or_false] at hf
      rcases hf with rfl | rfl
      · show (0 : Int) ≤ ((-1) + ((1) * ρ 0 + 0))
        omega
      · show (0 : Int) ≤ ((2000) + ((-1) * ρ 0 + 0))
        omega
    · exact absurd hq List.not_mem_nil
/-- anyR -/
theorem lem_852_ok (hU : uqG G C) : lem_852.1.2.1 = [] ∧ lemOK (PRd G C D xs) G rgs lem_852 := by
  refine ⟨rfl, fun ρ h ha hT => ?_⟩
  obtain ⟨-, -, hF, hG, hH, hA, hP⟩ := ha
  have g0 : G (ρ 3).toNat = 22 := by
    have q := (hG _ (List.mem_of_getElem? (i := 0) rfl)).2
    rwa [show ev ρ (0, [(3, 1)]) = ρ 3 from ev_v] at q
  have p0 : q396 (vw C h) (ρ 4) := c2 (P := (fun (_ : Int) c => q396 (vw C h) c)) (r := 0) (r' := 0) (show q396 (vw C h) (((0) + ((1) * ρ 4 + 0))) from hP _ (List.mem_of_getElem? (i := 0) rfl)) rfl (by omega)
  have p1 : qCp (ρ 1 + 5 * ρ 2 + 128 * ρ 4 + 36) (ρ 5) := c2 (P := qCp) (show qCp (((36) + ((1) * ρ 1 + ((5) * ρ 2 + ((128) * ρ 4 + 0))))) (((0) + ((1) * ρ 5 + 0))) from hP _ (List.mem_of_getElem? (i := 1) rfl)) (by omega) (by omega)
  obtain ⟨σ, r1, r2a⟩ : ∃ σ : Va, (∀ i, i < 6 → σ i = ρ i) ∧ σ 6 = ((8589934592 * ρ 0 + ρ 5) / 8589934592 % ((8589934592 * ρ 0 + ρ 5) % 8589934592) : Int) := ⟨fun i => if i = 6 then ((8589934592 * ρ 0 + ρ 5) / 8589934592 % ((8589934592 * ρ 0 + ρ 5) % 8589934592) : Int) else ρ i, fun i hi => by dsimp only; rw [if_neg (by omega)], by dsimp only; rw [if_pos rfl]⟩
  have s0 := r1 0 (by omega)
  have s1 := r1 1 (by omega)
  have s2 := r1 2 (by omega)
  have s3 := r1 3 (by omega)
  have s4 := r1 4 (by omega)
  have s5 := r1 5 (by omega)
  refine ⟨_, List.mem_cons_self, σ, r1, fun q hq => absurd hq List.not_mem_nil, trivial, fun f hf => ?_, fun q hq => absurd hq List.not_mem_nil, fun q hq => absurd hq List.not_mem_nil, fun q hq => absurd hq List.not_mem_nil, fun q hq => ?_⟩
  · exact absurd hf List.not_mem_nil
  · simp only [List.mem_cons, List.not_mem_nil, or_false] at hq
    subst hq
    show q130 (((0) + ((8589934592) * σ 0 + ((1) * σ 5 + 0)))) (((0) + ((1) * σ 6 + 0)))
    refine c2 (P := q130) (r := 8589934592 * ρ 0 + ρ 5) (c := ((8589934592 * ρ 0 + ρ 5) / 8589934592 % ((8589934592 * ρ 0 + ρ 5) % 8589934592) : Int)) ?_ (by omega) (by omega)
    show q130 (8589934592 * ρ 0 + ρ 5) (((8589934592 * ρ 0 + ρ 5) / 8589934592 % ((8589934592 * ρ 0 + ρ 5) % 8589934592) : Int))
    exact rfl
/-- spDf -/
theorem lem_853_ok (hU : uqG G C) : lem_853.1.2.1 = [] ∧ lemOK (PRd G C D xs) G rgs lem_853 := by
  refine ⟨rfl, fun ρ h ha hT => ?_⟩
  obtain ⟨-, -, hF, hG, hH, hA, hP⟩ := ha
  have f0 : (0 : Int) ≤ ((-1) + ((1) * ρ 4 + 0)) := hF _ (List.mem_of_getElem? (i := 0) rfl)
  have f1 : (0 : Int) ≤ ((0) + ((1) * ρ 2 + 0)) := hF _ (List.mem_of_getElem? (i := 1) rfl)
  have f2 : (0 : Int) ≤ ((-1) + ((-1) * ρ 2 + ((1) * ρ 6 + 0))) := hF _ (List.mem_of_getElem? (i := 2) rfl)
  have f3 : (0 : Int) ≤ ((0) + ((1) * ρ 1 + 0)) := hF _ (List.mem_of_getElem? (i := 3) rfl)
  have f4 : (0 : Int) ≤ ((-1) + ((-1) * ρ 1 + ((1) * ρ 8 + 0))) := hF _ (List.mem_of_getElem? (i := 4) rfl)
  have f5 : (0 : Int) ≤ ((-1) + ((1) * ρ 0 + 0)) := hF _ (List.mem_of_getElem? (i := 5) rfl)
  have f6 : (0 : Int) ≤ ((2000) + ((-1) * ρ 0 + 0)) := hF _ (List.mem_of_getElem? (i := 6) rfl)
  have g0 : G (ρ 3).toNat = 22 := by
    have q := (hG _ (List.mem_of_getElem? (i := 0) rfl)).2
    rwa [show ev ρ (0, [(3, 1)]) = ρ 3 from ev_v] at q
  have g1 : G (ρ 5).toNat = 123 := by
    have q := (hG _ (List.mem_of_getElem? (i := 1) rfl)).2
    rwa [show ev ρ (0, [(5, 1)]) = ρ 5 from ev_v] at q
  have h0 : (0 : Int) ≤ ρ 4 ∧ ρ 4 ≤ 1 := hf_rg hT (hH _ (List.mem_of_getElem? (i := 0) rfl)) ev_v g0 rfl rfl rfl ev_v
  have b0 : (0 : Int) ≤ ((7) + 0) := b_aA (hA _ (List.mem_of_getElem? (i := 0) rfl))
  have a0 : vw C h 123 (7) = ρ 6 := vw_aA hU (hA _ (List.mem_of_getElem? (i := 0) rfl)) ev_v g1 (by omega) (by omega) (i := 7) (show (((7 : Nat)) : Int) = ((7) + 0) by omega) ev_v
  have p0 : q396 (vw C h) (ρ 7) := c2 (P := (fun (_ : Int) c => q396 (vw C h) c)) (r := 0) (r' := 0) (show q396 (vw C h) (((0) + ((1) * ρ 7 + 0))) from hP _ (List.mem_of_getElem? (i := 0) rfl)) rfl (by omega)
  have p1 : qCp (ρ 2 + 128 * ρ 7 + 12) (ρ 8) := c2 (P := qCp) (show qCp (((12) + ((1) * ρ 2 + ((128) * ρ 7 + 0)))) (((0) + ((1) * ρ 8 + 0))) from hP _ (List.mem_of_getElem? (i := 1) rfl)) (by omega) (by omega)
  have p2 : qCp (ρ 2 + 128 * ρ 7 + 20) (ρ 9) := c2 (P := qCp) (show qCp (((20) + ((1) * ρ 2 + ((128) * ρ 7 + 0)))) (((0) + ((1) * ρ 9 + 0))) from hP _ (List.mem_of_getElem? (i := 2) rfl)) (by omega) (by omega)
  rcases (by omega : ((0 : Int) ≤ ρ 0 + (-1) * ρ 9) ∨ ((0 : Int) ≤ (-1) * ρ 0 + ρ 9 + (-1))) with hc | hc
  · refine ⟨_, List.mem_cons_self, ρ, fun _ _ => rfl, fun q hq => absurd hq List.not_mem_nil, trivial, fun f hf => ?_, fun q hq => absurd hq List.not_mem_nil, fun q hq => absurd hq List.not_mem_nil, fun q hq => absurd hq List.not_mem_nil, fun q hq => ?_⟩
    · simp only [List.mem_cons, List.not_mem_nil, or_false] at hf
      subst hf
      show (0 : Int) ≤ ((0) + ((1) * ρ 0 + ((-1) * ρ 9 + 0)))
      omega
    · exact absurd hq List.not_mem_nil
  · refine ⟨_, (List.mem_cons_of_mem _ List.mem_cons_self), ρ, fun _ _ => rfl, fun q hq => absurd hq List.not_mem_nil, trivial, fun f hf => ?_, fun q hq => absurd hq List.not_mem_nil, fun q hq => absurd hq List.not_mem_nil, fun q hq => absurd hq List.not_mem_nil, fun q hq => ?_⟩
    · simp only [List.mem_cons, List.not_mem_nil, or_false] at hf
      subst hf
      show (0 : Int) ≤ ((-1) + ((-1) * ρ 0 + ((1) * ρ 9 + 0)))
      omega
    · exact absurd hq List.not_mem_nil
/-- spDu -/
theorem lem_854_ok (hU : uqG G C) : lem_854.1.2.1 = [] ∧ lemOK (PRd G C D xs) G rgs lem_854 := by
  refine ⟨rfl, fun ρ h ha hT => ?_⟩
  obtain ⟨-, -, hF, hG, hH, hA, hP⟩ := ha
  have f0 : (0 : Int) ≤ ((-1) + ((1) * ρ 4 + 0)) := hF _ (List.mem_of_getElem? (i := 0) rfl)
  have f1 : (0 : Int) ≤ ((0) + ((1) * ρ 2 + 0)) := hF _ (List.mem_of_getElem? (i := 1) rfl)
  have f2 : (0 : Int) ≤ ((-1) + ((-1) * ρ 2 + ((1) * ρ 6 + 0))) := hF _ (List.mem_of_getElem? (i := 2) rfl)
  have f3 : (0 : Int) ≤ ((0) + ((1) * ρ 1 + 0)) := hF _ (List.mem_of_getElem? (i := 3) rfl)
  have f4 : (0 : Int) ≤ ((-1) + ((-1) * ρ 1 + ((1) * ρ 8 + 0))) := hF _ (List.mem_of_getElem? (i := 4) rfl)
  have f5 : (0 : Int) ≤ ((-1) + ((1) * ρ 0 + 0)) := hF _ (List.mem_of_getElem? (i := 5) rfl)
  have f6 : (0 : Int) ≤ ((2000) + ((-1) * ρ 0 + 0)) := hF _ (List.mem_of_getElem? (i := 6) rfl)
  have f7 : (0 : Int) ≤ ((0) + ((1) * ρ 0 + ((-1) * ρ 9 + 0))) := hF _ (List.mem_of_getElem? (i := 7) rfl)
  have g0 : G (ρ 3).toNat = 22 := by
    have q := (hG _ (List.mem_of_getElem? (i := 0) rfl)).2
    rwa [show ev ρ (0, [(3, 1)]) = ρ 3 from ev_v] at q
  have g1 : G (ρ 5).toNat = 123 := by
    have q := (hG _ (List.mem_of_getElem? (i := 1) rfl)).2
    rwa [show ev ρ (0, [(5, 1)]) = ρ 5 from ev_v] at q
  have h0 : (0 : Int) ≤ ρ 4 ∧ ρ 4 ≤ 1 := hf_rg hT (hH _ (List.mem_of_getElem? (i := 0) rfl)) ev_v g0 rfl rfl rfl ev_v
  have b0 : (0 : Int) ≤ ((7) + 0) := b_aA (hA _ (List.mem_of_getElem? (i := 0) rfl))
  have a0 : vw C h 123 (7) = ρ 6 := vw_aA hU (hA _ (List.mem_of_getElem? (i := 0) rfl)) ev_v g1 (by omega) (by omega) (i := 7) (show (((7 : Nat)) : Int) = ((7) + 0) by omega) ev_v
  have p0 : q396 (vw C h) (ρ 7) := c2 (P := (fun (_ : Int) c => q396 (vw C h) c)) (r := 0) (r' := 0) (show q396 (vw C h) (((0) + ((1) * ρ 7 + 0))) from hP _ (List.mem_of_getElem? (i := 0) rfl)) rfl (by omega)
  have p1 : qCp (ρ 2 + 128 * ρ 7 + 12) (ρ 8) := c2 (P := qCp) (show qCp (((12) + ((1) * ρ 2 + ((128) * ρ 7 + 0)))) (((0) + ((1) * ρ 8 + 0))) from hP _ (List.mem_of_getElem? (i := 1) rfl)) (by omega) (by omega)
  have p2 : qCp (ρ 2 + 128 * ρ 7 + 20) (ρ 9) := c2 (P := qCp) (show qCp (((20) + ((1) * ρ 2 + ((128) * ρ 7 + 0)))) (((0) + ((1) * ρ 9 + 0))) from hP _ (List.mem_of_getElem? (i := 2) rfl)) (by omega) (by omega)
  have p3 : qCp (ρ 2 + 128 * ρ 7 + 28) (ρ 10) := c2 (P := qCp) (show qCp (((28) + ((1) * ρ 2 + ((128) * ρ 7 + 0)))) (((0) + ((1) * ρ 10 + 0))) from hP _ (List.mem_of_getElem? (i := 3) rfl)) (by omega) (by omega)
  rcases (by omega : ((0 : Int) ≤ ρ 0 + (-1) * ρ 10 + (-1)) ∨ ((0 : Int) ≤ (-1) * ρ 0 + ρ 10)) with hc | hc
  · refine ⟨_, List.mem_cons_self, ρ, fun _ _ => rfl, fun q hq => absurd hq List.not_mem_nil, trivial, fun f hf => ?_, fun q hq => absurd hq List.not_mem_nil, fun q hq => absurd hq List.not_mem_nil, fun q hq => absurd hq List.not_mem_nil, fun q hq => ?_⟩
    · simp only [List.mem_cons, List.not_mem_nil, or_false] at hf
      subst hf
      show (0 : Int) ≤ ((-1) + ((1) * ρ 0 + ((-1) * ρ 10 + 0)))
      omega
    · exact absurd hq List.not_mem_nil
  · refine ⟨_, (List.mem_cons_of_mem _ List.mem_cons_self), ρ, fun _ _ => rfl, fun q hq => absurd hq List.not_mem_nil, trivial, fun f hf => ?_, fun q hq => absurd hq List.not_mem_nil, fun q hq => absurd hq List.not_mem_nil, fun q hq => absurd hq List.not_mem_nil, fun q hq => ?_⟩
    · simp only [List.mem_cons, List.not_mem_nil, or_false] at hf
      subst hf
      show (0 : Int) ≤ ((0) + ((-1) * ρ 0 + ((1) * ρ 10 + 0)))
      omega
    · exact absurd hq List.not_mem_nil
/-- spDr -/
theorem lem_855_ok (hU : uqG G C) : lem_855.1.2.1 = [] ∧ lemOK (PRd G C D xs) G rgs lem_855 := by
  refine ⟨rfl, fun ρ h ha hT => ?_⟩
  obtain ⟨-, -, hF, hG, hH, hA, hP⟩ := ha
  have f0 : (0 : Int) ≤ ((-1) + ((1) * ρ 4 + 0)) := hF _ (List.mem_of_getElem? (i := 0) rfl)
  have f1 : (0 : Int) ≤ ((0) + ((1) * ρ 2 + 0)) := hF _ (List.mem_of_getElem? (i := 1) rfl)
  have f2 : (0 : Int) ≤ ((-1) + ((-1) * ρ 2 + ((1) * ρ 6 + 0))) := hF _ (List.mem_of_getElem? (i := 2) rfl)
  have f3 : (0 : Int) ≤ ((0) + ((1) * ρ 1 + 0)) := hF _ (List.mem_of_getElem? (i := 3) rfl)
  have f4 : (0 : Int) ≤ ((-1) + ((-1) * ρ 1 + ((1) * ρ 8 + 0))) := hF _ (List.mem_of_getElem? (i := 4) rfl)
  have f5 : (0 : Int) ≤ ((-1) + ((1) * ρ 0 + 0)) := hF _ (List.mem_of_getElem? (i := 5) rfl)
  have f6 : (0 : Int) ≤ ((2000) + ((-1) * ρ 0 + 0)) := hF _ (List.mem_of_getElem? (i := 6) rfl)
  have g0 : G (ρ 3).toNat = 22 := by
    have q := (hG _ (List.mem_of_getElem? (i := 0) rfl)).2
    rwa [show ev ρ (0, [(3, 1)]) = ρ 3 from ev_v] at q
  have g1 : G (ρ 5).toNat = 123 := by
    have q := (hG _ (List.mem_of_getElem? (i := 1) rfl)).2
    rwa [show ev ρ (0, [(5, 1)]) = ρ 5 from ev_v] at q
  have h0 : (0 : Int) ≤ ρ 4 ∧ ρ 4 ≤ 1 := hf_rg hT (hH _ (List.mem_of_getElem? (i := 0) rfl)) ev_v g0 rfl rfl rfl ev_v
  have b0 : (0 : Int) ≤ ((7) + 0) := b_aA (hA _ (List.mem_of_getElem? (i := 0) rfl))
  have a0 : vw C h 123 (7) = ρ 6 := vw_aA hU (hA _ (List.mem_of_getElem? (i := 0) rfl)) ev_v g1 (by omega) (by omega) (i := 7) (show (((7 : Nat)) : Int) = ((7) + 0) by omega) ev_v
  have p0 : q396 (vw C h) (ρ 7) := c2 (P := (fun (_ : Int) c => q396 (vw C h) c)) (r := 0) (r' := 0) (show q396 (vw C h) (((0) + ((1) * ρ 7 + 0))) from hP _ (List.mem_of_getElem? (i := 0) rfl)) rfl (by omega)
  have p1 : qCp (ρ 2 + 128 * ρ 7 + 12) (ρ 8) := c2 (P := qCp) (show qCp (((12) + ((1) * ρ 2 + ((128) * ρ 7 + 0)))) (((0) + ((1) * ρ 8 + 0))) from hP _ (List.mem_of_getElem? (i := 1) rfl)) (by omega) (by omega)
  have p2 : qCp (ρ 1 + 5 * ρ 2 + 128 * ρ 7 + 36) (ρ 9) := c2 (P := qCp) (show qCp (((36) + ((1) * ρ 1 + ((5) * ρ 2 + ((128) * ρ 7 + 0))))) (((0) + ((1) * ρ 9 + 0))) from hP _ (List.mem_of_getElem? (i := 2) rfl)) (by omega) (by omega)
  have p3 : q130 (8589934592 * ρ 0 + ρ 9) (ρ 10) := c2 (P := q130) (show q130 (((0) + ((8589934592) * ρ 0 + ((1) * ρ 9 + 0)))) (((0) + ((1) * ρ 10 + 0))) from hP _ (List.mem_of_getElem? (i := 3) rfl)) (by omega) (by omega)
  rcases (by omega : ((0 : Int) ≤ (-1) * ρ 10) ∨ ((0 : Int) ≤ ρ 10 + (-1))) with hc | hc
  · refine ⟨_, List.mem_cons_self, ρ, fun _ _ => rfl, fun q hq => absurd hq List.not_mem_nil, trivial, fun f hf => ?_, fun q hq => absurd hq List.not_mem_nil, fun q hq => absurd hq List.not_mem_nil, fun q hq => absurd hq List.not_mem_nil, fun q hq => ?_⟩
    · simp only [List.mem_cons, List.not_mem_nil, or_false] at hf
      subst hf
      show (0 : Int) ≤ ((0) + ((-1) * ρ 10 + 0))
      omega
    · exact absurd hq List.not_mem_nil
  · refine ⟨_, (List.mem_cons_of_mem _ List.mem_cons_self), ρ, fun _ _ => rfl, fun q hq => absurd hq List.not_mem_nil, trivial, fun f hf => ?_, fun q hq => absurd hq List.not_mem_nil, fun q hq => absurd hq List.not_mem_nil, fun q hq => absurd hq List.not_mem_nil, fun q hq => ?_⟩
    · simp only [List.mem_cons, List.not_mem_nil, or_false] at hf
      subst hf
      show (0 : Int) ≤ ((-1) + ((1) * ρ 10 + 0))
      omega
    · exact absurd hq List.not_mem_nil
end LMT
