section LMT
variable {G C : Nat → Nat} {h : mH} {D : Nat} {xs : Nat → Int32}
/-- skNewC -/
theorem lem_191_ok (hU : uqG G C) : lem_191.1.2.1 = [] ∧ lemOK (PRd G C D xs) G rgs lem_191 := by
  refine ⟨rfl, fun ρ h ha hT => ?_⟩
  obtain ⟨-, -, hF, hG, hH, hA, hP⟩ := ha
  have f0 : (0 : Int) ≤ ((0) + ((1) * ρ 1 + 0)) := hF _ (List.mem_of_getElem? (i := 0) rfl)
  have f1 : (0 : Int) ≤ ((1200) + ((-1) * ρ 1 + 0)) := hF _ (List.mem_of_getElem? (i := 1) rfl)
  have f2 : (0 : Int) ≤ ((0) + ((1) * ρ 2 + 0)) := hF _ (List.mem_of_getElem? (i := 2) rfl)
  have f3 : (0 : Int) ≤ ((0) + ((1) * ρ 1 + ((-1) * ρ 2 + 0))) := hF _ (List.mem_of_getElem? (i := 3) rfl)
  have g0 : G (ρ 0).toNat = 17 := by
    have q := (hG _ (List.mem_of_getElem? (i := 0) rfl)).2
    rwa [show ev ρ (0, [(0, 1)]) = ρ 0 from ev_v] at q
  have h0 : (0 : Int) ≤ ρ 1 ∧ ρ 1 ≤ 1200 := hf_rg hT (hH _ (List.mem_of_getElem? (i := 0) rfl)) ev_v g0 rfl rfl rfl ev_v
  have h1 : (0 : Int) ≤ ρ 2 ∧ ρ 2 ≤ 1200 := hf_rg hT (hH _ (List.mem_of_getElem? (i := 1) rfl)) ev_v g0 rfl rfl rfl ev_v
  have p0 : q156 (tB (vw C h)) (ρ 1 + 2048 * ρ 2) (ρ 3) := c2 (P := q156 (tB (vw C h))) (show q156 (tB (vw C h)) (((0) + ((1) * ρ 1 + ((2048) * ρ 2 + 0)))) (((0) + ((1) * ρ 3 + 0))) from hP _ (List.mem_of_getElem? (i := 0) rfl)) (by omega) (by omega)
  obtain ⟨q1, q2, q3, q4⟩ := sk_new (n := ρ 1) (i := ρ 2) (e := ((tRn isBl (tB (vw C h)) (ρ 1).toNat (ρ 2).toNat : Nat) : Int)) (r3 := ρ 1 + 2048 * ((tRn isBl (tB (vw C h)) (ρ 1).toNat (ρ 2).toNat : Nat) : Int)) (by omega) (by omega) (by omega) (by omega) (by omega) rfl rfl p0
  obtain ⟨σ, r1, r2a⟩ : ∃ σ : Va, (∀ i, i < 4 → σ i = ρ i) ∧ σ 4 = ((tRn isBl (tB (vw C h)) (ρ 1).toNat (ρ 2).toNat : Nat) : Int) := ⟨fun i => if i = 4 then ((tRn isBl (tB (vw C h)) (ρ 1).toNat (ρ 2).toNat : Nat) : Int) else ρ i, fun i hi => by dsimp only; rw [if_neg (by omega)], by dsimp only; rw [if_pos rfl]⟩
  have s0 := r1 0 (by omega)
  have s1 := r1 1 (by omega)
  have s2 := r1 2 (by omega)
  have s3 := r1 3 (by omega)
  refine ⟨_, List.mem_cons_self, σ, r1, fun q hq => absurd hq List.not_mem_nil, trivial, fun f hf => ?_, fun q hq => absurd hq List.not_mem_nil, fun q hq => absurd hq List.not_mem_nil, fun q hq => absurd hq List.not_mem_nil, fun q hq => ?_⟩
  · simp only [List.mem_cons, List.not_mem_nil, or_false] at hf
    rcases hf with rfl | rfl
    · show (0 : Int) ≤ ((0) + ((-1) * σ 2 + ((1) * σ 4 + 0)))
      omega
    · show (0 : Int) ≤ ((0) + ((1) * σ 1 + ((-1) * σ 4 + 0)))
      omega
  · simp only [List.mem_cons, List.not_mem_nil, or_false] at hq
    rcases hq with rfl | rfl
    · show qRn isBl (tB (vw C h)) (((0) + ((1) * σ 1 + ((2048) * σ 2 + 0)))) (((0) + ((1) * σ 4 + 0)))
      refine c2 (P := qRn isBl (tB (vw C h))) (r := ρ 1 + 2048 * ρ 2) (c := ((tRn isBl (tB (vw C h)) (ρ 1).toNat (ρ 2).toNat : Nat) : Int)) ?_ (by omega) (by omega)
      show qRn isBl (tB (vw C h)) (ρ 1 + 2048 * ρ 2) (((tRn isBl (tB (vw C h)) (ρ 1).toNat (ρ 2).toNat : Nat) : Int))
      exact c2 (P := qRn isBl (tB (vw C h))) q3 (by omega) (by omega)
    · show q158 (tB (vw C h)) (((0) + ((1) * σ 1 + ((2048) * σ 4 + 0)))) (((0) + ((1) * σ 3 + 0)))
      refine c2 (P := q158 (tB (vw C h))) (r := ρ 1 + 2048 * ((tRn isBl (tB (vw C h)) (ρ 1).toNat (ρ 2).toNat : Nat) : Int)) (c := ρ 3) ?_ (by omega) (by omega)
      show q158 (tB (vw C h)) (ρ 1 + 2048 * ((tRn isBl (tB (vw C h)) (ρ 1).toNat (ρ 2).toNat : Nat) : Int)) (ρ 3)
      exact c2 (P := q158 (tB (vw C h))) q4 (by omega) (by omega)
/-- skStepC -/
theorem lem_192_ok (hU : uqG G C) : lem_192.1.2.1 = [] ∧ lemOK (PRd G C D xs) G rgs lem_192 := by
  refine ⟨rfl, fun ρ h ha hT => ?_⟩
  obtain ⟨-, -, hF, hG, hH, hA, hP⟩ := ha
  have f0 : (0 : Int) ≤ ((0) + ((1) * ρ 1 + 0)) := hF _ (List.mem_of_getElem? (i := 0) rfl)
  have f1 : (0 : Int) ≤ ((1200) + ((-1) * ρ 1 + 0)) := hF _ (List.mem_of_getElem? (i := 1) rfl)
  have f2 : (0 : Int) ≤ ((0) + ((1) * ρ 2 + 0)) := hF _ (List.mem_of_getElem? (i := 2) rfl)
  have f3 : (0 : Int) ≤ ((-1) + ((1) * ρ 1 + ((-1) * ρ 2 + 0))) := hF _ (List.mem_of_getElem? (i := 3) rfl)
  have f4 : (0 : Int) ≤ ((-32) + ((1) * ρ 4 + 0)) := hF _ (List.mem_of_getElem? (i := 4) rfl)
  have f5 : (0 : Int) ≤ ((32) + ((-1) * ρ 4 + 0)) := hF _ (List.mem_of_getElem? (i := 5) rfl)
  have g0 : G (ρ 0).toNat = 17 := by
    have q := (hG _ (List.mem_of_getElem? (i := 0) rfl)).2
    rwa [show ev ρ (0, [(0, 1)]) = ρ 0 from ev_v] at q
  have g1 : G (ρ 3).toNat = 100 := by
    have q := (hG _ (List.mem_of_getElem? (i := 1) rfl)).2
    rwa [show ev ρ (0, [(3, 1)]) = ρ 3 from ev_v] at q
  have h0 : (0 : Int) ≤ ρ 1 ∧ ρ 1 ≤ 1200 := hf_rg hT (hH _ (List.mem_of_getElem? (i := 0) rfl)) ev_v g0 rfl rfl rfl ev_v
  have h1 : (0 : Int) ≤ ρ 2 ∧ ρ 2 ≤ 1200 := hf_rg hT (hH _ (List.mem_of_getElem? (i := 1) rfl)) ev_v g0 rfl rfl rfl ev_v
  have b0 : (0 : Int) ≤ ((0) + ((1) * ρ 2 + 0)) := b_aA (hA _ (List.mem_of_getElem? (i := 0) rfl))
  have a0 : vw C h 100 ((ρ 2).toNat) = ρ 4 := vw_aA hU (hA _ (List.mem_of_getElem? (i := 0) rfl)) ev_v g1 (by omega) (by omega) (i := (ρ 2).toNat) (show ((((ρ 2).toNat : Nat)) : Int) = ((0) + ((1) * ρ 2 + 0)) by omega) ev_v
  have p0 : qRn isBl (tB (vw C h)) (ρ 1 + 2048 * ρ 2) (ρ 5) := c2 (P := qRn isBl (tB (vw C h))) (show qRn isBl (tB (vw C h)) (((0) + ((1) * ρ 1 + ((2048) * ρ 2 + 0)))) (((0) + ((1) * ρ 5 + 0))) from hP _ (List.mem_of_getElem? (i := 0) rfl)) (by omega) (by omega)
  have hb := by_C hU hT (j := ρ 2) (b := ρ 4) (by omega) (by omega) a0
  obtain ⟨q1, q2⟩ := rn_step p_bl (n := ρ 1) (i := ρ 2) (r2 := ρ 1 + 2048 * (ρ 2 + 1)) (by omega) rfl (by omega) (by omega) (by omega) (by omega) (bl_y hb (by omega) (by omega)) p0
  refine ⟨_, List.mem_cons_self, ρ, fun _ _ => rfl, fun q hq => absurd hq List.not_mem_nil, trivial, fun f hf => ?_, fun q hq => absurd hq List.not_mem_nil, fun q hq => absurd hq List.not_mem_nil, fun q hq => absurd hq List.not_mem_nil, fun q hq => ?_⟩
  · simp only [List.mem_cons, List.not_mem_nil, or_false] at hf
    subst hf
    show (0 : Int) ≤ ((-1) + ((-1) * ρ 2 + ((1) * ρ 5 + 0)))
    omega
  · simp only [List.mem_cons, List.not_mem_nil, or_false] at hq
    subst hq
    show qRn isBl (tB (vw C h)) (((2048) + ((1) * ρ 1 + ((2048) * ρ 2 + 0)))) (((0) + ((1) * ρ 5 + 0)))
    refine c2 (P := qRn isBl (tB (vw C h))) (r := ρ 1 + 2048 * ρ 2 + 2048) (c := ρ 5) ?_ (by omega) (by omega)
    show qRn isBl (tB (vw C h)) (ρ 1 + 2048 * ρ 2 + 2048) (ρ 5)
    exact c2 (P := qRn isBl (tB (vw C h))) q2 (by omega) (by omega)
/-- skEndC -/
theorem lem_193_ok (hU : uqG G C) : lem_193.1.2.1 = [] ∧ lemOK (PRd G C D xs) G rgs lem_193 := by
  refine ⟨rfl, fun ρ h ha hT => ?_⟩
  obtain ⟨-, -, hF, hG, hH, hA, hP⟩ := ha
  have f0 : (0 : Int) ≤ ((0) + ((1) * ρ 1 + 0)) := hF _ (List.mem_of_getElem? (i := 0) rfl)
  have f1 : (0 : Int) ≤ ((1200) + ((-1) * ρ 1 + 0)) := hF _ (List.mem_of_getElem? (i := 1) rfl)
  have f2 : (0 : Int) ≤ ((0) + ((-1) * ρ 1 + ((1) * ρ 2 + 0))) := hF _ (List.mem_of_getElem? (i := 2) rfl)
  have f3 : (0 : Int) ≤ ((0) + ((1) * ρ 1 + ((-1) * ρ 2 + 0))) := hF _ (List.mem_of_getElem? (i := 3) rfl)
  have g0 : G (ρ 0).toNat = 17 := by
    have q := (hG _ (List.mem_of_getElem? (i := 0) rfl)).2
    rwa [show ev ρ (0, [(0, 1)]) = ρ 0 from ev_v] at q
  have h0 : (0 : Int) ≤ ρ 1 ∧ ρ 1 ≤ 1200 := hf_rg hT (hH _ (List.mem_of_getElem? (i := 0) rfl)) ev_v g0 rfl rfl rfl ev_v
  have h1 : (0 : Int) ≤ ρ 2 ∧ ρ 2 ≤ 1200 := hf_rg hT (hH _ (List.mem_of_getElem? (i := 1) rfl)) ev_v g0 rfl rfl rfl ev_v
  have p0 : qRn isBl (tB (vw C h)) (ρ 1 + 2048 * ρ 2) (ρ 3) := c2 (P := qRn isBl (tB (vw C h))) (show qRn isBl (tB (vw C h)) (((0) + ((1) * ρ 1 + ((2048) * ρ 2 + 0)))) (((0) + ((1) * ρ 3 + 0))) from hP _ (List.mem_of_getElem? (i := 0) rfl)) (by omega) (by omega)
  have q := rn_stop p_bl (n := ρ 1) (i := ρ 2) (by omega) (by omega) (by omega) (by omega) (by omega) (fun hlt => absurd hlt (by omega)) p0
  refine ⟨_, List.mem_cons_self, ρ, fun _ _ => rfl, fun q hq => absurd hq List.not_mem_nil, trivial, fun f hf => ?_, fun q hq => absurd hq List.not_mem_nil, fun q hq => absurd hq List.not_mem_nil, fun q hq => absurd hq List.not_mem_nil, fun q hq => ?_⟩
  · simp only [List.mem_cons, List.not_mem_nil, or_false] at hf
    rcases hf with rfl | rfl
    · show (0 : Int) ≤ ((0) + ((1) * ρ 2 + ((-1) * ρ 3 + 0)))
      omega
    · show (0 : Int) ≤ ((0) + ((-1) * ρ 2 + ((1) * ρ 3 + 0)))
      omega
  · exact absurd hq List.not_mem_nil
/-- skLoC -/
theorem lem_194_ok (hU : uqG G C) : lem_194.1.2.1 = [] ∧ lemOK (PRd G C D xs) G rgs lem_194 := by
  refine ⟨rfl, fun ρ h ha hT => ?_⟩
  obtain ⟨-, -, hF, hG, hH, hA, hP⟩ := ha
  have f0 : (0 : Int) ≤ ((0) + ((1) * ρ 1 + 0)) := hF _ (List.mem_of_getElem? (i := 0) rfl)
  have f1 : (0 : Int) ≤ ((1200) + ((-1) * ρ 1 + 0)) := hF _ (List.mem_of_getElem? (i := 1) rfl)
  have f2 : (0 : Int) ≤ ((0) + ((1) * ρ 2 + 0)) := hF _ (List.mem_of_getElem? (i := 2) rfl)
  have f3 : (0 : Int) ≤ ((-1) + ((1) * ρ 1 + ((-1) * ρ 2 + 0))) := hF _ (List.mem_of_getElem? (i := 3) rfl)
  have f4 : (0 : Int) ≤ ((31) + ((-1) * ρ 4 + 0)) := hF _ (List.mem_of_getElem? (i := 4) rfl)
  have g0 : G (ρ 0).toNat = 17 := by
    have q := (hG _ (List.mem_of_getElem? (i := 0) rfl)).2
    rwa [show ev ρ (0, [(0, 1)]) = ρ 0 from ev_v] at q
  have g1 : G (ρ 3).toNat = 100 := by
    have q := (hG _ (List.mem_of_getElem? (i := 1) rfl)).2
    rwa [show ev ρ (0, [(3, 1)]) = ρ 3 from ev_v] at q
  have h0 : (0 : Int) ≤ ρ 1 ∧ ρ 1 ≤ 1200 := hf_rg hT (hH _ (List.mem_of_getElem? (i := 0) rfl)) ev_v g0 rfl rfl rfl ev_v
  have h1 : (0 : Int) ≤ ρ 2 ∧ ρ 2 ≤ 1200 := hf_rg hT (hH _ (List.mem_of_getElem? (i := 1) rfl)) ev_v g0 rfl rfl rfl ev_v
  have b0 : (0 : Int) ≤ ((0) + ((1) * ρ 2 + 0)) := b_aA (hA _ (List.mem_of_getElem? (i := 0) rfl))
  have a0 : vw C h 100 ((ρ 2).toNat) = ρ 4 := vw_aA hU (hA _ (List.mem_of_getElem? (i := 0) rfl)) ev_v g1 (by omega) (by omega) (i := (ρ 2).toNat) (show ((((ρ 2).toNat : Nat)) : Int) = ((0) + ((1) * ρ 2 + 0)) by omega) ev_v
  have p0 : qRn isBl (tB (vw C h)) (ρ 1 + 2048 * ρ 2) (ρ 5) := c2 (P := qRn isBl (tB (vw C h))) (show qRn isBl (tB (vw C h)) (((0) + ((1) * ρ 1 + ((2048) * ρ 2 + 0)))) (((0) + ((1) * ρ 5 + 0))) from hP _ (List.mem_of_getElem? (i := 0) rfl)) (by omega) (by omega)
  have hb := by_C hU hT (j := ρ 2) (b := ρ 4) (by omega) (by omega) a0
  have q := rn_stop p_bl (n := ρ 1) (i := ρ 2) (by omega) (by omega) (by omega) (by omega) (by omega) (fun _ => bl_n hb (Or.inl (by omega))) p0
  refine ⟨_, List.mem_cons_self, ρ, fun _ _ => rfl, fun q hq => absurd hq List.not_mem_nil, trivial, fun f hf => ?_, fun q hq => absurd hq List.not_mem_nil, fun q hq => absurd hq List.not_mem_nil, fun q hq => absurd hq List.not_mem_nil, fun q hq => ?_⟩
  · simp only [List.mem_cons, List.not_mem_nil, or_false] at hf
    rcases hf with rfl | rfl
    · show (0 : Int) ≤ ((0) + ((1) * ρ 2 + ((-1) * ρ 5 + 0)))
      omega
    · show (0 : Int) ≤ ((0) + ((-1) * ρ 2 + ((1) * ρ 5 + 0)))
      omega
  · exact absurd hq List.not_mem_nil
/-- skHiC -/
theorem lem_195_ok (hU : uqG G C) : lem_195.1.2.1 = [] ∧ lemOK (PRd G C D xs) G rgs lem_195 := by
  refine ⟨rfl, fun ρ h ha hT => ?_⟩
  obtain ⟨-, -, hF, hG, hH, hA, hP⟩ := ha
  have f0 : (0 : Int) ≤ ((0) + ((1) * ρ 1 + 0)) := hF _ (List.mem_of_getElem? (i := 0) rfl)
  have f1 : (0 : Int) ≤ ((1200) + ((-1) * ρ 1 + 0)) := hF _ (List.mem_of_getElem? (i := 1) rfl)
  have f2 : (0 : Int) ≤ ((0) + ((1) * ρ 2 + 0)) := hF _ (List.mem_of_getElem? (i := 2) rfl)
  have f3 : (0 : Int) ≤ ((-1) + ((1) * ρ 1 + ((-1) * ρ 2 + 0))) := hF _ (List.mem_of_getElem? (i := 3) rfl)
  have f4 : (0 : Int) ≤ ((-33) + ((1) * ρ 4 + 0)) := hF _ (List.mem_of_getElem? (i := 4) rfl)
  have g0 : G (ρ 0).toNat = 17 := by
    have q := (hG _ (List.mem_of_getElem? (i := 0) rfl)).2
    rwa [show ev ρ (0, [(0, 1)]) = ρ 0 from ev_v] at q
  have g1 : G (ρ 3).toNat = 100 := by
    have q := (hG _ (List.mem_of_getElem? (i := 1) rfl)).2
    rwa [show ev ρ (0, [(3, 1)]) = ρ 3 from ev_v] at q
  have h0 : (0 : Int) ≤ ρ 1 ∧ ρ 1 ≤ 1200 := hf_rg hT (hH _ (List.mem_of_getElem? (i := 0) rfl)) ev_v g0 rfl rfl rfl ev_v
  have h1 : (0 : Int) ≤ ρ 2 ∧ ρ 2 ≤ 1200 := hf_rg hT (hH _ (List.mem_of_getElem? (i := 1) rfl)) ev_v g0 rfl rfl rfl ev_v
  have b0 : (0 : Int) ≤ ((0) + ((1) * ρ 2 + 0)) := b_aA (hA _ (List.mem_of_getElem? (i := 0) rfl))
  have a0 : vw C h 100 ((ρ 2).toNat) = ρ 4 := vw_aA hU (hA _ (List.mem_of_getElem? (i := 0) rfl)) ev_v g1 (by omega) (by omega) (i := (ρ 2).toNat) (show ((((ρ 2).toNat : Nat)) : Int) = ((0) + ((1) * ρ 2 + 0)) by omega) ev_v
  have p0 : qRn isBl (tB (vw C h)) (ρ 1 + 2048 * ρ 2) (ρ 5) := c2 (P := qRn isBl (tB (vw C h))) (show qRn isBl (tB (vw C h)) (((0) + ((1) * ρ 1 + ((2048) * ρ 2 + 0)))) (((0) + ((1) * ρ 5 + 0))) from hP _ (List.mem_of_getElem? (i := 0) rfl)) (by omega) (by omega)
  have hb := by_C hU hT (j := ρ 2) (b := ρ 4) (by omega) (by omega) a0
  have q := rn_stop p_bl (n := ρ 1) (i := ρ 2) (by omega) (by omega) (by omega) (by omega) (by omega) (fun _ => bl_n hb (Or.inr (by omega))) p0
  refine ⟨_, List.mem_cons_self, ρ, fun _ _ => rfl, fun q hq => absurd hq List.not_mem_nil, trivial, fun f hf => ?_, fun q hq => absurd hq List.not_mem_nil, fun q hq => absurd hq List.not_mem_nil, fun q hq => absurd hq List.not_mem_nil, fun q hq => ?_⟩
  · simp only [List.mem_cons, List.not_mem_nil, or_false] at hf
    rcases hf with rfl | rfl
    · show (0 : Int) ≤ ((0) + ((1) * ρ 2 + ((-1) * ρ 5 + 0)))
      omega
    · show (0 : Int) ≤ ((0) + ((-1) * ρ 2 + ((1) * ρ 5 + 0)))
      omega
  · exact absurd hq List.not_mem_nil
/-- ltStepC -/
theorem lem_196_ok (hU : uqG G C) : lem_196.1.2.1 = [] ∧ lemOK (PRd G C D xs) G rgs lem_196 := by
  refine ⟨rfl, fun ρ h ha hT => ?_⟩
  obtain ⟨-, -, hF, hG, hH, hA, hP⟩ := ha
  have f0 : (0 : Int) ≤ ((0) + ((1) * ρ 1 + 0)) := hF _ (List.mem_of_getElem? (i := 0) rfl)
  have f1 : (0 : Int) ≤ ((1200) + ((-1) * ρ 1 + 0)) := hF _ (List.mem_of_getElem? (i := 1) rfl)
  have f2 : (0 : Int) ≤ ((0) + ((1) * ρ 2 + 0)) := hF _ (List.mem_of_getElem? (i := 2) rfl)
  have f3 : (0 : Int) ≤ ((-1) + ((1) * ρ 1 + ((-1) * ρ 2 + 0))) := hF _ (List.mem_of_getElem? (i := 3) rfl)
  have f4 : (0 : Int) ≤ ((-97) + ((1) * ρ 4 + 0)) := hF _ (List.mem_of_getElem? (i := 4) rfl)
  have f5 : (0 : Int) ≤ ((122) + ((-1) * ρ 4 + 0)) := hF _ (List.mem_of_getElem? (i := 5) rfl)
  have g0 : G (ρ 0).toNat = 17 := by
    have q := (hG _ (List.mem_of_getElem? (i := 0) rfl)).2
    rwa [show ev ρ (0, [(0, 1)]) = ρ 0 from ev_v] at q
  have g1 : G (ρ 3).toNat = 100 := by
    have q := (hG _ (List.mem_of_getElem? (i := 1) rfl)).2
    rwa [show ev ρ (0, [(3, 1)]) = ρ 3 from ev_v] at q
  have h0 : (0 : Int) ≤ ρ 1 ∧ ρ 1 ≤ 1200 := hf_rg hT (hH _ (List.mem_of_getElem? (i := 0) rfl)) ev_v g0 rfl rfl rfl ev_v
  have h1 : (0 : Int) ≤ ρ 2 ∧ ρ 2 ≤ 1200 := hf_rg hT (hH _ (List.mem_of_getElem? (i := 1) rfl)) ev_v g0 rfl rfl rfl ev_v
  have b0 : (0 : Int) ≤ ((0) + ((1) * ρ 2 + 0)) := b_aA (hA _ (List.mem_of_getElem? (i := 0) rfl))
  have a0 : vw C h 100 ((ρ 2).toNat) = ρ 4 := vw_aA hU (hA _ (List.mem_of_getElem? (i := 0) rfl)) ev_v g1 (by omega) (by omega) (i := (ρ 2).toNat) (show ((((ρ 2).toNat : Nat)) : Int) = ((0) + ((1) * ρ 2 + 0)) by omega) ev_v
  have p0 : qRn isLt (tB (vw C h)) (ρ 1 + 2048 * ρ 2) (ρ 5) := c2 (P := qRn isLt (tB (vw C h))) (show qRn isLt (tB (vw C h)) (((0) + ((1) * ρ 1 + ((2048) * ρ 2 + 0)))) (((0) + ((1) * ρ 5 + 0))) from hP _ (List.mem_of_getElem? (i := 0) rfl)) (by omega) (by omega)
  have hb := by_C hU hT (j := ρ 2) (b := ρ 4) (by omega) (by omega) a0
  obtain ⟨q1, q2⟩ := rn_step p_lt (n := ρ 1) (i := ρ 2) (r2 := ρ 1 + 2048 * (ρ 2 + 1)) (by omega) rfl (by omega) (by omega) (by omega) (by omega) (lt_y hb (by omega) (by omega)) p0
  refine ⟨_, List.mem_cons_self, ρ, fun _ _ => rfl, fun q hq => absurd hq List.not_mem_nil, trivial, fun f hf => ?_, fun q hq => absurd hq List.not_mem_nil, fun q hq => absurd hq List.not_mem_nil, fun q hq => absurd hq List.not_mem_nil, fun q hq => ?_⟩
  · simp only [List.mem_cons, List.not_mem_nil, or_false] at hf
    subst hf
    show (0 : Int) ≤ ((-1) + ((-1) * ρ 2 + ((1) * ρ 5 + 0)))
    omega
  · simp only [List.mem_cons, List.not_mem_nil, or_false] at hq
    subst hq
    show qRn isLt (tB (vw C h)) (((2048) + ((1) * ρ 1 + ((2048) * ρ 2 + 0)))) (((0) + ((1) * ρ 5 + 0)))
    refine c2 (P := qRn isLt (tB (vw C h))) (r := ρ 1 + 2048 * ρ 2 + 2048) (c := ρ 5) ?_ (by omega) (by omega)
    show qRn isLt (tB (vw C h)) (ρ 1 + 2048 * ρ 2 + 2048) (ρ 5)
    exact c2 (P := qRn isLt (tB (vw C h))) q2 (by omega) (by omega)
/-- ltEndC -/
theorem lem_197_ok (hU : uqG G C) : lem_197.1.2.1 = [] ∧ lemOK (PRd G C D xs) G rgs lem_197 := by
  refine ⟨rfl, fun ρ h ha hT => ?_⟩
  obtain ⟨-, -, hF, hG, hH, hA, hP⟩ := ha
  have f0 : (0 : Int) ≤ ((0) + ((1) * ρ 1 + 0)) := hF _ (List.mem_of_getElem? (i := 0) rfl)
  have f1 : (0 : Int) ≤ ((1200) + ((-1) * ρ 1 + 0)) := hF _ (List.mem_of_getElem? (i := 1) rfl)
  have f2 : (0 : Int) ≤ ((0) + ((-1) * ρ 1 + ((1) * ρ 2 + 0))) := hF _ (List.mem_of_getElem? (i := 2) rfl)
  have f3 : (0 : Int) ≤ ((0) + ((1) * ρ 1 + ((-1) * ρ 2 + 0))) := hF _ (List.mem_of_getElem? (i := 3) rfl)
  have g0 : G (ρ 0).toNat = 17 := by
    have q := (hG _ (List.mem_of_getElem? (i := 0) rfl)).2
    rwa [show ev ρ (0, [(0, 1)]) = ρ 0 from ev_v] at q
  have h0 : (0 : Int) ≤ ρ 1 ∧ ρ 1 ≤ 1200 := hf_rg hT (hH _ (List.mem_of_getElem? (i := 0) rfl)) ev_v g0 rfl rfl rfl ev_v
  have h1 : (0 : Int) ≤ ρ 2 ∧ ρ 2 ≤ 1200 := hf_rg hT (hH _ (List.mem_of_getElem? (i := 1) rfl)) ev_v g0 rfl rfl rfl ev_v
  have p0 : qRn isLt (tB (vw C h)) (ρ 1 + 2048 * ρ 2) (ρ 3) := c2 (P := qRn isLt (tB (vw C h))) (show qRn isLt (tB (vw C h)) (((0) + ((1) * ρ 1 + ((2048) * ρ 2 + 0)))) (((0) + ((1) * ρ 3 + 0))) from hP _ (List.mem_of_getElem? (i := 0) rfl)) (by omega) (by omega)
  have q := rn_stop p_lt (n := ρ 1) (i := ρ 2) (by omega) (by omega) (by omega) (by omega) (by omega) (fun hlt => absurd hlt (by omega)) p0
  refine ⟨_, List.mem_cons_self, ρ, fun _ _ => rfl, fun q hq => absurd hq List.not_mem_nil, trivial, fun f hf => ?_, fun q hq => absurd hq List.not_mem_nil, fun q hq => absurd hq List.not_mem_nil, fun q hq => absurd hq List.not_mem_nil, fun q hq => ?_⟩
  · simp only [List.mem_cons, List.not_mem_nil, or_false] at hf
    rcases hf with rfl | rfl
    · show (0 : Int) ≤ ((0) + ((1) * ρ 2 + ((-1) * ρ 3 + 0)))
      omega
    · show (0 : Int) ≤ ((0) + ((-1) * ρ 2 + ((1) * ρ 3 + 0)))
      omega
  · exact absurd hq List.not_mem_nil
/-- ltLoC -/
theorem lem_198_ok (hU : uqG G C) : lem_198.1.2.1 = [] ∧ lemOK (PRd G C D xs) G rgs lem_198 := by
  refine ⟨rfl, fun ρ h ha hT => ?_⟩
  obtain ⟨-, -, hF, hG, hH, hA, hP⟩ := ha
  have f0 : (0 : Int) ≤ ((0) + ((1) * ρ 1 + 0)) := hF _ (List.mem_of_getElem? (i := 0) rfl)
  have f1 : (0 : Int) ≤ ((1200) + ((-1) * ρ 1 + 0)) := hF _ (List.mem_of_getElem? (i := 1) rfl)
  have f2 : (0 : Int) ≤ ((0) + ((1) * ρ 2 + 0)) := hF _ (List.mem_of_getElem? (i := 2) rfl)
  have f3 : (0 : Int) ≤ ((-1) + ((1) * ρ 1 + ((-1) * ρ 2 + 0))) := hF _ (List.mem_of_getElem? (i := 3) rfl)
  have f4 : (0 : Int) ≤ ((96) + ((-1) * ρ 4 + 0)) := hF _ (List.mem_of_getElem? (i := 4) rfl)
  have g0 : G (ρ 0).toNat = 17 := by
    have q := (hG _ (List.mem_of_getElem? (i := 0) rfl)).2
    rwa [show ev ρ (0, [(0, 1)]) = ρ 0 from ev_v] at q
  have g1 : G (ρ 3).toNat = 100 := by
    have q := (hG _ (List.mem_of_getElem? (i := 1) rfl)).2
    rwa [show ev ρ (0, [(3, 1)]) = ρ 3 from ev_v] at q
  have h0 : (0 : Int) ≤ ρ 1 ∧ ρ 1 ≤ 1200 := hf_rg hT (hH _ (List.mem_of_getElem? (i := 0) rfl)) ev_v g0 rfl rfl rfl ev_v
  have h1 : (0 : Int) ≤ ρ 2 ∧ ρ 2 ≤ 1200 := hf_rg hT (hH _ (List.mem_of_getElem? (i := 1) rfl)) ev_v g0 rfl rfl rfl ev_v
  have b0 : (0 : Int) ≤ ((0) + ((1) * ρ 2 + 0)) := b_aA (hA _ (List.mem_of_getElem? (i := 0) rfl))
  have a0 : vw C h 100 ((ρ 2).toNat) = ρ 4 := vw_aA hU (hA _ (List.mem_of_getElem? (i := 0) rfl)) ev_v g1 (by omega) (by omega) (i := (ρ 2).toNat) (show ((((ρ 2).toNat : Nat)) : Int) = ((0) + ((1) * ρ 2 + 0)) by omega) ev_v
  have p0 : qRn isLt (tB (vw C h)) (ρ 1 + 2048 * ρ 2) (ρ 5) := c2 (P := qRn isLt (tB (vw C h))) (show qRn isLt (tB (vw C h)) (((0) + ((1) * ρ 1 + ((2048) * ρ 2 + 0)))) (((0) + ((1) * ρ 5 + 0))) from hP _ (List.mem_of_getElem? (i := 0) rfl)) (by omega) (by omega)
  have hb := by_C hU hT (j := ρ 2) (b := ρ 4) (by omega) (by omega) a0
  have q := rn_stop p_lt (n := ρ 1) (i := ρ 2) (by omega) (by omega) (by omega) (by omega) (by omega) (fun _ => lt_n hb (Or.inl (by omega))) p0
  refine ⟨_, List.mem_cons_self, ρ, fun _ _ => rfl, fun q hq => absurd hq List.not_mem_nil, trivial, fun f hf => ?_, fun q hq => absurd hq List.not_mem_nil, fun q hq => absurd hq List.not_mem_nil, fun q hq => absurd hq List.not_mem_nil, fun q hq => ?_⟩
  · simp only [List.mem_cons, List.not_mem_nil, or_false] at hf
    rcases hf with rfl | rfl
    · show (0 : Int) ≤ ((0) + ((1) * ρ 2 + ((-1) * ρ 5 + 0)))
      omega
    · show (0 : Int) ≤ ((0) + ((-1) * ρ 2 + ((1) * ρ 5 + 0)))
      omega
  · exact absurd hq List.not_mem_nil
/-- ltHiC -/
theorem lem_199_ok (hU : uqG G C) : lem_199.1.2.1 = [] ∧ lemOK (PRd G C D xs) G rgs lem_199 := by
  refine ⟨rfl, fun ρ h ha hT => ?_⟩
  obtain ⟨-, -, hF, hG, hH, hA, hP⟩ := ha
  have f0 : (0 : Int) ≤ ((0) + ((1) * ρ 1 + 0)) := hF _ (List.mem_of_getElem? (i := 0) rfl)
  have f1 : (0 : Int) ≤ ((1200) + ((-1) * ρ 1 + 0)) := hF _ (List.mem_of_getElem? (i := 1) rfl)
  have f2 : (0 : Int) ≤ ((0) + ((1) * ρ 2 + 0)) := hF _ (List.mem_of_getElem? (i := 2) rfl)
  have f3 : (0 : Int) ≤ ((-1) + ((1) * ρ 1 + ((-1) * ρ 2 + 0))) := hF _ (List.mem_of_getElem? (i := 3) rfl)
  have f4 : (0 : Int) ≤ ((-123) + ((1) * ρ 4 + 0)) := hF _ (List.mem_of_getElem? (i := 4) rfl)
  have g0 : G (ρ 0).toNat = 17 := by
    have q := (hG _ (List.mem_of_getElem? (i := 0) rfl)).2
    rwa [show ev ρ (0, [(0, 1)]) = ρ 0 from ev_v] at q
  have g1 : G (ρ 3).toNat = 100 := by
    have q := (hG _ (List.mem_of_getElem? (i := 1) rfl)).2
    rwa [show ev ρ (0, [(3, 1)]) = ρ 3 from ev_v] at q
  have h0 : (0 : Int) ≤ ρ 1 ∧ ρ 1 ≤ 1200 := hf_rg hT (hH _ (List.mem_of_getElem? (i := 0) rfl)) ev_v g0 rfl rfl rfl ev_v
  have h1 : (0 : Int) ≤ ρ 2 ∧ ρ 2 ≤ 1200 := hf_rg hT (hH _ (List.mem_of_getElem? (i := 1) rfl)) ev_v g0 rfl rfl rfl ev_v
  have b0 : (0 : Int) ≤ ((0) + ((1) * ρ 2 + 0)) := b_aA (hA _ (List.mem_of_getElem? (i := 0) rfl))
  have a0 : vw C h 100 ((ρ 2).toNat) = ρ 4 := vw_aA hU (hA _ (List.mem_of_getElem? (i := 0) rfl)) ev_v g1 (by omega) (by omega) (i := (ρ 2).toNat) (show ((((ρ 2).toNat : Nat)) : Int) = ((0) + ((1) * ρ 2 + 0)) by omega) ev_v
  have p0 : qRn isLt (tB (vw C h)) (ρ 1 + 2048 * ρ 2) (ρ 5) := c2 (P := qRn isLt (tB (vw C h))) (show qRn isLt (tB (vw C h)) (((0) + ((1) * ρ 1 + ((2048) * ρ 2 + 0)))) (((0) + ((1) * ρ 5 + 0))) from hP _ (List.mem_of_getElem? (i := 0) rfl)) (by omega) (by omega)
  have hb := by_C hU hT (j := ρ 2) (b := ρ 4) (by omega) (by omega) a0
  have q := rn_stop p_lt (n := ρ 1) (i := ρ 2) (by omega) (by omega) (by omega) (by omega) (by omega) (fun _ => lt_n hb (Or.inr (by omega))) p0
  refine ⟨_, List.mem_cons_self, ρ, fun _ _ => rfl, fun q hq => absurd hq List.not_mem_nil, trivial, fun f hf => ?_, fun q hq => absurd hq List.not_mem_nil, fun q hq => absurd hq List.not_mem_nil, fun q hq => absurd hq List.not_mem_nil, fun q hq => ?_⟩
  · simp only [List.mem_cons, List.not_mem_nil, or_false] at hf
    rcases hf with rfl | rfl
    · show (0 : Int) ≤ ((0) + ((1) * ρ 2 + ((-1) * ρ 5 + 0)))
      omega
    · show (0 : Int) ≤ ((0) + ((-1) * ρ 2 + ((1) * ρ 5 + 0)))
      omega
  · exact absurd hq List.not_mem_nil
/-- dgStepC -/
theorem lem_200_ok (hU : uqG G C) : lem_200.1.2.1 = [] ∧ lemOK (PRd G C D xs) G rgs lem_200 := by
  refine ⟨rfl, fun ρ h ha hT => ?_⟩
  obtain ⟨-, -, hF, hG, hH, hA, hP⟩ := ha
  have f0 : (0 : Int) ≤ ((0) + ((1) * ρ 1 + 0)) := hF _ (List.mem_of_getElem? (i := 0) rfl)
  have f1 : (0 : Int) ≤ ((1200) + ((-1) * ρ 1 + 0)) := hF _ (List.mem_of_getElem? (i := 1) rfl)
  have f2 : (0 : Int) ≤ ((0) + ((1) * ρ 2 + 0)) := hF _ (List.mem_of_getElem? (i := 2) rfl)
  have f3 : (0 : Int) ≤ ((-1) + ((1) * ρ 1 + ((-1) * ρ 2 + 0))) := hF _ (List.mem_of_getElem? (i := 3) rfl)
  have f4 : (0 : Int) ≤ ((-48) + ((1) * ρ 4 + 0)) := hF _ (List.mem_of_getElem? (i := 4) rfl)
  have f5 : (0 : Int) ≤ ((57) + ((-1) * ρ 4 + 0)) := hF _ (List.mem_of_getElem? (i := 5) rfl)
  have g0 : G (ρ 0).toNat = 17 := by
    have q := (hG _ (List.mem_of_getElem? (i := 0) rfl)).2
    rwa [show ev ρ (0, [(0, 1)]) = ρ 0 from ev_v] at q
  have g1 : G (ρ 3).toNat = 100 := by
    have q := (hG _ (List.mem_of_getElem? (i := 1) rfl)).2
    rwa [show ev ρ (0, [(3, 1)]) = ρ 3 from ev_v] at q
  have h0 : (0 : Int) ≤ ρ 1 ∧ ρ 1 ≤ 1200 := hf_rg hT (hH _ (List.mem_of_getElem? (i := 0) rfl)) ev_v g0 rfl rfl rfl ev_v
  have h1 : (0 : Int) ≤ ρ 2 ∧ ρ 2 ≤ 1200 := hf_rg hT (hH _ (List.mem_of_getElem? (i := 1) rfl)) ev_v g0 rfl rfl rfl ev_v
  have b0 : (0 : Int) ≤ ((0) + ((1) * ρ 2 + 0)) := b_aA (hA _ (List.mem_of_getElem? (i := 0) rfl))
  have a0 : vw C h 100 ((ρ 2).toNat) = ρ 4 := vw_aA hU (hA _ (List.mem_of_getElem? (i := 0) rfl)) ev_v g1 (by omega) (by omega) (i := (ρ 2).toNat) (show ((((ρ 2).toNat : Nat)) : Int) = ((0) + ((1) * ρ 2 + 0)) by omega) ev_v
  have p0 : qRn isDg (tB (vw C h)) (ρ 1 + 2048 * ρ 2) (ρ 5) := c2 (P := qRn isDg (tB (vw C h))) (show qRn isDg (tB (vw C h)) (((0) + ((1) * ρ 1 + ((2048) * ρ 2 + 0)))) (((0) + ((1) * ρ 5 + 0))) from hP _ (List.mem_of_getElem? (i := 0) rfl)) (by omega) (by omega)
  have hb := by_C hU hT (j := ρ 2) (b := ρ 4) (by omega) (by omega) a0
  obtain ⟨q1, q2⟩ := rn_step p_dg (n := ρ 1) (i := ρ 2) (r2 := ρ 1 + 2048 * (ρ 2 + 1)) (by omega) rfl (by omega) (by omega) (by omega) (by omega) (dg_y hb (by omega) (by omega)) p0
  refine ⟨_, List.mem_cons_self, ρ, fun _ _ => rfl, fun q hq => absurd hq List.not_mem_nil, trivial, fun f hf => ?_, fun q hq => absurd hq List.not_mem_nil, fun q hq => absurd hq List.not_mem_nil, fun q hq => absurd hq List.not_mem_nil, fun q hq => ?_⟩
  · simp only [List.mem_cons, List.not_mem_nil, or_false] at hf
    subst hf
    show (0 : Int) ≤ ((-1) + ((-1) * ρ 2 + ((1) * ρ 5 + 0)))
    omega
  · simp only [List.mem_cons, List.not_mem_nil, or_false] at hq
    subst hq
    show qRn isDg (tB (vw C h)) (((2048) + ((1) * ρ 1 + ((2048) * ρ 2 + 0)))) (((0) + ((1) * ρ 5 + 0)))
    refine c2 (P := qRn isDg (tB (vw C h))) (r := ρ 1 + 2048 * ρ 2 + 2048) (c := ρ 5) ?_ (by omega) (by omega)
    show qRn isDg (tB (vw C h)) (ρ 1 + 2048 * ρ 2 + 2048) (ρ 5)
    exact c2 (P := qRn isDg (tB (vw C h))) q2 (by omega) (by omega)
/-- dgEndC -/
theorem lem_201_ok (hU : uqG G C) : lem_201.1.2.1 = [] ∧ lemOK (PRd G C D xs) G rgs lem_201 := by
  refine ⟨rfl, fun ρ h ha hT => ?_⟩
  obtain ⟨-, -, hF, hG, hH, hA, hP⟩ := ha
  have f0 : (0 : Int) ≤ ((0) + ((1) * ρ 1 + 0)) := hF _ (List.mem_of_getElem? (i := 0) rfl)
  have f1 : (0 : Int) ≤ ((1200) + ((-1) * ρ 1 + 0)) := hF _ (List.mem_of_getElem? (i := 1) rfl)
  have f2 : (0 : Int) ≤ ((0) + ((-1) * ρ 1 + ((1) * ρ 2 + 0))) := hF _ (List.mem_of_getElem? (i := 2) rfl)
  have f3 : (0 : Int) ≤ ((0) + ((1) * ρ 1 + ((-1) * ρ 2 + 0))) := hF _ (List.mem_of_getElem? (i := 3) rfl)
  have g0 : G (ρ 0).toNat = 17 := by
    have q := (hG _ (List.mem_of_getElem? (i := 0) rfl)).2
    rwa [show ev ρ (0, [(0, 1)]) = ρ 0 from ev_v] at q
  have h0 : (0 : Int) ≤ ρ 1 ∧ ρ 1 ≤ 1200 := hf_rg hT (hH _ (List.mem_of_getElem? (i := 0) rfl)) ev_v g0 rfl rfl rfl ev_v
  have h1 : (0 : Int) ≤ ρ 2 ∧ ρ 2 ≤ 1200 := hf_rg hT (hH _ (List.mem_of_getElem? (i := 1) rfl)) ev_v g0 rfl rfl rfl ev_v
  have p0 : qRn isDg (tB (vw C h)) (ρ 1 + 2048 * ρ 2) (ρ 3) := c2 (P := qRn isDg (tB (vw C h))) (show qRn isDg (tB (vw C h)) (((0) + ((1) * ρ 1 + ((2048) * ρ 2 + 0)))) (((0) + ((1) * ρ 3 + 0))) from hP _ (List.mem_of_getElem? (i := 0) rfl)) (by omega) (by omega)
  have q := rn_stop p_dg (n := ρ 1) (i := ρ 2) (by omega) (by omega) (by omega) (by omega) (by omega) (fun hlt => absurd hlt (by omega)) p0
  refine ⟨_, List.mem_cons_self, ρ, fun _ _ => rfl, fun q hq => absurd hq List.not_mem_nil, trivial, fun f hf => ?_, fun q hq => absurd hq List.not_mem_nil, fun q hq => absurd hq List.not_mem_nil, fun q hq => absurd hq List.not_mem_nil, fun q hq => ?_⟩
  · simp only [List.mem_cons, List.not_mem_nil, or_false] at hf
    rcases hf with rfl | rfl
    · show (0 : Int) ≤ ((0) + ((1) * ρ 2 + ((-1) * ρ 3 + 0)))
      omega
    · show (0 : Int) ≤ ((0) + ((-1) * ρ 2 + ((1) * ρ 3 + 0)))
      omega
  · exact absurd hq List.not_mem_nil
/-- dgLoC -/
theorem lem_202_ok (hU : uqG G C) : lem_202.1.2.1 = [] ∧ lemOK (PRd G C D xs) G rgs lem_202 := by
  refine ⟨rfl, fun ρ h ha hT => ?_⟩
  obtain ⟨-, -, hF, hG, hH, hA, hP⟩ := ha
  have f0 : (0 : Int) ≤ ((0) + ((1) * ρ 1 + 0)) := hF _ (List.mem_of_getElem? (i := 0) rfl)
  have f1 : (0 : Int) ≤ ((1200) + ((-1) * ρ 1 + 0)) := hF _ (List.mem_of_getElem? (i := 1) rfl)
  have f2 : (0 : Int) ≤ ((0) + ((1) * ρ 2 + 0)) := hF _ (List.mem_of_getElem? (i := 2) rfl)
  have f3 : (0 : Int) ≤ ((-1) + ((1) * ρ 1 + ((-1) * ρ 2 + 0))) := hF _ (List.mem_of_getElem? (i := 3) rfl)
  have f4 : (0 : Int) ≤ ((47) + ((-1) * ρ 4 + 0)) := hF _ (List.mem_of_getElem? (i := 4) rfl)
  have g0 : G (ρ 0).toNat = 17 := by
    have q := (hG _ (List.mem_of_getElem? (i := 0) rfl)).2
    rwa [show ev ρ (0, [(0, 1)]) = ρ 0 from ev_v] at q
  have g1 : G (ρ 3).toNat = 100 := by
    have q := (hG _ (List.mem_of_getElem? (i := 1) rfl)).2
    rwa [show ev ρ (0, [(3, 1)]) = ρ 3 from ev_v] at q
  have h0 : (0 : Int) ≤ ρ 1 ∧ ρ 1 ≤ 1200 := hf_rg hT (hH _ (List.mem_of_getElem? (i := 0) rfl)) ev_v g0 rfl rfl rfl ev_v
  have h1 : (0 : Int) ≤ ρ 2 ∧ ρ 2 ≤ 1200 := hf_rg hT (hH _ (List.mem_of_getElem? (i := 1) rfl)) ev_v g0 rfl rfl rfl ev_v
  have b0 : (0 : Int) ≤ ((0) + ((1) * ρ 2 + 0)) := b_aA (hA _ (List.mem_of_getElem? (i := 0) rfl))
  have a0 : vw C h 100 ((ρ 2).toNat) = ρ 4 := vw_aA hU (hA _ (List.mem_of_getElem? (i := 0) rfl)) ev_v g1 (by omega) (by omega) (i := (ρ 2).toNat) (show ((((ρ 2).toNat : Nat)) : Int) = ((0) + ((1) * ρ 2 + 0)) by omega) ev_v
  have p0 : qRn isDg (tB (vw C h)) (ρ 1 + 2048 * ρ 2) (ρ 5) := c2 (P := qRn isDg (tB (vw C h))) (show qRn isDg (tB (vw C h)) (((0) + ((1) * ρ 1 + ((2048) * ρ 2 + 0)))) (((0) + ((1) * ρ 5 + 0))) from hP _ (List.mem_of_getElem? (i := 0) rfl)) (by omega) (by omega)
  have hb := by_C hU hT (j := ρ 2) (b := ρ 4) (by omega) (by omega) a0
  have q := rn_stop p_dg (n := ρ 1) (i := ρ 2) (by omega) (by omega) (by omega) (by omega) (by omega) (fun _ => dg_n hb (Or.inl (by omega))) p0
  refine ⟨_, List.mem_cons_self, ρ, fun _ _ => rfl, fun q hq => absurd hq List.not_mem_nil, trivial, fun f hf => ?_, fun q hq => absurd hq List.not_mem_nil, fun q hq => absurd hq List.not_mem_nil, fun q hq => absurd hq List.not_mem_nil, fun q hq => ?_⟩
  · simp only [List.mem_cons, List.not_mem_nil, or_false] at hf
    rcases hf with rfl | rfl
    · show (0 : Int) ≤ ((0) + ((1) * ρ 2 + ((-1) * ρ 5 + 0)))
      omega
    · show (0 : Int) ≤ ((0) + ((-1) * ρ 2 + ((1) * ρ 5 + 0)))
      omega
  · exact absurd hq List.not_mem_nil
/-- dgHiC -/
theorem lem_203_ok (hU : uqG G C) : lem_203.1.2.1 = [] ∧ lemOK (PRd G C D xs) G rgs lem_203 := by
  refine ⟨rfl, fun ρ h ha hT => ?_⟩
  obtain ⟨-, -, hF, hG, hH, hA, hP⟩ := ha
  have f0 : (0 : Int) ≤ ((0) + ((1) * ρ 1 + 0)) := hF _ (List.mem_of_getElem? (i := 0) rfl)
  have f1 : (0 : Int) ≤ ((1200) + ((-1) * ρ 1 + 0)) := hF _ (List.mem_of_getElem? (i := 1) rfl)
  have f2 : (0 : Int) ≤ ((0) + ((1) * ρ 2 + 0)) := hF _ (List.mem_of_getElem? (i := 2) rfl)
  have f3 : (0 : Int) ≤ ((-1) + ((1) * ρ 1 + ((-1) * ρ 2 + 0))) := hF _ (List.mem_of_getElem? (i := 3) rfl)
  have f4 : (0 : Int) ≤ ((-58) + ((1) * ρ 4 + 0)) := hF _ (List.mem_of_getElem? (i := 4) rfl)
  have g0 : G (ρ 0).toNat = 17 := by
    have q := (hG _ (List.mem_of_getElem? (i := 0) rfl)).2
    rwa [show ev ρ (0, [(0, 1)]) = ρ 0 from ev_v] at q
  have g1 : G (ρ 3).toNat = 100 := by
    have q := (hG _ (List.mem_of_getElem? (i := 1) rfl)).2
    rwa [show ev ρ (0, [(3, 1)]) = ρ 3 from ev_v] at q
  have h0 : (0 : Int) ≤ ρ 1 ∧ ρ 1 ≤ 1200 := hf_rg hT (hH _ (List.mem_of_getElem? (i := 0) rfl)) ev_v g0 rfl rfl rfl ev_v
  have h1 : (0 : Int) ≤ ρ 2 ∧ ρ 2 ≤ 1200 := hf_rg hT (hH _ (List.mem_of_getElem? (i := 1) rfl)) ev_v g0 rfl rfl rfl ev_v
  have b0 : (0 : Int) ≤ ((0) + ((1) * ρ 2 + 0)) := b_aA (hA _ (List.mem_of_getElem? (i := 0) rfl))
  have a0 : vw C h 100 ((ρ 2).toNat) = ρ 4 := vw_aA hU (hA _ (List.mem_of_getElem? (i := 0) rfl)) ev_v g1 (by omega) (by omega) (i := (ρ 2).toNat) (show ((((ρ 2).toNat : Nat)) : Int) = ((0) + ((1) * ρ 2 + 0)) by omega) ev_v
  have p0 : qRn isDg (tB (vw C h)) (ρ 1 + 2048 * ρ 2) (ρ 5) := c2 (P := qRn isDg (tB (vw C h))) (show qRn isDg (tB (vw C h)) (((0) + ((1) * ρ 1 + ((2048) * ρ 2 + 0)))) (((0) + ((1) * ρ 5 + 0))) from hP _ (List.mem_of_getElem? (i := 0) rfl)) (by omega) (by omega)
  have hb := by_C hU hT (j := ρ 2) (b := ρ 4) (by omega) (by omega) a0
  have q := rn_stop p_dg (n := ρ 1) (i := ρ 2) (by omega) (by omega) (by omega) (by omega) (by omega) (fun _ => dg_n hb (Or.inr (by omega))) p0
  refine ⟨_, List.mem_cons_self, ρ, fun _ _ => rfl, fun q hq => absurd hq List.not_mem_nil, trivial, fun f hf => ?_, fun q hq => absurd hq List.not_mem_nil, fun q hq => absurd hq List.not_mem_nil, fun q hq => absurd hq List.not_mem_nil, fun q hq => ?_⟩
  · simp only [List.mem_cons, List.not_mem_nil, or_false] at hf
    rcases hf with rfl | rfl
    · show (0 : Int) ≤ ((0) + ((1) * ρ 2 + ((-1) * ρ 5 + 0)))
      omega
    · show (0 : Int) ≤ ((0) + ((-1) * ρ 2 + ((1) * ρ 5 + 0)))
      omega
  · exact absurd hq List.not_mem_nil
/-- ltNewC -/
theorem lem_204_ok (hU : uqG G C) : lem_204.1.2.1 = [] ∧ lemOK (PRd G C D xs) G rgs lem_204 := by
  refine ⟨rfl, fun ρ h ha hT => ?_⟩
  obtain ⟨-, -, hF, hG, hH, hA, hP⟩ := ha
  have f0 : (0 : Int) ≤ ((0) + ((1) * ρ 1 + 0)) := hF _ (List.mem_of_getElem? (i := 0) rfl)
  have f1 : (0 : Int) ≤ ((1200) + ((-1) * ρ 1 + 0)) := hF _ (List.mem_of_getElem? (i := 1) rfl)
  have f2 : (0 : Int) ≤ ((0) + ((1) * ρ 2 + 0)) := hF _ (List.mem_of_getElem? (i := 2) rfl)
  have f3 : (0 : Int) ≤ ((-1) + ((1) * ρ 1 + ((-1) * ρ 2 + 0))) := hF _ (List.mem_of_getElem? (i := 3) rfl)
  have f4 : (0 : Int) ≤ ((-97) + ((1) * ρ 4 + 0)) := hF _ (List.mem_of_getElem? (i := 4) rfl)
  have f5 : (0 : Int) ≤ ((122) + ((-1) * ρ 4 + 0)) := hF _ (List.mem_of_getElem? (i := 5) rfl)
  have g0 : G (ρ 0).toNat = 17 := by
    have q := (hG _ (List.mem_of_getElem? (i := 0) rfl)).2
    rwa [show ev ρ (0, [(0, 1)]) = ρ 0 from ev_v] at q
  have g1 : G (ρ 3).toNat = 100 := by
    have q := (hG _ (List.mem_of_getElem? (i := 1) rfl)).2
    rwa [show ev ρ (0, [(3, 1)]) = ρ 3 from ev_v] at q
  have h0 : (0 : Int) ≤ ρ 1 ∧ ρ 1 ≤ 1200 := hf_rg hT (hH _ (List.mem_of_getElem? (i := 0) rfl)) ev_v g0 rfl rfl rfl ev_v
  have h1 : (0 : Int) ≤ ρ 2 ∧ ρ 2 ≤ 1200 := hf_rg hT (hH _ (List.mem_of_getElem? (i := 1) rfl)) ev_v g0 rfl rfl rfl ev_v
  have b0 : (0 : Int) ≤ ((0) + ((1) * ρ 2 + 0)) := b_aA (hA _ (List.mem_of_getElem? (i := 0) rfl))
  have a0 : vw C h 100 ((ρ 2).toNat) = ρ 4 := vw_aA hU (hA _ (List.mem_of_getElem? (i := 0) rfl)) ev_v g1 (by omega) (by omega) (i := (ρ 2).toNat) (show ((((ρ 2).toNat : Nat)) : Int) = ((0) + ((1) * ρ 2 + 0)) by omega) ev_v
  have hb := by_C hU hT (j := ρ 2) (b := ρ 4) (by omega) (by omega) a0
  have hy := lt_y hb (by omega) (by omega)
  obtain ⟨q1, q2, q3⟩ := rn_new1 (r := ρ 1 + 2048 * ρ 2) (e := ((tRn isLt (tB (vw C h)) (ρ 1).toNat (ρ 2).toNat : Nat) : Int)) p_lt (n := ρ 1) (i := ρ 2) rfl (by omega) (by omega) (by omega) (by omega) hy rfl
  have q4 := ls_new (r := ρ 1 + 2048 * ρ 2) (e := ((tRn isLt (tB (vw C h)) (ρ 1).toNat (ρ 2).toNat : Nat) : Int)) (n := ρ 1) (i := ρ 2) rfl (by omega) (by omega) (by omega) (by omega) hy rfl
  obtain ⟨σ, r1, r2a⟩ : ∃ σ : Va, (∀ i, i < 5 → σ i = ρ i) ∧ σ 5 = ((tRn isLt (tB (vw C h)) (ρ 1).toNat (ρ 2).toNat : Nat) : Int) := ⟨fun i => if i = 5 then ((tRn isLt (tB (vw C h)) (ρ 1).toNat (ρ 2).toNat : Nat) : Int) else ρ i, fun i hi => by dsimp only; rw [if_neg (by omega)], by dsimp only; rw [if_pos rfl]⟩
  have s0 := r1 0 (by omega)
  have s1 := r1 1 (by omega)
  have s2 := r1 2 (by omega)
  have s3 := r1 3 (by omega)
  have s4 := r1 4 (by omega)
  refine ⟨_, List.mem_cons_self, σ, r1, fun q hq => absurd hq List.not_mem_nil, trivial, fun f hf => ?_, fun q hq => absurd hq List.not_mem_nil, fun q hq => absurd hq List.not_mem_nil, fun q hq => absurd hq List.not_mem_nil, fun q hq => ?_⟩
  · simp only [List.mem_cons, List.not_mem_nil, or_false] at hf
    rcases hf with rfl | rfl
    · show (0 : Int) ≤ ((-1) + ((-1) * σ 2 + ((1) * σ 5 + 0)))
      omega
    · show (0 : Int) ≤ ((0) + ((1) * σ 1 + ((-1) * σ 5 + 0)))
      omega
  · simp only [List.mem_cons, List.not_mem_nil, or_false] at hq
    rcases hq with rfl | rfl
    · show qRn isLt (tB (vw C h)) (((0) + ((1) * σ 1 + ((2048) * σ 2 + 0)))) (((0) + ((1) * σ 5 + 0)))
      refine c2 (P := qRn isLt (tB (vw C h))) (r := ρ 1 + 2048 * ρ 2) (c := ((tRn isLt (tB (vw C h)) (ρ 1).toNat (ρ 2).toNat : Nat) : Int)) ?_ (by omega) (by omega)
      show qRn isLt (tB (vw C h)) (ρ 1 + 2048 * ρ 2) (((tRn isLt (tB (vw C h)) (ρ 1).toNat (ρ 2).toNat : Nat) : Int))
      exact c2 (P := qRn isLt (tB (vw C h))) q3 (by omega) (by omega)
    · show q178 (tB (vw C h)) (((0) + ((1) * σ 1 + ((2048) * σ 2 + 0)))) (((0) + ((1) * σ 5 + 0)))
      refine c2 (P := q178 (tB (vw C h))) (r := ρ 1 + 2048 * ρ 2) (c := ((tRn isLt (tB (vw C h)) (ρ 1).toNat (ρ 2).toNat : Nat) : Int)) ?_ (by omega) (by omega)
      show q178 (tB (vw C h)) (ρ 1 + 2048 * ρ 2) (((tRn isLt (tB (vw C h)) (ρ 1).toNat (ρ 2).toNat : Nat) : Int))
      exact c2 (P := q178 (tB (vw C h))) q4 (by omega) (by omega)
/-- dgNewC -/
theorem lem_205_ok (hU : uqG G C) : lem_205.1.2.1 = [] ∧ lemOK (PRd G C D xs) G rgs lem_205 := by
  refine ⟨rfl, fun ρ h ha hT => ?_⟩
  obtain ⟨-, -, hF, hG, hH, hA, hP⟩ := ha
  have f0 : (0 : Int) ≤ ((0) + ((1) * ρ 1 + 0)) := hF _ (List.mem_of_getElem? (i := 0) rfl)
  have f1 : (0 : Int) ≤ ((1200) + ((-1) * ρ 1 + 0)) := hF _ (List.mem_of_getElem? (i := 1) rfl)
  have f2 : (0 : Int) ≤ ((0) + ((1) * ρ 2 + 0)) := hF _ (List.mem_of_getElem? (i := 2) rfl)
  have f3 : (0 : Int) ≤ ((-1) + ((1) * ρ 1 + ((-1) * ρ 2 + 0))) := hF _ (List.mem_of_getElem? (i := 3) rfl)
  have f4 : (0 : Int) ≤ ((-48) + ((1) * ρ 4 + 0)) := hF _ (List.mem_of_getElem? (i := 4) rfl)
  have f5 : (0 : Int) ≤ ((57) + ((-1) * ρ 4 + 0)) := hF _ (List.mem_of_getElem? (i := 5) rfl)
  have g0 : G (ρ 0).toNat = 17 := by
    have q := (hG _ (List.mem_of_getElem? (i := 0) rfl)).2
    rwa [show ev ρ (0, [(0, 1)]) = ρ 0 from ev_v] at q
  have g1 : G (ρ 3).toNat = 100 := by
    have q := (hG _ (List.mem_of_getElem? (i := 1) rfl)).2
    rwa [show ev ρ (0, [(3, 1)]) = ρ 3 from ev_v] at q
  have h0 : (0 : Int) ≤ ρ 1 ∧ ρ 1 ≤ 1200 := hf_rg hT (hH _ (List.mem_of_getElem? (i := 0) rfl)) ev_v g0 rfl rfl rfl ev_v
  have h1 : (0 : Int) ≤ ρ 2 ∧ ρ 2 ≤ 1200 := hf_rg hT (hH _ (List.mem_of_getElem? (i := 1) rfl)) ev_v g0 rfl rfl rfl ev_v
  have b0 : (0 : Int) ≤ ((0) + ((1) * ρ 2 + 0)) := b_aA (hA _ (List.mem_of_getElem? (i := 0) rfl))
  have a0 : vw C h 100 ((ρ 2).toNat) = ρ 4 := vw_aA hU (hA _ (List.mem_of_getElem? (i := 0) rfl)) ev_v g1 (by omega) (by omega) (i := (ρ 2).toNat) (show ((((ρ 2).toNat : Nat)) : Int) = ((0) + ((1) * ρ 2 + 0)) by omega) ev_v
  have hb := by_C hU hT (j := ρ 2) (b := ρ 4) (by omega) (by omega) a0
  have hy := dg_y hb (by omega) (by omega)
  obtain ⟨q1, q2, q3⟩ := rn_new1 (r := ρ 1 + 2048 * ρ 2) (e := ((tRn isDg (tB (vw C h)) (ρ 1).toNat (ρ 2).toNat : Nat) : Int)) p_dg (n := ρ 1) (i := ρ 2) rfl (by omega) (by omega) (by omega) (by omega) hy rfl
  have q4 := ds_new (r := ρ 1 + 2048 * ρ 2) (e := ((tRn isDg (tB (vw C h)) (ρ 1).toNat (ρ 2).toNat : Nat) : Int)) (n := ρ 1) (i := ρ 2) rfl (by omega) (by omega) (by omega) (by omega) (lt_n hb (Or.inl (by omega))) hy rfl
  obtain ⟨σ, r1, r2a⟩ : ∃ σ : Va, (∀ i, i < 5 → σ i = ρ i) ∧ σ 5 = ((tRn isDg (tB (vw C h)) (ρ 1).toNat (ρ 2).toNat : Nat) : Int) := ⟨fun i => if i = 5 then ((tRn isDg (tB (vw C h)) (ρ 1).toNat (ρ 2).toNat : Nat) : Int) else ρ i, fun i hi => by dsimp only; rw [if_neg (by omega)], by dsimp only; rw [if_pos rfl]⟩
  have s0 := r1 0 (by omega)
  have s1 := r1 1 (by omega)
  have s2 := r1 2 (by omega)
  have s3 := r1 3 (by omega)
  have s4 := r1 4 (by omega)
  refine ⟨_, List.mem_cons_self, σ, r1, fun q hq => absurd hq List.not_mem_nil, trivial, fun f hf => ?_, fun q hq => absurd hq List.not_mem_nil, fun q hq => absurd hq List.not_mem_nil, fun q hq => absurd hq List.not_mem_nil, fun q hq => ?_⟩
  · simp only [List.mem_cons, List.not_mem_nil, or_false] at hf
    rcases hf with rfl | rfl
    · show (0 : Int) ≤ ((-1) + ((-1) * σ 2 + ((1) * σ 5 + 0)))
      omega
    · show (0 : Int) ≤ ((0) + ((1) * σ 1 + ((-1) * σ 5 + 0)))
      omega
  · simp only [List.mem_cons, List.not_mem_nil, or_false] at hq
    rcases hq with rfl | rfl
    · show qRn isDg (tB (vw C h)) (((0) + ((1) * σ 1 + ((2048) * σ 2 + 0)))) (((0) + ((1) * σ 5 + 0)))
      refine c2 (P := qRn isDg (tB (vw C h))) (r := ρ 1 + 2048 * ρ 2) (c := ((tRn isDg (tB (vw C h)) (ρ 1).toNat (ρ 2).toNat : Nat) : Int)) ?_ (by omega) (by omega)
      show qRn isDg (tB (vw C h)) (ρ 1 + 2048 * ρ 2) (((tRn isDg (tB (vw C h)) (ρ 1).toNat (ρ 2).toNat : Nat) : Int))
      exact c2 (P := qRn isDg (tB (vw C h))) q3 (by omega) (by omega)
    · show q179 (tB (vw C h)) (((0) + ((1) * σ 1 + ((2048) * σ 2 + 0)))) (((0) + ((1) * σ 5 + 0)))
      refine c2 (P := q179 (tB (vw C h))) (r := ρ 1 + 2048 * ρ 2) (c := ((tRn isDg (tB (vw C h)) (ρ 1).toNat (ρ 2).toNat : Nat) : Int)) ?_ (by omega) (by omega)
      show q179 (tB (vw C h)) (ρ 1 + 2048 * ρ 2) (((tRn isDg (tB (vw C h)) (ρ 1).toNat (ρ 2).toNat : Nat) : Int))
      exact c2 (P := q179 (tB (vw C h))) q4 (by omega) (by omega)
/-- vlNewC -/
theorem lem_206_ok (hU : uqG G C) : lem_206.1.2.1 = [] ∧ lemOK (PRd G C D xs) G rgs lem_206 := by
  refine ⟨rfl, fun ρ h ha hT => ?_⟩
  obtain ⟨-, -, hF, hG, hH, hA, hP⟩ := ha
  have f0 : (0 : Int) ≤ ((0) + ((1) * ρ 1 + 0)) := hF _ (List.mem_of_getElem? (i := 0) rfl)
  have f1 : (0 : Int) ≤ ((1200) + ((-1) * ρ 1 + 0)) := hF _ (List.mem_of_getElem? (i := 1) rfl)
  have g0 : G (ρ 0).toNat = 17 := by
    have q := (hG _ (List.mem_of_getElem? (i := 0) rfl)).2
    rwa [show ev ρ (0, [(0, 1)]) = ρ 0 from ev_v] at q
  have h0 : (0 : Int) ≤ ρ 1 ∧ ρ 1 ≤ 1200 := hf_rg hT (hH _ (List.mem_of_getElem? (i := 0) rfl)) ev_v g0 rfl rfl rfl ev_v
  refine ⟨_, List.mem_cons_self, ρ, fun _ _ => rfl, fun q hq => absurd hq List.not_mem_nil, trivial, fun f hf => ?_, fun q hq => absurd hq List.not_mem_nil, fun q hq => absurd hq List.not_mem_nil, fun q hq => absurd hq List.not_mem_nil, fun q hq => ?_⟩
  · exact absurd hf List.not_mem_nil
  · simp only [List.mem_cons, List.not_mem_nil, or_false] at hq
    subst hq
    show q154 (tB (vw C h)) (((0) + ((1) * ρ 1 + 0))) (((0) + 0))
    refine c2 (P := q154 (tB (vw C h))) (r := ρ 1) (c := (0 : Int)) ?_ (by omega) (by omega)
    show q154 (tB (vw C h)) (ρ 1) ((0 : Int))
    exact vl_new (s := ρ 1) (by omega) (by omega) (by omega) (by omega)
/-- vlSplitC -/
theorem lem_207_ok (hU : uqG G C) : lem_207.1.2.1 = [] ∧ lemOK (PRd G C D xs) G rgs lem_207 := by
  refine ⟨rfl, fun ρ h ha hT => ?_⟩
  obtain ⟨-, -, hF, hG, hH, hA, hP⟩ := ha
  have g0 : G (ρ 0).toNat = 17 := by
    have q := (hG _ (List.mem_of_getElem? (i := 0) rfl)).2
    rwa [show ev ρ (0, [(0, 1)]) = ρ 0 from ev_v] at q
  have h0 : (0 : Int) ≤ ρ 1 ∧ ρ 1 ≤ 1200 := hf_rg hT (hH _ (List.mem_of_getElem? (i := 0) rfl)) ev_v g0 rfl rfl rfl ev_v
  have h1 : (0 : Int) ≤ ρ 2 ∧ ρ 2 ≤ 1200 := hf_rg hT (hH _ (List.mem_of_getElem? (i := 1) rfl)) ev_v g0 rfl rfl rfl ev_v
  rcases (by omega : ρ 2 - ρ 1 ≤ 4 ∨ 5 ≤ ρ 2 - ρ 1) with hc | hc
  · refine ⟨_, List.mem_cons_self, ρ, fun _ _ => rfl, fun q hq => absurd hq List.not_mem_nil, trivial, fun f hf => ?_, fun q hq => absurd hq List.not_mem_nil, fun q hq => absurd hq List.not_mem_nil, fun q hq => absurd hq List.not_mem_nil, fun q hq => ?_⟩
    · simp only [List.mem_cons, List.not_mem_nil, or_false] at hf
      subst hf
      show (0 : Int) ≤ ((4) + ((1) * ρ 1 + ((-1) * ρ 2 + 0)))
      omega
    · exact absurd hq List.not_mem_nil
  · refine ⟨_, (List.mem_cons_of_mem _ List.mem_cons_self), ρ, fun _ _ => rfl, fun q hq => absurd hq List.not_mem_nil, trivial, fun f hf => ?_, fun q hq => absurd hq List.not_mem_nil, fun q hq => absurd hq List.not_mem_nil, fun q hq => absurd hq List.not_mem_nil, fun q hq => ?_⟩
    · simp only [List.mem_cons, List.not_mem_nil, or_false] at hf
      subst hf
      show (0 : Int) ≤ ((-5) + ((-1) * ρ 1 + ((1) * ρ 2 + 0)))
      omega
    · exact absurd hq List.not_mem_nil
/-- vlBoundC -/
theorem lem_208_ok (hU : uqG G C) : lem_208.1.2.1 = [] ∧ lemOK (PRd G C D xs) G rgs lem_208 := by
  refine ⟨rfl, fun ρ h ha hT => ?_⟩
  obtain ⟨-, -, hF, hG, hH, hA, hP⟩ := ha
  have f0 : (0 : Int) ≤ ((0) + ((1) * ρ 1 + 0)) := hF _ (List.mem_of_getElem? (i := 0) rfl)
  have f1 : (0 : Int) ≤ ((1200) + ((-1) * ρ 1 + 0)) := hF _ (List.mem_of_getElem? (i := 1) rfl)
  have f2 : (0 : Int) ≤ ((0) + ((-1) * ρ 1 + ((1) * ρ 2 + 0))) := hF _ (List.mem_of_getElem? (i := 2) rfl)
  have f3 : (0 : Int) ≤ ((4) + ((1) * ρ 1 + ((-1) * ρ 2 + 0))) := hF _ (List.mem_of_getElem? (i := 3) rfl)
  have g0 : G (ρ 0).toNat = 17 := by
    have q := (hG _ (List.mem_of_getElem? (i := 0) rfl)).2
    rwa [show ev ρ (0, [(0, 1)]) = ρ 0 from ev_v] at q
  have h0 : (0 : Int) ≤ ρ 1 ∧ ρ 1 ≤ 1200 := hf_rg hT (hH _ (List.mem_of_getElem? (i := 0) rfl)) ev_v g0 rfl rfl rfl ev_v
  have h1 : (0 : Int) ≤ ρ 2 ∧ ρ 2 ≤ 1200 := hf_rg hT (hH _ (List.mem_of_getElem? (i := 1) rfl)) ev_v g0 rfl rfl rfl ev_v
  have p0 : q154 (tB (vw C h)) ((-2047) * ρ 1 + 2048 * ρ 2) (ρ 3) := c2 (P := q154 (tB (vw C h))) (show q154 (tB (vw C h)) (((0) + ((-2047) * ρ 1 + ((2048) * ρ 2 + 0)))) (((0) + ((1) * ρ 3 + 0))) from hP _ (List.mem_of_getElem? (i := 0) rfl)) (by omega) (by omega)
  have q := vl_bound (s := ρ 1) (i := ρ 2) (by omega) (by omega) (by omega) (by omega) (by omega) p0
  refine ⟨_, List.mem_cons_self, ρ, fun _ _ => rfl, fun q hq => absurd hq List.not_mem_nil, trivial, fun f hf => ?_, fun q hq => absurd hq List.not_mem_nil, fun q hq => absurd hq List.not_mem_nil, fun q hq => absurd hq List.not_mem_nil, fun q hq => ?_⟩
  · simp only [List.mem_cons, List.not_mem_nil, or_false] at hf
    rcases hf with rfl | rfl
    · show (0 : Int) ≤ ((0) + ((1) * ρ 3 + 0))
      omega
    · show (0 : Int) ≤ ((9999) + ((-1) * ρ 3 + 0))
      omega
  · exact absurd hq List.not_mem_nil
/-- vlStepC -/
theorem lem_209_ok (hU : uqG G C) : lem_209.1.2.1 = [] ∧ lemOK (PRd G C D xs) G rgs lem_209 := by
  refine ⟨rfl, fun ρ h ha hT => ?_⟩
  obtain ⟨-, -, hF, hG, hH, hA, hP⟩ := ha
  have f0 : (0 : Int) ≤ ((1200) + ((-1) * ρ 1 + 0)) := hF _ (List.mem_of_getElem? (i := 0) rfl)
  have f1 : (0 : Int) ≤ ((0) + ((1) * ρ 3 + 0)) := hF _ (List.mem_of_getElem? (i := 1) rfl)
  have f2 : (0 : Int) ≤ ((0) + ((1) * ρ 2 + ((-1) * ρ 3 + 0))) := hF _ (List.mem_of_getElem? (i := 2) rfl)
  have f3 : (0 : Int) ≤ ((-1) + ((1) * ρ 1 + ((-1) * ρ 2 + 0))) := hF _ (List.mem_of_getElem? (i := 3) rfl)
  have f4 : (0 : Int) ≤ ((4) + ((-1) * ρ 2 + ((1) * ρ 3 + 0))) := hF _ (List.mem_of_getElem? (i := 4) rfl)
  have f5 : (0 : Int) ≤ ((-48) + ((1) * ρ 6 + 0)) := hF _ (List.mem_of_getElem? (i := 5) rfl)
  have f6 : (0 : Int) ≤ ((57) + ((-1) * ρ 6 + 0)) := hF _ (List.mem_of_getElem? (i := 6) rfl)
  have f7 : (0 : Int) ≤ ((-48) + ((-1) * ρ 4 + ((1) * ρ 6 + ((10) * ρ 7 + 0)))) := hF _ (List.mem_of_getElem? (i := 7) rfl)
  have f8 : (0 : Int) ≤ ((48) + ((1) * ρ 4 + ((-1) * ρ 6 + ((-10) * ρ 7 + 0)))) := hF _ (List.mem_of_getElem? (i := 8) rfl)
  have g0 : G (ρ 0).toNat = 17 := by
    have q := (hG _ (List.mem_of_getElem? (i := 0) rfl)).2
    rwa [show ev ρ (0, [(0, 1)]) = ρ 0 from ev_v] at q
  have g1 : G (ρ 5).toNat = 100 := by
    have q := (hG _ (List.mem_of_getElem? (i := 1) rfl)).2
    rwa [show ev ρ (0, [(5, 1)]) = ρ 5 from ev_v] at q
  have h0 : (0 : Int) ≤ ρ 1 ∧ ρ 1 ≤ 1200 := hf_rg hT (hH _ (List.mem_of_getElem? (i := 0) rfl)) ev_v g0 rfl rfl rfl ev_v
  have h1 : (0 : Int) ≤ ρ 2 ∧ ρ 2 ≤ 1200 := hf_rg hT (hH _ (List.mem_of_getElem? (i := 1) rfl)) ev_v g0 rfl rfl rfl ev_v
  have h2 : (0 : Int) ≤ ρ 3 ∧ ρ 3 ≤ 1200 := hf_rg hT (hH _ (List.mem_of_getElem? (i := 2) rfl)) ev_v g0 rfl rfl rfl ev_v
  have b0 : (0 : Int) ≤ ((0) + ((1) * ρ 2 + 0)) := b_aA (hA _ (List.mem_of_getElem? (i := 0) rfl))
  have a0 : vw C h 100 ((ρ 2).toNat) = ρ 6 := vw_aA hU (hA _ (List.mem_of_getElem? (i := 0) rfl)) ev_v g1 (by omega) (by omega) (i := (ρ 2).toNat) (show ((((ρ 2).toNat : Nat)) : Int) = ((0) + ((1) * ρ 2 + 0)) by omega) ev_v
  have p0 : q154 (tB (vw C h)) (2048 * ρ 2 + (-2047) * ρ 3) (ρ 7) := c2 (P := q154 (tB (vw C h))) (show q154 (tB (vw C h)) (((0) + ((2048) * ρ 2 + ((-2047) * ρ 3 + 0)))) (((0) + ((1) * ρ 7 + 0))) from hP _ (List.mem_of_getElem? (i := 0) rfl)) (by omega) (by omega)
  have hb := by_C hU hT (j := ρ 2) (b := ρ 6) (by omega) (by omega) a0
  refine ⟨_, List.mem_cons_self, ρ, fun _ _ => rfl, fun q hq => absurd hq List.not_mem_nil, trivial, fun f hf => ?_, fun q hq => absurd hq List.not_mem_nil, fun q hq => absurd hq List.not_mem_nil, fun q hq => absurd hq List.not_mem_nil, fun q hq => ?_⟩
  · exact absurd hf List.not_mem_nil
  · simp only [List.mem_cons, List.not_mem_nil, or_false] at hq
    subst hq
    show q154 (tB (vw C h)) (((2048) + ((2048) * ρ 2 + ((-2047) * ρ 3 + 0)))) (((0) + ((1) * ρ 4 + 0)))
    refine c2 (P := q154 (tB (vw C h))) (r := 2048 * ρ 2 + (-2047) * ρ 3 + 2048) (c := ρ 4) ?_ (by omega) (by omega)
    show q154 (tB (vw C h)) (2048 * ρ 2 + (-2047) * ρ 3 + 2048) (ρ 4)
    exact vl_step (s := ρ 3) (i := ρ 2) (b := ρ 6) (w := ρ 4) (by omega) (by omega) (by omega) (by omega) (by omega) hb (by omega) (by omega) (by omega) p0
/-- vlOverC -/
theorem lem_210_ok (hU : uqG G C) : lem_210.1.2.1 = [] ∧ lemOK (PRd G C D xs) G rgs lem_210 := by
  refine ⟨rfl, fun ρ h ha hT => ?_⟩
  obtain ⟨-, -, hF, hG, hH, hA, hP⟩ := ha
  have f0 : (0 : Int) ≤ ((0) + ((1) * ρ 2 + 0)) := hF _ (List.mem_of_getElem? (i := 0) rfl)
  have f1 : (0 : Int) ≤ ((1200) + ((-1) * ρ 2 + 0)) := hF _ (List.mem_of_getElem? (i := 1) rfl)
  have f2 : (0 : Int) ≤ ((-5) + ((1) * ρ 1 + ((-1) * ρ 2 + 0))) := hF _ (List.mem_of_getElem? (i := 2) rfl)
  have g0 : G (ρ 0).toNat = 17 := by
    have q := (hG _ (List.mem_of_getElem? (i := 0) rfl)).2
    rwa [show ev ρ (0, [(0, 1)]) = ρ 0 from ev_v] at q
  have h0 : (0 : Int) ≤ ρ 1 ∧ ρ 1 ≤ 1200 := hf_rg hT (hH _ (List.mem_of_getElem? (i := 0) rfl)) ev_v g0 rfl rfl rfl ev_v
  have h1 : (0 : Int) ≤ ρ 2 ∧ ρ 2 ≤ 1200 := hf_rg hT (hH _ (List.mem_of_getElem? (i := 1) rfl)) ev_v g0 rfl rfl rfl ev_v
  refine ⟨_, List.mem_cons_self, ρ, fun _ _ => rfl, fun q hq => absurd hq List.not_mem_nil, trivial, fun f hf => ?_, fun q hq => absurd hq List.not_mem_nil, fun q hq => absurd hq List.not_mem_nil, fun q hq => absurd hq List.not_mem_nil, fun q hq => ?_⟩
  · exact absurd hf List.not_mem_nil
  · simp only [List.mem_cons, List.not_mem_nil, or_false] at hq
    subst hq
    show q154 (tB (vw C h)) (((2048) + ((2048) * ρ 1 + ((-2047) * ρ 2 + 0)))) (((0) + ((1) * ρ 3 + 0)))
    refine c2 (P := q154 (tB (vw C h))) (r := 2048 * ρ 1 + (-2047) * ρ 2 + 2048) (c := ρ 3) ?_ (by omega) (by omega)
    show q154 (tB (vw C h)) (2048 * ρ 1 + (-2047) * ρ 2 + 2048) (ρ 3)
    exact vl_over (s := ρ 2) (i := ρ 1) (by omega) (by omega) (by omega) (by omega)
/-- tkEndC -/
theorem lem_211_ok (hU : uqG G C) : lem_211.1.2.1 = [] ∧ lemOK (PRd G C D xs) G rgs lem_211 := by
  refine ⟨rfl, fun ρ h ha hT => ?_⟩
  obtain ⟨-, -, hF, hG, hH, hA, hP⟩ := ha
  have f0 : (0 : Int) ≤ ((0) + ((1) * ρ 1 + 0)) := hF _ (List.mem_of_getElem? (i := 0) rfl)
  have f1 : (0 : Int) ≤ ((1200) + ((-1) * ρ 1 + 0)) := hF _ (List.mem_of_getElem? (i := 1) rfl)
  have f2 : (0 : Int) ≤ ((0) + ((-1) * ρ 4 + 0)) := hF _ (List.mem_of_getElem? (i := 2) rfl)
  have f3 : (0 : Int) ≤ ((0) + ((1) * ρ 4 + 0)) := hF _ (List.mem_of_getElem? (i := 3) rfl)
  have f4 : (0 : Int) ≤ ((0) + ((-1) * ρ 1 + ((1) * ρ 3 + 0))) := hF _ (List.mem_of_getElem? (i := 4) rfl)
  have f5 : (0 : Int) ≤ ((0) + ((1) * ρ 1 + ((-1) * ρ 3 + 0))) := hF _ (List.mem_of_getElem? (i := 5) rfl)
  have f6 : (0 : Int) ≤ ((0) + ((1) * ρ 2 + ((-1) * ρ 3 + 0))) := hF _ (List.mem_of_getElem? (i := 6) rfl)
  have f7 : (0 : Int) ≤ ((0) + ((-1) * ρ 2 + ((1) * ρ 3 + 0))) := hF _ (List.mem_of_getElem? (i := 7) rfl)
  have g0 : G (ρ 0).toNat = 17 := by
    have q := (hG _ (List.mem_of_getElem? (i := 0) rfl)).2
    rwa [show ev ρ (0, [(0, 1)]) = ρ 0 from ev_v] at q
  have h0 : (0 : Int) ≤ ρ 1 ∧ ρ 1 ≤ 1200 := hf_rg hT (hH _ (List.mem_of_getElem? (i := 0) rfl)) ev_v g0 rfl rfl rfl ev_v
  have h1 : (0 : Int) ≤ ρ 2 ∧ ρ 2 ≤ 1200 := hf_rg hT (hH _ (List.mem_of_getElem? (i := 1) rfl)) ev_v g0 rfl rfl rfl ev_v
  have h2 : (0 : Int) ≤ ρ 3 ∧ ρ 3 ≤ 1200 := hf_rg hT (hH _ (List.mem_of_getElem? (i := 2) rfl)) ev_v g0 rfl rfl rfl ev_v
  obtain ⟨k1, k2⟩ := tk_end (B := (tB (vw C h))) (n := ρ 1) (s := ρ 3) (by omega) (by omega)
  refine ⟨_, List.mem_cons_self, ρ, fun _ _ => rfl, fun q hq => absurd hq List.not_mem_nil, trivial, fun f hf => ?_, fun q hq => absurd hq List.not_mem_nil, fun q hq => absurd hq List.not_mem_nil, fun q hq => absurd hq List.not_mem_nil, fun q hq => ?_⟩
  · exact absurd hf List.not_mem_nil
  · simp only [List.mem_cons, List.not_mem_nil, or_false] at hq
    rcases hq with rfl | rfl | rfl
    · show q155 (tB (vw C h)) (((0) + ((1) * ρ 1 + ((2048) * ρ 3 + 0)))) (((0) + ((1) * ρ 4 + 0)))
      refine c2 (P := q155 (tB (vw C h))) (r := ρ 1 + 2048 * ρ 3) (c := ρ 4) ?_ (by omega) (by omega)
      show q155 (tB (vw C h)) (ρ 1 + 2048 * ρ 3) (ρ 4)
      exact o155 (n := ρ 1) (s := ρ 3) (by omega) (by omega) (by omega) (by omega) (by omega) k1 (by omega)
    · show q156 (tB (vw C h)) (((0) + ((1) * ρ 1 + ((2048) * ρ 2 + 0)))) (((0) + ((1) * ρ 3 + 0)))
      refine c2 (P := q156 (tB (vw C h))) (r := ρ 1 + 2048 * ρ 2) (c := ρ 3) ?_ (by omega) (by omega)
      show q156 (tB (vw C h)) (ρ 1 + 2048 * ρ 2) (ρ 3)
      exact o156 (n := ρ 1) (s := ρ 3) (e := ρ 2) (by omega) (by omega) (by omega) (by omega) (by omega) (by omega) (k2.trans (by omega))
    · show q157 (tB (vw C h)) (((0) + ((1) * ρ 1 + ((2048) * ρ 3 + 0)))) (((0) + ((1) * ρ 5 + 0)))
      refine c2 (P := q157 (tB (vw C h))) (r := ρ 1 + 2048 * ρ 3) (c := ρ 5) ?_ (by omega) (by omega)
      show q157 (tB (vw C h)) (ρ 1 + 2048 * ρ 3) (ρ 5)
      exact o157n (n := ρ 1) (s := ρ 3) (by omega) (by omega) (by omega) (by omega) (by omega) k1 (by decide)
/-- tkWC -/
theorem lem_212_ok (hU : uqG G C) : lem_212.1.2.1 = [] ∧ lemOK (PRd G C D xs) G rgs lem_212 := by
  refine ⟨rfl, fun ρ h ha hT => ?_⟩
  obtain ⟨-, -, hF, hG, hH, hA, hP⟩ := ha
  have f0 : (0 : Int) ≤ ((0) + ((1) * ρ 1 + 0)) := hF _ (List.mem_of_getElem? (i := 0) rfl)
  have f1 : (0 : Int) ≤ ((1200) + ((-1) * ρ 1 + 0)) := hF _ (List.mem_of_getElem? (i := 1) rfl)
  have f2 : (0 : Int) ≤ ((1) + ((-1) * ρ 4 + 0)) := hF _ (List.mem_of_getElem? (i := 2) rfl)
  have f3 : (0 : Int) ≤ ((-1) + ((1) * ρ 4 + 0)) := hF _ (List.mem_of_getElem? (i := 3) rfl)
  have f4 : (0 : Int) ≤ ((0) + ((1) * ρ 3 + 0)) := hF _ (List.mem_of_getElem? (i := 4) rfl)
  have f5 : (0 : Int) ≤ ((-1) + ((1) * ρ 1 + ((-1) * ρ 3 + 0))) := hF _ (List.mem_of_getElem? (i := 5) rfl)
  have f6 : (0 : Int) ≤ ((9) + ((-1) * ρ 2 + ((1) * ρ 3 + 0))) := hF _ (List.mem_of_getElem? (i := 6) rfl)
  have g0 : G (ρ 0).toNat = 17 := by
    have q := (hG _ (List.mem_of_getElem? (i := 0) rfl)).2
    rwa [show ev ρ (0, [(0, 1)]) = ρ 0 from ev_v] at q
  have h0 : (0 : Int) ≤ ρ 1 ∧ ρ 1 ≤ 1200 := hf_rg hT (hH _ (List.mem_of_getElem? (i := 0) rfl)) ev_v g0 rfl rfl rfl ev_v
  have h1 : (0 : Int) ≤ ρ 2 ∧ ρ 2 ≤ 1200 := hf_rg hT (hH _ (List.mem_of_getElem? (i := 1) rfl)) ev_v g0 rfl rfl rfl ev_v
  have h2 : (0 : Int) ≤ ρ 3 ∧ ρ 3 ≤ 1200 := hf_rg hT (hH _ (List.mem_of_getElem? (i := 2) rfl)) ev_v g0 rfl rfl rfl ev_v
  have p0 : q178 (tB (vw C h)) (ρ 1 + 2048 * ρ 3) (ρ 2) := c2 (P := q178 (tB (vw C h))) (show q178 (tB (vw C h)) (((0) + ((1) * ρ 1 + ((2048) * ρ 3 + 0)))) (((0) + ((1) * ρ 2 + 0))) from hP _ (List.mem_of_getElem? (i := 0) rfl)) (by omega) (by omega)
  obtain ⟨k1, k2, k3, k4⟩ := tk_word (n := ρ 1) (s := ρ 3) (by omega) (by omega) (by omega) (by omega) (by omega) p0
  rw [if_pos (by omega)] at k1
  refine ⟨_, List.mem_cons_self, ρ, fun _ _ => rfl, fun q hq => absurd hq List.not_mem_nil, trivial, fun f hf => ?_, fun q hq => absurd hq List.not_mem_nil, fun q hq => absurd hq List.not_mem_nil, fun q hq => absurd hq List.not_mem_nil, fun q hq => ?_⟩
  · exact absurd hf List.not_mem_nil
  · simp only [List.mem_cons, List.not_mem_nil, or_false] at hq
    rcases hq with rfl | rfl | rfl
    · show q155 (tB (vw C h)) (((0) + ((1) * ρ 1 + ((2048) * ρ 3 + 0)))) (((0) + ((1) * ρ 4 + 0)))
      refine c2 (P := q155 (tB (vw C h))) (r := ρ 1 + 2048 * ρ 3) (c := ρ 4) ?_ (by omega) (by omega)
      show q155 (tB (vw C h)) (ρ 1 + 2048 * ρ 3) (ρ 4)
      exact o155 (n := ρ 1) (s := ρ 3) (by omega) (by omega) (by omega) (by omega) (by omega) k1 (by omega)
    · show q156 (tB (vw C h)) (((0) + ((1) * ρ 1 + ((2048) * ρ 2 + 0)))) (((0) + ((1) * ρ 3 + 0)))
      refine c2 (P := q156 (tB (vw C h))) (r := ρ 1 + 2048 * ρ 2) (c := ρ 3) ?_ (by omega) (by omega)
      show q156 (tB (vw C h)) (ρ 1 + 2048 * ρ 2) (ρ 3)
      exact o156 (n := ρ 1) (s := ρ 3) (e := ρ 2) (by omega) (by omega) (by omega) (by omega) (by omega) (by omega) (k2.trans (by omega))
    · show q157 (tB (vw C h)) (((0) + ((1) * ρ 1 + ((2048) * ρ 3 + 0)))) (((0) + ((1) * ρ 5 + 0)))
      refine c2 (P := q157 (tB (vw C h))) (r := ρ 1 + 2048 * ρ 3) (c := ρ 5) ?_ (by omega) (by omega)
      show q157 (tB (vw C h)) (ρ 1 + 2048 * ρ 3) (ρ 5)
      exact o157n (n := ρ 1) (s := ρ 3) (by omega) (by omega) (by omega) (by omega) (by omega) k1 (by decide)
/-- tkWBC -/
theorem lem_213_ok (hU : uqG G C) : lem_213.1.2.1 = [] ∧ lemOK (PRd G C D xs) G rgs lem_213 := by
  refine ⟨rfl, fun ρ h ha hT => ?_⟩
  obtain ⟨-, -, hF, hG, hH, hA, hP⟩ := ha
  have f0 : (0 : Int) ≤ ((0) + ((1) * ρ 1 + 0)) := hF _ (List.mem_of_getElem? (i := 0) rfl)
  have f1 : (0 : Int) ≤ ((1200) + ((-1) * ρ 1 + 0)) := hF _ (List.mem_of_getElem? (i := 1) rfl)
  have f2 : (0 : Int) ≤ ((4) + ((-1) * ρ 4 + 0)) := hF _ (List.mem_of_getElem? (i := 2) rfl)
  have f3 : (0 : Int) ≤ ((-4) + ((1) * ρ 4 + 0)) := hF _ (List.mem_of_getElem? (i := 3) rfl)
  have f4 : (0 : Int) ≤ ((0) + ((1) * ρ 3 + 0)) := hF _ (List.mem_of_getElem? (i := 4) rfl)
  have f5 : (0 : Int) ≤ ((-1) + ((1) * ρ 1 + ((-1) * ρ 3 + 0))) := hF _ (List.mem_of_getElem? (i := 5) rfl)
  have f6 : (0 : Int) ≤ ((-10) + ((1) * ρ 2 + ((-1) * ρ 3 + 0))) := hF _ (List.mem_of_getElem? (i := 6) rfl)
  have g0 : G (ρ 0).toNat = 17 := by
    have q := (hG _ (List.mem_of_getElem? (i := 0) rfl)).2
    rwa [show ev ρ (0, [(0, 1)]) = ρ 0 from ev_v] at q
  have h0 : (0 : Int) ≤ ρ 1 ∧ ρ 1 ≤ 1200 := hf_rg hT (hH _ (List.mem_of_getElem? (i := 0) rfl)) ev_v g0 rfl rfl rfl ev_v
  have h1 : (0 : Int) ≤ ρ 2 ∧ ρ 2 ≤ 1200 := hf_rg hT (hH _ (List.mem_of_getElem? (i := 1) rfl)) ev_v g0 rfl rfl rfl ev_v
  have h2 : (0 : Int) ≤ ρ 3 ∧ ρ 3 ≤ 1200 := hf_rg hT (hH _ (List.mem_of_getElem? (i := 2) rfl)) ev_v g0 rfl rfl rfl ev_v
  have p0 : q178 (tB (vw C h)) (ρ 1 + 2048 * ρ 3) (ρ 2) := c2 (P := q178 (tB (vw C h))) (show q178 (tB (vw C h)) (((0) + ((1) * ρ 1 + ((2048) * ρ 3 + 0)))) (((0) + ((1) * ρ 2 + 0))) from hP _ (List.mem_of_getElem? (i := 0) rfl)) (by omega) (by omega)
  obtain ⟨k1, k2, k3, k4⟩ := tk_word (n := ρ 1) (s := ρ 3) (by omega) (by omega) (by omega) (by omega) (by omega) p0
  rw [if_neg (by omega)] at k1
  refine ⟨_, List.mem_cons_self, ρ, fun _ _ => rfl, fun q hq => absurd hq List.not_mem_nil, trivial, fun f hf => ?_, fun q hq => absurd hq List.not_mem_nil, fun q hq => absurd hq List.not_mem_nil, fun q hq => absurd hq List.not_mem_nil, fun q hq => ?_⟩
  · exact absurd hf List.not_mem_nil
  · simp only [List.mem_cons, List.not_mem_nil, or_false] at hq
    rcases hq with rfl | rfl | rfl
    · show q155 (tB (vw C h)) (((0) + ((1) * ρ 1 + ((2048) * ρ 3 + 0)))) (((0) + ((1) * ρ 4 + 0)))
      refine c2 (P := q155 (tB (vw C h))) (r := ρ 1 + 2048 * ρ 3) (c := ρ 4) ?_ (by omega) (by omega)
      show q155 (tB (vw C h)) (ρ 1 + 2048 * ρ 3) (ρ 4)
      exact o155 (n := ρ 1) (s := ρ 3) (by omega) (by omega) (by omega) (by omega) (by omega) k1 (by omega)
    · show q156 (tB (vw C h)) (((0) + ((1) * ρ 1 + ((2048) * ρ 2 + 0)))) (((0) + ((1) * ρ 3 + 0)))
      refine c2 (P := q156 (tB (vw C h))) (r := ρ 1 + 2048 * ρ 2) (c := ρ 3) ?_ (by omega) (by omega)
      show q156 (tB (vw C h)) (ρ 1 + 2048 * ρ 2) (ρ 3)
      exact o156 (n := ρ 1) (s := ρ 3) (e := ρ 2) (by omega) (by omega) (by omega) (by omega) (by omega) (by omega) (k2.trans (by omega))
    · show q157 (tB (vw C h)) (((0) + ((1) * ρ 1 + ((2048) * ρ 3 + 0)))) (((0) + ((1) * ρ 5 + 0)))
      refine c2 (P := q157 (tB (vw C h))) (r := ρ 1 + 2048 * ρ 3) (c := ρ 5) ?_ (by omega) (by omega)
      show q157 (tB (vw C h)) (ρ 1 + 2048 * ρ 3) (ρ 5)
      exact o157n (n := ρ 1) (s := ρ 3) (by omega) (by omega) (by omega) (by omega) (by omega) k1 (by decide)
/-- tkNC -/
theorem lem_214_ok (hU : uqG G C) : lem_214.1.2.1 = [] ∧ lemOK (PRd G C D xs) G rgs lem_214 := by
  refine ⟨rfl, fun ρ h ha hT => ?_⟩
  obtain ⟨-, -, hF, hG, hH, hA, hP⟩ := ha
  have f0 : (0 : Int) ≤ ((0) + ((1) * ρ 1 + 0)) := hF _ (List.mem_of_getElem? (i := 0) rfl)
  have f1 : (0 : Int) ≤ ((1200) + ((-1) * ρ 1 + 0)) := hF _ (List.mem_of_getElem? (i := 1) rfl)
  have f2 : (0 : Int) ≤ ((2) + ((-1) * ρ 4 + 0)) := hF _ (List.mem_of_getElem? (i := 2) rfl)
  have f3 : (0 : Int) ≤ ((-2) + ((1) * ρ 4 + 0)) := hF _ (List.mem_of_getElem? (i := 3) rfl)
  have f4 : (0 : Int) ≤ ((0) + ((1) * ρ 3 + 0)) := hF _ (List.mem_of_getElem? (i := 4) rfl)
  have f5 : (0 : Int) ≤ ((-1) + ((1) * ρ 1 + ((-1) * ρ 3 + 0))) := hF _ (List.mem_of_getElem? (i := 5) rfl)
  have f6 : (0 : Int) ≤ ((0) + ((1) * ρ 2 + ((-1) * ρ 3 + 0))) := hF _ (List.mem_of_getElem? (i := 6) rfl)
  have f7 : (0 : Int) ≤ ((5) + ((-1) * ρ 2 + ((1) * ρ 3 + 0))) := hF _ (List.mem_of_getElem? (i := 7) rfl)
  have g0 : G (ρ 0).toNat = 17 := by
    have q := (hG _ (List.mem_of_getElem? (i := 0) rfl)).2
    rwa [show ev ρ (0, [(0, 1)]) = ρ 0 from ev_v] at q
  have h0 : (0 : Int) ≤ ρ 1 ∧ ρ 1 ≤ 1200 := hf_rg hT (hH _ (List.mem_of_getElem? (i := 0) rfl)) ev_v g0 rfl rfl rfl ev_v
  have h1 : (0 : Int) ≤ ρ 2 ∧ ρ 2 ≤ 1200 := hf_rg hT (hH _ (List.mem_of_getElem? (i := 1) rfl)) ev_v g0 rfl rfl rfl ev_v
  have h2 : (0 : Int) ≤ ρ 3 ∧ ρ 3 ≤ 1200 := hf_rg hT (hH _ (List.mem_of_getElem? (i := 2) rfl)) ev_v g0 rfl rfl rfl ev_v
  have p0 : q179 (tB (vw C h)) (ρ 1 + 2048 * ρ 3) (ρ 2) := c2 (P := q179 (tB (vw C h))) (show q179 (tB (vw C h)) (((0) + ((1) * ρ 1 + ((2048) * ρ 3 + 0)))) (((0) + ((1) * ρ 2 + 0))) from hP _ (List.mem_of_getElem? (i := 0) rfl)) (by omega) (by omega)
  have p1 : q154 (tB (vw C h)) (2048 * ρ 2 + (-2047) * ρ 3) (ρ 5) := c2 (P := q154 (tB (vw C h))) (show q154 (tB (vw C h)) (((0) + ((2048) * ρ 2 + ((-2047) * ρ 3 + 0)))) (((0) + ((1) * ρ 5 + 0))) from hP _ (List.mem_of_getElem? (i := 1) rfl)) (by omega) (by omega)
  obtain ⟨k1, k2, k3, k4⟩ := tk_num (n := ρ 1) (s := ρ 3) (by omega) (by omega) (by omega) (by omega) (by omega) p0
  rw [if_pos (by omega)] at k1
  refine ⟨_, List.mem_cons_self, ρ, fun _ _ => rfl, fun q hq => absurd hq List.not_mem_nil, trivial, fun f hf => ?_, fun q hq => absurd hq List.not_mem_nil, fun q hq => absurd hq List.not_mem_nil, fun q hq => absurd hq List.not_mem_nil, fun q hq => ?_⟩
  · exact absurd hf List.not_mem_nil
  · simp only [List.mem_cons, List.not_mem_nil, or_false] at hq
    rcases hq with rfl | rfl | rfl
    · show q155 (tB (vw C h)) (((0) + ((1) * ρ 1 + ((2048) * ρ 3 + 0)))) (((0) + ((1) * ρ 4 + 0)))
      refine c2 (P := q155 (tB (vw C h))) (r := ρ 1 + 2048 * ρ 3) (c := ρ 4) ?_ (by omega) (by omega)
      show q155 (tB (vw C h)) (ρ 1 + 2048 * ρ 3) (ρ 4)
      exact o155 (n := ρ 1) (s := ρ 3) (by omega) (by omega) (by omega) (by omega) (by omega) k1 (by omega)
    · show q156 (tB (vw C h)) (((0) + ((1) * ρ 1 + ((2048) * ρ 2 + 0)))) (((0) + ((1) * ρ 3 + 0)))
      refine c2 (P := q156 (tB (vw C h))) (r := ρ 1 + 2048 * ρ 2) (c := ρ 3) ?_ (by omega) (by omega)
      show q156 (tB (vw C h)) (ρ 1 + 2048 * ρ 2) (ρ 3)
      exact o156 (n := ρ 1) (s := ρ 3) (e := ρ 2) (by omega) (by omega) (by omega) (by omega) (by omega) (by omega) (k2.trans (by omega))
    · show q157 (tB (vw C h)) (((0) + ((1) * ρ 1 + ((2048) * ρ 3 + 0)))) (((0) + ((1) * ρ 5 + 0)))
      refine c2 (P := q157 (tB (vw C h))) (r := ρ 1 + 2048 * ρ 3) (c := ρ 5) ?_ (by omega) (by omega)
      show q157 (tB (vw C h)) (ρ 1 + 2048 * ρ 3) (ρ 5)
      exact o157 (n := ρ 1) (s := ρ 3) (i := ρ 2) (by omega) (by omega) (by omega) (by omega) (by omega) (k2.trans (by omega)) (by omega) (by omega) (by omega) p1
/-- tkNBC -/
theorem lem_215_ok (hU : uqG G C) : lem_215.1.2.1 = [] ∧ lemOK (PRd G C D xs) G rgs lem_215 := by
  refine ⟨rfl, fun ρ h ha hT => ?_⟩
  obtain ⟨-, -, hF, hG, hH, hA, hP⟩ := ha
  have f0 : (0 : Int) ≤ ((0) + ((1) * ρ 1 + 0)) := hF _ (List.mem_of_getElem? (i := 0) rfl)
  have f1 : (0 : Int) ≤ ((1200) + ((-1) * ρ 1 + 0)) := hF _ (List.mem_of_getElem? (i := 1) rfl)
  have f2 : (0 : Int) ≤ ((4) + ((-1) * ρ 4 + 0)) := hF _ (List.mem_of_getElem? (i := 2) rfl)
  have f3 : (0 : Int) ≤ ((-4) + ((1) * ρ 4 + 0)) := hF _ (List.mem_of_getElem? (i := 3) rfl)
  have f4 : (0 : Int) ≤ ((0) + ((1) * ρ 3 + 0)) := hF _ (List.mem_of_getElem? (i := 4) rfl)
  have f5 : (0 : Int) ≤ ((-1) + ((1) * ρ 1 + ((-1) * ρ 3 + 0))) := hF _ (List.mem_of_getElem? (i := 5) rfl)
  have f6 : (0 : Int) ≤ ((-6) + ((1) * ρ 2 + ((-1) * ρ 3 + 0))) := hF _ (List.mem_of_getElem? (i := 6) rfl)
  have g0 : G (ρ 0).toNat = 17 := by
    have q := (hG _ (List.mem_of_getElem? (i := 0) rfl)).2
    rwa [show ev ρ (0, [(0, 1)]) = ρ 0 from ev_v] at q
  have h0 : (0 : Int) ≤ ρ 1 ∧ ρ 1 ≤ 1200 := hf_rg hT (hH _ (List.mem_of_getElem? (i := 0) rfl)) ev_v g0 rfl rfl rfl ev_v
  have h1 : (0 : Int) ≤ ρ 2 ∧ ρ 2 ≤ 1200 := hf_rg hT (hH _ (List.mem_of_getElem? (i := 1) rfl)) ev_v g0 rfl rfl rfl ev_v
  have h2 : (0 : Int) ≤ ρ 3 ∧ ρ 3 ≤ 1200 := hf_rg hT (hH _ (List.mem_of_getElem? (i := 2) rfl)) ev_v g0 rfl rfl rfl ev_v
  have p0 : q179 (tB (vw C h)) (ρ 1 + 2048 * ρ 3) (ρ 2) := c2 (P := q179 (tB (vw C h))) (show q179 (tB (vw C h)) (((0) + ((1) * ρ 1 + ((2048) * ρ 3 + 0)))) (((0) + ((1) * ρ 2 + 0))) from hP _ (List.mem_of_getElem? (i := 0) rfl)) (by omega) (by omega)
  obtain ⟨k1, k2, k3, k4⟩ := tk_num (n := ρ 1) (s := ρ 3) (by omega) (by omega) (by omega) (by omega) (by omega) p0
  rw [if_neg (by omega)] at k1
  refine ⟨_, List.mem_cons_self, ρ, fun _ _ => rfl, fun q hq => absurd hq List.not_mem_nil, trivial, fun f hf => ?_, fun q hq => absurd hq List.not_mem_nil, fun q hq => absurd hq List.not_mem_nil, fun q hq => absurd hq List.not_mem_nil, fun q hq => ?_⟩
  · exact absurd hf List.not_mem_nil
  · simp only [List.mem_cons, List.not_mem_nil, or_false] at hq
    rcases hq with rfl | rfl | rfl
    · show q155 (tB (vw C h)) (((0) + ((1) * ρ 1 + ((2048) * ρ 3 + 0)))) (((0) + ((1) * ρ 4 + 0)))
      refine c2 (P := q155 (tB (vw C h))) (r := ρ 1 + 2048 * ρ 3) (c := ρ 4) ?_ (by omega) (by omega)
      show q155 (tB (vw C h)) (ρ 1 + 2048 * ρ 3) (ρ 4)
      exact o155 (n := ρ 1) (s := ρ 3) (by omega) (by omega) (by omega) (by omega) (by omega) k1 (by omega)
    · show q156 (tB (vw C h)) (((0) + ((1) * ρ 1 + ((2048) * ρ 2 + 0)))) (((0) + ((1) * ρ 3 + 0)))
      refine c2 (P := q156 (tB (vw C h))) (r := ρ 1 + 2048 * ρ 2) (c := ρ 3) ?_ (by omega) (by omega)
      show q156 (tB (vw C h)) (ρ 1 + 2048 * ρ 2) (ρ 3)
      exact o156 (n := ρ 1) (s := ρ 3) (e := ρ 2) (by omega) (by omega) (by omega) (by omega) (by omega) (by omega) (k2.trans (by omega))
    · show q157 (tB (vw C h)) (((0) + ((1) * ρ 1 + ((2048) * ρ 3 + 0)))) (((0) + ((1) * ρ 5 + 0)))
      refine c2 (P := q157 (tB (vw C h))) (r := ρ 1 + 2048 * ρ 3) (c := ρ 5) ?_ (by omega) (by omega)
      show q157 (tB (vw C h)) (ρ 1 + 2048 * ρ 3) (ρ 5)
      exact o157n (n := ρ 1) (s := ρ 3) (by omega) (by omega) (by omega) (by omega) (by omega) k1 (by decide)
/-- tkS59C -/
theorem lem_216_ok (hU : uqG G C) : lem_216.1.2.1 = [] ∧ lemOK (PRd G C D xs) G rgs lem_216 := by
  refine ⟨rfl, fun ρ h ha hT => ?_⟩
  obtain ⟨-, -, hF, hG, hH, hA, hP⟩ := ha
  have f0 : (0 : Int) ≤ ((0) + ((1) * ρ 1 + 0)) := hF _ (List.mem_of_getElem? (i := 0) rfl)
  have f1 : (0 : Int) ≤ ((1200) + ((-1) * ρ 1 + 0)) := hF _ (List.mem_of_getElem? (i := 1) rfl)
  have f2 : (0 : Int) ≤ ((0) + ((1) * ρ 3 + 0)) := hF _ (List.mem_of_getElem? (i := 2) rfl)
  have f3 : (0 : Int) ≤ ((-1) + ((1) * ρ 1 + ((-1) * ρ 3 + 0))) := hF _ (List.mem_of_getElem? (i := 3) rfl)
  have f4 : (0 : Int) ≤ ((0) + ((-1) * ρ 2 + ((1) * ρ 3 + 0))) := hF _ (List.mem_of_getElem? (i := 4) rfl)
  have f5 : (0 : Int) ≤ ((0) + ((1) * ρ 2 + ((-1) * ρ 3 + 0))) := hF _ (List.mem_of_getElem? (i := 5) rfl)
  have f6 : (0 : Int) ≤ ((-59) + ((1) * ρ 7 + 0)) := hF _ (List.mem_of_getElem? (i := 6) rfl)
  have f7 : (0 : Int) ≤ ((59) + ((-1) * ρ 7 + 0)) := hF _ (List.mem_of_getElem? (i := 7) rfl)
  have g0 : G (ρ 0).toNat = 17 := by
    have q := (hG _ (List.mem_of_getElem? (i := 0) rfl)).2
    rwa [show ev ρ (0, [(0, 1)]) = ρ 0 from ev_v] at q
  have g1 : G (ρ 5).toNat = 100 := by
    have q := (hG _ (List.mem_of_getElem? (i := 1) rfl)).2
    rwa [show ev ρ (0, [(5, 1)]) = ρ 5 from ev_v] at q
  have h0 : (0 : Int) ≤ ρ 1 ∧ ρ 1 ≤ 1200 := hf_rg hT (hH _ (List.mem_of_getElem? (i := 0) rfl)) ev_v g0 rfl rfl rfl ev_v
  have h1 : (0 : Int) ≤ ρ 2 ∧ ρ 2 ≤ 1200 := hf_rg hT (hH _ (List.mem_of_getElem? (i := 1) rfl)) ev_v g0 rfl rfl rfl ev_v
  have h2 : (0 : Int) ≤ ρ 3 ∧ ρ 3 ≤ 1200 := hf_rg hT (hH _ (List.mem_of_getElem? (i := 2) rfl)) ev_v g0 rfl rfl rfl ev_v
  have b0 : (0 : Int) ≤ ((0) + ((1) * ρ 2 + 0)) := b_aA (hA _ (List.mem_of_getElem? (i := 0) rfl))
  have a0 : vw C h 100 ((ρ 2).toNat) = ρ 6 := vw_aA hU (hA _ (List.mem_of_getElem? (i := 0) rfl)) ev_v g1 (by omega) (by omega) (i := (ρ 2).toNat) (show ((((ρ 2).toNat : Nat)) : Int) = ((0) + ((1) * ρ 2 + 0)) by omega) ev_v
  have p0 : (ρ 7) = (ρ 6) % 256 := c2 (P := (fun r c => c = r % 256)) (show (((0) + ((1) * ρ 7 + 0))) = (((0) + ((1) * ρ 6 + 0))) % 256 from hP _ (List.mem_of_getElem? (i := 0) rfl)) (by omega) (by omega)
  have hb := by_C hU hT (j := ρ 2) (b := ρ 6) (by omega) (by omega) a0
  have hB : (tB (vw C h)) (ρ 3).toNat = ρ 7 := by
    have q := hb.2.2
    rw [show (ρ 2).toNat = (ρ 3).toNat by omega] at q
    omega
  obtain ⟨k1, k2⟩ := tk_sign (u := 59) (n := ρ 1) (s := ρ 3) (by omega) (by omega) (by omega) (hB.trans (by omega)) (by decide)
  refine ⟨_, List.mem_cons_self, ρ, fun _ _ => rfl, fun q hq => absurd hq List.not_mem_nil, trivial, fun f hf => ?_, fun q hq => absurd hq List.not_mem_nil, fun q hq => absurd hq List.not_mem_nil, fun q hq => absurd hq List.not_mem_nil, fun q hq => ?_⟩
  · exact absurd hf List.not_mem_nil
  · simp only [List.mem_cons, List.not_mem_nil, or_false] at hq
    rcases hq with rfl | rfl | rfl
    · show q155 (tB (vw C h)) (((0) + ((1) * ρ 1 + ((2048) * ρ 3 + 0)))) (((3) + 0))
      refine c2 (P := q155 (tB (vw C h))) (r := ρ 1 + 2048 * ρ 3) (c := (3 : Int)) ?_ (by omega) (by omega)
      show q155 (tB (vw C h)) (ρ 1 + 2048 * ρ 3) ((3 : Int))
      exact o155 (n := ρ 1) (s := ρ 3) (by omega) (by omega) (by omega) (by omega) (by omega) k1 (by omega)
    · show q156 (tB (vw C h)) (((2048) + ((1) * ρ 1 + ((2048) * ρ 3 + 0)))) (((0) + ((1) * ρ 3 + 0)))
      refine c2 (P := q156 (tB (vw C h))) (r := ρ 1 + 2048 * ρ 3 + 2048) (c := ρ 3) ?_ (by omega) (by omega)
      show q156 (tB (vw C h)) (ρ 1 + 2048 * ρ 3 + 2048) (ρ 3)
      exact o156 (n := ρ 1) (s := ρ 3) (e := ρ 3 + 1) (by omega) (by omega) (by omega) (by omega) (by omega) (by omega) (k2.trans (by omega))
    · show q157 (tB (vw C h)) (((0) + ((1) * ρ 1 + ((2048) * ρ 3 + 0)))) (((0) + ((1) * ρ 4 + 0)))
      refine c2 (P := q157 (tB (vw C h))) (r := ρ 1 + 2048 * ρ 3) (c := ρ 4) ?_ (by omega) (by omega)
      show q157 (tB (vw C h)) (ρ 1 + 2048 * ρ 3) (ρ 4)
      exact o157n (n := ρ 1) (s := ρ 3) (by omega) (by omega) (by omega) (by omega) (by omega) k1 (by decide)
/-- tkS40C -/
theorem lem_217_ok (hU : uqG G C) : lem_217.1.2.1 = [] ∧ lemOK (PRd G C D xs) G rgs lem_217 := by
  refine ⟨rfl, fun ρ h ha hT => ?_⟩
  obtain ⟨-, -, hF, hG, hH, hA, hP⟩ := ha
  have f0 : (0 : Int) ≤ ((0) + ((1) * ρ 1 + 0)) := hF _ (List.mem_of_getElem? (i := 0) rfl)
  have f1 : (0 : Int) ≤ ((1200) + ((-1) * ρ 1 + 0)) := hF _ (List.mem_of_getElem? (i := 1) rfl)
  have f2 : (0 : Int) ≤ ((0) + ((1) * ρ 3 + 0)) := hF _ (List.mem_of_getElem? (i := 2) rfl)
  have f3 : (0 : Int) ≤ ((-1) + ((1) * ρ 1 + ((-1) * ρ 3 + 0))) := hF _ (List.mem_of_getElem? (i := 3) rfl)
  have f4 : (0 : Int) ≤ ((0) + ((-1) * ρ 2 + ((1) * ρ 3 + 0))) := hF _ (List.mem_of_getElem? (i := 4) rfl)
  have f5 : (0 : Int) ≤ ((0) + ((1) * ρ 2 + ((-1) * ρ 3 + 0))) := hF _ (List.mem_of_getElem? (i := 5) rfl)
  have f6 : (0 : Int) ≤ ((-40) + ((1) * ρ 7 + 0)) := hF _ (List.mem_of_getElem? (i := 6) rfl)
  have f7 : (0 : Int) ≤ ((40) + ((-1) * ρ 7 + 0)) := hF _ (List.mem_of_getElem? (i := 7) rfl)
  have g0 : G (ρ 0).toNat = 17 := by
    have q := (hG _ (List.mem_of_getElem? (i := 0) rfl)).2
    rwa [show ev ρ (0, [(0, 1)]) = ρ 0 from ev_v] at q
  have g1 : G (ρ 5).toNat = 100 := by
    have q := (hG _ (List.mem_of_getElem? (i := 1) rfl)).2
    rwa [show ev ρ (0, [(5, 1)]) = ρ 5 from ev_v] at q
  have h0 : (0 : Int) ≤ ρ 1 ∧ ρ 1 ≤ 1200 := hf_rg hT (hH _ (List.mem_of_getElem? (i := 0) rfl)) ev_v g0 rfl rfl rfl ev_v
  have h1 : (0 : Int) ≤ ρ 2 ∧ ρ 2 ≤ 1200 := hf_rg hT (hH _ (List.mem_of_getElem? (i := 1) rfl)) ev_v g0 rfl rfl rfl ev_v
  have h2 : (0 : Int) ≤ ρ 3 ∧ ρ 3 ≤ 1200 := hf_rg hT (hH _ (List.mem_of_getElem? (i := 2) rfl)) ev_v g0 rfl rfl rfl ev_v
  have b0 : (0 : Int) ≤ ((0) + ((1) * ρ 2 + 0)) := b_aA (hA _ (List.mem_of_getElem? (i := 0) rfl))
  have a0 : vw C h 100 ((ρ 2).toNat) = ρ 6 := vw_aA hU (hA _ (List.mem_of_getElem? (i := 0) rfl)) ev_v g1 (by omega) (by omega) (i := (ρ 2).toNat) (show ((((ρ 2).toNat : Nat)) : Int) = ((0) + ((1) * ρ 2 + 0)) by omega) ev_v
  have p0 : (ρ 7) = (ρ 6) % 256 := c2 (P := (fun r c => c = r % 256)) (show (((0) + ((1) * ρ 7 + 0))) = (((0) + ((1) * ρ 6 + 0))) % 256 from hP _ (List.mem_of_getElem? (i := 0) rfl)) (by omega) (by omega)
  have hb := by_C hU hT (j := ρ 2) (b := ρ 6) (by omega) (by omega) a0
  have hB : (tB (vw C h)) (ρ 3).toNat = ρ 7 := by
    have q := hb.2.2
    rw [show (ρ 2).toNat = (ρ 3).toNat by omega] at q
    omega
  obtain ⟨k1, k2⟩ := tk_sign (u := 40) (n := ρ 1) (s := ρ 3) (by omega) (by omega) (by omega) (hB.trans (by omega)) (by decide)
  refine ⟨_, List.mem_cons_self, ρ, fun _ _ => rfl, fun q hq => absurd hq List.not_mem_nil, trivial, fun f hf => ?_, fun q hq => absurd hq List.not_mem_nil, fun q hq => absurd hq List.not_mem_nil, fun q hq => absurd hq List.not_mem_nil, fun q hq => ?_⟩
  · exact absurd hf List.not_mem_nil
  · simp only [List.mem_cons, List.not_mem_nil, or_false] at hq
    rcases hq with rfl | rfl | rfl
    · show q155 (tB (vw C h)) (((0) + ((1) * ρ 1 + ((2048) * ρ 3 + 0)))) (((3) + 0))
      refine c2 (P := q155 (tB (vw C h))) (r := ρ 1 + 2048 * ρ 3) (c := (3 : Int)) ?_ (by omega) (by omega)
      show q155 (tB (vw C h)) (ρ 1 + 2048 * ρ 3) ((3 : Int))
      exact o155 (n := ρ 1) (s := ρ 3) (by omega) (by omega) (by omega) (by omega) (by omega) k1 (by omega)
    · show q156 (tB (vw C h)) (((2048) + ((1) * ρ 1 + ((2048) * ρ 3 + 0)))) (((0) + ((1) * ρ 3 + 0)))
      refine c2 (P := q156 (tB (vw C h))) (r := ρ 1 + 2048 * ρ 3 + 2048) (c := ρ 3) ?_ (by omega) (by omega)
      show q156 (tB (vw C h)) (ρ 1 + 2048 * ρ 3 + 2048) (ρ 3)
      exact o156 (n := ρ 1) (s := ρ 3) (e := ρ 3 + 1) (by omega) (by omega) (by omega) (by omega) (by omega) (by omega) (k2.trans (by omega))
    · show q157 (tB (vw C h)) (((0) + ((1) * ρ 1 + ((2048) * ρ 3 + 0)))) (((0) + ((1) * ρ 4 + 0)))
      refine c2 (P := q157 (tB (vw C h))) (r := ρ 1 + 2048 * ρ 3) (c := ρ 4) ?_ (by omega) (by omega)
      show q157 (tB (vw C h)) (ρ 1 + 2048 * ρ 3) (ρ 4)
      exact o157n (n := ρ 1) (s := ρ 3) (by omega) (by omega) (by omega) (by omega) (by omega) k1 (by decide)
/-- tkS41C -/
theorem lem_218_ok (hU : uqG G C) : lem_218.1.2.1 = [] ∧ lemOK (PRd G C D xs) G rgs lem_218 := by
  refine ⟨rfl, fun ρ h ha hT => ?_⟩
  obtain ⟨-, -, hF, hG, hH, hA, hP⟩ := ha
  have f0 : (0 : Int) ≤ ((0) + ((1) * ρ 1 + 0)) := hF _ (List.mem_of_getElem? (i := 0) rfl)
  have f1 : (0 : Int) ≤ ((1200) + ((-1) * ρ 1 + 0)) := hF _ (List.mem_of_getElem? (i := 1) rfl)
  have f2 : (0 : Int) ≤ ((0) + ((1) * ρ 3 + 0)) := hF _ (List.mem_of_getElem? (i := 2) rfl)
  have f3 : (0 : Int) ≤ ((-1) + ((1) * ρ 1 + ((-1) * ρ 3 + 0))) := hF _ (List.mem_of_getElem? (i := 3) rfl)
  have f4 : (0 : Int) ≤ ((0) + ((-1) * ρ 2 + ((1) * ρ 3 + 0))) := hF _ (List.mem_of_getElem? (i := 4) rfl)
  have f5 : (0 : Int) ≤ ((0) + ((1) * ρ 2 + ((-1) * ρ 3 + 0))) := hF _ (List.mem_of_getElem? (i := 5) rfl)
  have f6 : (0 : Int) ≤ ((-41) + ((1) * ρ 7 + 0)) := hF _ (List.mem_of_getElem? (i := 6) rfl)
  have f7 : (0 : Int) ≤ ((41) + ((-1) * ρ 7 + 0)) := hF _ (List.mem_of_getElem? (i := 7) rfl)
  have g0 : G (ρ 0).toNat = 17 := by
    have q := (hG _ (List.mem_of_getElem? (i := 0) rfl)).2
    rwa [show ev ρ (0, [(0, 1)]) = ρ 0 from ev_v] at q
  have g1 : G (ρ 5).toNat = 100 := by
    have q := (hG _ (List.mem_of_getElem? (i := 1) rfl)).2
    rwa [show ev ρ (0, [(5, 1)]) = ρ 5 from ev_v] at q
  have h0 : (0 : Int) ≤ ρ 1 ∧ ρ 1 ≤ 1200 := hf_rg hT (hH _ (List.mem_of_getElem? (i := 0) rfl)) ev_v g0 rfl rfl rfl ev_v
  have h1 : (0 : Int) ≤ ρ 2 ∧ ρ 2 ≤ 1200 := hf_rg hT (hH _ (List.mem_of_getElem? (i := 1) rfl)) ev_v g0 rfl rfl rfl ev_v
  have h2 : (0 : Int) ≤ ρ 3 ∧ ρ 3 ≤ 1200 := hf_rg hT (hH _ (List.mem_of_getElem? (i := 2) rfl)) ev_v g0 rfl rfl rfl ev_v
  have b0 : (0 : Int) ≤ ((0) + ((1) * ρ 2 + 0)) := b_aA (hA _ (List.mem_of_getElem? (i := 0) rfl))
  have a0 : vw C h 100 ((ρ 2).toNat) = ρ 6 := vw_aA hU (hA _ (List.mem_of_getElem? (i := 0) rfl)) ev_v g1 (by omega) (by omega) (i := (ρ 2).toNat) (show ((((ρ 2).toNat : Nat)) : Int) = ((0) + ((1) * ρ 2 + 0)) by omega) ev_v
  have p0 : (ρ 7) = (ρ 6) % 256 := c2 (P := (fun r c => c = r % 256)) (show (((0) + ((1) * ρ 7 + 0))) = (((0) + ((1) * ρ 6 + 0))) % 256 from hP _ (List.mem_of_getElem? (i := 0) rfl)) (by omega) (by omega)
  have hb := by_C hU hT (j := ρ 2) (b := ρ 6) (by omega) (by omega) a0
  have hB : (tB (vw C h)) (ρ 3).toNat = ρ 7 := by
    have q := hb.2.2
    rw [show (ρ 2).toNat = (ρ 3).toNat by omega] at q
    omega
  obtain ⟨k1, k2⟩ := tk_sign (u := 41) (n := ρ 1) (s := ρ 3) (by omega) (by omega) (by omega) (hB.trans (by omega)) (by decide)
  refine ⟨_, List.mem_cons_self, ρ, fun _ _ => rfl, fun q hq => absurd hq List.not_mem_nil, trivial, fun f hf => ?_, fun q hq => absurd hq List.not_mem_nil, fun q hq => absurd hq List.not_mem_nil, fun q hq => absurd hq List.not_mem_nil, fun q hq => ?_⟩
  · exact absurd hf List.not_mem_nil
  · simp only [List.mem_cons, List.not_mem_nil, or_false] at hq
    rcases hq with rfl | rfl | rfl
    · show q155 (tB (vw C h)) (((0) + ((1) * ρ 1 + ((2048) * ρ 3 + 0)))) (((3) + 0))
      refine c2 (P := q155 (tB (vw C h))) (r := ρ 1 + 2048 * ρ 3) (c := (3 : Int)) ?_ (by omega) (by omega)
      show q155 (tB (vw C h)) (ρ 1 + 2048 * ρ 3) ((3 : Int))
      exact o155 (n := ρ 1) (s := ρ 3) (by omega) (by omega) (by omega) (by omega) (by omega) k1 (by omega)
    · show q156 (tB (vw C h)) (((2048) + ((1) * ρ 1 + ((2048) * ρ 3 + 0)))) (((0) + ((1) * ρ 3 + 0)))
      refine c2 (P := q156 (tB (vw C h))) (r := ρ 1 + 2048 * ρ 3 + 2048) (c := ρ 3) ?_ (by omega) (by omega)
      show q156 (tB (vw C h)) (ρ 1 + 2048 * ρ 3 + 2048) (ρ 3)
      exact o156 (n := ρ 1) (s := ρ 3) (e := ρ 3 + 1) (by omega) (by omega) (by omega) (by omega) (by omega) (by omega) (k2.trans (by omega))
    · show q157 (tB (vw C h)) (((0) + ((1) * ρ 1 + ((2048) * ρ 3 + 0)))) (((0) + ((1) * ρ 4 + 0)))
      refine c2 (P := q157 (tB (vw C h))) (r := ρ 1 + 2048 * ρ 3) (c := ρ 4) ?_ (by omega) (by omega)
      show q157 (tB (vw C h)) (ρ 1 + 2048 * ρ 3) (ρ 4)
      exact o157n (n := ρ 1) (s := ρ 3) (by omega) (by omega) (by omega) (by omega) (by omega) k1 (by decide)
/-- tkS60C -/
theorem lem_219_ok (hU : uqG G C) : lem_219.1.2.1 = [] ∧ lemOK (PRd G C D xs) G rgs lem_219 := by
  refine ⟨rfl, fun ρ h ha hT => ?_⟩
  obtain ⟨-, -, hF, hG, hH, hA, hP⟩ := ha
  have f0 : (0 : Int) ≤ ((0) + ((1) * ρ 1 + 0)) := hF _ (List.mem_of_getElem? (i := 0) rfl)
  have f1 : (0 : Int) ≤ ((1200) + ((-1) * ρ 1 + 0)) := hF _ (List.mem_of_getElem? (i := 1) rfl)
  have f2 : (0 : Int) ≤ ((0) + ((1) * ρ 3 + 0)) := hF _ (List.mem_of_getElem? (i := 2) rfl)
  have f3 : (0 : Int) ≤ ((-1) + ((1) * ρ 1 + ((-1) * ρ 3 + 0))) := hF _ (List.mem_of_getElem? (i := 3) rfl)
  have f4 : (0 : Int) ≤ ((0) + ((-1) * ρ 2 + ((1) * ρ 3 + 0))) := hF _ (List.mem_of_getElem? (i := 4) rfl)
  have f5 : (0 : Int) ≤ ((0) + ((1) * ρ 2 + ((-1) * ρ 3 + 0))) := hF _ (List.mem_of_getElem? (i := 5) rfl)
  have f6 : (0 : Int) ≤ ((-60) + ((1) * ρ 7 + 0)) := hF _ (List.mem_of_getElem? (i := 6) rfl)
  have f7 : (0 : Int) ≤ ((60) + ((-1) * ρ 7 + 0)) := hF _ (List.mem_of_getElem? (i := 7) rfl)
  have g0 : G (ρ 0).toNat = 17 := by
    have q := (hG _ (List.mem_of_getElem? (i := 0) rfl)).2
    rwa [show ev ρ (0, [(0, 1)]) = ρ 0 from ev_v] at q
  have g1 : G (ρ 5).toNat = 100 := by
    have q := (hG _ (List.mem_of_getElem? (i := 1) rfl)).2
    rwa [show ev ρ (0, [(5, 1)]) = ρ 5 from ev_v] at q
  have h0 : (0 : Int) ≤ ρ 1 ∧ ρ 1 ≤ 1200 := hf_rg hT (hH _ (List.mem_of_getElem? (i := 0) rfl)) ev_v g0 rfl rfl rfl ev_v
  have h1 : (0 : Int) ≤ ρ 2 ∧ ρ 2 ≤ 1200 := hf_rg hT (hH _ (List.mem_of_getElem? (i := 1) rfl)) ev_v g0 rfl rfl rfl ev_v
  have h2 : (0 : Int) ≤ ρ 3 ∧ ρ 3 ≤ 1200 := hf_rg hT (hH _ (List.mem_of_getElem? (i := 2) rfl)) ev_v g0 rfl rfl rfl ev_v
  have b0 : (0 : Int) ≤ ((0) + ((1) * ρ 2 + 0)) := b_aA (hA _ (List.mem_of_getElem? (i := 0) rfl))
  have a0 : vw C h 100 ((ρ 2).toNat) = ρ 6 := vw_aA hU (hA _ (List.mem_of_getElem? (i := 0) rfl)) ev_v g1 (by omega) (by omega) (i := (ρ 2).toNat) (show ((((ρ 2).toNat : Nat)) : Int) = ((0) + ((1) * ρ 2 + 0)) by omega) ev_v
  have p0 : (ρ 7) = (ρ 6) % 256 := c2 (P := (fun r c => c = r % 256)) (show (((0) + ((1) * ρ 7 + 0))) = (((0) + ((1) * ρ 6 + 0))) % 256 from hP _ (List.mem_of_getElem? (i := 0) rfl)) (by omega) (by omega)
  have hb := by_C hU hT (j := ρ 2) (b := ρ 6) (by omega) (by omega) a0
  have hB : (tB (vw C h)) (ρ 3).toNat = ρ 7 := by
    have q := hb.2.2
    rw [show (ρ 2).toNat = (ρ 3).toNat by omega] at q
    omega
  obtain ⟨k1, k2⟩ := tk_sign (u := 60) (n := ρ 1) (s := ρ 3) (by omega) (by omega) (by omega) (hB.trans (by omega)) (by decide)
  refine ⟨_, List.mem_cons_self, ρ, fun _ _ => rfl, fun q hq => absurd hq List.not_mem_nil, trivial, fun f hf => ?_, fun q hq => absurd hq List.not_mem_nil, fun q hq => absurd hq List.not_mem_nil, fun q hq => absurd hq List.not_mem_nil, fun q hq => ?_⟩
  · exact absurd hf List.not_mem_nil
  · simp only [List.mem_cons, List.not_mem_nil, or_false] at hq
    rcases hq with rfl | rfl | rfl
    · show q155 (tB (vw C h)) (((0) + ((1) * ρ 1 + ((2048) * ρ 3 + 0)))) (((3) + 0))
      refine c2 (P := q155 (tB (vw C h))) (r := ρ 1 + 2048 * ρ 3) (c := (3 : Int)) ?_ (by omega) (by omega)
      show q155 (tB (vw C h)) (ρ 1 + 2048 * ρ 3) ((3 : Int))
      exact o155 (n := ρ 1) (s := ρ 3) (by omega) (by omega) (by omega) (by omega) (by omega) k1 (by omega)
    · show q156 (tB (vw C h)) (((2048) + ((1) * ρ 1 + ((2048) * ρ 3 + 0)))) (((0) + ((1) * ρ 3 + 0)))
      refine c2 (P := q156 (tB (vw C h))) (r := ρ 1 + 2048 * ρ 3 + 2048) (c := ρ 3) ?_ (by omega) (by omega)
      show q156 (tB (vw C h)) (ρ 1 + 2048 * ρ 3 + 2048) (ρ 3)
      exact o156 (n := ρ 1) (s := ρ 3) (e := ρ 3 + 1) (by omega) (by omega) (by omega) (by omega) (by omega) (by omega) (k2.trans (by omega))
    · show q157 (tB (vw C h)) (((0) + ((1) * ρ 1 + ((2048) * ρ 3 + 0)))) (((0) + ((1) * ρ 4 + 0)))
      refine c2 (P := q157 (tB (vw C h))) (r := ρ 1 + 2048 * ρ 3) (c := ρ 4) ?_ (by omega) (by omega)
      show q157 (tB (vw C h)) (ρ 1 + 2048 * ρ 3) (ρ 4)
      exact o157n (n := ρ 1) (s := ρ 3) (by omega) (by omega) (by omega) (by omega) (by omega) k1 (by decide)
/-- tkS62C -/
theorem lem_220_ok (hU : uqG G C) : lem_220.1.2.1 = [] ∧ lemOK (PRd G C D xs) G rgs lem_220 := by
  refine ⟨rfl, fun ρ h ha hT => ?_⟩
  obtain ⟨-, -, hF, hG, hH, hA, hP⟩ := ha
  have f0 : (0 : Int) ≤ ((0) + ((1) * ρ 1 + 0)) := hF _ (List.mem_of_getElem? (i := 0) rfl)
  have f1 : (0 : Int) ≤ ((1200) + ((-1) * ρ 1 + 0)) := hF _ (List.mem_of_getElem? (i := 1) rfl)
  have f2 : (0 : Int) ≤ ((0) + ((1) * ρ 3 + 0)) := hF _ (List.mem_of_getElem? (i := 2) rfl)
  have f3 : (0 : Int) ≤ ((-1) + ((1) * ρ 1 + ((-1) * ρ 3 + 0))) := hF _ (List.mem_of_getElem? (i := 3) rfl)
  have f4 : (0 : Int) ≤ ((0) + ((-1) * ρ 2 + ((1) * ρ 3 + 0))) := hF _ (List.mem_of_getElem? (i := 4) rfl)
  have f5 : (0 : Int) ≤ ((0) + ((1) * ρ 2 + ((-1) * ρ 3 + 0))) := hF _ (List.mem_of_getElem? (i := 5) rfl)
  have f6 : (0 : Int) ≤ ((-62) + ((1) * ρ 7 + 0)) := hF _ (List.mem_of_getElem? (i := 6) rfl)
  have f7 : (0 : Int) ≤ ((62) + ((-1) * ρ 7 + 0)) := hF _ (List.mem_of_getElem? (i := 7) rfl)
  have g0 : G (ρ 0).toNat = 17 := by
    have q := (hG _ (List.mem_of_getElem? (i := 0) rfl)).2
    rwa [show ev ρ (0, [(0, 1)]) = ρ 0 from ev_v] at q
  have g1 : G (ρ 5).toNat = 100 := by
    have q := (hG _ (List.mem_of_getElem? (i := 1) rfl)).2
    rwa [show ev ρ (0, [(5, 1)]) = ρ 5 from ev_v] at q
  have h0 : (0 : Int) ≤ ρ 1 ∧ ρ 1 ≤ 1200 := hf_rg hT (hH _ (List.mem_of_getElem? (i := 0) rfl)) ev_v g0 rfl rfl rfl ev_v
  have h1 : (0 : Int) ≤ ρ 2 ∧ ρ 2 ≤ 1200 := hf_rg hT (hH _ (List.mem_of_getElem? (i := 1) rfl)) ev_v g0 rfl rfl rfl ev_v
  have h2 : (0 : Int) ≤ ρ 3 ∧ ρ 3 ≤ 1200 := hf_rg hT (hH _ (List.mem_of_getElem? (i := 2) rfl)) ev_v g0 rfl rfl rfl ev_v
  have b0 : (0 : Int) ≤ ((0) + ((1) * ρ 2 + 0)) := b_aA (hA _ (List.mem_of_getElem? (i := 0) rfl))
  have a0 : vw C h 100 ((ρ 2).toNat) = ρ 6 := vw_aA hU (hA _ (List.mem_of_getElem? (i := 0) rfl)) ev_v g1 (by omega) (by omega) (i := (ρ 2).toNat) (show ((((ρ 2).toNat : Nat)) : Int) = ((0) + ((1) * ρ 2 + 0)) by omega) ev_v
  have p0 : (ρ 7) = (ρ 6) % 256 := c2 (P := (fun r c => c = r % 256)) (show (((0) + ((1) * ρ 7 + 0))) = (((0) + ((1) * ρ 6 + 0))) % 256 from hP _ (List.mem_of_getElem? (i := 0) rfl)) (by omega) (by omega)
  have hb := by_C hU hT (j := ρ 2) (b := ρ 6) (by omega) (by omega) a0
  have hB : (tB (vw C h)) (ρ 3).toNat = ρ 7 := by
    have q := hb.2.2
    rw [show (ρ 2).toNat = (ρ 3).toNat by omega] at q
    omega
  obtain ⟨k1, k2⟩ := tk_sign (u := 62) (n := ρ 1) (s := ρ 3) (by omega) (by omega) (by omega) (hB.trans (by omega)) (by decide)
  refine ⟨_, List.mem_cons_self, ρ, fun _ _ => rfl, fun q hq => absurd hq List.not_mem_nil, trivial, fun f hf => ?_, fun q hq => absurd hq List.not_mem_nil, fun q hq => absurd hq List.not_mem_nil, fun q hq => absurd hq List.not_mem_nil, fun q hq => ?_⟩
  · exact absurd hf List.not_mem_nil
  · simp only [List.mem_cons, List.not_mem_nil, or_false] at hq
    rcases hq with rfl | rfl | rfl
    · show q155 (tB (vw C h)) (((0) + ((1) * ρ 1 + ((2048) * ρ 3 + 0)))) (((3) + 0))
      refine c2 (P := q155 (tB (vw C h))) (r := ρ 1 + 2048 * ρ 3) (c := (3 : Int)) ?_ (by omega) (by omega)
      show q155 (tB (vw C h)) (ρ 1 + 2048 * ρ 3) ((3 : Int))
      exact o155 (n := ρ 1) (s := ρ 3) (by omega) (by omega) (by omega) (by omega) (by omega) k1 (by omega)
    · show q156 (tB (vw C h)) (((2048) + ((1) * ρ 1 + ((2048) * ρ 3 + 0)))) (((0) + ((1) * ρ 3 + 0)))
      refine c2 (P := q156 (tB (vw C h))) (r := ρ 1 + 2048 * ρ 3 + 2048) (c := ρ 3) ?_ (by omega) (by omega)
      show q156 (tB (vw C h)) (ρ 1 + 2048 * ρ 3 + 2048) (ρ 3)
      exact o156 (n := ρ 1) (s := ρ 3) (e := ρ 3 + 1) (by omega) (by omega) (by omega) (by omega) (by omega) (by omega) (k2.trans (by omega))
    · show q157 (tB (vw C h)) (((0) + ((1) * ρ 1 + ((2048) * ρ 3 + 0)))) (((0) + ((1) * ρ 4 + 0)))
      refine c2 (P := q157 (tB (vw C h))) (r := ρ 1 + 2048 * ρ 3) (c := ρ 4) ?_ (by omega) (by omega)
      show q157 (tB (vw C h)) (ρ 1 + 2048 * ρ 3) (ρ 4)
      exact o157n (n := ρ 1) (s := ρ 3) (by omega) (by omega) (by omega) (by omega) (by omega) k1 (by decide)
/-- tkS61C -/
theorem lem_221_ok (hU : uqG G C) : lem_221.1.2.1 = [] ∧ lemOK (PRd G C D xs) G rgs lem_221 := by
  refine ⟨rfl, fun ρ h ha hT => ?_⟩
  obtain ⟨-, -, hF, hG, hH, hA, hP⟩ := ha
  have f0 : (0 : Int) ≤ ((0) + ((1) * ρ 1 + 0)) := hF _ (List.mem_of_getElem? (i := 0) rfl)
  have f1 : (0 : Int) ≤ ((1200) + ((-1) * ρ 1 + 0)) := hF _ (List.mem_of_getElem? (i := 1) rfl)
  have f2 : (0 : Int) ≤ ((0) + ((1) * ρ 3 + 0)) := hF _ (List.mem_of_getElem? (i := 2) rfl)
  have f3 : (0 : Int) ≤ ((-1) + ((1) * ρ 1 + ((-1) * ρ 3 + 0))) := hF _ (List.mem_of_getElem? (i := 3) rfl)
  have f4 : (0 : Int) ≤ ((0) + ((-1) * ρ 2 + ((1) * ρ 3 + 0))) := hF _ (List.mem_of_getElem? (i := 4) rfl)
  have f5 : (0 : Int) ≤ ((0) + ((1) * ρ 2 + ((-1) * ρ 3 + 0))) := hF _ (List.mem_of_getElem? (i := 5) rfl)
  have f6 : (0 : Int) ≤ ((-61) + ((1) * ρ 7 + 0)) := hF _ (List.mem_of_getElem? (i := 6) rfl)
  have f7 : (0 : Int) ≤ ((61) + ((-1) * ρ 7 + 0)) := hF _ (List.mem_of_getElem? (i := 7) rfl)
  have g0 : G (ρ 0).toNat = 17 := by
    have q := (hG _ (List.mem_of_getElem? (i := 0) rfl)).2
    rwa [show ev ρ (0, [(0, 1)]) = ρ 0 from ev_v] at q
  have g1 : G (ρ 5).toNat = 100 := by
    have q := (hG _ (List.mem_of_getElem? (i := 1) rfl)).2
    rwa [show ev ρ (0, [(5, 1)]) = ρ 5 from ev_v] at q
  have h0 : (0 : Int) ≤ ρ 1 ∧ ρ 1 ≤ 1200 := hf_rg hT (hH _ (List.mem_of_getElem? (i := 0) rfl)) ev_v g0 rfl rfl rfl ev_v
  have h1 : (0 : Int) ≤ ρ 2 ∧ ρ 2 ≤ 1200 := hf_rg hT (hH _ (List.mem_of_getElem? (i := 1) rfl)) ev_v g0 rfl rfl rfl ev_v
  have h2 : (0 : Int) ≤ ρ 3 ∧ ρ 3 ≤ 1200 := hf_rg hT (hH _ (List.mem_of_getElem? (i := 2) rfl)) ev_v g0 rfl rfl rfl ev_v
  have b0 : (0 : Int) ≤ ((0) + ((1) * ρ 2 + 0)) := b_aA (hA _ (List.mem_of_getElem? (i := 0) rfl))
  have a0 : vw C h 100 ((ρ 2).toNat) = ρ 6 := vw_aA hU (hA _ (List.mem_of_getElem? (i := 0) rfl)) ev_v g1 (by omega) (by omega) (i := (ρ 2).toNat) (show ((((ρ 2).toNat : Nat)) : Int) = ((0) + ((1) * ρ 2 + 0)) by omega) ev_v
  have p0 : (ρ 7) = (ρ 6) % 256 := c2 (P := (fun r c => c = r % 256)) (show (((0) + ((1) * ρ 7 + 0))) = (((0) + ((1) * ρ 6 + 0))) % 256 from hP _ (List.mem_of_getElem? (i := 0) rfl)) (by omega) (by omega)
  have hb := by_C hU hT (j := ρ 2) (b := ρ 6) (by omega) (by omega) a0
  have hB : (tB (vw C h)) (ρ 3).toNat = ρ 7 := by
    have q := hb.2.2
    rw [show (ρ 2).toNat = (ρ 3).toNat by omega] at q
    omega
  obtain ⟨k1, k2⟩ := tk_sign (u := 61) (n := ρ 1) (s := ρ 3) (by omega) (by omega) (by omega) (hB.trans (by omega)) (by decide)
  refine ⟨_, List.mem_cons_self, ρ, fun _ _ => rfl, fun q hq => absurd hq List.not_mem_nil, trivial, fun f hf => ?_, fun q hq => absurd hq List.not_mem_nil, fun q hq => absurd hq List.not_mem_nil, fun q hq => absurd hq List.not_mem_nil, fun q hq => ?_⟩
  · exact absurd hf List.not_mem_nil
  · simp only [List.mem_cons, List.not_mem_nil, or_false] at hq
    rcases hq with rfl | rfl | rfl
    · show q155 (tB (vw C h)) (((0) + ((1) * ρ 1 + ((2048) * ρ 3 + 0)))) (((3) + 0))
      refine c2 (P := q155 (tB (vw C h))) (r := ρ 1 + 2048 * ρ 3) (c := (3 : Int)) ?_ (by omega) (by omega)
      show q155 (tB (vw C h)) (ρ 1 + 2048 * ρ 3) ((3 : Int))
      exact o155 (n := ρ 1) (s := ρ 3) (by omega) (by omega) (by omega) (by omega) (by omega) k1 (by omega)
    · show q156 (tB (vw C h)) (((2048) + ((1) * ρ 1 + ((2048) * ρ 3 + 0)))) (((0) + ((1) * ρ 3 + 0)))
      refine c2 (P := q156 (tB (vw C h))) (r := ρ 1 + 2048 * ρ 3 + 2048) (c := ρ 3) ?_ (by omega) (by omega)
      show q156 (tB (vw C h)) (ρ 1 + 2048 * ρ 3 + 2048) (ρ 3)
      exact o156 (n := ρ 1) (s := ρ 3) (e := ρ 3 + 1) (by omega) (by omega) (by omega) (by omega) (by omega) (by omega) (k2.trans (by omega))
    · show q157 (tB (vw C h)) (((0) + ((1) * ρ 1 + ((2048) * ρ 3 + 0)))) (((0) + ((1) * ρ 4 + 0)))
      refine c2 (P := q157 (tB (vw C h))) (r := ρ 1 + 2048 * ρ 3) (c := ρ 4) ?_ (by omega) (by omega)
      show q157 (tB (vw C h)) (ρ 1 + 2048 * ρ 3) (ρ 4)
      exact o157n (n := ρ 1) (s := ρ 3) (by omega) (by omega) (by omega) (by omega) (by omega) k1 (by decide)
/-- nld0C -/
theorem lem_222_ok (hU : uqG G C) : lem_222.1.2.1 = [] ∧ lemOK (PRd G C D xs) G rgs lem_222 := by
  refine ⟨rfl, fun ρ h ha hT => ?_⟩
  obtain ⟨-, -, hF, hG, hH, hA, hP⟩ := ha
  have f0 : (0 : Int) ≤ ((0) + ((1) * ρ 1 + 0)) := hF _ (List.mem_of_getElem? (i := 0) rfl)
  have f1 : (0 : Int) ≤ ((1200) + ((-1) * ρ 1 + 0)) := hF _ (List.mem_of_getElem? (i := 1) rfl)
  have f2 : (0 : Int) ≤ ((0) + ((1) * ρ 2 + 0)) := hF _ (List.mem_of_getElem? (i := 2) rfl)
  have f3 : (0 : Int) ≤ ((-1) + ((1) * ρ 1 + ((-1) * ρ 2 + 0))) := hF _ (List.mem_of_getElem? (i := 3) rfl)
  have f4 : (0 : Int) ≤ ((47) + ((-1) * ρ 4 + 0)) := hF _ (List.mem_of_getElem? (i := 4) rfl)
  have g0 : G (ρ 0).toNat = 17 := by
    have q := (hG _ (List.mem_of_getElem? (i := 0) rfl)).2
    rwa [show ev ρ (0, [(0, 1)]) = ρ 0 from ev_v] at q
  have g1 : G (ρ 3).toNat = 100 := by
    have q := (hG _ (List.mem_of_getElem? (i := 1) rfl)).2
    rwa [show ev ρ (0, [(3, 1)]) = ρ 3 from ev_v] at q
  have h0 : (0 : Int) ≤ ρ 1 ∧ ρ 1 ≤ 1200 := hf_rg hT (hH _ (List.mem_of_getElem? (i := 0) rfl)) ev_v g0 rfl rfl rfl ev_v
  have h1 : (0 : Int) ≤ ρ 2 ∧ ρ 2 ≤ 1200 := hf_rg hT (hH _ (List.mem_of_getElem? (i := 1) rfl)) ev_v g0 rfl rfl rfl ev_v
  have b0 : (0 : Int) ≤ ((0) + ((1) * ρ 2 + 0)) := b_aA (hA _ (List.mem_of_getElem? (i := 0) rfl))
  have a0 : vw C h 100 ((ρ 2).toNat) = ρ 4 := vw_aA hU (hA _ (List.mem_of_getElem? (i := 0) rfl)) ev_v g1 (by omega) (by omega) (i := (ρ 2).toNat) (show ((((ρ 2).toNat : Nat)) : Int) = ((0) + ((1) * ρ 2 + 0)) by omega) ev_v
  have hb := by_C hU hT (j := ρ 2) (b := ρ 4) (by omega) (by omega) a0
  refine ⟨_, List.mem_cons_self, ρ, fun _ _ => rfl, fun q hq => absurd hq List.not_mem_nil, trivial, fun f hf => ?_, fun q hq => absurd hq List.not_mem_nil, fun q hq => absurd hq List.not_mem_nil, fun q hq => absurd hq List.not_mem_nil, fun q hq => ?_⟩
  · exact absurd hf List.not_mem_nil
  · simp only [List.mem_cons, List.not_mem_nil, or_false] at hq
    subst hq
    show q189 (tB (vw C h)) (((0) + ((1) * ρ 1 + ((2048) * ρ 2 + 0))))
    refine c2 (P := (fun r (_ : Int) => q189 (tB (vw C h)) r)) (c := 0) (c' := 0) (r := ρ 1 + 2048 * ρ 2) ?_ (by omega) rfl
    show q189 (tB (vw C h)) (ρ 1 + 2048 * ρ 2)
    exact nl_new (n := ρ 1) (i := ρ 2) (by omega) (by omega) (by omega) (by omega) (by omega) (lt_n hb (Or.inl (by omega))) (dg_n hb (Or.inl (by omega)))
/-- nld1C -/
theorem lem_223_ok (hU : uqG G C) : lem_223.1.2.1 = [] ∧ lemOK (PRd G C D xs) G rgs lem_223 := by
  refine ⟨rfl, fun ρ h ha hT => ?_⟩
  obtain ⟨-, -, hF, hG, hH, hA, hP⟩ := ha
  have f0 : (0 : Int) ≤ ((0) + ((1) * ρ 1 + 0)) := hF _ (List.mem_of_getElem? (i := 0) rfl)
  have f1 : (0 : Int) ≤ ((1200) + ((-1) * ρ 1 + 0)) := hF _ (List.mem_of_getElem? (i := 1) rfl)
  have f2 : (0 : Int) ≤ ((0) + ((1) * ρ 2 + 0)) := hF _ (List.mem_of_getElem? (i := 2) rfl)
  have f3 : (0 : Int) ≤ ((-1) + ((1) * ρ 1 + ((-1) * ρ 2 + 0))) := hF _ (List.mem_of_getElem? (i := 3) rfl)
  have f4 : (0 : Int) ≤ ((-58) + ((1) * ρ 4 + 0)) := hF _ (List.mem_of_getElem? (i := 4) rfl)
  have f5 : (0 : Int) ≤ ((96) + ((-1) * ρ 4 + 0)) := hF _ (List.mem_of_getElem? (i := 5) rfl)
  have g0 : G (ρ 0).toNat = 17 := by
    have q := (hG _ (List.mem_of_getElem? (i := 0) rfl)).2
    rwa [show ev ρ (0, [(0, 1)]) = ρ 0 from ev_v] at q
  have g1 : G (ρ 3).toNat = 100 := by
    have q := (hG _ (List.mem_of_getElem? (i := 1) rfl)).2
    rwa [show ev ρ (0, [(3, 1)]) = ρ 3 from ev_v] at q
  have h0 : (0 : Int) ≤ ρ 1 ∧ ρ 1 ≤ 1200 := hf_rg hT (hH _ (List.mem_of_getElem? (i := 0) rfl)) ev_v g0 rfl rfl rfl ev_v
  have h1 : (0 : Int) ≤ ρ 2 ∧ ρ 2 ≤ 1200 := hf_rg hT (hH _ (List.mem_of_getElem? (i := 1) rfl)) ev_v g0 rfl rfl rfl ev_v
  have b0 : (0 : Int) ≤ ((0) + ((1) * ρ 2 + 0)) := b_aA (hA _ (List.mem_of_getElem? (i := 0) rfl))
  have a0 : vw C h 100 ((ρ 2).toNat) = ρ 4 := vw_aA hU (hA _ (List.mem_of_getElem? (i := 0) rfl)) ev_v g1 (by omega) (by omega) (i := (ρ 2).toNat) (show ((((ρ 2).toNat : Nat)) : Int) = ((0) + ((1) * ρ 2 + 0)) by omega) ev_v
  have hb := by_C hU hT (j := ρ 2) (b := ρ 4) (by omega) (by omega) a0
  refine ⟨_, List.mem_cons_self, ρ, fun _ _ => rfl, fun q hq => absurd hq List.not_mem_nil, trivial, fun f hf => ?_, fun q hq => absurd hq List.not_mem_nil, fun q hq => absurd hq List.not_mem_nil, fun q hq => absurd hq List.not_mem_nil, fun q hq => ?_⟩
  · exact absurd hf List.not_mem_nil
  · simp only [List.mem_cons, List.not_mem_nil, or_false] at hq
    subst hq
    show q189 (tB (vw C h)) (((0) + ((1) * ρ 1 + ((2048) * ρ 2 + 0))))
    refine c2 (P := (fun r (_ : Int) => q189 (tB (vw C h)) r)) (c := 0) (c' := 0) (r := ρ 1 + 2048 * ρ 2) ?_ (by omega) rfl
    show q189 (tB (vw C h)) (ρ 1 + 2048 * ρ 2)
    exact nl_new (n := ρ 1) (i := ρ 2) (by omega) (by omega) (by omega) (by omega) (by omega) (lt_n hb (Or.inl (by omega))) (dg_n hb (Or.inr (by omega)))
/-- nld2C -/
theorem lem_224_ok (hU : uqG G C) : lem_224.1.2.1 = [] ∧ lemOK (PRd G C D xs) G rgs lem_224 := by
  refine ⟨rfl, fun ρ h ha hT => ?_⟩
  obtain ⟨-, -, hF, hG, hH, hA, hP⟩ := ha
  have f0 : (0 : Int) ≤ ((0) + ((1) * ρ 1 + 0)) := hF _ (List.mem_of_getElem? (i := 0) rfl)
  have f1 : (0 : Int) ≤ ((1200) + ((-1) * ρ 1 + 0)) := hF _ (List.mem_of_getElem? (i := 1) rfl)
  have f2 : (0 : Int) ≤ ((0) + ((1) * ρ 2 + 0)) := hF _ (List.mem_of_getElem? (i := 2) rfl)
  have f3 : (0 : Int) ≤ ((-1) + ((1) * ρ 1 + ((-1) * ρ 2 + 0))) := hF _ (List.mem_of_getElem? (i := 3) rfl)
  have f4 : (0 : Int) ≤ ((-123) + ((1) * ρ 4 + 0)) := hF _ (List.mem_of_getElem? (i := 4) rfl)
  have g0 : G (ρ 0).toNat = 17 := by
    have q := (hG _ (List.mem_of_getElem? (i := 0) rfl)).2
    rwa [show ev ρ (0, [(0, 1)]) = ρ 0 from ev_v] at q
  have g1 : G (ρ 3).toNat = 100 := by
    have q := (hG _ (List.mem_of_getElem? (i := 1) rfl)).2
    rwa [show ev ρ (0, [(3, 1)]) = ρ 3 from ev_v] at q
  have h0 : (0 : Int) ≤ ρ 1 ∧ ρ 1 ≤ 1200 := hf_rg hT (hH _ (List.mem_of_getElem? (i := 0) rfl)) ev_v g0 rfl rfl rfl ev_v
  have h1 : (0 : Int) ≤ ρ 2 ∧ ρ 2 ≤ 1200 := hf_rg hT (hH _ (List.mem_of_getElem? (i := 1) rfl)) ev_v g0 rfl rfl rfl ev_v
  have b0 : (0 : Int) ≤ ((0) + ((1) * ρ 2 + 0)) := b_aA (hA _ (List.mem_of_getElem? (i := 0) rfl))
  have a0 : vw C h 100 ((ρ 2).toNat) = ρ 4 := vw_aA hU (hA _ (List.mem_of_getElem? (i := 0) rfl)) ev_v g1 (by omega) (by omega) (i := (ρ 2).toNat) (show ((((ρ 2).toNat : Nat)) : Int) = ((0) + ((1) * ρ 2 + 0)) by omega) ev_v
  have hb := by_C hU hT (j := ρ 2) (b := ρ 4) (by omega) (by omega) a0
  refine ⟨_, List.mem_cons_self, ρ, fun _ _ => rfl, fun q hq => absurd hq List.not_mem_nil, trivial, fun f hf => ?_, fun q hq => absurd hq List.not_mem_nil, fun q hq => absurd hq List.not_mem_nil, fun q hq => absurd hq List.not_mem_nil, fun q hq => ?_⟩
  · exact absurd hf List.not_mem_nil
  · simp only [List.mem_cons, List.not_mem_nil, or_false] at hq
    subst hq
    show q189 (tB (vw C h)) (((0) + ((1) * ρ 1 + ((2048) * ρ 2 + 0))))
    refine c2 (P := (fun r (_ : Int) => q189 (tB (vw C h)) r)) (c := 0) (c' := 0) (r := ρ 1 + 2048 * ρ 2) ?_ (by omega) rfl
    show q189 (tB (vw C h)) (ρ 1 + 2048 * ρ 2)
    exact nl_new (n := ρ 1) (i := ρ 2) (by omega) (by omega) (by omega) (by omega) (by omega) (lt_n hb (Or.inr (by omega))) (dg_n hb (Or.inr (by omega)))
/-- tkB0C -/
theorem lem_225_ok (hU : uqG G C) : lem_225.1.2.1 = [] ∧ lemOK (PRd G C D xs) G rgs lem_225 := by
  refine ⟨rfl, fun ρ h ha hT => ?_⟩
  obtain ⟨-, -, hF, hG, hH, hA, hP⟩ := ha
  have f0 : (0 : Int) ≤ ((0) + ((1) * ρ 1 + 0)) := hF _ (List.mem_of_getElem? (i := 0) rfl)
  have f1 : (0 : Int) ≤ ((1200) + ((-1) * ρ 1 + 0)) := hF _ (List.mem_of_getElem? (i := 1) rfl)
  have f2 : (0 : Int) ≤ ((0) + ((1) * ρ 3 + 0)) := hF _ (List.mem_of_getElem? (i := 2) rfl)
  have f3 : (0 : Int) ≤ ((-1) + ((1) * ρ 1 + ((-1) * ρ 3 + 0))) := hF _ (List.mem_of_getElem? (i := 3) rfl)
  have f4 : (0 : Int) ≤ ((0) + ((-1) * ρ 2 + ((1) * ρ 3 + 0))) := hF _ (List.mem_of_getElem? (i := 4) rfl)
  have f5 : (0 : Int) ≤ ((0) + ((1) * ρ 2 + ((-1) * ρ 3 + 0))) := hF _ (List.mem_of_getElem? (i := 5) rfl)
  have f6 : (0 : Int) ≤ ((39) + ((-1) * ρ 7 + 0)) := hF _ (List.mem_of_getElem? (i := 6) rfl)
  have g0 : G (ρ 0).toNat = 17 := by
    have q := (hG _ (List.mem_of_getElem? (i := 0) rfl)).2
    rwa [show ev ρ (0, [(0, 1)]) = ρ 0 from ev_v] at q
  have g1 : G (ρ 5).toNat = 100 := by
    have q := (hG _ (List.mem_of_getElem? (i := 1) rfl)).2
    rwa [show ev ρ (0, [(5, 1)]) = ρ 5 from ev_v] at q
  have h0 : (0 : Int) ≤ ρ 1 ∧ ρ 1 ≤ 1200 := hf_rg hT (hH _ (List.mem_of_getElem? (i := 0) rfl)) ev_v g0 rfl rfl rfl ev_v
  have h1 : (0 : Int) ≤ ρ 2 ∧ ρ 2 ≤ 1200 := hf_rg hT (hH _ (List.mem_of_getElem? (i := 1) rfl)) ev_v g0 rfl rfl rfl ev_v
  have h2 : (0 : Int) ≤ ρ 3 ∧ ρ 3 ≤ 1200 := hf_rg hT (hH _ (List.mem_of_getElem? (i := 2) rfl)) ev_v g0 rfl rfl rfl ev_v
  have b0 : (0 : Int) ≤ ((0) + ((1) * ρ 2 + 0)) := b_aA (hA _ (List.mem_of_getElem? (i := 0) rfl))
  have a0 : vw C h 100 ((ρ 2).toNat) = ρ 6 := vw_aA hU (hA _ (List.mem_of_getElem? (i := 0) rfl)) ev_v g1 (by omega) (by omega) (i := (ρ 2).toNat) (show ((((ρ 2).toNat : Nat)) : Int) = ((0) + ((1) * ρ 2 + 0)) by omega) ev_v
  have p0 : (ρ 7) = (ρ 6) % 256 := c2 (P := (fun r c => c = r % 256)) (show (((0) + ((1) * ρ 7 + 0))) = (((0) + ((1) * ρ 6 + 0))) % 256 from hP _ (List.mem_of_getElem? (i := 0) rfl)) (by omega) (by omega)
  have p1 : q189 (tB (vw C h)) (ρ 1 + 2048 * ρ 3) := c2 (P := (fun r (_ : Int) => q189 (tB (vw C h)) r)) (c := 0) (c' := 0) (show q189 (tB (vw C h)) (((0) + ((1) * ρ 1 + ((2048) * ρ 3 + 0)))) from hP _ (List.mem_of_getElem? (i := 1) rfl)) (by omega) rfl
  have hb := by_C hU hT (j := ρ 2) (b := ρ 6) (by omega) (by omega) a0
  have hB : (tB (vw C h)) (ρ 3).toNat = ρ 7 := by
    have q := hb.2.2
    rw [show (ρ 2).toNat = (ρ 3).toNat by omega] at q
    omega
  have hb1 := hb.1
  have hb2 := hb.2.1
  have hb3 := hb.2.2
  obtain ⟨k1, k2⟩ := tk_bad (n := ρ 1) (s := ρ 3) (by omega) (by omega) (by omega) (by omega) (by omega) hB (by omega) p1
  refine ⟨_, List.mem_cons_self, ρ, fun _ _ => rfl, fun q hq => absurd hq List.not_mem_nil, trivial, fun f hf => ?_, fun q hq => absurd hq List.not_mem_nil, fun q hq => absurd hq List.not_mem_nil, fun q hq => absurd hq List.not_mem_nil, fun q hq => ?_⟩
  · exact absurd hf List.not_mem_nil
  · simp only [List.mem_cons, List.not_mem_nil, or_false] at hq
    rcases hq with rfl | rfl | rfl
    · show q155 (tB (vw C h)) (((0) + ((1) * ρ 1 + ((2048) * ρ 3 + 0)))) (((4) + 0))
      refine c2 (P := q155 (tB (vw C h))) (r := ρ 1 + 2048 * ρ 3) (c := (4 : Int)) ?_ (by omega) (by omega)
      show q155 (tB (vw C h)) (ρ 1 + 2048 * ρ 3) ((4 : Int))
      exact o155 (n := ρ 1) (s := ρ 3) (by omega) (by omega) (by omega) (by omega) (by omega) k1 (by omega)
    · show q156 (tB (vw C h)) (((2048) + ((1) * ρ 1 + ((2048) * ρ 3 + 0)))) (((0) + ((1) * ρ 3 + 0)))
      refine c2 (P := q156 (tB (vw C h))) (r := ρ 1 + 2048 * ρ 3 + 2048) (c := ρ 3) ?_ (by omega) (by omega)
      show q156 (tB (vw C h)) (ρ 1 + 2048 * ρ 3 + 2048) (ρ 3)
      exact o156 (n := ρ 1) (s := ρ 3) (e := ρ 3 + 1) (by omega) (by omega) (by omega) (by omega) (by omega) (by omega) (k2.trans (by omega))
    · show q157 (tB (vw C h)) (((0) + ((1) * ρ 1 + ((2048) * ρ 3 + 0)))) (((0) + ((1) * ρ 4 + 0)))
      refine c2 (P := q157 (tB (vw C h))) (r := ρ 1 + 2048 * ρ 3) (c := ρ 4) ?_ (by omega) (by omega)
      show q157 (tB (vw C h)) (ρ 1 + 2048 * ρ 3) (ρ 4)
      exact o157n (n := ρ 1) (s := ρ 3) (by omega) (by omega) (by omega) (by omega) (by omega) k1 (by decide)
/-- tkB1C -/
theorem lem_226_ok (hU : uqG G C) : lem_226.1.2.1 = [] ∧ lemOK (PRd G C D xs) G rgs lem_226 := by
  refine ⟨rfl, fun ρ h ha hT => ?_⟩
  obtain ⟨-, -, hF, hG, hH, hA, hP⟩ := ha
  have f0 : (0 : Int) ≤ ((0) + ((1) * ρ 1 + 0)) := hF _ (List.mem_of_getElem? (i := 0) rfl)
  have f1 : (0 : Int) ≤ ((1200) + ((-1) * ρ 1 + 0)) := hF _ (List.mem_of_getElem? (i := 1) rfl)
  have f2 : (0 : Int) ≤ ((0) + ((1) * ρ 3 + 0)) := hF _ (List.mem_of_getElem? (i := 2) rfl)
  have f3 : (0 : Int) ≤ ((-1) + ((1) * ρ 1 + ((-1) * ρ 3 + 0))) := hF _ (List.mem_of_getElem? (i := 3) rfl)
  have f4 : (0 : Int) ≤ ((0) + ((-1) * ρ 2 + ((1) * ρ 3 + 0))) := hF _ (List.mem_of_getElem? (i := 4) rfl)
  have f5 : (0 : Int) ≤ ((0) + ((1) * ρ 2 + ((-1) * ρ 3 + 0))) := hF _ (List.mem_of_getElem? (i := 5) rfl)
  have f6 : (0 : Int) ≤ ((-42) + ((1) * ρ 7 + 0)) := hF _ (List.mem_of_getElem? (i := 6) rfl)
  have f7 : (0 : Int) ≤ ((58) + ((-1) * ρ 7 + 0)) := hF _ (List.mem_of_getElem? (i := 7) rfl)
  have g0 : G (ρ 0).toNat = 17 := by
    have q := (hG _ (List.mem_of_getElem? (i := 0) rfl)).2
    rwa [show ev ρ (0, [(0, 1)]) = ρ 0 from ev_v] at q
  have g1 : G (ρ 5).toNat = 100 := by
    have q := (hG _ (List.mem_of_getElem? (i := 1) rfl)).2
    rwa [show ev ρ (0, [(5, 1)]) = ρ 5 from ev_v] at q
  have h0 : (0 : Int) ≤ ρ 1 ∧ ρ 1 ≤ 1200 := hf_rg hT (hH _ (List.mem_of_getElem? (i := 0) rfl)) ev_v g0 rfl rfl rfl ev_v
  have h1 : (0 : Int) ≤ ρ 2 ∧ ρ 2 ≤ 1200 := hf_rg hT (hH _ (List.mem_of_getElem? (i := 1) rfl)) ev_v g0 rfl rfl rfl ev_v
  have h2 : (0 : Int) ≤ ρ 3 ∧ ρ 3 ≤ 1200 := hf_rg hT (hH _ (List.mem_of_getElem? (i := 2) rfl)) ev_v g0 rfl rfl rfl ev_v
  have b0 : (0 : Int) ≤ ((0) + ((1) * ρ 2 + 0)) := b_aA (hA _ (List.mem_of_getElem? (i := 0) rfl))
  have a0 : vw C h 100 ((ρ 2).toNat) = ρ 6 := vw_aA hU (hA _ (List.mem_of_getElem? (i := 0) rfl)) ev_v g1 (by omega) (by omega) (i := (ρ 2).toNat) (show ((((ρ 2).toNat : Nat)) : Int) = ((0) + ((1) * ρ 2 + 0)) by omega) ev_v
  have p0 : (ρ 7) = (ρ 6) % 256 := c2 (P := (fun r c => c = r % 256)) (show (((0) + ((1) * ρ 7 + 0))) = (((0) + ((1) * ρ 6 + 0))) % 256 from hP _ (List.mem_of_getElem? (i := 0) rfl)) (by omega) (by omega)
  have p1 : q189 (tB (vw C h)) (ρ 1 + 2048 * ρ 3) := c2 (P := (fun r (_ : Int) => q189 (tB (vw C h)) r)) (c := 0) (c' := 0) (show q189 (tB (vw C h)) (((0) + ((1) * ρ 1 + ((2048) * ρ 3 + 0)))) from hP _ (List.mem_of_getElem? (i := 1) rfl)) (by omega) rfl
  have hb := by_C hU hT (j := ρ 2) (b := ρ 6) (by omega) (by omega) a0
  have hB : (tB (vw C h)) (ρ 3).toNat = ρ 7 := by
    have q := hb.2.2
    rw [show (ρ 2).toNat = (ρ 3).toNat by omega] at q
    omega
  have hb1 := hb.1
  have hb2 := hb.2.1
  have hb3 := hb.2.2
  obtain ⟨k1, k2⟩ := tk_bad (n := ρ 1) (s := ρ 3) (by omega) (by omega) (by omega) (by omega) (by omega) hB (by omega) p1
  refine ⟨_, List.mem_cons_self, ρ, fun _ _ => rfl, fun q hq => absurd hq List.not_mem_nil, trivial, fun f hf => ?_, fun q hq => absurd hq List.not_mem_nil, fun q hq => absurd hq List.not_mem_nil, fun q hq => absurd hq List.not_mem_nil, fun q hq => ?_⟩
  · exact absurd hf List.not_mem_nil
  · simp only [List.mem_cons, List.not_mem_nil, or_false] at hq
    rcases hq with rfl | rfl | rfl
    · show q155 (tB (vw C h)) (((0) + ((1) * ρ 1 + ((2048) * ρ 3 + 0)))) (((4) + 0))
      refine c2 (P := q155 (tB (vw C h))) (r := ρ 1 + 2048 * ρ 3) (c := (4 : Int)) ?_ (by omega) (by omega)
      show q155 (tB (vw C h)) (ρ 1 + 2048 * ρ 3) ((4 : Int))
      exact o155 (n := ρ 1) (s := ρ 3) (by omega) (by omega) (by omega) (by omega) (by omega) k1 (by omega)
    · show q156 (tB (vw C h)) (((2048) + ((1) * ρ 1 + ((2048) * ρ 3 + 0)))) (((0) + ((1) * ρ 3 + 0)))
      refine c2 (P := q156 (tB (vw C h))) (r := ρ 1 + 2048 * ρ 3 + 2048) (c := ρ 3) ?_ (by omega) (by omega)
      show q156 (tB (vw C h)) (ρ 1 + 2048 * ρ 3 + 2048) (ρ 3)
      exact o156 (n := ρ 1) (s := ρ 3) (e := ρ 3 + 1) (by omega) (by omega) (by omega) (by omega) (by omega) (by omega) (k2.trans (by omega))
    · show q157 (tB (vw C h)) (((0) + ((1) * ρ 1 + ((2048) * ρ 3 + 0)))) (((0) + ((1) * ρ 4 + 0)))
      refine c2 (P := q157 (tB (vw C h))) (r := ρ 1 + 2048 * ρ 3) (c := ρ 4) ?_ (by omega) (by omega)
      show q157 (tB (vw C h)) (ρ 1 + 2048 * ρ 3) (ρ 4)
      exact o157n (n := ρ 1) (s := ρ 3) (by omega) (by omega) (by omega) (by omega) (by omega) k1 (by decide)
/-- tkB2C -/
theorem lem_227_ok (hU : uqG G C) : lem_227.1.2.1 = [] ∧ lemOK (PRd G C D xs) G rgs lem_227 := by
  refine ⟨rfl, fun ρ h ha hT => ?_⟩
  obtain ⟨-, -, hF, hG, hH, hA, hP⟩ := ha
  have f0 : (0 : Int) ≤ ((0) + ((1) * ρ 1 + 0)) := hF _ (List.mem_of_getElem? (i := 0) rfl)
  have f1 : (0 : Int) ≤ ((1200) + ((-1) * ρ 1 + 0)) := hF _ (List.mem_of_getElem? (i := 1) rfl)
  have f2 : (0 : Int) ≤ ((0) + ((1) * ρ 3 + 0)) := hF _ (List.mem_of_getElem? (i := 2) rfl)
  have f3 : (0 : Int) ≤ ((-1) + ((1) * ρ 1 + ((-1) * ρ 3 + 0))) := hF _ (List.mem_of_getElem? (i := 3) rfl)
  have f4 : (0 : Int) ≤ ((0) + ((-1) * ρ 2 + ((1) * ρ 3 + 0))) := hF _ (List.mem_of_getElem? (i := 4) rfl)
  have f5 : (0 : Int) ≤ ((0) + ((1) * ρ 2 + ((-1) * ρ 3 + 0))) := hF _ (List.mem_of_getElem? (i := 5) rfl)
  have f6 : (0 : Int) ≤ ((-63) + ((1) * ρ 7 + 0)) := hF _ (List.mem_of_getElem? (i := 6) rfl)
  have g0 : G (ρ 0).toNat = 17 := by
    have q := (hG _ (List.mem_of_getElem? (i := 0) rfl)).2
    rwa [show ev ρ (0, [(0, 1)]) = ρ 0 from ev_v] at q
  have g1 : G (ρ 5).toNat = 100 := by
    have q := (hG _ (List.mem_of_getElem? (i := 1) rfl)).2
    rwa [show ev ρ (0, [(5, 1)]) = ρ 5 from ev_v] at q
  have h0 : (0 : Int) ≤ ρ 1 ∧ ρ 1 ≤ 1200 := hf_rg hT (hH _ (List.mem_of_getElem? (i := 0) rfl)) ev_v g0 rfl rfl rfl ev_v
  have h1 : (0 : Int) ≤ ρ 2 ∧ ρ 2 ≤ 1200 := hf_rg hT (hH _ (List.mem_of_getElem? (i := 1) rfl)) ev_v g0 rfl rfl rfl ev_v
  have h2 : (0 : Int) ≤ ρ 3 ∧ ρ 3 ≤ 1200 := hf_rg hT (hH _ (List.mem_of_getElem? (i := 2) rfl)) ev_v g0 rfl rfl rfl ev_v
  have b0 : (0 : Int) ≤ ((0) + ((1) * ρ 2 + 0)) := b_aA (hA _ (List.mem_of_getElem? (i := 0) rfl))
  have a0 : vw C h 100 ((ρ 2).toNat) = ρ 6 := vw_aA hU (hA _ (List.mem_of_getElem? (i := 0) rfl)) ev_v g1 (by omega) (by omega) (i := (ρ 2).toNat) (show ((((ρ 2).toNat : Nat)) : Int) = ((0) + ((1) * ρ 2 + 0)) by omega) ev_v
  have p0 : (ρ 7) = (ρ 6) % 256 := c2 (P := (fun r c => c = r % 256)) (show (((0) + ((1) * ρ 7 + 0))) = (((0) + ((1) * ρ 6 + 0))) % 256 from hP _ (List.mem_of_getElem? (i := 0) rfl)) (by omega) (by omega)
  have p1 : q189 (tB (vw C h)) (ρ 1 + 2048 * ρ 3) := c2 (P := (fun r (_ : Int) => q189 (tB (vw C h)) r)) (c := 0) (c' := 0) (show q189 (tB (vw C h)) (((0) + ((1) * ρ 1 + ((2048) * ρ 3 + 0)))) from hP _ (List.mem_of_getElem? (i := 1) rfl)) (by omega) rfl
  have hb := by_C hU hT (j := ρ 2) (b := ρ 6) (by omega) (by omega) a0
  have hB : (tB (vw C h)) (ρ 3).toNat = ρ 7 := by
    have q := hb.2.2
    rw [show (ρ 2).toNat = (ρ 3).toNat by omega] at q
    omega
  have hb1 := hb.1
  have hb2 := hb.2.1
  have hb3 := hb.2.2
  obtain ⟨k1, k2⟩ := tk_bad (n := ρ 1) (s := ρ 3) (by omega) (by omega) (by omega) (by omega) (by omega) hB (by omega) p1
  refine ⟨_, List.mem_cons_self, ρ, fun _ _ => rfl, fun q hq => absurd hq List.not_mem_nil, trivial, fun f hf => ?_, fun q hq => absurd hq List.not_mem_nil, fun q hq => absurd hq List.not_mem_nil, fun q hq => absurd hq List.not_mem_nil, fun q hq => ?_⟩
  · exact absurd hf List.not_mem_nil
  · simp only [List.mem_cons, List.not_mem_nil, or_false] at hq
    rcases hq with rfl | rfl | rfl
    · show q155 (tB (vw C h)) (((0) + ((1) * ρ 1 + ((2048) * ρ 3 + 0)))) (((4) + 0))
      refine c2 (P := q155 (tB (vw C h))) (r := ρ 1 + 2048 * ρ 3) (c := (4 : Int)) ?_ (by omega) (by omega)
      show q155 (tB (vw C h)) (ρ 1 + 2048 * ρ 3) ((4 : Int))
      exact o155 (n := ρ 1) (s := ρ 3) (by omega) (by omega) (by omega) (by omega) (by omega) k1 (by omega)
    · show q156 (tB (vw C h)) (((2048) + ((1) * ρ 1 + ((2048) * ρ 3 + 0)))) (((0) + ((1) * ρ 3 + 0)))
      refine c2 (P := q156 (tB (vw C h))) (r := ρ 1 + 2048 * ρ 3 + 2048) (c := ρ 3) ?_ (by omega) (by omega)
      show q156 (tB (vw C h)) (ρ 1 + 2048 * ρ 3 + 2048) (ρ 3)
      exact o156 (n := ρ 1) (s := ρ 3) (e := ρ 3 + 1) (by omega) (by omega) (by omega) (by omega) (by omega) (by omega) (k2.trans (by omega))
    · show q157 (tB (vw C h)) (((0) + ((1) * ρ 1 + ((2048) * ρ 3 + 0)))) (((0) + ((1) * ρ 4 + 0)))
      refine c2 (P := q157 (tB (vw C h))) (r := ρ 1 + 2048 * ρ 3) (c := ρ 4) ?_ (by omega) (by omega)
      show q157 (tB (vw C h)) (ρ 1 + 2048 * ρ 3) (ρ 4)
      exact o157n (n := ρ 1) (s := ρ 3) (by omega) (by omega) (by omega) (by omega) (by omega) k1 (by decide)
/-- sgLoC -/
theorem lem_228_ok (hU : uqG G C) : lem_228.1.2.1 = [] ∧ lemOK (PRd G C D xs) G rgs lem_228 := by
  refine ⟨rfl, fun ρ h ha hT => ?_⟩
  obtain ⟨-, -, hF, hG, hH, hA, hP⟩ := ha
  have f0 : (0 : Int) ≤ ((0) + ((1) * ρ 2 + 0)) := hF _ (List.mem_of_getElem? (i := 0) rfl)
  have f1 : (0 : Int) ≤ ((1200) + ((-1) * ρ 2 + 0)) := hF _ (List.mem_of_getElem? (i := 1) rfl)
  have f2 : (0 : Int) ≤ ((0) + ((1) * ρ 3 + 0)) := hF _ (List.mem_of_getElem? (i := 2) rfl)
  have f3 : (0 : Int) ≤ ((0) + ((1) * ρ 2 + ((-1) * ρ 3 + 0))) := hF _ (List.mem_of_getElem? (i := 3) rfl)
  have f4 : (0 : Int) ≤ ((0) + ((1) * ρ 1 + 0)) := hF _ (List.mem_of_getElem? (i := 4) rfl)
  have f5 : (0 : Int) ≤ ((2) + ((-1) * ρ 4 + 0)) := hF _ (List.mem_of_getElem? (i := 5) rfl)
  have g0 : G (ρ 0).toNat = 17 := by
    have q := (hG _ (List.mem_of_getElem? (i := 0) rfl)).2
    rwa [show ev ρ (0, [(0, 1)]) = ρ 0 from ev_v] at q
  have h0 : (0 : Int) ≤ ρ 2 ∧ ρ 2 ≤ 1200 := hf_rg hT (hH _ (List.mem_of_getElem? (i := 0) rfl)) ev_v g0 rfl rfl rfl ev_v
  have h1 : (0 : Int) ≤ ρ 3 ∧ ρ 3 ≤ 1200 := hf_rg hT (hH _ (List.mem_of_getElem? (i := 1) rfl)) ev_v g0 rfl rfl rfl ev_v
  have p0 : q155 (tB (vw C h)) (ρ 2 + 2048 * ρ 3) (ρ 4) := c2 (P := q155 (tB (vw C h))) (show q155 (tB (vw C h)) (((0) + ((1) * ρ 2 + ((2048) * ρ 3 + 0)))) (((0) + ((1) * ρ 4 + 0))) from hP _ (List.mem_of_getElem? (i := 0) rfl)) (by omega) (by omega)
  have kk := k155 (n := ρ 2) (s := ρ 3) (by omega) (by omega) (by omega) (by omega) (by omega) p0
  refine ⟨_, List.mem_cons_self, ρ, fun _ _ => rfl, fun q hq => absurd hq List.not_mem_nil, trivial, fun f hf => ?_, fun q hq => absurd hq List.not_mem_nil, fun q hq => absurd hq List.not_mem_nil, fun q hq => absurd hq List.not_mem_nil, fun q hq => ?_⟩
  · exact absurd hf List.not_mem_nil
  · simp only [List.mem_cons, List.not_mem_nil, or_false] at hq
    subst hq
    show q160 (tB (vw C h)) (((0) + ((4194304) * ρ 1 + ((1) * ρ 2 + ((2048) * ρ 3 + 0))))) (((0) + 0))
    refine c2 (P := q160 (tB (vw C h))) (r := 4194304 * ρ 1 + ρ 2 + 2048 * ρ 3) (c := (0 : Int)) ?_ (by omega) (by omega)
    show q160 (tB (vw C h)) (4194304 * ρ 1 + ρ 2 + 2048 * ρ 3) ((0 : Int))
    exact o160 (n := ρ 2) (s := ρ 3) (c := ρ 1) (by omega) (by omega) (by omega) (by omega) (by omega) (by omega) (by have q := sg_kno (B := (tB (vw C h))) (n := (ρ 2).toNat) (s := (ρ 3).toNat) (v := ρ 1) (by omega); omega)
/-- sgHiC -/
theorem lem_229_ok (hU : uqG G C) : lem_229.1.2.1 = [] ∧ lemOK (PRd G C D xs) G rgs lem_229 := by
  refine ⟨rfl, fun ρ h ha hT => ?_⟩
  obtain ⟨-, -, hF, hG, hH, hA, hP⟩ := ha
  have f0 : (0 : Int) ≤ ((0) + ((1) * ρ 2 + 0)) := hF _ (List.mem_of_getElem? (i := 0) rfl)
  have f1 : (0 : Int) ≤ ((1200) + ((-1) * ρ 2 + 0)) := hF _ (List.mem_of_getElem? (i := 1) rfl)
  have f2 : (0 : Int) ≤ ((0) + ((1) * ρ 3 + 0)) := hF _ (List.mem_of_getElem? (i := 2) rfl)
  have f3 : (0 : Int) ≤ ((0) + ((1) * ρ 2 + ((-1) * ρ 3 + 0))) := hF _ (List.mem_of_getElem? (i := 3) rfl)
  have f4 : (0 : Int) ≤ ((0) + ((1) * ρ 1 + 0)) := hF _ (List.mem_of_getElem? (i := 4) rfl)
  have f5 : (0 : Int) ≤ ((-4) + ((1) * ρ 4 + 0)) := hF _ (List.mem_of_getElem? (i := 5) rfl)
  have g0 : G (ρ 0).toNat = 17 := by
    have q := (hG _ (List.mem_of_getElem? (i := 0) rfl)).2
    rwa [show ev ρ (0, [(0, 1)]) = ρ 0 from ev_v] at q
  have h0 : (0 : Int) ≤ ρ 2 ∧ ρ 2 ≤ 1200 := hf_rg hT (hH _ (List.mem_of_getElem? (i := 0) rfl)) ev_v g0 rfl rfl rfl ev_v
  have h1 : (0 : Int) ≤ ρ 3 ∧ ρ 3 ≤ 1200 := hf_rg hT (hH _ (List.mem_of_getElem? (i := 1) rfl)) ev_v g0 rfl rfl rfl ev_v
  have p0 : q155 (tB (vw C h)) (ρ 2 + 2048 * ρ 3) (ρ 4) := c2 (P := q155 (tB (vw C h))) (show q155 (tB (vw C h)) (((0) + ((1) * ρ 2 + ((2048) * ρ 3 + 0)))) (((0) + ((1) * ρ 4 + 0))) from hP _ (List.mem_of_getElem? (i := 0) rfl)) (by omega) (by omega)
  have kk := k155 (n := ρ 2) (s := ρ 3) (by omega) (by omega) (by omega) (by omega) (by omega) p0
  refine ⟨_, List.mem_cons_self, ρ, fun _ _ => rfl, fun q hq => absurd hq List.not_mem_nil, trivial, fun f hf => ?_, fun q hq => absurd hq List.not_mem_nil, fun q hq => absurd hq List.not_mem_nil, fun q hq => absurd hq List.not_mem_nil, fun q hq => ?_⟩
  · exact absurd hf List.not_mem_nil
  · simp only [List.mem_cons, List.not_mem_nil, or_false] at hq
    subst hq
    show q160 (tB (vw C h)) (((0) + ((4194304) * ρ 1 + ((1) * ρ 2 + ((2048) * ρ 3 + 0))))) (((0) + 0))
    refine c2 (P := q160 (tB (vw C h))) (r := 4194304 * ρ 1 + ρ 2 + 2048 * ρ 3) (c := (0 : Int)) ?_ (by omega) (by omega)
    show q160 (tB (vw C h)) (4194304 * ρ 1 + ρ 2 + 2048 * ρ 3) ((0 : Int))
    exact o160 (n := ρ 2) (s := ρ 3) (c := ρ 1) (by omega) (by omega) (by omega) (by omega) (by omega) (by omega) (by have q := sg_kno (B := (tB (vw C h))) (n := (ρ 2).toNat) (s := (ρ 3).toNat) (v := ρ 1) (by omega); omega)
/-- sgEndC -/
theorem lem_230_ok (hU : uqG G C) : lem_230.1.2.1 = [] ∧ lemOK (PRd G C D xs) G rgs lem_230 := by
  refine ⟨rfl, fun ρ h ha hT => ?_⟩
  obtain ⟨-, -, hF, hG, hH, hA, hP⟩ := ha
  have f0 : (0 : Int) ≤ ((0) + ((1) * ρ 1 + 0)) := hF _ (List.mem_of_getElem? (i := 0) rfl)
  have f1 : (0 : Int) ≤ ((1200) + ((-1) * ρ 1 + 0)) := hF _ (List.mem_of_getElem? (i := 1) rfl)
  have f2 : (0 : Int) ≤ ((0) + ((-1) * ρ 1 + ((1) * ρ 2 + 0))) := hF _ (List.mem_of_getElem? (i := 2) rfl)
  have f3 : (0 : Int) ≤ ((0) + ((1) * ρ 1 + ((-1) * ρ 2 + 0))) := hF _ (List.mem_of_getElem? (i := 3) rfl)
  have f4 : (0 : Int) ≤ ((3) + ((-1) * ρ 3 + 0)) := hF _ (List.mem_of_getElem? (i := 4) rfl)
  have f5 : (0 : Int) ≤ ((-3) + ((1) * ρ 3 + 0)) := hF _ (List.mem_of_getElem? (i := 5) rfl)
  have g0 : G (ρ 0).toNat = 17 := by
    have q := (hG _ (List.mem_of_getElem? (i := 0) rfl)).2
    rwa [show ev ρ (0, [(0, 1)]) = ρ 0 from ev_v] at q
  have h0 : (0 : Int) ≤ ρ 1 ∧ ρ 1 ≤ 1200 := hf_rg hT (hH _ (List.mem_of_getElem? (i := 0) rfl)) ev_v g0 rfl rfl rfl ev_v
  have h1 : (0 : Int) ≤ ρ 2 ∧ ρ 2 ≤ 1200 := hf_rg hT (hH _ (List.mem_of_getElem? (i := 1) rfl)) ev_v g0 rfl rfl rfl ev_v
  have p0 : q155 (tB (vw C h)) (ρ 1 + 2048 * ρ 2) (ρ 3) := c2 (P := q155 (tB (vw C h))) (show q155 (tB (vw C h)) (((0) + ((1) * ρ 1 + ((2048) * ρ 2 + 0)))) (((0) + ((1) * ρ 3 + 0))) from hP _ (List.mem_of_getElem? (i := 0) rfl)) (by omega) (by omega)
  have kk := k155 (n := ρ 1) (s := ρ 2) (by omega) (by omega) (by omega) (by omega) (by omega) p0
  have k2 := pos_end (B := (tB (vw C h))) (n := (ρ 1).toNat) (s := (ρ 2).toNat) (by omega)
  exact absurd k2 (by omega)
/-- sgYesC -/
theorem lem_231_ok (hU : uqG G C) : lem_231.1.2.1 = [] ∧ lemOK (PRd G C D xs) G rgs lem_231 := by
  refine ⟨rfl, fun ρ h ha hT => ?_⟩
  obtain ⟨-, -, hF, hG, hH, hA, hP⟩ := ha
  have f0 : (0 : Int) ≤ ((0) + ((1) * ρ 2 + 0)) := hF _ (List.mem_of_getElem? (i := 0) rfl)
  have f1 : (0 : Int) ≤ ((1200) + ((-1) * ρ 2 + 0)) := hF _ (List.mem_of_getElem? (i := 1) rfl)
  have f2 : (0 : Int) ≤ ((0) + ((1) * ρ 3 + 0)) := hF _ (List.mem_of_getElem? (i := 2) rfl)
  have f3 : (0 : Int) ≤ ((-1) + ((1) * ρ 2 + ((-1) * ρ 3 + 0))) := hF _ (List.mem_of_getElem? (i := 3) rfl)
  have f4 : (0 : Int) ≤ ((0) + ((1) * ρ 1 + 0)) := hF _ (List.mem_of_getElem? (i := 4) rfl)
  have f5 : (0 : Int) ≤ ((127) + ((-1) * ρ 1 + 0)) := hF _ (List.mem_of_getElem? (i := 5) rfl)
  have f6 : (0 : Int) ≤ ((3) + ((-1) * ρ 4 + 0)) := hF _ (List.mem_of_getElem? (i := 6) rfl)
  have f7 : (0 : Int) ≤ ((-3) + ((1) * ρ 4 + 0)) := hF _ (List.mem_of_getElem? (i := 7) rfl)
  have f8 : (0 : Int) ≤ ((0) + ((-1) * ρ 1 + ((1) * ρ 6 + 0))) := hF _ (List.mem_of_getElem? (i := 8) rfl)
  have f9 : (0 : Int) ≤ ((0) + ((1) * ρ 1 + ((-1) * ρ 6 + 0))) := hF _ (List.mem_of_getElem? (i := 9) rfl)
  have g0 : G (ρ 0).toNat = 17 := by
    have q := (hG _ (List.mem_of_getElem? (i := 0) rfl)).2
    rwa [show ev ρ (0, [(0, 1)]) = ρ 0 from ev_v] at q
  have g1 : G (ρ 5).toNat = 100 := by
    have q := (hG _ (List.mem_of_getElem? (i := 1) rfl)).2
    rwa [show ev ρ (0, [(5, 1)]) = ρ 5 from ev_v] at q
  have h0 : (0 : Int) ≤ ρ 2 ∧ ρ 2 ≤ 1200 := hf_rg hT (hH _ (List.mem_of_getElem? (i := 0) rfl)) ev_v g0 rfl rfl rfl ev_v
  have h1 : (0 : Int) ≤ ρ 3 ∧ ρ 3 ≤ 1200 := hf_rg hT (hH _ (List.mem_of_getElem? (i := 1) rfl)) ev_v g0 rfl rfl rfl ev_v
  have b0 : (0 : Int) ≤ ((0) + ((1) * ρ 3 + 0)) := b_aA (hA _ (List.mem_of_getElem? (i := 0) rfl))
  have a0 : vw C h 100 ((ρ 3).toNat) = ρ 6 := vw_aA hU (hA _ (List.mem_of_getElem? (i := 0) rfl)) ev_v g1 (by omega) (by omega) (i := (ρ 3).toNat) (show ((((ρ 3).toNat : Nat)) : Int) = ((0) + ((1) * ρ 3 + 0)) by omega) ev_v
  have p0 : q155 (tB (vw C h)) (ρ 2 + 2048 * ρ 3) (ρ 4) := c2 (P := q155 (tB (vw C h))) (show q155 (tB (vw C h)) (((0) + ((1) * ρ 2 + ((2048) * ρ 3 + 0)))) (((0) + ((1) * ρ 4 + 0))) from hP _ (List.mem_of_getElem? (i := 0) rfl)) (by omega) (by omega)
  have kk := k155 (n := ρ 2) (s := ρ 3) (by omega) (by omega) (by omega) (by omega) (by omega) p0
  have hb := by_C hU hT (j := ρ 3) (b := ρ 6) (by omega) (by omega) a0
  have hb1 := hb.1
  have hb2 := hb.2.1
  have hb3 := hb.2.2
  have hB : (tB (vw C h)) (ρ 3).toNat = ρ 6 % 256 := hb3.symm
  refine ⟨_, List.mem_cons_self, ρ, fun _ _ => rfl, fun q hq => absurd hq List.not_mem_nil, trivial, fun f hf => ?_, fun q hq => absurd hq List.not_mem_nil, fun q hq => absurd hq List.not_mem_nil, fun q hq => absurd hq List.not_mem_nil, fun q hq => ?_⟩
  · exact absurd hf List.not_mem_nil
  · simp only [List.mem_cons, List.not_mem_nil, or_false] at hq
    subst hq
    show q160 (tB (vw C h)) (((0) + ((4194304) * ρ 1 + ((1) * ρ 2 + ((2048) * ρ 3 + 0))))) (((1) + 0))
    refine c2 (P := q160 (tB (vw C h))) (r := 4194304 * ρ 1 + ρ 2 + 2048 * ρ 3) (c := (1 : Int)) ?_ (by omega) (by omega)
    show q160 (tB (vw C h)) (4194304 * ρ 1 + ρ 2 + 2048 * ρ 3) ((1 : Int))
    exact o160 (n := ρ 2) (s := ρ 3) (c := ρ 1) (by omega) (by omega) (by omega) (by omega) (by omega) (by omega) (by have q := sg_yes (B := (tB (vw C h))) (n := (ρ 2).toNat) (s := (ρ 3).toNat) (v := ρ 1) (by omega) (hB.trans (by omega)); omega)
/-- sgNoLoC -/
theorem lem_232_ok (hU : uqG G C) : lem_232.1.2.1 = [] ∧ lemOK (PRd G C D xs) G rgs lem_232 := by
  refine ⟨rfl, fun ρ h ha hT => ?_⟩
  obtain ⟨-, -, hF, hG, hH, hA, hP⟩ := ha
  have f0 : (0 : Int) ≤ ((0) + ((1) * ρ 2 + 0)) := hF _ (List.mem_of_getElem? (i := 0) rfl)
  have f1 : (0 : Int) ≤ ((1200) + ((-1) * ρ 2 + 0)) := hF _ (List.mem_of_getElem? (i := 1) rfl)
  have f2 : (0 : Int) ≤ ((0) + ((1) * ρ 3 + 0)) := hF _ (List.mem_of_getElem? (i := 2) rfl)
  have f3 : (0 : Int) ≤ ((-1) + ((1) * ρ 2 + ((-1) * ρ 3 + 0))) := hF _ (List.mem_of_getElem? (i := 3) rfl)
  have f4 : (0 : Int) ≤ ((0) + ((1) * ρ 1 + 0)) := hF _ (List.mem_of_getElem? (i := 4) rfl)
  have f5 : (0 : Int) ≤ ((127) + ((-1) * ρ 1 + 0)) := hF _ (List.mem_of_getElem? (i := 5) rfl)
  have f6 : (0 : Int) ≤ ((3) + ((-1) * ρ 4 + 0)) := hF _ (List.mem_of_getElem? (i := 6) rfl)
  have f7 : (0 : Int) ≤ ((-3) + ((1) * ρ 4 + 0)) := hF _ (List.mem_of_getElem? (i := 7) rfl)
  have f8 : (0 : Int) ≤ ((-1) + ((1) * ρ 1 + ((-1) * ρ 6 + 0))) := hF _ (List.mem_of_getElem? (i := 8) rfl)
  have g0 : G (ρ 0).toNat = 17 := by
    have q := (hG _ (List.mem_of_getElem? (i := 0) rfl)).2
    rwa [show ev ρ (0, [(0, 1)]) = ρ 0 from ev_v] at q
  have g1 : G (ρ 5).toNat = 100 := by
    have q := (hG _ (List.mem_of_getElem? (i := 1) rfl)).2
    rwa [show ev ρ (0, [(5, 1)]) = ρ 5 from ev_v] at q
  have h0 : (0 : Int) ≤ ρ 2 ∧ ρ 2 ≤ 1200 := hf_rg hT (hH _ (List.mem_of_getElem? (i := 0) rfl)) ev_v g0 rfl rfl rfl ev_v
  have h1 : (0 : Int) ≤ ρ 3 ∧ ρ 3 ≤ 1200 := hf_rg hT (hH _ (List.mem_of_getElem? (i := 1) rfl)) ev_v g0 rfl rfl rfl ev_v
  have b0 : (0 : Int) ≤ ((0) + ((1) * ρ 3 + 0)) := b_aA (hA _ (List.mem_of_getElem? (i := 0) rfl))
  have a0 : vw C h 100 ((ρ 3).toNat) = ρ 6 := vw_aA hU (hA _ (List.mem_of_getElem? (i := 0) rfl)) ev_v g1 (by omega) (by omega) (i := (ρ 3).toNat) (show ((((ρ 3).toNat : Nat)) : Int) = ((0) + ((1) * ρ 3 + 0)) by omega) ev_v
  have p0 : q155 (tB (vw C h)) (ρ 2 + 2048 * ρ 3) (ρ 4) := c2 (P := q155 (tB (vw C h))) (show q155 (tB (vw C h)) (((0) + ((1) * ρ 2 + ((2048) * ρ 3 + 0)))) (((0) + ((1) * ρ 4 + 0))) from hP _ (List.mem_of_getElem? (i := 0) rfl)) (by omega) (by omega)
  have kk := k155 (n := ρ 2) (s := ρ 3) (by omega) (by omega) (by omega) (by omega) (by omega) p0
  have hb := by_C hU hT (j := ρ 3) (b := ρ 6) (by omega) (by omega) a0
  have hb1 := hb.1
  have hb2 := hb.2.1
  have hb3 := hb.2.2
  have hB : (tB (vw C h)) (ρ 3).toNat = ρ 6 % 256 := hb3.symm
  refine ⟨_, List.mem_cons_self, ρ, fun _ _ => rfl, fun q hq => absurd hq List.not_mem_nil, trivial, fun f hf => ?_, fun q hq => absurd hq List.not_mem_nil, fun q hq => absurd hq List.not_mem_nil, fun q hq => absurd hq List.not_mem_nil, fun q hq => ?_⟩
  · exact absurd hf List.not_mem_nil
  · simp only [List.mem_cons, List.not_mem_nil, or_false] at hq
    subst hq
    show q160 (tB (vw C h)) (((0) + ((4194304) * ρ 1 + ((1) * ρ 2 + ((2048) * ρ 3 + 0))))) (((0) + 0))
    refine c2 (P := q160 (tB (vw C h))) (r := 4194304 * ρ 1 + ρ 2 + 2048 * ρ 3) (c := (0 : Int)) ?_ (by omega) (by omega)
    show q160 (tB (vw C h)) (4194304 * ρ 1 + ρ 2 + 2048 * ρ 3) ((0 : Int))
    exact o160 (n := ρ 2) (s := ρ 3) (c := ρ 1) (by omega) (by omega) (by omega) (by omega) (by omega) (by omega) (by have q := sg_bno (B := (tB (vw C h))) (n := (ρ 2).toNat) (s := (ρ 3).toNat) (v := ρ 1) (by rw [hB]; omega); omega)
/-- sgNoHiC -/
theorem lem_233_ok (hU : uqG G C) : lem_233.1.2.1 = [] ∧ lemOK (PRd G C D xs) G rgs lem_233 := by
  refine ⟨rfl, fun ρ h ha hT => ?_⟩
  obtain ⟨-, -, hF, hG, hH, hA, hP⟩ := ha
  have f0 : (0 : Int) ≤ ((0) + ((1) * ρ 2 + 0)) := hF _ (List.mem_of_getElem? (i := 0) rfl)
  have f1 : (0 : Int) ≤ ((1200) + ((-1) * ρ 2 + 0)) := hF _ (List.mem_of_getElem? (i := 1) rfl)
  have f2 : (0 : Int) ≤ ((0) + ((1) * ρ 3 + 0)) := hF _ (List.mem_of_getElem? (i := 2) rfl)
  have f3 : (0 : Int) ≤ ((-1) + ((1) * ρ 2 + ((-1) * ρ 3 + 0))) := hF _ (List.mem_of_getElem? (i := 3) rfl)
  have f4 : (0 : Int) ≤ ((0) + ((1) * ρ 1 + 0)) := hF _ (List.mem_of_getElem? (i := 4) rfl)
  have f5 : (0 : Int) ≤ ((127) + ((-1) * ρ 1 + 0)) := hF _ (List.mem_of_getElem? (i := 5) rfl)
  have f6 : (0 : Int) ≤ ((3) + ((-1) * ρ 4 + 0)) := hF _ (List.mem_of_getElem? (i := 6) rfl)
  have f7 : (0 : Int) ≤ ((-3) + ((1) * ρ 4 + 0)) := hF _ (List.mem_of_getElem? (i := 7) rfl)
  have f8 : (0 : Int) ≤ ((-1) + ((-1) * ρ 1 + ((1) * ρ 6 + 0))) := hF _ (List.mem_of_getElem? (i := 8) rfl)
  have g0 : G (ρ 0).toNat = 17 := by
    have q := (hG _ (List.mem_of_getElem? (i := 0) rfl)).2
    rwa [show ev ρ (0, [(0, 1)]) = ρ 0 from ev_v] at q
  have g1 : G (ρ 5).toNat = 100 := by
    have q := (hG _ (List.mem_of_getElem? (i := 1) rfl)).2
    rwa [show ev ρ (0, [(5, 1)]) = ρ 5 from ev_v] at q
  have h0 : (0 : Int) ≤ ρ 2 ∧ ρ 2 ≤ 1200 := hf_rg hT (hH _ (List.mem_of_getElem? (i := 0) rfl)) ev_v g0 rfl rfl rfl ev_v
  have h1 : (0 : Int) ≤ ρ 3 ∧ ρ 3 ≤ 1200 := hf_rg hT (hH _ (List.mem_of_getElem? (i := 1) rfl)) ev_v g0 rfl rfl rfl ev_v
  have b0 : (0 : Int) ≤ ((0) + ((1) * ρ 3 + 0)) := b_aA (hA _ (List.mem_of_getElem? (i := 0) rfl))
  have a0 : vw C h 100 ((ρ 3).toNat) = ρ 6 := vw_aA hU (hA _ (List.mem_of_getElem? (i := 0) rfl)) ev_v g1 (by omega) (by omega) (i := (ρ 3).toNat) (show ((((ρ 3).toNat : Nat)) : Int) = ((0) + ((1) * ρ 3 + 0)) by omega) ev_v
  have p0 : q155 (tB (vw C h)) (ρ 2 + 2048 * ρ 3) (ρ 4) := c2 (P := q155 (tB (vw C h))) (show q155 (tB (vw C h)) (((0) + ((1) * ρ 2 + ((2048) * ρ 3 + 0)))) (((0) + ((1) * ρ 4 + 0))) from hP _ (List.mem_of_getElem? (i := 0) rfl)) (by omega) (by omega)
  have kk := k155 (n := ρ 2) (s := ρ 3) (by omega) (by omega) (by omega) (by omega) (by omega) p0
  have hb := by_C hU hT (j := ρ 3) (b := ρ 6) (by omega) (by omega) a0
  have hb1 := hb.1
  have hb2 := hb.2.1
  have hb3 := hb.2.2
  have hB : (tB (vw C h)) (ρ 3).toNat = ρ 6 % 256 := hb3.symm
  refine ⟨_, List.mem_cons_self, ρ, fun _ _ => rfl, fun q hq => absurd hq List.not_mem_nil, trivial, fun f hf => ?_, fun q hq => absurd hq List.not_mem_nil, fun q hq => absurd hq List.not_mem_nil, fun q hq => absurd hq List.not_mem_nil, fun q hq => ?_⟩
  · exact absurd hf List.not_mem_nil
  · simp only [List.mem_cons, List.not_mem_nil, or_false] at hq
    subst hq
    show q160 (tB (vw C h)) (((0) + ((4194304) * ρ 1 + ((1) * ρ 2 + ((2048) * ρ 3 + 0))))) (((0) + 0))
    refine c2 (P := q160 (tB (vw C h))) (r := 4194304 * ρ 1 + ρ 2 + 2048 * ρ 3) (c := (0 : Int)) ?_ (by omega) (by omega)
    show q160 (tB (vw C h)) (4194304 * ρ 1 + ρ 2 + 2048 * ρ 3) ((0 : Int))
    exact o160 (n := ρ 2) (s := ρ 3) (c := ρ 1) (by omega) (by omega) (by omega) (by omega) (by omega) (by omega) (by have q := sg_bno (B := (tB (vw C h))) (n := (ρ 2).toNat) (s := (ρ 3).toNat) (v := ρ 1) (by rw [hB]; omega); omega)
/-- wdLoC -/
theorem lem_234_ok (hU : uqG G C) : lem_234.1.2.1 = [] ∧ lemOK (PRd G C D xs) G rgs lem_234 := by
  refine ⟨rfl, fun ρ h ha hT => ?_⟩
  obtain ⟨-, -, hF, hG, hH, hA, hP⟩ := ha
  have f0 : (0 : Int) ≤ ((0) + ((1) * ρ 2 + 0)) := hF _ (List.mem_of_getElem? (i := 0) rfl)
  have f1 : (0 : Int) ≤ ((1200) + ((-1) * ρ 2 + 0)) := hF _ (List.mem_of_getElem? (i := 1) rfl)
  have f2 : (0 : Int) ≤ ((0) + ((1) * ρ 4 + 0)) := hF _ (List.mem_of_getElem? (i := 2) rfl)
  have f3 : (0 : Int) ≤ ((0) + ((1) * ρ 2 + ((-1) * ρ 4 + 0))) := hF _ (List.mem_of_getElem? (i := 3) rfl)
  have f4 : (0 : Int) ≤ ((0) + ((1) * ρ 1 + 0)) := hF _ (List.mem_of_getElem? (i := 4) rfl)
  have f5 : (0 : Int) ≤ ((0) + ((-1) * ρ 5 + 0)) := hF _ (List.mem_of_getElem? (i := 5) rfl)
  have g0 : G (ρ 0).toNat = 17 := by
    have q := (hG _ (List.mem_of_getElem? (i := 0) rfl)).2
    rwa [show ev ρ (0, [(0, 1)]) = ρ 0 from ev_v] at q
  have h0 : (0 : Int) ≤ ρ 2 ∧ ρ 2 ≤ 1200 := hf_rg hT (hH _ (List.mem_of_getElem? (i := 0) rfl)) ev_v g0 rfl rfl rfl ev_v
  have h1 : (0 : Int) ≤ ρ 3 ∧ ρ 3 ≤ 1200 := hf_rg hT (hH _ (List.mem_of_getElem? (i := 1) rfl)) ev_v g0 rfl rfl rfl ev_v
  have h2 : (0 : Int) ≤ ρ 4 ∧ ρ 4 ≤ 1200 := hf_rg hT (hH _ (List.mem_of_getElem? (i := 2) rfl)) ev_v g0 rfl rfl rfl ev_v
  have p0 : q155 (tB (vw C h)) (ρ 2 + 2048 * ρ 4) (ρ 5) := c2 (P := q155 (tB (vw C h))) (show q155 (tB (vw C h)) (((0) + ((1) * ρ 2 + ((2048) * ρ 4 + 0)))) (((0) + ((1) * ρ 5 + 0))) from hP _ (List.mem_of_getElem? (i := 0) rfl)) (by omega) (by omega)
  have kk := k155 (n := ρ 2) (s := ρ 4) (by omega) (by omega) (by omega) (by omega) (by omega) p0
  refine ⟨_, List.mem_cons_self, ρ, fun _ _ => rfl, fun q hq => absurd hq List.not_mem_nil, trivial, fun f hf => ?_, fun q hq => absurd hq List.not_mem_nil, fun q hq => absurd hq List.not_mem_nil, fun q hq => absurd hq List.not_mem_nil, fun q hq => ?_⟩
  · exact absurd hf List.not_mem_nil
  · simp only [List.mem_cons, List.not_mem_nil, or_false] at hq
    subst hq
    show q159 (tB (vw C h)) (((0) + ((4194304) * ρ 1 + ((1) * ρ 2 + ((2048) * ρ 4 + 0))))) (((0) + 0))
    refine c2 (P := q159 (tB (vw C h))) (r := 4194304 * ρ 1 + ρ 2 + 2048 * ρ 4) (c := (0 : Int)) ?_ (by omega) (by omega)
    show q159 (tB (vw C h)) (4194304 * ρ 1 + ρ 2 + 2048 * ρ 4) ((0 : Int))
    exact o159 (n := ρ 2) (s := ρ 4) (w := ρ 1) (by omega) (by omega) (by omega) (by omega) (by omega) (by omega) (by have q := wd_kno (B := (tB (vw C h))) (n := (ρ 2).toNat) (s := (ρ 4).toNat) (w := (ρ 1).toNat) (by omega); omega)
/-- wdHiC -/
theorem lem_235_ok (hU : uqG G C) : lem_235.1.2.1 = [] ∧ lemOK (PRd G C D xs) G rgs lem_235 := by
  refine ⟨rfl, fun ρ h ha hT => ?_⟩
  obtain ⟨-, -, hF, hG, hH, hA, hP⟩ := ha
  have f0 : (0 : Int) ≤ ((0) + ((1) * ρ 2 + 0)) := hF _ (List.mem_of_getElem? (i := 0) rfl)
  have f1 : (0 : Int) ≤ ((1200) + ((-1) * ρ 2 + 0)) := hF _ (List.mem_of_getElem? (i := 1) rfl)
  have f2 : (0 : Int) ≤ ((0) + ((1) * ρ 4 + 0)) := hF _ (List.mem_of_getElem? (i := 2) rfl)
  have f3 : (0 : Int) ≤ ((0) + ((1) * ρ 2 + ((-1) * ρ 4 + 0))) := hF _ (List.mem_of_getElem? (i := 3) rfl)
  have f4 : (0 : Int) ≤ ((0) + ((1) * ρ 1 + 0)) := hF _ (List.mem_of_getElem? (i := 4) rfl)
  have f5 : (0 : Int) ≤ ((-2) + ((1) * ρ 5 + 0)) := hF _ (List.mem_of_getElem? (i := 5) rfl)
  have g0 : G (ρ 0).toNat = 17 := by
    have q := (hG _ (List.mem_of_getElem? (i := 0) rfl)).2
    rwa [show ev ρ (0, [(0, 1)]) = ρ 0 from ev_v] at q
  have h0 : (0 : Int) ≤ ρ 2 ∧ ρ 2 ≤ 1200 := hf_rg hT (hH _ (List.mem_of_getElem? (i := 0) rfl)) ev_v g0 rfl rfl rfl ev_v
  have h1 : (0 : Int) ≤ ρ 3 ∧ ρ 3 ≤ 1200 := hf_rg hT (hH _ (List.mem_of_getElem? (i := 1) rfl)) ev_v g0 rfl rfl rfl ev_v
  have h2 : (0 : Int) ≤ ρ 4 ∧ ρ 4 ≤ 1200 := hf_rg hT (hH _ (List.mem_of_getElem? (i := 2) rfl)) ev_v g0 rfl rfl rfl ev_v
  have p0 : q155 (tB (vw C h)) (ρ 2 + 2048 * ρ 4) (ρ 5) := c2 (P := q155 (tB (vw C h))) (show q155 (tB (vw C h)) (((0) + ((1) * ρ 2 + ((2048) * ρ 4 + 0)))) (((0) + ((1) * ρ 5 + 0))) from hP _ (List.mem_of_getElem? (i := 0) rfl)) (by omega) (by omega)
  have kk := k155 (n := ρ 2) (s := ρ 4) (by omega) (by omega) (by omega) (by omega) (by omega) p0
  refine ⟨_, List.mem_cons_self, ρ, fun _ _ => rfl, fun q hq => absurd hq List.not_mem_nil, trivial, fun f hf => ?_, fun q hq => absurd hq List.not_mem_nil, fun q hq => absurd hq List.not_mem_nil, fun q hq => absurd hq List.not_mem_nil, fun q hq => ?_⟩
  · exact absurd hf List.not_mem_nil
  · simp only [List.mem_cons, List.not_mem_nil, or_false] at hq
    subst hq
    show q159 (tB (vw C h)) (((0) + ((4194304) * ρ 1 + ((1) * ρ 2 + ((2048) * ρ 4 + 0))))) (((0) + 0))
    refine c2 (P := q159 (tB (vw C h))) (r := 4194304 * ρ 1 + ρ 2 + 2048 * ρ 4) (c := (0 : Int)) ?_ (by omega) (by omega)
    show q159 (tB (vw C h)) (4194304 * ρ 1 + ρ 2 + 2048 * ρ 4) ((0 : Int))
    exact o159 (n := ρ 2) (s := ρ 4) (w := ρ 1) (by omega) (by omega) (by omega) (by omega) (by omega) (by omega) (by have q := wd_kno (B := (tB (vw C h))) (n := (ρ 2).toNat) (s := (ρ 4).toNat) (w := (ρ 1).toNat) (by omega); omega)
/-- wdShortC -/
theorem lem_236_ok (hU : uqG G C) : lem_236.1.2.1 = [] ∧ lemOK (PRd G C D xs) G rgs lem_236 := by
  refine ⟨rfl, fun ρ h ha hT => ?_⟩
  obtain ⟨-, -, hF, hG, hH, hA, hP⟩ := ha
  have f0 : (0 : Int) ≤ ((0) + ((1) * ρ 2 + 0)) := hF _ (List.mem_of_getElem? (i := 0) rfl)
  have f1 : (0 : Int) ≤ ((1200) + ((-1) * ρ 2 + 0)) := hF _ (List.mem_of_getElem? (i := 1) rfl)
  have f2 : (0 : Int) ≤ ((0) + ((1) * ρ 4 + 0)) := hF _ (List.mem_of_getElem? (i := 2) rfl)
  have f3 : (0 : Int) ≤ ((0) + ((1) * ρ 2 + ((-1) * ρ 4 + 0))) := hF _ (List.mem_of_getElem? (i := 3) rfl)
  have f4 : (0 : Int) ≤ ((0) + ((1) * ρ 1 + 0)) := hF _ (List.mem_of_getElem? (i := 4) rfl)
  have f5 : (0 : Int) ≤ ((1) + ((-1) * ρ 5 + 0)) := hF _ (List.mem_of_getElem? (i := 5) rfl)
  have f6 : (0 : Int) ≤ ((-1) + ((1) * ρ 5 + 0)) := hF _ (List.mem_of_getElem? (i := 6) rfl)
  have f7 : (0 : Int) ≤ ((-1) + ((-1) * ρ 3 + ((1) * ρ 4 + ((1) * ρ 6 + 0)))) := hF _ (List.mem_of_getElem? (i := 7) rfl)
  have g0 : G (ρ 0).toNat = 17 := by
    have q := (hG _ (List.mem_of_getElem? (i := 0) rfl)).2
    rwa [show ev ρ (0, [(0, 1)]) = ρ 0 from ev_v] at q
  have h0 : (0 : Int) ≤ ρ 2 ∧ ρ 2 ≤ 1200 := hf_rg hT (hH _ (List.mem_of_getElem? (i := 0) rfl)) ev_v g0 rfl rfl rfl ev_v
  have h1 : (0 : Int) ≤ ρ 3 ∧ ρ 3 ≤ 1200 := hf_rg hT (hH _ (List.mem_of_getElem? (i := 1) rfl)) ev_v g0 rfl rfl rfl ev_v
  have h2 : (0 : Int) ≤ ρ 4 ∧ ρ 4 ≤ 1200 := hf_rg hT (hH _ (List.mem_of_getElem? (i := 2) rfl)) ev_v g0 rfl rfl rfl ev_v
  have p0 : q155 (tB (vw C h)) (ρ 2 + 2048 * ρ 4) (ρ 5) := c2 (P := q155 (tB (vw C h))) (show q155 (tB (vw C h)) (((0) + ((1) * ρ 2 + ((2048) * ρ 4 + 0)))) (((0) + ((1) * ρ 5 + 0))) from hP _ (List.mem_of_getElem? (i := 0) rfl)) (by omega) (by omega)
  have p1 : q156 (tB (vw C h)) (ρ 2 + 2048 * ρ 3) (ρ 4) := c2 (P := q156 (tB (vw C h))) (show q156 (tB (vw C h)) (((0) + ((1) * ρ 2 + ((2048) * ρ 3 + 0)))) (((0) + ((1) * ρ 4 + 0))) from hP _ (List.mem_of_getElem? (i := 1) rfl)) (by omega) (by omega)
  have p2 : q182 (ρ 1) (ρ 6) := c2 (P := q182) (show q182 (((0) + ((1) * ρ 1 + 0))) (((0) + ((1) * ρ 6 + 0))) from hP _ (List.mem_of_getElem? (i := 2) rfl)) (by omega) (by omega)
  have kk := k155 (n := ρ 2) (s := ρ 4) (by omega) (by omega) (by omega) (by omega) (by omega) p0
  have ke := k156 (n := ρ 2) (s := ρ 4) (e := ρ 3) (by omega) (by omega) (by omega) (by omega) (by omega) (by omega) p1
  have kl := k182 p2 (w := ρ 1) (by omega)
  refine ⟨_, List.mem_cons_self, ρ, fun _ _ => rfl, fun q hq => absurd hq List.not_mem_nil, trivial, fun f hf => ?_, fun q hq => absurd hq List.not_mem_nil, fun q hq => absurd hq List.not_mem_nil, fun q hq => absurd hq List.not_mem_nil, fun q hq => ?_⟩
  · exact absurd hf List.not_mem_nil
  · simp only [List.mem_cons, List.not_mem_nil, or_false] at hq
    subst hq
    show q159 (tB (vw C h)) (((0) + ((4194304) * ρ 1 + ((1) * ρ 2 + ((2048) * ρ 4 + 0))))) (((0) + 0))
    refine c2 (P := q159 (tB (vw C h))) (r := 4194304 * ρ 1 + ρ 2 + 2048 * ρ 4) (c := (0 : Int)) ?_ (by omega) (by omega)
    show q159 (tB (vw C h)) (4194304 * ρ 1 + ρ 2 + 2048 * ρ 4) ((0 : Int))
    exact o159 (n := ρ 2) (s := ρ 4) (w := ρ 1) (by omega) (by omega) (by omega) (by omega) (by omega) (by omega) (by have q := wd_lno (B := (tB (vw C h))) (n := (ρ 2).toNat) (s := (ρ 4).toNat) (w := (ρ 1).toNat) (by omega); omega)
/-- wdLongC -/
theorem lem_237_ok (hU : uqG G C) : lem_237.1.2.1 = [] ∧ lemOK (PRd G C D xs) G rgs lem_237 := by
  refine ⟨rfl, fun ρ h ha hT => ?_⟩
  obtain ⟨-, -, hF, hG, hH, hA, hP⟩ := ha
  have f0 : (0 : Int) ≤ ((0) + ((1) * ρ 2 + 0)) := hF _ (List.mem_of_getElem? (i := 0) rfl)
  have f1 : (0 : Int) ≤ ((1200) + ((-1) * ρ 2 + 0)) := hF _ (List.mem_of_getElem? (i := 1) rfl)
  have f2 : (0 : Int) ≤ ((0) + ((1) * ρ 4 + 0)) := hF _ (List.mem_of_getElem? (i := 2) rfl)
  have f3 : (0 : Int) ≤ ((0) + ((1) * ρ 2 + ((-1) * ρ 4 + 0))) := hF _ (List.mem_of_getElem? (i := 3) rfl)
  have f4 : (0 : Int) ≤ ((0) + ((1) * ρ 1 + 0)) := hF _ (List.mem_of_getElem? (i := 4) rfl)
  have f5 : (0 : Int) ≤ ((1) + ((-1) * ρ 5 + 0)) := hF _ (List.mem_of_getElem? (i := 5) rfl)
  have f6 : (0 : Int) ≤ ((-1) + ((1) * ρ 5 + 0)) := hF _ (List.mem_of_getElem? (i := 6) rfl)
  have f7 : (0 : Int) ≤ ((-1) + ((1) * ρ 3 + ((-1) * ρ 4 + ((-1) * ρ 6 + 0)))) := hF _ (List.mem_of_getElem? (i := 7) rfl)
  have g0 : G (ρ 0).toNat = 17 := by
    have q := (hG _ (List.mem_of_getElem? (i := 0) rfl)).2
    rwa [show ev ρ (0, [(0, 1)]) = ρ 0 from ev_v] at q
  have h0 : (0 : Int) ≤ ρ 2 ∧ ρ 2 ≤ 1200 := hf_rg hT (hH _ (List.mem_of_getElem? (i := 0) rfl)) ev_v g0 rfl rfl rfl ev_v
  have h1 : (0 : Int) ≤ ρ 3 ∧ ρ 3 ≤ 1200 := hf_rg hT (hH _ (List.mem_of_getElem? (i := 1) rfl)) ev_v g0 rfl rfl rfl ev_v
  have h2 : (0 : Int) ≤ ρ 4 ∧ ρ 4 ≤ 1200 := hf_rg hT (hH _ (List.mem_of_getElem? (i := 2) rfl)) ev_v g0 rfl rfl rfl ev_v
  have p0 : q155 (tB (vw C h)) (ρ 2 + 2048 * ρ 4) (ρ 5) := c2 (P := q155 (tB (vw C h))) (show q155 (tB (vw C h)) (((0) + ((1) * ρ 2 + ((2048) * ρ 4 + 0)))) (((0) + ((1) * ρ 5 + 0))) from hP _ (List.mem_of_getElem? (i := 0) rfl)) (by omega) (by omega)
  have p1 : q156 (tB (vw C h)) (ρ 2 + 2048 * ρ 3) (ρ 4) := c2 (P := q156 (tB (vw C h))) (show q156 (tB (vw C h)) (((0) + ((1) * ρ 2 + ((2048) * ρ 3 + 0)))) (((0) + ((1) * ρ 4 + 0))) from hP _ (List.mem_of_getElem? (i := 1) rfl)) (by omega) (by omega)
  have p2 : q182 (ρ 1) (ρ 6) := c2 (P := q182) (show q182 (((0) + ((1) * ρ 1 + 0))) (((0) + ((1) * ρ 6 + 0))) from hP _ (List.mem_of_getElem? (i := 2) rfl)) (by omega) (by omega)
  have kk := k155 (n := ρ 2) (s := ρ 4) (by omega) (by omega) (by omega) (by omega) (by omega) p0
  have ke := k156 (n := ρ 2) (s := ρ 4) (e := ρ 3) (by omega) (by omega) (by omega) (by omega) (by omega) (by omega) p1
  have kl := k182 p2 (w := ρ 1) (by omega)
  refine ⟨_, List.mem_cons_self, ρ, fun _ _ => rfl, fun q hq => absurd hq List.not_mem_nil, trivial, fun f hf => ?_, fun q hq => absurd hq List.not_mem_nil, fun q hq => absurd hq List.not_mem_nil, fun q hq => absurd hq List.not_mem_nil, fun q hq => ?_⟩
  · exact absurd hf List.not_mem_nil
  · simp only [List.mem_cons, List.not_mem_nil, or_false] at hq
    subst hq
    show q159 (tB (vw C h)) (((0) + ((4194304) * ρ 1 + ((1) * ρ 2 + ((2048) * ρ 4 + 0))))) (((0) + 0))
    refine c2 (P := q159 (tB (vw C h))) (r := 4194304 * ρ 1 + ρ 2 + 2048 * ρ 4) (c := (0 : Int)) ?_ (by omega) (by omega)
    show q159 (tB (vw C h)) (4194304 * ρ 1 + ρ 2 + 2048 * ρ 4) ((0 : Int))
    exact o159 (n := ρ 2) (s := ρ 4) (w := ρ 1) (by omega) (by omega) (by omega) (by omega) (by omega) (by omega) (by have q := wd_lno (B := (tB (vw C h))) (n := (ρ 2).toNat) (s := (ρ 4).toNat) (w := (ρ 1).toNat) (by omega); omega)
/-- wdAllC -/
theorem lem_238_ok (hU : uqG G C) : lem_238.1.2.1 = [] ∧ lemOK (PRd G C D xs) G rgs lem_238 := by
  refine ⟨rfl, fun ρ h ha hT => ?_⟩
  obtain ⟨-, -, hF, hG, hH, hA, hP⟩ := ha
  have f0 : (0 : Int) ≤ ((0) + ((1) * ρ 3 + 0)) := hF _ (List.mem_of_getElem? (i := 0) rfl)
  have f1 : (0 : Int) ≤ ((1200) + ((-1) * ρ 3 + 0)) := hF _ (List.mem_of_getElem? (i := 1) rfl)
  have f2 : (0 : Int) ≤ ((0) + ((1) * ρ 5 + 0)) := hF _ (List.mem_of_getElem? (i := 2) rfl)
  have f3 : (0 : Int) ≤ ((0) + ((1) * ρ 3 + ((-1) * ρ 5 + 0))) := hF _ (List.mem_of_getElem? (i := 3) rfl)
  have f4 : (0 : Int) ≤ ((0) + ((1) * ρ 1 + 0)) := hF _ (List.mem_of_getElem? (i := 4) rfl)
  have f5 : (0 : Int) ≤ ((0) + ((1) * ρ 2 + ((-1) * ρ 7 + 0))) := hF _ (List.mem_of_getElem? (i := 5) rfl)
  have f6 : (0 : Int) ≤ ((0) + ((1) * ρ 4 + ((-1) * ρ 5 + ((-1) * ρ 7 + 0)))) := hF _ (List.mem_of_getElem? (i := 6) rfl)
  have f7 : (0 : Int) ≤ ((0) + ((-1) * ρ 4 + ((1) * ρ 5 + ((1) * ρ 7 + 0)))) := hF _ (List.mem_of_getElem? (i := 7) rfl)
  have f8 : (0 : Int) ≤ ((1) + ((-1) * ρ 6 + 0)) := hF _ (List.mem_of_getElem? (i := 8) rfl)
  have f9 : (0 : Int) ≤ ((-1) + ((1) * ρ 6 + 0)) := hF _ (List.mem_of_getElem? (i := 9) rfl)
  have g0 : G (ρ 0).toNat = 17 := by
    have q := (hG _ (List.mem_of_getElem? (i := 0) rfl)).2
    rwa [show ev ρ (0, [(0, 1)]) = ρ 0 from ev_v] at q
  have h0 : (0 : Int) ≤ ρ 3 ∧ ρ 3 ≤ 1200 := hf_rg hT (hH _ (List.mem_of_getElem? (i := 0) rfl)) ev_v g0 rfl rfl rfl ev_v
  have h1 : (0 : Int) ≤ ρ 4 ∧ ρ 4 ≤ 1200 := hf_rg hT (hH _ (List.mem_of_getElem? (i := 1) rfl)) ev_v g0 rfl rfl rfl ev_v
  have h2 : (0 : Int) ≤ ρ 5 ∧ ρ 5 ≤ 1200 := hf_rg hT (hH _ (List.mem_of_getElem? (i := 2) rfl)) ev_v g0 rfl rfl rfl ev_v
  have p0 : q155 (tB (vw C h)) (ρ 3 + 2048 * ρ 5) (ρ 6) := c2 (P := q155 (tB (vw C h))) (show q155 (tB (vw C h)) (((0) + ((1) * ρ 3 + ((2048) * ρ 5 + 0)))) (((0) + ((1) * ρ 6 + 0))) from hP _ (List.mem_of_getElem? (i := 0) rfl)) (by omega) (by omega)
  have p1 : q156 (tB (vw C h)) (ρ 3 + 2048 * ρ 4) (ρ 5) := c2 (P := q156 (tB (vw C h))) (show q156 (tB (vw C h)) (((0) + ((1) * ρ 3 + ((2048) * ρ 4 + 0)))) (((0) + ((1) * ρ 5 + 0))) from hP _ (List.mem_of_getElem? (i := 1) rfl)) (by omega) (by omega)
  have p2 : q182 (ρ 1) (ρ 7) := c2 (P := q182) (show q182 (((0) + ((1) * ρ 1 + 0))) (((0) + ((1) * ρ 7 + 0))) from hP _ (List.mem_of_getElem? (i := 2) rfl)) (by omega) (by omega)
  have p3 : q161 (tB (vw C h)) (2048 * ρ 1 + ρ 5) (ρ 2) := c2 (P := q161 (tB (vw C h))) (show q161 (tB (vw C h)) (((0) + ((2048) * ρ 1 + ((1) * ρ 5 + 0)))) (((0) + ((1) * ρ 2 + 0))) from hP _ (List.mem_of_getElem? (i := 3) rfl)) (by omega) (by omega)
  have kk := k155 (n := ρ 3) (s := ρ 5) (by omega) (by omega) (by omega) (by omega) (by omega) p0
  have ke := k156 (n := ρ 3) (s := ρ 5) (e := ρ 4) (by omega) (by omega) (by omega) (by omega) (by omega) (by omega) p1
  have kl := k182 p2 (w := ρ 1) (by omega)
  refine ⟨_, List.mem_cons_self, ρ, fun _ _ => rfl, fun q hq => absurd hq List.not_mem_nil, trivial, fun f hf => ?_, fun q hq => absurd hq List.not_mem_nil, fun q hq => absurd hq List.not_mem_nil, fun q hq => absurd hq List.not_mem_nil, fun q hq => ?_⟩
  · exact absurd hf List.not_mem_nil
  · simp only [List.mem_cons, List.not_mem_nil, or_false] at hq
    subst hq
    show q159 (tB (vw C h)) (((0) + ((4194304) * ρ 1 + ((1) * ρ 3 + ((2048) * ρ 5 + 0))))) (((1) + 0))
    refine c2 (P := q159 (tB (vw C h))) (r := 4194304 * ρ 1 + ρ 3 + 2048 * ρ 5) (c := (1 : Int)) ?_ (by omega) (by omega)
    show q159 (tB (vw C h)) (4194304 * ρ 1 + ρ 3 + 2048 * ρ 5) ((1 : Int))
    exact o159 (n := ρ 3) (s := ρ 5) (w := ρ 1) (by omega) (by omega) (by omega) (by omega) (by omega) (by omega) (by have q := wd_yes (B := (tB (vw C h))) (n := ρ 3) (s := ρ 5) (i := ρ 4) (w := ρ 1) (j := ρ 2) (by omega) ke (by omega) (by omega) (by omega) (by omega) (by omega) p3 (by omega); omega)
/-- mtStepC -/
theorem lem_239_ok (hU : uqG G C) : lem_239.1.2.1 = [] ∧ lemOK (PRd G C D xs) G rgs lem_239 := by
  refine ⟨rfl, fun ρ h ha hT => ?_⟩
  obtain ⟨-, -, hF, hG, hH, hA, hP⟩ := ha
  have f0 : (0 : Int) ≤ ((0) + ((1) * ρ 3 + 0)) := hF _ (List.mem_of_getElem? (i := 0) rfl)
  have f1 : (0 : Int) ≤ ((1200) + ((-1) * ρ 3 + 0)) := hF _ (List.mem_of_getElem? (i := 1) rfl)
  have f2 : (0 : Int) ≤ ((0) + ((1) * ρ 4 + 0)) := hF _ (List.mem_of_getElem? (i := 2) rfl)
  have f3 : (0 : Int) ≤ ((-1) + ((-1) * ρ 2 + ((1) * ρ 3 + ((-1) * ρ 4 + 0)))) := hF _ (List.mem_of_getElem? (i := 3) rfl)
  have f4 : (0 : Int) ≤ ((0) + ((1) * ρ 2 + 0)) := hF _ (List.mem_of_getElem? (i := 4) rfl)
  have f5 : (0 : Int) ≤ ((0) + ((1) * ρ 1 + 0)) := hF _ (List.mem_of_getElem? (i := 5) rfl)
  have f6 : (0 : Int) ≤ ((20) + ((-1) * ρ 1 + 0)) := hF _ (List.mem_of_getElem? (i := 6) rfl)
  have f7 : (0 : Int) ≤ ((-1) + ((-1) * ρ 2 + ((1) * ρ 7 + 0))) := hF _ (List.mem_of_getElem? (i := 7) rfl)
  have f8 : (0 : Int) ≤ ((0) + ((1) * ρ 6 + ((-1) * ρ 8 + 0))) := hF _ (List.mem_of_getElem? (i := 8) rfl)
  have f9 : (0 : Int) ≤ ((0) + ((-1) * ρ 6 + ((1) * ρ 8 + 0))) := hF _ (List.mem_of_getElem? (i := 9) rfl)
  have g0 : G (ρ 0).toNat = 17 := by
    have q := (hG _ (List.mem_of_getElem? (i := 0) rfl)).2
    rwa [show ev ρ (0, [(0, 1)]) = ρ 0 from ev_v] at q
  have g1 : G (ρ 5).toNat = 100 := by
    have q := (hG _ (List.mem_of_getElem? (i := 1) rfl)).2
    rwa [show ev ρ (0, [(5, 1)]) = ρ 5 from ev_v] at q
  have h0 : (0 : Int) ≤ ρ 3 ∧ ρ 3 ≤ 1200 := hf_rg hT (hH _ (List.mem_of_getElem? (i := 0) rfl)) ev_v g0 rfl rfl rfl ev_v
  have h1 : (0 : Int) ≤ ρ 4 ∧ ρ 4 ≤ 1200 := hf_rg hT (hH _ (List.mem_of_getElem? (i := 1) rfl)) ev_v g0 rfl rfl rfl ev_v
  have b0 : (0 : Int) ≤ ((0) + ((1) * ρ 2 + ((1) * ρ 4 + 0))) := b_aA (hA _ (List.mem_of_getElem? (i := 0) rfl))
  have a0 : vw C h 100 ((ρ 2 + ρ 4).toNat) = ρ 6 := vw_aA hU (hA _ (List.mem_of_getElem? (i := 0) rfl)) ev_v g1 (by omega) (by omega) (i := (ρ 2 + ρ 4).toNat) (show ((((ρ 2 + ρ 4).toNat : Nat)) : Int) = ((0) + ((1) * ρ 2 + ((1) * ρ 4 + 0))) by omega) ev_v
  have p0 : q182 (ρ 1) (ρ 7) := c2 (P := q182) (show q182 (((0) + ((1) * ρ 1 + 0))) (((0) + ((1) * ρ 7 + 0))) from hP _ (List.mem_of_getElem? (i := 0) rfl)) (by omega) (by omega)
  have p1 : q177 (64 * ρ 1 + ρ 2) (ρ 8) := c2 (P := q177) (show q177 (((0) + ((64) * ρ 1 + ((1) * ρ 2 + 0)))) (((0) + ((1) * ρ 8 + 0))) from hP _ (List.mem_of_getElem? (i := 1) rfl)) (by omega) (by omega)
  have p2 : q161 (tB (vw C h)) (2048 * ρ 1 + ρ 4) (ρ 2) := c2 (P := q161 (tB (vw C h))) (show q161 (tB (vw C h)) (((0) + ((2048) * ρ 1 + ((1) * ρ 4 + 0)))) (((0) + ((1) * ρ 2 + 0))) from hP _ (List.mem_of_getElem? (i := 2) rfl)) (by omega) (by omega)
  have kl := k182 p0 (w := ρ 1) (by omega)
  have k8 := wd_len (ρ 1).toNat (by omega)
  have kc := k177 (w := ρ 1) (j := ρ 2) (by omega) (by omega) (by omega) (by omega) p1
  have kr := wd_let (ρ 1).toNat (by omega) (ρ 2).toNat (by omega)
  have hb := by_C hU hT (j := ρ 4 + ρ 2) (b := ρ 6) (by omega) (by omega) (by have q := a0; rwa [show (ρ 2 + ρ 4).toNat = (ρ 4 + ρ 2).toNat by omega] at q)
  have hb1 := hb.1
  have hb2 := hb.2.1
  have hb3 : ρ 6 % 256 = (tB (vw C h)) ((ρ 4).toNat + (ρ 2).toNat) := by rw [← show (ρ 4 + ρ 2).toNat = (ρ 4).toNat + (ρ 2).toNat by omega]; exact hb.2.2
  refine ⟨_, List.mem_cons_self, ρ, fun _ _ => rfl, fun q hq => absurd hq List.not_mem_nil, trivial, fun f hf => ?_, fun q hq => absurd hq List.not_mem_nil, fun q hq => absurd hq List.not_mem_nil, fun q hq => absurd hq List.not_mem_nil, fun q hq => ?_⟩
  · exact absurd hf List.not_mem_nil
  · simp only [List.mem_cons, List.not_mem_nil, or_false] at hq
    subst hq
    show q161 (tB (vw C h)) (((0) + ((2048) * ρ 1 + ((1) * ρ 4 + 0)))) (((1) + ((1) * ρ 2 + 0)))
    refine c2 (P := q161 (tB (vw C h))) (r := 2048 * ρ 1 + ρ 4) (c := ρ 2 + 1) ?_ (by omega) (by omega)
    show q161 (tB (vw C h)) (2048 * ρ 1 + ρ 4) (ρ 2 + 1)
    exact mt_step (s := ρ 4) (w := ρ 1) (j := ρ 2) (by omega) (by omega) (by omega) (by omega) (by omega) (by omega) (by omega) p2
/-- mtLoC -/
theorem lem_240_ok (hU : uqG G C) : lem_240.1.2.1 = [] ∧ lemOK (PRd G C D xs) G rgs lem_240 := by
  refine ⟨rfl, fun ρ h ha hT => ?_⟩
  obtain ⟨-, -, hF, hG, hH, hA, hP⟩ := ha
  have f0 : (0 : Int) ≤ ((0) + ((1) * ρ 3 + 0)) := hF _ (List.mem_of_getElem? (i := 0) rfl)
  have f1 : (0 : Int) ≤ ((1200) + ((-1) * ρ 3 + 0)) := hF _ (List.mem_of_getElem? (i := 1) rfl)
  have f2 : (0 : Int) ≤ ((0) + ((1) * ρ 4 + 0)) := hF _ (List.mem_of_getElem? (i := 2) rfl)
  have f3 : (0 : Int) ≤ ((-1) + ((-1) * ρ 2 + ((1) * ρ 3 + ((-1) * ρ 4 + 0)))) := hF _ (List.mem_of_getElem? (i := 3) rfl)
  have f4 : (0 : Int) ≤ ((0) + ((1) * ρ 2 + 0)) := hF _ (List.mem_of_getElem? (i := 4) rfl)
  have f5 : (0 : Int) ≤ ((0) + ((1) * ρ 1 + 0)) := hF _ (List.mem_of_getElem? (i := 5) rfl)
  have f6 : (0 : Int) ≤ ((20) + ((-1) * ρ 1 + 0)) := hF _ (List.mem_of_getElem? (i := 6) rfl)
  have f7 : (0 : Int) ≤ ((-1) + ((-1) * ρ 2 + ((1) * ρ 7 + 0))) := hF _ (List.mem_of_getElem? (i := 7) rfl)
  have f8 : (0 : Int) ≤ ((-1) + ((-1) * ρ 6 + ((1) * ρ 8 + 0))) := hF _ (List.mem_of_getElem? (i := 8) rfl)
  have f9 : (0 : Int) ≤ ((0) + ((1) * ρ 8 + 0)) := hF _ (List.mem_of_getElem? (i := 9) rfl)
  have f10 : (0 : Int) ≤ ((127) + ((-1) * ρ 8 + 0)) := hF _ (List.mem_of_getElem? (i := 10) rfl)
  have g0 : G (ρ 0).toNat = 17 := by
    have q := (hG _ (List.mem_of_getElem? (i := 0) rfl)).2
    rwa [show ev ρ (0, [(0, 1)]) = ρ 0 from ev_v] at q
  have g1 : G (ρ 5).toNat = 100 := by
    have q := (hG _ (List.mem_of_getElem? (i := 1) rfl)).2
    rwa [show ev ρ (0, [(5, 1)]) = ρ 5 from ev_v] at q
  have h0 : (0 : Int) ≤ ρ 3 ∧ ρ 3 ≤ 1200 := hf_rg hT (hH _ (List.mem_of_getElem? (i := 0) rfl)) ev_v g0 rfl rfl rfl ev_v
  have h1 : (0 : Int) ≤ ρ 4 ∧ ρ 4 ≤ 1200 := hf_rg hT (hH _ (List.mem_of_getElem? (i := 1) rfl)) ev_v g0 rfl rfl rfl ev_v
  have b0 : (0 : Int) ≤ ((0) + ((1) * ρ 2 + ((1) * ρ 4 + 0))) := b_aA (hA _ (List.mem_of_getElem? (i := 0) rfl))
  have a0 : vw C h 100 ((ρ 2 + ρ 4).toNat) = ρ 6 := vw_aA hU (hA _ (List.mem_of_getElem? (i := 0) rfl)) ev_v g1 (by omega) (by omega) (i := (ρ 2 + ρ 4).toNat) (show ((((ρ 2 + ρ 4).toNat : Nat)) : Int) = ((0) + ((1) * ρ 2 + ((1) * ρ 4 + 0))) by omega) ev_v
  have p0 : q182 (ρ 1) (ρ 7) := c2 (P := q182) (show q182 (((0) + ((1) * ρ 1 + 0))) (((0) + ((1) * ρ 7 + 0))) from hP _ (List.mem_of_getElem? (i := 0) rfl)) (by omega) (by omega)
  have p1 : q177 (64 * ρ 1 + ρ 2) (ρ 8) := c2 (P := q177) (show q177 (((0) + ((64) * ρ 1 + ((1) * ρ 2 + 0)))) (((0) + ((1) * ρ 8 + 0))) from hP _ (List.mem_of_getElem? (i := 1) rfl)) (by omega) (by omega)
  have kl := k182 p0 (w := ρ 1) (by omega)
  have k8 := wd_len (ρ 1).toNat (by omega)
  have kc := k177 (w := ρ 1) (j := ρ 2) (by omega) (by omega) (by omega) (by omega) p1
  have kr := wd_let (ρ 1).toNat (by omega) (ρ 2).toNat (by omega)
  have hb := by_C hU hT (j := ρ 4 + ρ 2) (b := ρ 6) (by omega) (by omega) (by have q := a0; rwa [show (ρ 2 + ρ 4).toNat = (ρ 4 + ρ 2).toNat by omega] at q)
  have hb1 := hb.1
  have hb2 := hb.2.1
  have hb3 : ρ 6 % 256 = (tB (vw C h)) ((ρ 4).toNat + (ρ 2).toNat) := by rw [← show (ρ 4 + ρ 2).toNat = (ρ 4).toNat + (ρ 2).toNat by omega]; exact hb.2.2
  refine ⟨_, List.mem_cons_self, ρ, fun _ _ => rfl, fun q hq => absurd hq List.not_mem_nil, trivial, fun f hf => ?_, fun q hq => absurd hq List.not_mem_nil, fun q hq => absurd hq List.not_mem_nil, fun q hq => absurd hq List.not_mem_nil, fun q hq => ?_⟩
  · exact absurd hf List.not_mem_nil
  · simp only [List.mem_cons, List.not_mem_nil, or_false] at hq
    subst hq
    show q159 (tB (vw C h)) (((0) + ((4194304) * ρ 1 + ((1) * ρ 3 + ((2048) * ρ 4 + 0))))) (((0) + 0))
    refine c2 (P := q159 (tB (vw C h))) (r := 4194304 * ρ 1 + ρ 3 + 2048 * ρ 4) (c := (0 : Int)) ?_ (by omega) (by omega)
    show q159 (tB (vw C h)) (4194304 * ρ 1 + ρ 3 + 2048 * ρ 4) ((0 : Int))
    exact o159 (n := ρ 3) (s := ρ 4) (w := ρ 1) (by omega) (by omega) (by omega) (by omega) (by omega) (by omega) (by have q := wd_eno (B := (tB (vw C h))) (n := (ρ 3).toNat) (s := (ρ 4).toNat) (w := (ρ 1).toNat) (j := (ρ 2).toNat) (by omega) (by omega); omega)
/-- mtHiC -/
theorem lem_241_ok (hU : uqG G C) : lem_241.1.2.1 = [] ∧ lemOK (PRd G C D xs) G rgs lem_241 := by
  refine ⟨rfl, fun ρ h ha hT => ?_⟩
  obtain ⟨-, -, hF, hG, hH, hA, hP⟩ := ha
  have f0 : (0 : Int) ≤ ((0) + ((1) * ρ 3 + 0)) := hF _ (List.mem_of_getElem? (i := 0) rfl)
  have f1 : (0 : Int) ≤ ((1200) + ((-1) * ρ 3 + 0)) := hF _ (List.mem_of_getElem? (i := 1) rfl)
  have f2 : (0 : Int) ≤ ((0) + ((1) * ρ 4 + 0)) := hF _ (List.mem_of_getElem? (i := 2) rfl)
  have f3 : (0 : Int) ≤ ((-1) + ((-1) * ρ 2 + ((1) * ρ 3 + ((-1) * ρ 4 + 0)))) := hF _ (List.mem_of_getElem? (i := 3) rfl)
  have f4 : (0 : Int) ≤ ((0) + ((1) * ρ 2 + 0)) := hF _ (List.mem_of_getElem? (i := 4) rfl)
  have f5 : (0 : Int) ≤ ((0) + ((1) * ρ 1 + 0)) := hF _ (List.mem_of_getElem? (i := 5) rfl)
  have f6 : (0 : Int) ≤ ((20) + ((-1) * ρ 1 + 0)) := hF _ (List.mem_of_getElem? (i := 6) rfl)
  have f7 : (0 : Int) ≤ ((-1) + ((-1) * ρ 2 + ((1) * ρ 7 + 0))) := hF _ (List.mem_of_getElem? (i := 7) rfl)
  have f8 : (0 : Int) ≤ ((-1) + ((1) * ρ 6 + ((-1) * ρ 8 + 0))) := hF _ (List.mem_of_getElem? (i := 8) rfl)
  have f9 : (0 : Int) ≤ ((0) + ((1) * ρ 8 + 0)) := hF _ (List.mem_of_getElem? (i := 9) rfl)
  have f10 : (0 : Int) ≤ ((127) + ((-1) * ρ 8 + 0)) := hF _ (List.mem_of_getElem? (i := 10) rfl)
  have g0 : G (ρ 0).toNat = 17 := by
    have q := (hG _ (List.mem_of_getElem? (i := 0) rfl)).2
    rwa [show ev ρ (0, [(0, 1)]) = ρ 0 from ev_v] at q
  have g1 : G (ρ 5).toNat = 100 := by
    have q := (hG _ (List.mem_of_getElem? (i := 1) rfl)).2
    rwa [show ev ρ (0, [(5, 1)]) = ρ 5 from ev_v] at q
  have h0 : (0 : Int) ≤ ρ 3 ∧ ρ 3 ≤ 1200 := hf_rg hT (hH _ (List.mem_of_getElem? (i := 0) rfl)) ev_v g0 rfl rfl rfl ev_v
  have h1 : (0 : Int) ≤ ρ 4 ∧ ρ 4 ≤ 1200 := hf_rg hT (hH _ (List.mem_of_getElem? (i := 1) rfl)) ev_v g0 rfl rfl rfl ev_v
  have b0 : (0 : Int) ≤ ((0) + ((1) * ρ 2 + ((1) * ρ 4 + 0))) := b_aA (hA _ (List.mem_of_getElem? (i := 0) rfl))
  have a0 : vw C h 100 ((ρ 2 + ρ 4).toNat) = ρ 6 := vw_aA hU (hA _ (List.mem_of_getElem? (i := 0) rfl)) ev_v g1 (by omega) (by omega) (i := (ρ 2 + ρ 4).toNat) (show ((((ρ 2 + ρ 4).toNat : Nat)) : Int) = ((0) + ((1) * ρ 2 + ((1) * ρ 4 + 0))) by omega) ev_v
  have p0 : q182 (ρ 1) (ρ 7) := c2 (P := q182) (show q182 (((0) + ((1) * ρ 1 + 0))) (((0) + ((1) * ρ 7 + 0))) from hP _ (List.mem_of_getElem? (i := 0) rfl)) (by omega) (by omega)
  have p1 : q177 (64 * ρ 1 + ρ 2) (ρ 8) := c2 (P := q177) (show q177 (((0) + ((64) * ρ 1 + ((1) * ρ 2 + 0)))) (((0) + ((1) * ρ 8 + 0))) from hP _ (List.mem_of_getElem? (i := 1) rfl)) (by omega) (by omega)
  have kl := k182 p0 (w := ρ 1) (by omega)
  have k8 := wd_len (ρ 1).toNat (by omega)
  have kc := k177 (w := ρ 1) (j := ρ 2) (by omega) (by omega) (by omega) (by omega) p1
  have kr := wd_let (ρ 1).toNat (by omega) (ρ 2).toNat (by omega)
  have hb := by_C hU hT (j := ρ 4 + ρ 2) (b := ρ 6) (by omega) (by omega) (by have q := a0; rwa [show (ρ 2 + ρ 4).toNat = (ρ 4 + ρ 2).toNat by omega] at q)
  have hb1 := hb.1
  have hb2 := hb.2.1
  have hb3 : ρ 6 % 256 = (tB (vw C h)) ((ρ 4).toNat + (ρ 2).toNat) := by rw [← show (ρ 4 + ρ 2).toNat = (ρ 4).toNat + (ρ 2).toNat by omega]; exact hb.2.2
  refine ⟨_, List.mem_cons_self, ρ, fun _ _ => rfl, fun q hq => absurd hq List.not_mem_nil, trivial, fun f hf => ?_, fun q hq => absurd hq List.not_mem_nil, fun q hq => absurd hq List.not_mem_nil, fun q hq => absurd hq List.not_mem_nil, fun q hq => ?_⟩
  · exact absurd hf List.not_mem_nil
  · simp only [List.mem_cons, List.not_mem_nil, or_false] at hq
    subst hq
    show q159 (tB (vw C h)) (((0) + ((4194304) * ρ 1 + ((1) * ρ 3 + ((2048) * ρ 4 + 0))))) (((0) + 0))
    refine c2 (P := q159 (tB (vw C h))) (r := 4194304 * ρ 1 + ρ 3 + 2048 * ρ 4) (c := (0 : Int)) ?_ (by omega) (by omega)
    show q159 (tB (vw C h)) (4194304 * ρ 1 + ρ 3 + 2048 * ρ 4) ((0 : Int))
    exact o159 (n := ρ 3) (s := ρ 4) (w := ρ 1) (by omega) (by omega) (by omega) (by omega) (by omega) (by omega) (by have q := wd_eno (B := (tB (vw C h))) (n := (ρ 3).toNat) (s := (ρ 4).toNat) (w := (ρ 1).toNat) (j := (ρ 2).toNat) (by omega) (by omega); omega)
/-- skNewM -/
theorem lem_242_ok (hU : uqG G C) : lem_242.1.2.1 = [] ∧ lemOK (PRd G C D xs) G rgs lem_242 := by
  refine ⟨rfl, fun ρ h ha hT => ?_⟩
  obtain ⟨-, -, hF, hG, hH, hA, hP⟩ := ha
  have f0 : (0 : Int) ≤ ((0) + ((1) * ρ 1 + 0)) := hF _ (List.mem_of_getElem? (i := 0) rfl)
  have f1 : (0 : Int) ≤ ((1200) + ((-1) * ρ 1 + 0)) := hF _ (List.mem_of_getElem? (i := 1) rfl)
  have f2 : (0 : Int) ≤ ((0) + ((1) * ρ 2 + 0)) := hF _ (List.mem_of_getElem? (i := 2) rfl)
  have f3 : (0 : Int) ≤ ((0) + ((1) * ρ 1 + ((-1) * ρ 2 + 0))) := hF _ (List.mem_of_getElem? (i := 3) rfl)
  have g0 : G (ρ 0).toNat = 22 := by
    have q := (hG _ (List.mem_of_getElem? (i := 0) rfl)).2
    rwa [show ev ρ (0, [(0, 1)]) = ρ 0 from ev_v] at q
  have h0 : (0 : Int) ≤ ρ 1 ∧ ρ 1 ≤ 1200 := hf_rg hT (hH _ (List.mem_of_getElem? (i := 0) rfl)) ev_v g0 rfl rfl rfl ev_v
  have h1 : (0 : Int) ≤ ρ 2 ∧ ρ 2 ≤ 1200 := hf_rg hT (hH _ (List.mem_of_getElem? (i := 1) rfl)) ev_v g0 rfl rfl rfl ev_v
  have p0 : q156 (tB (vw C h)) (ρ 1 + 2048 * ρ 2) (ρ 3) := c2 (P := q156 (tB (vw C h))) (show q156 (tB (vw C h)) (((0) + ((1) * ρ 1 + ((2048) * ρ 2 + 0)))) (((0) + ((1) * ρ 3 + 0))) from hP _ (List.mem_of_getElem? (i := 0) rfl)) (by omega) (by omega)
  obtain ⟨q1, q2, q3, q4⟩ := sk_new (n := ρ 1) (i := ρ 2) (e := ((tRn isBl (tB (vw C h)) (ρ 1).toNat (ρ 2).toNat : Nat) : Int)) (r3 := ρ 1 + 2048 * ((tRn isBl (tB (vw C h)) (ρ 1).toNat (ρ 2).toNat : Nat) : Int)) (by omega) (by omega) (by omega) (by omega) (by omega) rfl rfl p0
  obtain ⟨σ, r1, r2a⟩ : ∃ σ : Va, (∀ i, i < 4 → σ i = ρ i) ∧ σ 4 = ((tRn isBl (tB (vw C h)) (ρ 1).toNat (ρ 2).toNat : Nat) : Int) := ⟨fun i => if i = 4 then ((tRn isBl (tB (vw C h)) (ρ 1).toNat (ρ 2).toNat : Nat) : Int) else ρ i, fun i hi => by dsimp only; rw [if_neg (by omega)], by dsimp only; rw [if_pos rfl]⟩
  have s0 := r1 0 (by omega)
  have s1 := r1 1 (by omega)
  have s2 := r1 2 (by omega)
  have s3 := r1 3 (by omega)
  refine ⟨_, List.mem_cons_self, σ, r1, fun q hq => absurd hq List.not_mem_nil, trivial, fun f hf => ?_, fun q hq => absurd hq List.not_mem_nil, fun q hq => absurd hq List.not_mem_nil, fun q hq => absurd hq List.not_mem_nil, fun q hq => ?_⟩
  · simp only [List.mem_cons, List.not_mem_nil, or_false] at hf
    rcases hf with rfl | rfl
    · show (0 : Int) ≤ ((0) + ((-1) * σ 2 + ((1) * σ 4 + 0)))
      omega
    · show (0 : Int) ≤ ((0) + ((1) * σ 1 + ((-1) * σ 4 + 0)))
      omega
  · simp only [List.mem_cons, List.not_mem_nil, or_false] at hq
    rcases hq with rfl | rfl
    · show qRn isBl (tB (vw C h)) (((0) + ((1) * σ 1 + ((2048) * σ 2 + 0)))) (((0) + ((1) * σ 4 + 0)))
      refine c2 (P := qRn isBl (tB (vw C h))) (r := ρ 1 + 2048 * ρ 2) (c := ((tRn isBl (tB (vw C h)) (ρ 1).toNat (ρ 2).toNat : Nat) : Int)) ?_ (by omega) (by omega)
      show qRn isBl (tB (vw C h)) (ρ 1 + 2048 * ρ 2) (((tRn isBl (tB (vw C h)) (ρ 1).toNat (ρ 2).toNat : Nat) : Int))
      exact c2 (P := qRn isBl (tB (vw C h))) q3 (by omega) (by omega)
    · show q158 (tB (vw C h)) (((0) + ((1) * σ 1 + ((2048) * σ 4 + 0)))) (((0) + ((1) * σ 3 + 0)))
      refine c2 (P := q158 (tB (vw C h))) (r := ρ 1 + 2048 * ((tRn isBl (tB (vw C h)) (ρ 1).toNat (ρ 2).toNat : Nat) : Int)) (c := ρ 3) ?_ (by omega) (by omega)
      show q158 (tB (vw C h)) (ρ 1 + 2048 * ((tRn isBl (tB (vw C h)) (ρ 1).toNat (ρ 2).toNat : Nat) : Int)) (ρ 3)
      exact c2 (P := q158 (tB (vw C h))) q4 (by omega) (by omega)
/-- skStepM -/
theorem lem_243_ok (hU : uqG G C) : lem_243.1.2.1 = [] ∧ lemOK (PRd G C D xs) G rgs lem_243 := by
  refine ⟨rfl, fun ρ h ha hT => ?_⟩
  obtain ⟨-, -, hF, hG, hH, hA, hP⟩ := ha
  have f0 : (0 : Int) ≤ ((0) + ((1) * ρ 1 + 0)) := hF _ (List.mem_of_getElem? (i := 0) rfl)
  have f1 : (0 : Int) ≤ ((1200) + ((-1) * ρ 1 + 0)) := hF _ (List.mem_of_getElem? (i := 1) rfl)
  have f2 : (0 : Int) ≤ ((0) + ((1) * ρ 2 + 0)) := hF _ (List.mem_of_getElem? (i := 2) rfl)
  have f3 : (0 : Int) ≤ ((-1) + ((1) * ρ 1 + ((-1) * ρ 2 + 0))) := hF _ (List.mem_of_getElem? (i := 3) rfl)
  have f4 : (0 : Int) ≤ ((-32) + ((1) * ρ 3 + 0)) := hF _ (List.mem_of_getElem? (i := 4) rfl)
  have f5 : (0 : Int) ≤ ((32) + ((-1) * ρ 3 + 0)) := hF _ (List.mem_of_getElem? (i := 5) rfl)
  have g0 : G (ρ 0).toNat = 22 := by
    have q := (hG _ (List.mem_of_getElem? (i := 0) rfl)).2
    rwa [show ev ρ (0, [(0, 1)]) = ρ 0 from ev_v] at q
  have h0 : (0 : Int) ≤ ρ 1 ∧ ρ 1 ≤ 1200 := hf_rg hT (hH _ (List.mem_of_getElem? (i := 0) rfl)) ev_v g0 rfl rfl rfl ev_v
  have h1 : (0 : Int) ≤ ρ 2 ∧ ρ 2 ≤ 1200 := hf_rg hT (hH _ (List.mem_of_getElem? (i := 1) rfl)) ev_v g0 rfl rfl rfl ev_v
  have p0 : q150 (tB (vw C h)) (ρ 2) (ρ 3) := c2 (P := q150 (tB (vw C h))) (show q150 (tB (vw C h)) (((0) + ((1) * ρ 2 + 0))) (((0) + ((1) * ρ 3 + 0))) from hP _ (List.mem_of_getElem? (i := 0) rfl)) (by omega) (by omega)
  have p1 : qRn isBl (tB (vw C h)) (ρ 1 + 2048 * ρ 2) (ρ 4) := c2 (P := qRn isBl (tB (vw C h))) (show qRn isBl (tB (vw C h)) (((0) + ((1) * ρ 1 + ((2048) * ρ 2 + 0)))) (((0) + ((1) * ρ 4 + 0))) from hP _ (List.mem_of_getElem? (i := 1) rfl)) (by omega) (by omega)
  have hb : q150 (tB (vw C h)) (ρ 2) (ρ 3) := p0
  obtain ⟨q1, q2⟩ := rn_step p_bl (n := ρ 1) (i := ρ 2) (r2 := ρ 1 + 2048 * (ρ 2 + 1)) (by omega) rfl (by omega) (by omega) (by omega) (by omega) (bl_y hb (by omega) (by omega)) p1
  refine ⟨_, List.mem_cons_self, ρ, fun _ _ => rfl, fun q hq => absurd hq List.not_mem_nil, trivial, fun f hf => ?_, fun q hq => absurd hq List.not_mem_nil, fun q hq => absurd hq List.not_mem_nil, fun q hq => absurd hq List.not_mem_nil, fun q hq => ?_⟩
  · simp only [List.mem_cons, List.not_mem_nil, or_false] at hf
    subst hf
    show (0 : Int) ≤ ((-1) + ((-1) * ρ 2 + ((1) * ρ 4 + 0)))
    omega
  · simp only [List.mem_cons, List.not_mem_nil, or_false] at hq
    subst hq
    show qRn isBl (tB (vw C h)) (((2048) + ((1) * ρ 1 + ((2048) * ρ 2 + 0)))) (((0) + ((1) * ρ 4 + 0)))
    refine c2 (P := qRn isBl (tB (vw C h))) (r := ρ 1 + 2048 * ρ 2 + 2048) (c := ρ 4) ?_ (by omega) (by omega)
    show qRn isBl (tB (vw C h)) (ρ 1 + 2048 * ρ 2 + 2048) (ρ 4)
    exact c2 (P := qRn isBl (tB (vw C h))) q2 (by omega) (by omega)
/-- skEndM -/
theorem lem_244_ok (hU : uqG G C) : lem_244.1.2.1 = [] ∧ lemOK (PRd G C D xs) G rgs lem_244 := by
  refine ⟨rfl, fun ρ h ha hT => ?_⟩
  obtain ⟨-, -, hF, hG, hH, hA, hP⟩ := ha
  have f0 : (0 : Int) ≤ ((0) + ((1) * ρ 1 + 0)) := hF _ (List.mem_of_getElem? (i := 0) rfl)
  have f1 : (0 : Int) ≤ ((1200) + ((-1) * ρ 1 + 0)) := hF _ (List.mem_of_getElem? (i := 1) rfl)
  have f2 : (0 : Int) ≤ ((0) + ((-1) * ρ 1 + ((1) * ρ 2 + 0))) := hF _ (List.mem_of_getElem? (i := 2) rfl)
  have f3 : (0 : Int) ≤ ((0) + ((1) * ρ 1 + ((-1) * ρ 2 + 0))) := hF _ (List.mem_of_getElem? (i := 3) rfl)
  have g0 : G (ρ 0).toNat = 22 := by
    have q := (hG _ (List.mem_of_getElem? (i := 0) rfl)).2
    rwa [show ev ρ (0, [(0, 1)]) = ρ 0 from ev_v] at q
  have h0 : (0 : Int) ≤ ρ 1 ∧ ρ 1 ≤ 1200 := hf_rg hT (hH _ (List.mem_of_getElem? (i := 0) rfl)) ev_v g0 rfl rfl rfl ev_v
  have h1 : (0 : Int) ≤ ρ 2 ∧ ρ 2 ≤ 1200 := hf_rg hT (hH _ (List.mem_of_getElem? (i := 1) rfl)) ev_v g0 rfl rfl rfl ev_v
  have p0 : qRn isBl (tB (vw C h)) (ρ 1 + 2048 * ρ 2) (ρ 3) := c2 (P := qRn isBl (tB (vw C h))) (show qRn isBl (tB (vw C h)) (((0) + ((1) * ρ 1 + ((2048) * ρ 2 + 0)))) (((0) + ((1) * ρ 3 + 0))) from hP _ (List.mem_of_getElem? (i := 0) rfl)) (by omega) (by omega)
  have q := rn_stop p_bl (n := ρ 1) (i := ρ 2) (by omega) (by omega) (by omega) (by omega) (by omega) (fun hlt => absurd hlt (by omega)) p0
  refine ⟨_, List.mem_cons_self, ρ, fun _ _ => rfl, fun q hq => absurd hq List.not_mem_nil, trivial, fun f hf => ?_, fun q hq => absurd hq List.not_mem_nil, fun q hq => absurd hq List.not_mem_nil, fun q hq => absurd hq List.not_mem_nil, fun q hq => ?_⟩
  · simp only [List.mem_cons, List.not_mem_nil, or_false] at hf
    rcases hf with rfl | rfl
    · show (0 : Int) ≤ ((0) + ((1) * ρ 2 + ((-1) * ρ 3 + 0)))
      omega
    · show (0 : Int) ≤ ((0) + ((-1) * ρ 2 + ((1) * ρ 3 + 0)))
      omega
  · exact absurd hq List.not_mem_nil
/-- skLoM -/
theorem lem_245_ok (hU : uqG G C) : lem_245.1.2.1 = [] ∧ lemOK (PRd G C D xs) G rgs lem_245 := by
  refine ⟨rfl, fun ρ h ha hT => ?_⟩
  obtain ⟨-, -, hF, hG, hH, hA, hP⟩ := ha
  have f0 : (0 : Int) ≤ ((0) + ((1) * ρ 1 + 0)) := hF _ (List.mem_of_getElem? (i := 0) rfl)
  have f1 : (0 : Int) ≤ ((1200) + ((-1) * ρ 1 + 0)) := hF _ (List.mem_of_getElem? (i := 1) rfl)
  have f2 : (0 : Int) ≤ ((0) + ((1) * ρ 2 + 0)) := hF _ (List.mem_of_getElem? (i := 2) rfl)
  have f3 : (0 : Int) ≤ ((-1) + ((1) * ρ 1 + ((-1) * ρ 2 + 0))) := hF _ (List.mem_of_getElem? (i := 3) rfl)
  have f4 : (0 : Int) ≤ ((31) + ((-1) * ρ 3 + 0)) := hF _ (List.mem_of_getElem? (i := 4) rfl)
  have g0 : G (ρ 0).toNat = 22 := by
    have q := (hG _ (List.mem_of_getElem? (i := 0) rfl)).2
    rwa [show ev ρ (0, [(0, 1)]) = ρ 0 from ev_v] at q
  have h0 : (0 : Int) ≤ ρ 1 ∧ ρ 1 ≤ 1200 := hf_rg hT (hH _ (List.mem_of_getElem? (i := 0) rfl)) ev_v g0 rfl rfl rfl ev_v
  have h1 : (0 : Int) ≤ ρ 2 ∧ ρ 2 ≤ 1200 := hf_rg hT (hH _ (List.mem_of_getElem? (i := 1) rfl)) ev_v g0 rfl rfl rfl ev_v
  have p0 : q150 (tB (vw C h)) (ρ 2) (ρ 3) := c2 (P := q150 (tB (vw C h))) (show q150 (tB (vw C h)) (((0) + ((1) * ρ 2 + 0))) (((0) + ((1) * ρ 3 + 0))) from hP _ (List.mem_of_getElem? (i := 0) rfl)) (by omega) (by omega)
  have p1 : qRn isBl (tB (vw C h)) (ρ 1 + 2048 * ρ 2) (ρ 4) := c2 (P := qRn isBl (tB (vw C h))) (show qRn isBl (tB (vw C h)) (((0) + ((1) * ρ 1 + ((2048) * ρ 2 + 0)))) (((0) + ((1) * ρ 4 + 0))) from hP _ (List.mem_of_getElem? (i := 1) rfl)) (by omega) (by omega)
  have hb : q150 (tB (vw C h)) (ρ 2) (ρ 3) := p0
  have q := rn_stop p_bl (n := ρ 1) (i := ρ 2) (by omega) (by omega) (by omega) (by omega) (by omega) (fun _ => bl_n hb (Or.inl (by omega))) p1
  refine ⟨_, List.mem_cons_self, ρ, fun _ _ => rfl, fun q hq => absurd hq List.not_mem_nil, trivial, fun f hf => ?_, fun q hq => absurd hq List.not_mem_nil, fun q hq => absurd hq List.not_mem_nil, fun q hq => absurd hq List.not_mem_nil, fun q hq => ?_⟩
  · simp only [List.mem_cons, List.not_mem_nil, or_false] at hf
    rcases hf with rfl | rfl
    · show (0 : Int) ≤ ((0) + ((1) * ρ 2 + ((-1) * ρ 4 + 0)))
      omega
    · show (0 : Int) ≤ ((0) + ((-1) * ρ 2 + ((1) * ρ 4 + 0)))
      omega
  · exact absurd hq List.not_mem_nil
/-- skHiM -/
theorem lem_246_ok (hU : uqG G C) : lem_246.1.2.1 = [] ∧ lemOK (PRd G C D xs) G rgs lem_246 := by
  refine ⟨rfl, fun ρ h ha hT => ?_⟩
  obtain ⟨-, -, hF, hG, hH, hA, hP⟩ := ha
  have f0 : (0 : Int) ≤ ((0) + ((1) * ρ 1 + 0)) := hF _ (List.mem_of_getElem? (i := 0) rfl)
  have f1 : (0 : Int) ≤ ((1200) + ((-1) * ρ 1 + 0)) := hF _ (List.mem_of_getElem? (i := 1) rfl)
  have f2 : (0 : Int) ≤ ((0) + ((1) * ρ 2 + 0)) := hF _ (List.mem_of_getElem? (i := 2) rfl)
  have f3 : (0 : Int) ≤ ((-1) + ((1) * ρ 1 + ((-1) * ρ 2 + 0))) := hF _ (List.mem_of_getElem? (i := 3) rfl)
  have f4 : (0 : Int) ≤ ((-33) + ((1) * ρ 3 + 0)) := hF _ (List.mem_of_getElem? (i := 4) rfl)
  have g0 : G (ρ 0).toNat = 22 := by
    have q := (hG _ (List.mem_of_getElem? (i := 0) rfl)).2
    rwa [show ev ρ (0, [(0, 1)]) = ρ 0 from ev_v] at q
  have h0 : (0 : Int) ≤ ρ 1 ∧ ρ 1 ≤ 1200 := hf_rg hT (hH _ (List.mem_of_getElem? (i := 0) rfl)) ev_v g0 rfl rfl rfl ev_v
  have h1 : (0 : Int) ≤ ρ 2 ∧ ρ 2 ≤ 1200 := hf_rg hT (hH _ (List.mem_of_getElem? (i := 1) rfl)) ev_v g0 rfl rfl rfl ev_v
  have p0 : q150 (tB (vw C h)) (ρ 2) (ρ 3) := c2 (P := q150 (tB (vw C h))) (show q150 (tB (vw C h)) (((0) + ((1) * ρ 2 + 0))) (((0) + ((1) * ρ 3 + 0))) from hP _ (List.mem_of_getElem? (i := 0) rfl)) (by omega) (by omega)
  have p1 : qRn isBl (tB (vw C h)) (ρ 1 + 2048 * ρ 2) (ρ 4) := c2 (P := qRn isBl (tB (vw C h))) (show qRn isBl (tB (vw C h)) (((0) + ((1) * ρ 1 + ((2048) * ρ 2 + 0)))) (((0) + ((1) * ρ 4 + 0))) from hP _ (List.mem_of_getElem? (i := 1) rfl)) (by omega) (by omega)
  have hb : q150 (tB (vw C h)) (ρ 2) (ρ 3) := p0
  have q := rn_stop p_bl (n := ρ 1) (i := ρ 2) (by omega) (by omega) (by omega) (by omega) (by omega) (fun _ => bl_n hb (Or.inr (by omega))) p1
  refine ⟨_, List.mem_cons_self, ρ, fun _ _ => rfl, fun q hq => absurd hq List.not_mem_nil, trivial, fun f hf => ?_, fun q hq => absurd hq List.not_mem_nil, fun q hq => absurd hq List.not_mem_nil, fun q hq => absurd hq List.not_mem_nil, fun q hq => ?_⟩
  · simp only [List.mem_cons, List.not_mem_nil, or_false] at hf
    rcases hf with rfl | rfl
    · show (0 : Int) ≤ ((0) + ((1) * ρ 2 + ((-1) * ρ 4 + 0)))
      omega
    · show (0 : Int) ≤ ((0) + ((-1) * ρ 2 + ((1) * ρ 4 + 0)))
      omega
  · exact absurd hq List.not_mem_nil
/-- ltStepM -/
theorem lem_247_ok (hU : uqG G C) : lem_247.1.2.1 = [] ∧ lemOK (PRd G C D xs) G rgs lem_247 := by
  refine ⟨rfl, fun ρ h ha hT => ?_⟩
  obtain ⟨-, -, hF, hG, hH, hA, hP⟩ := ha
  have f0 : (0 : Int) ≤ ((0) + ((1) * ρ 1 + 0)) := hF _ (List.mem_of_getElem? (i := 0) rfl)
  have f1 : (0 : Int) ≤ ((1200) + ((-1) * ρ 1 + 0)) := hF _ (List.mem_of_getElem? (i := 1) rfl)
  have f2 : (0 : Int) ≤ ((0) + ((1) * ρ 2 + 0)) := hF _ (List.mem_of_getElem? (i := 2) rfl)
  have f3 : (0 : Int) ≤ ((-1) + ((1) * ρ 1 + ((-1) * ρ 2 + 0))) := hF _ (List.mem_of_getElem? (i := 3) rfl)
  have f4 : (0 : Int) ≤ ((-97) + ((1) * ρ 3 + 0)) := hF _ (List.mem_of_getElem? (i := 4) rfl)
  have f5 : (0 : Int) ≤ ((122) + ((-1) * ρ 3 + 0)) := hF _ (List.mem_of_getElem? (i := 5) rfl)
  have g0 : G (ρ 0).toNat = 22 := by
    have q := (hG _ (List.mem_of_getElem? (i := 0) rfl)).2
    rwa [show ev ρ (0, [(0, 1)]) = ρ 0 from ev_v] at q
  have h0 : (0 : Int) ≤ ρ 1 ∧ ρ 1 ≤ 1200 := hf_rg hT (hH _ (List.mem_of_getElem? (i := 0) rfl)) ev_v g0 rfl rfl rfl ev_v
  have h1 : (0 : Int) ≤ ρ 2 ∧ ρ 2 ≤ 1200 := hf_rg hT (hH _ (List.mem_of_getElem? (i := 1) rfl)) ev_v g0 rfl rfl rfl ev_v
  have p0 : q150 (tB (vw C h)) (ρ 2) (ρ 3) := c2 (P := q150 (tB (vw C h))) (show q150 (tB (vw C h)) (((0) + ((1) * ρ 2 + 0))) (((0) + ((1) * ρ 3 + 0))) from hP _ (List.mem_of_getElem? (i := 0) rfl)) (by omega) (by omega)
  have p1 : qRn isLt (tB (vw C h)) (ρ 1 + 2048 * ρ 2) (ρ 4) := c2 (P := qRn isLt (tB (vw C h))) (show qRn isLt (tB (vw C h)) (((0) + ((1) * ρ 1 + ((2048) * ρ 2 + 0)))) (((0) + ((1) * ρ 4 + 0))) from hP _ (List.mem_of_getElem? (i := 1) rfl)) (by omega) (by omega)
  have hb : q150 (tB (vw C h)) (ρ 2) (ρ 3) := p0
  obtain ⟨q1, q2⟩ := rn_step p_lt (n := ρ 1) (i := ρ 2) (r2 := ρ 1 + 2048 * (ρ 2 + 1)) (by omega) rfl (by omega) (by omega) (by omega) (by omega) (lt_y hb (by omega) (by omega)) p1
  refine ⟨_, List.mem_cons_self, ρ, fun _ _ => rfl, fun q hq => absurd hq List.not_mem_nil, trivial, fun f hf => ?_, fun q hq => absurd hq List.not_mem_nil, fun q hq => absurd hq List.not_mem_nil, fun q hq => absurd hq List.not_mem_nil, fun q hq => ?_⟩
  · simp only [List.mem_cons, List.not_mem_nil, or_false] at hf
    subst hf
    show (0 : Int) ≤ ((-1) + ((-1) * ρ 2 + ((1) * ρ 4 + 0)))
    omega
  · simp only [List.mem_cons, List.not_mem_nil, or_false] at hq
    subst hq
    show qRn isLt (tB (vw C h)) (((2048) + ((1) * ρ 1 + ((2048) * ρ 2 + 0)))) (((0) + ((1) * ρ 4 + 0)))
    refine c2 (P := qRn isLt (tB (vw C h))) (r := ρ 1 + 2048 * ρ 2 + 2048) (c := ρ 4) ?_ (by omega) (by omega)
    show qRn isLt (tB (vw C h)) (ρ 1 + 2048 * ρ 2 + 2048) (ρ 4)
    exact c2 (P := qRn isLt (tB (vw C h))) q2 (by omega) (by omega)
/-- ltEndM -/
theorem lem_248_ok (hU : uqG G C) : lem_248.1.2.1 = [] ∧ lemOK (PRd G C D xs) G rgs lem_248 := by
  refine ⟨rfl, fun ρ h ha hT => ?_⟩
  obtain ⟨-, -, hF, hG, hH, hA, hP⟩ := ha
  have f0 : (0 : Int) ≤ ((0) + ((1) * ρ 1 + 0)) := hF _ (List.mem_of_getElem? (i := 0) rfl)
  have f1 : (0 : Int) ≤ ((1200) + ((-1) * ρ 1 + 0)) := hF _ (List.mem_of_getElem? (i := 1) rfl)
  have f2 : (0 : Int) ≤ ((0) + ((-1) * ρ 1 + ((1) * ρ 2 + 0))) := hF _ (List.mem_of_getElem? (i := 2) rfl)
  have f3 : (0 : Int) ≤ ((0) + ((1) * ρ 1 + ((-1) * ρ 2 + 0))) := hF _ (List.mem_of_getElem? (i := 3) rfl)
  have g0 : G (ρ 0).toNat = 22 := by
    have q := (hG _ (List.mem_of_getElem? (i := 0) rfl)).2
    rwa [show ev ρ (0, [(0, 1)]) = ρ 0 from ev_v] at q
  have h0 : (0 : Int) ≤ ρ 1 ∧ ρ 1 ≤ 1200 := hf_rg hT (hH _ (List.mem_of_getElem? (i := 0) rfl)) ev_v g0 rfl rfl rfl ev_v
  have h1 : (0 : Int) ≤ ρ 2 ∧ ρ 2 ≤ 1200 := hf_rg hT (hH _ (List.mem_of_getElem? (i := 1) rfl)) ev_v g0 rfl rfl rfl ev_v
  have p0 : qRn isLt (tB (vw C h)) (ρ 1 + 2048 * ρ 2) (ρ 3) := c2 (P := qRn isLt (tB (vw C h))) (show qRn isLt (tB (vw C h)) (((0) + ((1) * ρ 1 + ((2048) * ρ 2 + 0)))) (((0) + ((1) * ρ 3 + 0))) from hP _ (List.mem_of_getElem? (i := 0) rfl)) (by omega) (by omega)
  have q := rn_stop p_lt (n := ρ 1) (i := ρ 2) (by omega) (by omega) (by omega) (by omega) (by omega) (fun hlt => absurd hlt (by omega)) p0
  refine ⟨_, List.mem_cons_self, ρ, fun _ _ => rfl, fun q hq => absurd hq List.not_mem_nil, trivial, fun f hf => ?_, fun q hq => absurd hq List.not_mem_nil, fun q hq => absurd hq List.not_mem_nil, fun q hq => absurd hq List.not_mem_nil, fun q hq => ?_⟩
  · simp only [List.mem_cons, List.not_mem_nil, or_false] at hf
    rcases hf with rfl | rfl
    · show (0 : Int) ≤ ((0) + ((1) * ρ 2 + ((-1) * ρ 3 + 0)))
      omega
    · show (0 : Int) ≤ ((0) + ((-1) * ρ 2 + ((1) * ρ 3 + 0)))
      omega
  · exact absurd hq List.not_mem_nil
/-- ltLoM -/
theorem lem_249_ok (hU : uqG G C) : lem_249.1.2.1 = [] ∧ lemOK (PRd G C D xs) G rgs lem_249 := by
  refine ⟨rfl, fun ρ h ha hT => ?_⟩
  obtain ⟨-, -, hF, hG, hH, hA, hP⟩ := ha
  have f0 : (0 : Int) ≤ ((0) + ((1) * ρ 1 + 0)) := hF _ (List.mem_of_getElem? (i := 0) rfl)
  have f1 : (0 : Int) ≤ ((1200) + ((-1) * ρ 1 + 0)) := hF _ (List.mem_of_getElem? (i := 1) rfl)
  have f2 : (0 : Int) ≤ ((0) + ((1) * ρ 2 + 0)) := hF _ (List.mem_of_getElem? (i := 2) rfl)
  have f3 : (0 : Int) ≤ ((-1) + ((1) * ρ 1 + ((-1) * ρ 2 + 0))) := hF _ (List.mem_of_getElem? (i := 3) rfl)
  have f4 : (0 : Int) ≤ ((96) + ((-1) * ρ 3 + 0)) := hF _ (List.mem_of_getElem? (i := 4) rfl)
  have g0 : G (ρ 0).toNat = 22 := by
    have q := (hG _ (List.mem_of_getElem? (i := 0) rfl)).2
    rwa [show ev ρ (0, [(0, 1)]) = ρ 0 from ev_v] at q
  have h0 : (0 : Int) ≤ ρ 1 ∧ ρ 1 ≤ 1200 := hf_rg hT (hH _ (List.mem_of_getElem? (i := 0) rfl)) ev_v g0 rfl rfl rfl ev_v
  have h1 : (0 : Int) ≤ ρ 2 ∧ ρ 2 ≤ 1200 := hf_rg hT (hH _ (List.mem_of_getElem? (i := 1) rfl)) ev_v g0 rfl rfl rfl ev_v
  have p0 : q150 (tB (vw C h)) (ρ 2) (ρ 3) := c2 (P := q150 (tB (vw C h))) (show q150 (tB (vw C h)) (((0) + ((1) * ρ 2 + 0))) (((0) + ((1) * ρ 3 + 0))) from hP _ (List.mem_of_getElem? (i := 0) rfl)) (by omega) (by omega)
  have p1 : qRn isLt (tB (vw C h)) (ρ 1 + 2048 * ρ 2) (ρ 4) := c2 (P := qRn isLt (tB (vw C h))) (show qRn isLt (tB (vw C h)) (((0) + ((1) * ρ 1 + ((2048) * ρ 2 + 0)))) (((0) + ((1) * ρ 4 + 0))) from hP _ (List.mem_of_getElem? (i := 1) rfl)) (by omega) (by omega)
  have hb : q150 (tB (vw C h)) (ρ 2) (ρ 3) := p0
  have q := rn_stop p_lt (n := ρ 1) (i := ρ 2) (by omega) (by omega) (by omega) (by omega) (by omega) (fun _ => lt_n hb (Or.inl (by omega))) p1
  refine ⟨_, List.mem_cons_self, ρ, fun _ _ => rfl, fun q hq => absurd hq List.not_mem_nil, trivial, fun f hf => ?_, fun q hq => absurd hq List.not_mem_nil, fun q hq => absurd hq List.not_mem_nil, fun q hq => absurd hq List.not_mem_nil, fun q hq => ?_⟩
  · simp only [List.mem_cons, List.not_mem_nil, or_false] at hf
    rcases hf with rfl | rfl
    · show (0 : Int) ≤ ((0) + ((1) * ρ 2 + ((-1) * ρ 4 + 0)))
      omega
    · show (0 : Int) ≤ ((0) + ((-1) * ρ 2 + ((1) * ρ 4 + 0)))
      omega
  · exact absurd hq List.not_mem_nil
/-- ltHiM -/
theorem lem_250_ok (hU : uqG G C) : lem_250.1.2.1 = [] ∧ lemOK (PRd G C D xs) G rgs lem_250 := by
  refine ⟨rfl, fun ρ h ha hT => ?_⟩
  obtain ⟨-, -, hF, hG, hH, hA, hP⟩ := ha
  have f0 : (0 : Int) ≤ ((0) + ((1) * ρ 1 + 0)) := hF _ (List.mem_of_getElem? (i := 0) rfl)
  have f1 : (0 : Int) ≤ ((1200) + ((-1) * ρ 1 + 0)) := hF _ (List.mem_of_getElem? (i := 1) rfl)
  have f2 : (0 : Int) ≤ ((0) + ((1) * ρ 2 + 0)) := hF _ (List.mem_of_getElem? (i := 2) rfl)
  have f3 : (0 : Int) ≤ ((-1) + ((1) * ρ 1 + ((-1) * ρ 2 + 0))) := hF _ (List.mem_of_getElem? (i := 3) rfl)
  have f4 : (0 : Int) ≤ ((-123) + ((1) * ρ 3 + 0)) := hF _ (List.mem_of_getElem? (i := 4) rfl)
  have g0 : G (ρ 0).toNat = 22 := by
    have q := (hG _ (List.mem_of_getElem? (i := 0) rfl)).2
    rwa [show ev ρ (0, [(0, 1)]) = ρ 0 from ev_v] at q
  have h0 : (0 : Int) ≤ ρ 1 ∧ ρ 1 ≤ 1200 := hf_rg hT (hH _ (List.mem_of_getElem? (i := 0) rfl)) ev_v g0 rfl rfl rfl ev_v
  have h1 : (0 : Int) ≤ ρ 2 ∧ ρ 2 ≤ 1200 := hf_rg hT (hH _ (List.mem_of_getElem? (i := 1) rfl)) ev_v g0 rfl rfl rfl ev_v
  have p0 : q150 (tB (vw C h)) (ρ 2) (ρ 3) := c2 (P := q150 (tB (vw C h))) (show q150 (tB (vw C h)) (((0) + ((1) * ρ 2 + 0))) (((0) + ((1) * ρ 3 + 0))) from hP _ (List.mem_of_getElem? (i := 0) rfl)) (by omega) (by omega)
  have p1 : qRn isLt (tB (vw C h)) (ρ 1 + 2048 * ρ 2) (ρ 4) := c2 (P := qRn isLt (tB (vw C h))) (show qRn isLt (tB (vw C h)) (((0) + ((1) * ρ 1 + ((2048) * ρ 2 + 0)))) (((0) + ((1) * ρ 4 + 0))) from hP _ (List.mem_of_getElem? (i := 1) rfl)) (by omega) (by omega)
  have hb : q150 (tB (vw C h)) (ρ 2) (ρ 3) := p0
  have q := rn_stop p_lt (n := ρ 1) (i := ρ 2) (by omega) (by omega) (by omega) (by omega) (by omega) (fun _ => lt_n hb (Or.inr (by omega))) p1
  refine ⟨_, List.mem_cons_self, ρ, fun _ _ => rfl, fun q hq => absurd hq List.not_mem_nil, trivial, fun f hf => ?_, fun q hq => absurd hq List.not_mem_nil, fun q hq => absurd hq List.not_mem_nil, fun q hq => absurd hq List.not_mem_nil, fun q hq => ?_⟩
  · simp only [List.mem_cons, List.not_mem_nil, or_false] at hf
    rcases hf with rfl | rfl
    · show (0 : Int) ≤ ((0) + ((1) * ρ 2 + ((-1) * ρ 4 + 0)))
      omega
    · show (0 : Int) ≤ ((0) + ((-1) * ρ 2 + ((1) * ρ 4 + 0)))
      omega
  · exact absurd hq List.not_mem_nil
/-- dgStepM -/
theorem lem_251_ok (hU : uqG G C) : lem_251.1.2.1 = [] ∧ lemOK (PRd G C D xs) G rgs lem_251 := by
  refine ⟨rfl, fun ρ h ha hT => ?_⟩
  obtain ⟨-, -, hF, hG, hH, hA, hP⟩ := ha
  have f0 : (0 : Int) ≤ ((0) + ((1) * ρ 1 + 0)) := hF _ (List.mem_of_getElem? (i := 0) rfl)
  have f1 : (0 : Int) ≤ ((1200) + ((-1) * ρ 1 + 0)) := hF _ (List.mem_of_getElem? (i := 1) rfl)
  have f2 : (0 : Int) ≤ ((0) + ((1) * ρ 2 + 0)) := hF _ (List.mem_of_getElem? (i := 2) rfl)
  have f3 : (0 : Int) ≤ ((-1) + ((1) * ρ 1 + ((-1) * ρ 2 + 0))) := hF _ (List.mem_of_getElem? (i := 3) rfl)
  have f4 : (0 : Int) ≤ ((-48) + ((1) * ρ 3 + 0)) := hF _ (List.mem_of_getElem? (i := 4) rfl)
  have f5 : (0 : Int) ≤ ((57) + ((-1) * ρ 3 + 0)) := hF _ (List.mem_of_getElem? (i := 5) rfl)
  have g0 : G (ρ 0).toNat = 22 := by
    have q := (hG _ (List.mem_of_getElem? (i := 0) rfl)).2
    rwa [show ev ρ (0, [(0, 1)]) = ρ 0 from ev_v] at q
  have h0 : (0 : Int) ≤ ρ 1 ∧ ρ 1 ≤ 1200 := hf_rg hT (hH _ (List.mem_of_getElem? (i := 0) rfl)) ev_v g0 rfl rfl rfl ev_v
  have h1 : (0 : Int) ≤ ρ 2 ∧ ρ 2 ≤ 1200 := hf_rg hT (hH _ (List.mem_of_getElem? (i := 1) rfl)) ev_v g0 rfl rfl rfl ev_v
  have p0 : q150 (tB (vw C h)) (ρ 2) (ρ 3) := c2 (P := q150 (tB (vw C h))) (show q150 (tB (vw C h)) (((0) + ((1) * ρ 2 + 0))) (((0) + ((1) * ρ 3 + 0))) from hP _ (List.mem_of_getElem? (i := 0) rfl)) (by omega) (by omega)
  have p1 : qRn isDg (tB (vw C h)) (ρ 1 + 2048 * ρ 2) (ρ 4) := c2 (P := qRn isDg (tB (vw C h))) (show qRn isDg (tB (vw C h)) (((0) + ((1) * ρ 1 + ((2048) * ρ 2 + 0)))) (((0) + ((1) * ρ 4 + 0))) from hP _ (List.mem_of_getElem? (i := 1) rfl)) (by omega) (by omega)
  have hb : q150 (tB (vw C h)) (ρ 2) (ρ 3) := p0
  obtain ⟨q1, q2⟩ := rn_step p_dg (n := ρ 1) (i := ρ 2) (r2 := ρ 1 + 2048 * (ρ 2 + 1)) (by omega) rfl (by omega) (by omega) (by omega) (by omega) (dg_y hb (by omega) (by omega)) p1
  refine ⟨_, List.mem_cons_self, ρ, fun _ _ => rfl, fun q hq => absurd hq List.not_mem_nil, trivial, fun f hf => ?_, fun q hq => absurd hq List.not_mem_nil, fun q hq => absurd hq List.not_mem_nil, fun q hq => absurd hq List.not_mem_nil, fun q hq => ?_⟩
  · simp only [List.mem_cons, List.not_mem_nil, or_false] at hf
    subst hf
    show (0 : Int) ≤ ((-1) + ((-1) * ρ 2 + ((1) * ρ 4 + 0)))
    omega
  · simp only [List.mem_cons, List.not_mem_nil, or_false] at hq
    subst hq
    show qRn isDg (tB (vw C h)) (((2048) + ((1) * ρ 1 + ((2048) * ρ 2 + 0)))) (((0) + ((1) * ρ 4 + 0)))
    refine c2 (P := qRn isDg (tB (vw C h))) (r := ρ 1 + 2048 * ρ 2 + 2048) (c := ρ 4) ?_ (by omega) (by omega)
    show qRn isDg (tB (vw C h)) (ρ 1 + 2048 * ρ 2 + 2048) (ρ 4)
    exact c2 (P := qRn isDg (tB (vw C h))) q2 (by omega) (by omega)
/-- dgEndM -/
theorem lem_252_ok (hU : uqG G C) : lem_252.1.2.1 = [] ∧ lemOK (PRd G C D xs) G rgs lem_252 := by
  refine ⟨rfl, fun ρ h ha hT => ?_⟩
  obtain ⟨-, -, hF, hG, hH, hA, hP⟩ := ha
  have f0 : (0 : Int) ≤ ((0) + ((1) * ρ 1 + 0)) := hF _ (List.mem_of_getElem? (i := 0) rfl)
  have f1 : (0 : Int) ≤ ((1200) + ((-1) * ρ 1 + 0)) := hF _ (List.mem_of_getElem? (i := 1) rfl)
  have f2 : (0 : Int) ≤ ((0) + ((-1) * ρ 1 + ((1) * ρ 2 + 0))) := hF _ (List.mem_of_getElem? (i := 2) rfl)
  have f3 : (0 : Int) ≤ ((0) + ((1) * ρ 1 + ((-1) * ρ 2 + 0))) := hF _ (List.mem_of_getElem? (i := 3) rfl)
  have g0 : G (ρ 0).toNat = 22 := by
    have q := (hG _ (List.mem_of_getElem? (i := 0) rfl)).2
    rwa [show ev ρ (0, [(0, 1)]) = ρ 0 from ev_v] at q
  have h0 : (0 : Int) ≤ ρ 1 ∧ ρ 1 ≤ 1200 := hf_rg hT (hH _ (List.mem_of_getElem? (i := 0) rfl)) ev_v g0 rfl rfl rfl ev_v
  have h1 : (0 : Int) ≤ ρ 2 ∧ ρ 2 ≤ 1200 := hf_rg hT (hH _ (List.mem_of_getElem? (i := 1) rfl)) ev_v g0 rfl rfl rfl ev_v
  have p0 : qRn isDg (tB (vw C h)) (ρ 1 + 2048 * ρ 2) (ρ 3) := c2 (P := qRn isDg (tB (vw C h))) (show qRn isDg (tB (vw C h)) (((0) + ((1) * ρ 1 + ((2048) * ρ 2 + 0)))) (((0) + ((1) * ρ 3 + 0))) from hP _ (List.mem_of_getElem? (i := 0) rfl)) (by omega) (by omega)
  have q := rn_stop p_dg (n := ρ 1) (i := ρ 2) (by omega) (by omega) (by omega) (by omega) (by omega) (fun hlt => absurd hlt (by omega)) p0
  refine ⟨_, List.mem_cons_self, ρ, fun _ _ => rfl, fun q hq => absurd hq List.not_mem_nil, trivial, fun f hf => ?_, fun q hq => absurd hq List.not_mem_nil, fun q hq => absurd hq List.not_mem_nil, fun q hq => absurd hq List.not_mem_nil, fun q hq => ?_⟩
  · simp only [List.mem_cons, List.not_mem_nil, or_false] at hf
    rcases hf with rfl | rfl
    · show (0 : Int) ≤ ((0) + ((1) * ρ 2 + ((-1) * ρ 3 + 0)))
      omega
    · show (0 : Int) ≤ ((0) + ((-1) * ρ 2 + ((1) * ρ 3 + 0)))
      omega
  · exact absurd hq List.not_mem_nil
/-- dgLoM -/
theorem lem_253_ok (hU : uqG G C) : lem_253.1.2.1 = [] ∧ lemOK (PRd G C D xs) G rgs lem_253 := by
  refine ⟨rfl, fun ρ h ha hT => ?_⟩
  obtain ⟨-, -, hF, hG, hH, hA, hP⟩ := ha
  have f0 : (0 : Int) ≤ ((0) + ((1) * ρ 1 + 0)) := hF _ (List.mem_of_getElem? (i := 0) rfl)
  have f1 : (0 : Int) ≤ ((1200) + ((-1) * ρ 1 + 0)) := hF _ (List.mem_of_getElem? (i := 1) rfl)
  have f2 : (0 : Int) ≤ ((0) + ((1) * ρ 2 + 0)) := hF _ (List.mem_of_getElem? (i := 2) rfl)
  have f3 : (0 : Int) ≤ ((-1) + ((1) * ρ 1 + ((-1) * ρ 2 + 0))) := hF _ (List.mem_of_getElem? (i := 3) rfl)
  have f4 : (0 : Int) ≤ ((47) + ((-1) * ρ 3 + 0)) := hF _ (List.mem_of_getElem? (i := 4) rfl)
  have g0 : G (ρ 0).toNat = 22 := by
    have q := (hG _ (List.mem_of_getElem? (i := 0) rfl)).2
    rwa [show ev ρ (0, [(0, 1)]) = ρ 0 from ev_v] at q
  have h0 : (0 : Int) ≤ ρ 1 ∧ ρ 1 ≤ 1200 := hf_rg hT (hH _ (List.mem_of_getElem? (i := 0) rfl)) ev_v g0 rfl rfl rfl ev_v
  have h1 : (0 : Int) ≤ ρ 2 ∧ ρ 2 ≤ 1200 := hf_rg hT (hH _ (List.mem_of_getElem? (i := 1) rfl)) ev_v g0 rfl rfl rfl ev_v
  have p0 : q150 (tB (vw C h)) (ρ 2) (ρ 3) := c2 (P := q150 (tB (vw C h))) (show q150 (tB (vw C h)) (((0) + ((1) * ρ 2 + 0))) (((0) + ((1) * ρ 3 + 0))) from hP _ (List.mem_of_getElem? (i := 0) rfl)) (by omega) (by omega)
  have p1 : qRn isDg (tB (vw C h)) (ρ 1 + 2048 * ρ 2) (ρ 4) := c2 (P := qRn isDg (tB (vw C h))) (show qRn isDg (tB (vw C h)) (((0) + ((1) * ρ 1 + ((2048) * ρ 2 + 0)))) (((0) + ((1) * ρ 4 + 0))) from hP _ (List.mem_of_getElem? (i := 1) rfl)) (by omega) (by omega)
  have hb : q150 (tB (vw C h)) (ρ 2) (ρ 3) := p0
  have q := rn_stop p_dg (n := ρ 1) (i := ρ 2) (by omega) (by omega) (by omega) (by omega) (by omega) (fun _ => dg_n hb (Or.inl (by omega))) p1
  refine ⟨_, List.mem_cons_self, ρ, fun _ _ => rfl, fun q hq => absurd hq List.not_mem_nil, trivial, fun f hf => ?_, fun q hq => absurd hq List.not_mem_nil, fun q hq => absurd hq List.not_mem_nil, fun q hq => absurd hq List.not_mem_nil, fun q hq => ?_⟩
  · simp only [List.mem_cons, List.not_mem_nil, or_false] at hf
    rcases hf with rfl | rfl
    · show (0 : Int) ≤ ((0) + ((1) * ρ 2 + ((-1) * ρ 4 + 0)))
      omega
    · show (0 : Int) ≤ ((0) + ((-1) * ρ 2 + ((1) * ρ 4 + 0)))
      omega
  · exact absurd hq List.not_mem_nil
/-- dgHiM -/
theorem lem_254_ok (hU : uqG G C) : lem_254.1.2.1 = [] ∧ lemOK (PRd G C D xs) G rgs lem_254 := by
  refine ⟨rfl, fun ρ h ha hT => ?_⟩
  obtain ⟨-, -, hF, hG, hH, hA, hP⟩ := ha
  have f0 : (0 : Int) ≤ ((0) + ((1) * ρ 1 + 0)) := hF _ (List.mem_of_getElem? (i := 0) rfl)
  have f1 : (0 : Int) ≤ ((1200) + ((-1) * ρ 1 + 0)) := hF _ (List.mem_of_getElem? (i := 1) rfl)
  have f2 : (0 : Int) ≤ ((0) + ((1) * ρ 2 + 0)) := hF _ (List.mem_of_getElem? (i := 2) rfl)
  have f3 : (0 : Int) ≤ ((-1) + ((1) * ρ 1 + ((-1) * ρ 2 + 0))) := hF _ (List.mem_of_getElem? (i := 3) rfl)
  have f4 : (0 : Int) ≤ ((-58) + ((1) * ρ 3 + 0)) := hF _ (List.mem_of_getElem? (i := 4) rfl)
  have g0 : G (ρ 0).toNat = 22 := by
    have q := (hG _ (List.mem_of_getElem? (i := 0) rfl)).2
    rwa [show ev ρ (0, [(0, 1)]) = ρ 0 from ev_v] at q
  have h0 : (0 : Int) ≤ ρ 1 ∧ ρ 1 ≤ 1200 := hf_rg hT (hH _ (List.mem_of_getElem? (i := 0) rfl)) ev_v g0 rfl rfl rfl ev_v
  have h1 : (0 : Int) ≤ ρ 2 ∧ ρ 2 ≤ 1200 := hf_rg hT (hH _ (List.mem_of_getElem? (i := 1) rfl)) ev_v g0 rfl rfl rfl ev_v
  have p0 : q150 (tB (vw C h)) (ρ 2) (ρ 3) := c2 (P := q150 (tB (vw C h))) (show q150 (tB (vw C h)) (((0) + ((1) * ρ 2 + 0))) (((0) + ((1) * ρ 3 + 0))) from hP _ (List.mem_of_getElem? (i := 0) rfl)) (by omega) (by omega)
  have p1 : qRn isDg (tB (vw C h)) (ρ 1 + 2048 * ρ 2) (ρ 4) := c2 (P := qRn isDg (tB (vw C h))) (show qRn isDg (tB (vw C h)) (((0) + ((1) * ρ 1 + ((2048) * ρ 2 + 0)))) (((0) + ((1) * ρ 4 + 0))) from hP _ (List.mem_of_getElem? (i := 1) rfl)) (by omega) (by omega)
  have hb : q150 (tB (vw C h)) (ρ 2) (ρ 3) := p0
  have q := rn_stop p_dg (n := ρ 1) (i := ρ 2) (by omega) (by omega) (by omega) (by omega) (by omega) (fun _ => dg_n hb (Or.inr (by omega))) p1
  refine ⟨_, List.mem_cons_self, ρ, fun _ _ => rfl, fun q hq => absurd hq List.not_mem_nil, trivial, fun f hf => ?_, fun q hq => absurd hq List.not_mem_nil, fun q hq => absurd hq List.not_mem_nil, fun q hq => absurd hq List.not_mem_nil, fun q hq => ?_⟩
  · simp only [List.mem_cons, List.not_mem_nil, or_false] at hf
    rcases hf with rfl | rfl
    · show (0 : Int) ≤ ((0) + ((1) * ρ 2 + ((-1) * ρ 4 + 0)))
      omega
    · show (0 : Int) ≤ ((0) + ((-1) * ρ 2 + ((1) * ρ 4 + 0)))
      omega
  · exact absurd hq List.not_mem_nil
/-- ltNewM -/
theorem lem_255_ok (hU : uqG G C) : lem_255.1.2.1 = [] ∧ lemOK (PRd G C D xs) G rgs lem_255 := by
  refine ⟨rfl, fun ρ h ha hT => ?_⟩
  obtain ⟨-, -, hF, hG, hH, hA, hP⟩ := ha
  have f0 : (0 : Int) ≤ ((0) + ((1) * ρ 1 + 0)) := hF _ (List.mem_of_getElem? (i := 0) rfl)
  have f1 : (0 : Int) ≤ ((1200) + ((-1) * ρ 1 + 0)) := hF _ (List.mem_of_getElem? (i := 1) rfl)
  have f2 : (0 : Int) ≤ ((0) + ((1) * ρ 2 + 0)) := hF _ (List.mem_of_getElem? (i := 2) rfl)
  have f3 : (0 : Int) ≤ ((-1) + ((1) * ρ 1 + ((-1) * ρ 2 + 0))) := hF _ (List.mem_of_getElem? (i := 3) rfl)
  have f4 : (0 : Int) ≤ ((-97) + ((1) * ρ 3 + 0)) := hF _ (List.mem_of_getElem? (i := 4) rfl)
  have f5 : (0 : Int) ≤ ((122) + ((-1) * ρ 3 + 0)) := hF _ (List.mem_of_getElem? (i := 5) rfl)
  have g0 : G (ρ 0).toNat = 22 := by
    have q := (hG _ (List.mem_of_getElem? (i := 0) rfl)).2
    rwa [show ev ρ (0, [(0, 1)]) = ρ 0 from ev_v] at q
  have h0 : (0 : Int) ≤ ρ 1 ∧ ρ 1 ≤ 1200 := hf_rg hT (hH _ (List.mem_of_getElem? (i := 0) rfl)) ev_v g0 rfl rfl rfl ev_v
  have h1 : (0 : Int) ≤ ρ 2 ∧ ρ 2 ≤ 1200 := hf_rg hT (hH _ (List.mem_of_getElem? (i := 1) rfl)) ev_v g0 rfl rfl rfl ev_v
  have p0 : q150 (tB (vw C h)) (ρ 2) (ρ 3) := c2 (P := q150 (tB (vw C h))) (show q150 (tB (vw C h)) (((0) + ((1) * ρ 2 + 0))) (((0) + ((1) * ρ 3 + 0))) from hP _ (List.mem_of_getElem? (i := 0) rfl)) (by omega) (by omega)
  have hb : q150 (tB (vw C h)) (ρ 2) (ρ 3) := p0
  have hy := lt_y hb (by omega) (by omega)
  obtain ⟨q1, q2, q3⟩ := rn_new1 (r := ρ 1 + 2048 * ρ 2) (e := ((tRn isLt (tB (vw C h)) (ρ 1).toNat (ρ 2).toNat : Nat) : Int)) p_lt (n := ρ 1) (i := ρ 2) rfl (by omega) (by omega) (by omega) (by omega) hy rfl
  have q4 := ls_new (r := ρ 1 + 2048 * ρ 2) (e := ((tRn isLt (tB (vw C h)) (ρ 1).toNat (ρ 2).toNat : Nat) : Int)) (n := ρ 1) (i := ρ 2) rfl (by omega) (by omega) (by omega) (by omega) hy rfl
  obtain ⟨σ, r1, r2a⟩ : ∃ σ : Va, (∀ i, i < 4 → σ i = ρ i) ∧ σ 4 = ((tRn isLt (tB (vw C h)) (ρ 1).toNat (ρ 2).toNat : Nat) : Int) := ⟨fun i => if i = 4 then ((tRn isLt (tB (vw C h)) (ρ 1).toNat (ρ 2).toNat : Nat) : Int) else ρ i, fun i hi => by dsimp only; rw [if_neg (by omega)], by dsimp only; rw [if_pos rfl]⟩
  have s0 := r1 0 (by omega)
  have s1 := r1 1 (by omega)
  have s2 := r1 2 (by omega)
  have s3 := r1 3 (by omega)
  refine ⟨_, List.mem_cons_self, σ, r1, fun q hq => absurd hq List.not_mem_nil, trivial, fun f hf => ?_, fun q hq => absurd hq List.not_mem_nil, fun q hq => absurd hq List.not_mem_nil, fun q hq => absurd hq List.not_mem_nil, fun q hq => ?_⟩
  · simp only [List.mem_cons, List.not_mem_nil, or_false] at hf
    rcases hf with rfl | rfl
    · show (0 : Int) ≤ ((-1) + ((-1) * σ 2 + ((1) * σ 4 + 0)))
      omega
    · show (0 : Int) ≤ ((0) + ((1) * σ 1 + ((-1) * σ 4 + 0)))
      omega
  · simp only [List.mem_cons, List.not_mem_nil, or_false] at hq
    rcases hq with rfl | rfl
    · show qRn isLt (tB (vw C h)) (((0) + ((1) * σ 1 + ((2048) * σ 2 + 0)))) (((0) + ((1) * σ 4 + 0)))
      refine c2 (P := qRn isLt (tB (vw C h))) (r := ρ 1 + 2048 * ρ 2) (c := ((tRn isLt (tB (vw C h)) (ρ 1).toNat (ρ 2).toNat : Nat) : Int)) ?_ (by omega) (by omega)
      show qRn isLt (tB (vw C h)) (ρ 1 + 2048 * ρ 2) (((tRn isLt (tB (vw C h)) (ρ 1).toNat (ρ 2).toNat : Nat) : Int))
      exact c2 (P := qRn isLt (tB (vw C h))) q3 (by omega) (by omega)
    · show q178 (tB (vw C h)) (((0) + ((1) * σ 1 + ((2048) * σ 2 + 0)))) (((0) + ((1) * σ 4 + 0)))
      refine c2 (P := q178 (tB (vw C h))) (r := ρ 1 + 2048 * ρ 2) (c := ((tRn isLt (tB (vw C h)) (ρ 1).toNat (ρ 2).toNat : Nat) : Int)) ?_ (by omega) (by omega)
      show q178 (tB (vw C h)) (ρ 1 + 2048 * ρ 2) (((tRn isLt (tB (vw C h)) (ρ 1).toNat (ρ 2).toNat : Nat) : Int))
      exact c2 (P := q178 (tB (vw C h))) q4 (by omega) (by omega)
/-- dgNewM -/
theorem lem_256_ok (hU : uqG G C) : lem_256.1.2.1 = [] ∧ lemOK (PRd G C D xs) G rgs lem_256 := by
  refine ⟨rfl, fun ρ h ha hT => ?_⟩
  obtain ⟨-, -, hF, hG, hH, hA, hP⟩ := ha
  have f0 : (0 : Int) ≤ ((0) + ((1) * ρ 1 + 0)) := hF _ (List.mem_of_getElem? (i := 0) rfl)
  have f1 : (0 : Int) ≤ ((1200) + ((-1) * ρ 1 + 0)) := hF _ (List.mem_of_getElem? (i := 1) rfl)
  have f2 : (0 : Int) ≤ ((0) + ((1) * ρ 2 + 0)) := hF _ (List.mem_of_getElem? (i := 2) rfl)
  have f3 : (0 : Int) ≤ ((-1) + ((1) * ρ 1 + ((-1) * ρ 2 + 0))) := hF _ (List.mem_of_getElem? (i := 3) rfl)
  have f4 : (0 : Int) ≤ ((-48) + ((1) * ρ 3 + 0)) := hF _ (List.mem_of_getElem? (i := 4) rfl)
  have f5 : (0 : Int) ≤ ((57) + ((-1) * ρ 3 + 0)) := hF _ (List.mem_of_getElem? (i := 5) rfl)
  have g0 : G (ρ 0).toNat = 22 := by
    have q := (hG _ (List.mem_of_getElem? (i := 0) rfl)).2
    rwa [show ev ρ (0, [(0, 1)]) = ρ 0 from ev_v] at q
  have h0 : (0 : Int) ≤ ρ 1 ∧ ρ 1 ≤ 1200 := hf_rg hT (hH _ (List.mem_of_getElem? (i := 0) rfl)) ev_v g0 rfl rfl rfl ev_v
  have h1 : (0 : Int) ≤ ρ 2 ∧ ρ 2 ≤ 1200 := hf_rg hT (hH _ (List.mem_of_getElem? (i := 1) rfl)) ev_v g0 rfl rfl rfl ev_v
  have p0 : q150 (tB (vw C h)) (ρ 2) (ρ 3) := c2 (P := q150 (tB (vw C h))) (show q150 (tB (vw C h)) (((0) + ((1) * ρ 2 + 0))) (((0) + ((1) * ρ 3 + 0))) from hP _ (List.mem_of_getElem? (i := 0) rfl)) (by omega) (by omega)
  have hb : q150 (tB (vw C h)) (ρ 2) (ρ 3) := p0
  have hy := dg_y hb (by omega) (by omega)
  obtain ⟨q1, q2, q3⟩ := rn_new1 (r := ρ 1 + 2048 * ρ 2) (e := ((tRn isDg (tB (vw C h)) (ρ 1).toNat (ρ 2).toNat : Nat) : Int)) p_dg (n := ρ 1) (i := ρ 2) rfl (by omega) (by omega) (by omega) (by omega) hy rfl
  have q4 := ds_new (r := ρ 1 + 2048 * ρ 2) (e := ((tRn isDg (tB (vw C h)) (ρ 1).toNat (ρ 2).toNat : Nat) : Int)) (n := ρ 1) (i := ρ 2) rfl (by omega) (by omega) (by omega) (by omega) (lt_n hb (Or.inl (by omega))) hy rfl
  obtain ⟨σ, r1, r2a⟩ : ∃ σ : Va, (∀ i, i < 4 → σ i = ρ i) ∧ σ 4 = ((tRn isDg (tB (vw C h)) (ρ 1).toNat (ρ 2).toNat : Nat) : Int) := ⟨fun i => if i = 4 then ((tRn isDg (tB (vw C h)) (ρ 1).toNat (ρ 2).toNat : Nat) : Int) else ρ i, fun i hi => by dsimp only; rw [if_neg (by omega)], by dsimp only; rw [if_pos rfl]⟩
  have s0 := r1 0 (by omega)
  have s1 := r1 1 (by omega)
  have s2 := r1 2 (by omega)
  have s3 := r1 3 (by omega)
  refine ⟨_, List.mem_cons_self, σ, r1, fun q hq => absurd hq List.not_mem_nil, trivial, fun f hf => ?_, fun q hq => absurd hq List.not_mem_nil, fun q hq => absurd hq List.not_mem_nil, fun q hq => absurd hq List.not_mem_nil, fun q hq => ?_⟩
  · simp only [List.mem_cons, List.not_mem_nil, or_false] at hf
    rcases hf with rfl | rfl
    · show (0 : Int) ≤ ((-1) + ((-1) * σ 2 + ((1) * σ 4 + 0)))
      omega
    · show (0 : Int) ≤ ((0) + ((1) * σ 1 + ((-1) * σ 4 + 0)))
      omega
  · simp only [List.mem_cons, List.not_mem_nil, or_false] at hq
    rcases hq with rfl | rfl
    · show qRn isDg (tB (vw C h)) (((0) + ((1) * σ 1 + ((2048) * σ 2 + 0)))) (((0) + ((1) * σ 4 + 0)))
      refine c2 (P := qRn isDg (tB (vw C h))) (r := ρ 1 + 2048 * ρ 2) (c := ((tRn isDg (tB (vw C h)) (ρ 1).toNat (ρ 2).toNat : Nat) : Int)) ?_ (by omega) (by omega)
      show qRn isDg (tB (vw C h)) (ρ 1 + 2048 * ρ 2) (((tRn isDg (tB (vw C h)) (ρ 1).toNat (ρ 2).toNat : Nat) : Int))
      exact c2 (P := qRn isDg (tB (vw C h))) q3 (by omega) (by omega)
    · show q179 (tB (vw C h)) (((0) + ((1) * σ 1 + ((2048) * σ 2 + 0)))) (((0) + ((1) * σ 4 + 0)))
      refine c2 (P := q179 (tB (vw C h))) (r := ρ 1 + 2048 * ρ 2) (c := ((tRn isDg (tB (vw C h)) (ρ 1).toNat (ρ 2).toNat : Nat) : Int)) ?_ (by omega) (by omega)
      show q179 (tB (vw C h)) (ρ 1 + 2048 * ρ 2) (((tRn isDg (tB (vw C h)) (ρ 1).toNat (ρ 2).toNat : Nat) : Int))
      exact c2 (P := q179 (tB (vw C h))) q4 (by omega) (by omega)
/-- vlNewM -/
theorem lem_257_ok (hU : uqG G C) : lem_257.1.2.1 = [] ∧ lemOK (PRd G C D xs) G rgs lem_257 := by
  refine ⟨rfl, fun ρ h ha hT => ?_⟩
  obtain ⟨-, -, hF, hG, hH, hA, hP⟩ := ha
  have f0 : (0 : Int) ≤ ((0) + ((1) * ρ 1 + 0)) := hF _ (List.mem_of_getElem? (i := 0) rfl)
  have f1 : (0 : Int) ≤ ((1200) + ((-1) * ρ 1 + 0)) := hF _ (List.mem_of_getElem? (i := 1) rfl)
  have g0 : G (ρ 0).toNat = 22 := by
    have q := (hG _ (List.mem_of_getElem? (i := 0) rfl)).2
    rwa [show ev ρ (0, [(0, 1)]) = ρ 0 from ev_v] at q
  have h0 : (0 : Int) ≤ ρ 1 ∧ ρ 1 ≤ 1200 := hf_rg hT (hH _ (List.mem_of_getElem? (i := 0) rfl)) ev_v g0 rfl rfl rfl ev_v
  refine ⟨_, List.mem_cons_self, ρ, fun _ _ => rfl, fun q hq => absurd hq List.not_mem_nil, trivial, fun f hf => ?_, fun q hq => absurd hq List.not_mem_nil, fun q hq => absurd hq List.not_mem_nil, fun q hq => absurd hq List.not_mem_nil, fun q hq => ?_⟩
  · exact absurd hf List.not_mem_nil
  · simp only [List.mem_cons, List.not_mem_nil, or_false] at hq
    subst hq
    show q154 (tB (vw C h)) (((0) + ((1) * ρ 1 + 0))) (((0) + 0))
    refine c2 (P := q154 (tB (vw C h))) (r := ρ 1) (c := (0 : Int)) ?_ (by omega) (by omega)
    show q154 (tB (vw C h)) (ρ 1) ((0 : Int))
    exact vl_new (s := ρ 1) (by omega) (by omega) (by omega) (by omega)
/-- vlSplitM -/
theorem lem_258_ok (hU : uqG G C) : lem_258.1.2.1 = [] ∧ lemOK (PRd G C D xs) G rgs lem_258 := by
  refine ⟨rfl, fun ρ h ha hT => ?_⟩
  obtain ⟨-, -, hF, hG, hH, hA, hP⟩ := ha
  have g0 : G (ρ 0).toNat = 22 := by
    have q := (hG _ (List.mem_of_getElem? (i := 0) rfl)).2
    rwa [show ev ρ (0, [(0, 1)]) = ρ 0 from ev_v] at q
  have h0 : (0 : Int) ≤ ρ 1 ∧ ρ 1 ≤ 1200 := hf_rg hT (hH _ (List.mem_of_getElem? (i := 0) rfl)) ev_v g0 rfl rfl rfl ev_v
  have h1 : (0 : Int) ≤ ρ 2 ∧ ρ 2 ≤ 1200 := hf_rg hT (hH _ (List.mem_of_getElem? (i := 1) rfl)) ev_v g0 rfl rfl rfl ev_v
  rcases (by omega : ρ 2 - ρ 1 ≤ 4 ∨ 5 ≤ ρ 2 - ρ 1) with hc | hc
  · refine ⟨_, List.mem_cons_self, ρ, fun _ _ => rfl, fun q hq => absurd hq List.not_mem_nil, trivial, fun f hf => ?_, fun q hq => absurd hq List.not_mem_nil, fun q hq => absurd hq List.not_mem_nil, fun q hq => absurd hq List.not_mem_nil, fun q hq => ?_⟩
    · simp only [List.mem_cons, List.not_mem_nil, or_false] at hf
      subst hf
      show (0 : Int) ≤ ((4) + ((1) * ρ 1 + ((-1) * ρ 2 + 0)))
      omega
    · exact absurd hq List.not_mem_nil
  · refine ⟨_, (List.mem_cons_of_mem _ List.mem_cons_self), ρ, fun _ _ => rfl, fun q hq => absurd hq List.not_mem_nil, trivial, fun f hf => ?_, fun q hq => absurd hq List.not_mem_nil, fun q hq => absurd hq List.not_mem_nil, fun q hq => absurd hq List.not_mem_nil, fun q hq => ?_⟩
    · simp only [List.mem_cons, List.not_mem_nil, or_false] at hf
      subst hf
      show (0 : Int) ≤ ((-5) + ((-1) * ρ 1 + ((1) * ρ 2 + 0)))
      omega
    · exact absurd hq List.not_mem_nil
/-- vlBoundM -/
theorem lem_259_ok (hU : uqG G C) : lem_259.1.2.1 = [] ∧ lemOK (PRd G C D xs) G rgs lem_259 := by
  refine ⟨rfl, fun ρ h ha hT => ?_⟩
  obtain ⟨-, -, hF, hG, hH, hA, hP⟩ := ha
  have f0 : (0 : Int) ≤ ((0) + ((1) * ρ 1 + 0)) := hF _ (List.mem_of_getElem? (i := 0) rfl)
  have f1 : (0 : Int) ≤ ((1200) + ((-1) * ρ 1 + 0)) := hF _ (List.mem_of_getElem? (i := 1) rfl)
  have f2 : (0 : Int) ≤ ((0) + ((-1) * ρ 1 + ((1) * ρ 2 + 0))) := hF _ (List.mem_of_getElem? (i := 2) rfl)
  have f3 : (0 : Int) ≤ ((4) + ((1) * ρ 1 + ((-1) * ρ 2 + 0))) := hF _ (List.mem_of_getElem? (i := 3) rfl)
  have g0 : G (ρ 0).toNat = 22 := by
    have q := (hG _ (List.mem_of_getElem? (i := 0) rfl)).2
    rwa [show ev ρ (0, [(0, 1)]) = ρ 0 from ev_v] at q
  have h0 : (0 : Int) ≤ ρ 1 ∧ ρ 1 ≤ 1200 := hf_rg hT (hH _ (List.mem_of_getElem? (i := 0) rfl)) ev_v g0 rfl rfl rfl ev_v
  have h1 : (0 : Int) ≤ ρ 2 ∧ ρ 2 ≤ 1200 := hf_rg hT (hH _ (List.mem_of_getElem? (i := 1) rfl)) ev_v g0 rfl rfl rfl ev_v
  have p0 : q154 (tB (vw C h)) ((-2047) * ρ 1 + 2048 * ρ 2) (ρ 3) := c2 (P := q154 (tB (vw C h))) (show q154 (tB (vw C h)) (((0) + ((-2047) * ρ 1 + ((2048) * ρ 2 + 0)))) (((0) + ((1) * ρ 3 + 0))) from hP _ (List.mem_of_getElem? (i := 0) rfl)) (by omega) (by omega)
  have q := vl_bound (s := ρ 1) (i := ρ 2) (by omega) (by omega) (by omega) (by omega) (by omega) p0
  refine ⟨_, List.mem_cons_self, ρ, fun _ _ => rfl, fun q hq => absurd hq List.not_mem_nil, trivial, fun f hf => ?_, fun q hq => absurd hq List.not_mem_nil, fun q hq => absurd hq List.not_mem_nil, fun q hq => absurd hq List.not_mem_nil, fun q hq => ?_⟩
  · simp only [List.mem_cons, List.not_mem_nil, or_false] at hf
    rcases hf with rfl | rfl
    · show (0 : Int) ≤ ((0) + ((1) * ρ 3 + 0))
      omega
    · show (0 : Int) ≤ ((9999) + ((-1) * ρ 3 + 0))
      omega
  · exact absurd hq List.not_mem_nil
/-- vlStepM -/
theorem lem_260_ok (hU : uqG G C) : lem_260.1.2.1 = [] ∧ lemOK (PRd G C D xs) G rgs lem_260 := by
  refine ⟨rfl, fun ρ h ha hT => ?_⟩
  obtain ⟨-, -, hF, hG, hH, hA, hP⟩ := ha
  have f0 : (0 : Int) ≤ ((1200) + ((-1) * ρ 1 + 0)) := hF _ (List.mem_of_getElem? (i := 0) rfl)
  have f1 : (0 : Int) ≤ ((0) + ((1) * ρ 3 + 0)) := hF _ (List.mem_of_getElem? (i := 1) rfl)
  have f2 : (0 : Int) ≤ ((0) + ((1) * ρ 2 + ((-1) * ρ 3 + 0))) := hF _ (List.mem_of_getElem? (i := 2) rfl)
  have f3 : (0 : Int) ≤ ((-1) + ((1) * ρ 1 + ((-1) * ρ 2 + 0))) := hF _ (List.mem_of_getElem? (i := 3) rfl)
  have f4 : (0 : Int) ≤ ((4) + ((-1) * ρ 2 + ((1) * ρ 3 + 0))) := hF _ (List.mem_of_getElem? (i := 4) rfl)
  have f5 : (0 : Int) ≤ ((-48) + ((1) * ρ 5 + 0)) := hF _ (List.mem_of_getElem? (i := 5) rfl)
  have f6 : (0 : Int) ≤ ((57) + ((-1) * ρ 5 + 0)) := hF _ (List.mem_of_getElem? (i := 6) rfl)
  have f7 : (0 : Int) ≤ ((-48) + ((-1) * ρ 4 + ((1) * ρ 5 + ((10) * ρ 6 + 0)))) := hF _ (List.mem_of_getElem? (i := 7) rfl)
  have f8 : (0 : Int) ≤ ((48) + ((1) * ρ 4 + ((-1) * ρ 5 + ((-10) * ρ 6 + 0)))) := hF _ (List.mem_of_getElem? (i := 8) rfl)
  have g0 : G (ρ 0).toNat = 22 := by
    have q := (hG _ (List.mem_of_getElem? (i := 0) rfl)).2
    rwa [show ev ρ (0, [(0, 1)]) = ρ 0 from ev_v] at q
  have h0 : (0 : Int) ≤ ρ 1 ∧ ρ 1 ≤ 1200 := hf_rg hT (hH _ (List.mem_of_getElem? (i := 0) rfl)) ev_v g0 rfl rfl rfl ev_v
  have h1 : (0 : Int) ≤ ρ 2 ∧ ρ 2 ≤ 1200 := hf_rg hT (hH _ (List.mem_of_getElem? (i := 1) rfl)) ev_v g0 rfl rfl rfl ev_v
  have h2 : (0 : Int) ≤ ρ 3 ∧ ρ 3 ≤ 1200 := hf_rg hT (hH _ (List.mem_of_getElem? (i := 2) rfl)) ev_v g0 rfl rfl rfl ev_v
  have p0 : q150 (tB (vw C h)) (ρ 2) (ρ 5) := c2 (P := q150 (tB (vw C h))) (show q150 (tB (vw C h)) (((0) + ((1) * ρ 2 + 0))) (((0) + ((1) * ρ 5 + 0))) from hP _ (List.mem_of_getElem? (i := 0) rfl)) (by omega) (by omega)
  have p1 : q154 (tB (vw C h)) (2048 * ρ 2 + (-2047) * ρ 3) (ρ 6) := c2 (P := q154 (tB (vw C h))) (show q154 (tB (vw C h)) (((0) + ((2048) * ρ 2 + ((-2047) * ρ 3 + 0)))) (((0) + ((1) * ρ 6 + 0))) from hP _ (List.mem_of_getElem? (i := 1) rfl)) (by omega) (by omega)
  have hb : q150 (tB (vw C h)) (ρ 2) (ρ 5) := p0
  refine ⟨_, List.mem_cons_self, ρ, fun _ _ => rfl, fun q hq => absurd hq List.not_mem_nil, trivial, fun f hf => ?_, fun q hq => absurd hq List.not_mem_nil, fun q hq => absurd hq List.not_mem_nil, fun q hq => absurd hq List.not_mem_nil, fun q hq => ?_⟩
  · exact absurd hf List.not_mem_nil
  · simp only [List.mem_cons, List.not_mem_nil, or_false] at hq
    subst hq
    show q154 (tB (vw C h)) (((2048) + ((2048) * ρ 2 + ((-2047) * ρ 3 + 0)))) (((0) + ((1) * ρ 4 + 0)))
    refine c2 (P := q154 (tB (vw C h))) (r := 2048 * ρ 2 + (-2047) * ρ 3 + 2048) (c := ρ 4) ?_ (by omega) (by omega)
    show q154 (tB (vw C h)) (2048 * ρ 2 + (-2047) * ρ 3 + 2048) (ρ 4)
    exact vl_step (s := ρ 3) (i := ρ 2) (b := ρ 5) (w := ρ 4) (by omega) (by omega) (by omega) (by omega) (by omega) hb (by omega) (by omega) (by omega) p1
/-- vlOverM -/
theorem lem_261_ok (hU : uqG G C) : lem_261.1.2.1 = [] ∧ lemOK (PRd G C D xs) G rgs lem_261 := by
  refine ⟨rfl, fun ρ h ha hT => ?_⟩
  obtain ⟨-, -, hF, hG, hH, hA, hP⟩ := ha
  have f0 : (0 : Int) ≤ ((0) + ((1) * ρ 2 + 0)) := hF _ (List.mem_of_getElem? (i := 0) rfl)
  have f1 : (0 : Int) ≤ ((1200) + ((-1) * ρ 2 + 0)) := hF _ (List.mem_of_getElem? (i := 1) rfl)
  have f2 : (0 : Int) ≤ ((-5) + ((1) * ρ 1 + ((-1) * ρ 2 + 0))) := hF _ (List.mem_of_getElem? (i := 2) rfl)
  have g0 : G (ρ 0).toNat = 22 := by
    have q := (hG _ (List.mem_of_getElem? (i := 0) rfl)).2
    rwa [show ev ρ (0, [(0, 1)]) = ρ 0 from ev_v] at q
  have h0 : (0 : Int) ≤ ρ 1 ∧ ρ 1 ≤ 1200 := hf_rg hT (hH _ (List.mem_of_getElem? (i := 0) rfl)) ev_v g0 rfl rfl rfl ev_v
  have h1 : (0 : Int) ≤ ρ 2 ∧ ρ 2 ≤ 1200 := hf_rg hT (hH _ (List.mem_of_getElem? (i := 1) rfl)) ev_v g0 rfl rfl rfl ev_v
  refine ⟨_, List.mem_cons_self, ρ, fun _ _ => rfl, fun q hq => absurd hq List.not_mem_nil, trivial, fun f hf => ?_, fun q hq => absurd hq List.not_mem_nil, fun q hq => absurd hq List.not_mem_nil, fun q hq => absurd hq List.not_mem_nil, fun q hq => ?_⟩
  · exact absurd hf List.not_mem_nil
  · simp only [List.mem_cons, List.not_mem_nil, or_false] at hq
    subst hq
    show q154 (tB (vw C h)) (((2048) + ((2048) * ρ 1 + ((-2047) * ρ 2 + 0)))) (((0) + ((1) * ρ 3 + 0)))
    refine c2 (P := q154 (tB (vw C h))) (r := 2048 * ρ 1 + (-2047) * ρ 2 + 2048) (c := ρ 3) ?_ (by omega) (by omega)
    show q154 (tB (vw C h)) (2048 * ρ 1 + (-2047) * ρ 2 + 2048) (ρ 3)
    exact vl_over (s := ρ 2) (i := ρ 1) (by omega) (by omega) (by omega) (by omega)
/-- tkEndM -/
theorem lem_262_ok (hU : uqG G C) : lem_262.1.2.1 = [] ∧ lemOK (PRd G C D xs) G rgs lem_262 := by
  refine ⟨rfl, fun ρ h ha hT => ?_⟩
  obtain ⟨-, -, hF, hG, hH, hA, hP⟩ := ha
  have f0 : (0 : Int) ≤ ((0) + ((1) * ρ 1 + 0)) := hF _ (List.mem_of_getElem? (i := 0) rfl)
  have f1 : (0 : Int) ≤ ((1200) + ((-1) * ρ 1 + 0)) := hF _ (List.mem_of_getElem? (i := 1) rfl)
  have f2 : (0 : Int) ≤ ((1) + ((-1) * ρ 4 + 0)) := hF _ (List.mem_of_getElem? (i := 2) rfl)
  have f3 : (0 : Int) ≤ ((-1) + ((1) * ρ 4 + 0)) := hF _ (List.mem_of_getElem? (i := 3) rfl)
  have f4 : (0 : Int) ≤ ((0) + ((-1) * ρ 1 + ((1) * ρ 3 + 0))) := hF _ (List.mem_of_getElem? (i := 4) rfl)
  have f5 : (0 : Int) ≤ ((0) + ((1) * ρ 1 + ((-1) * ρ 3 + 0))) := hF _ (List.mem_of_getElem? (i := 5) rfl)
  have f6 : (0 : Int) ≤ ((0) + ((1) * ρ 2 + ((-1) * ρ 3 + 0))) := hF _ (List.mem_of_getElem? (i := 6) rfl)
  have f7 : (0 : Int) ≤ ((0) + ((-1) * ρ 2 + ((1) * ρ 3 + 0))) := hF _ (List.mem_of_getElem? (i := 7) rfl)
  have g0 : G (ρ 0).toNat = 22 := by
    have q := (hG _ (List.mem_of_getElem? (i := 0) rfl)).2
    rwa [show ev ρ (0, [(0, 1)]) = ρ 0 from ev_v] at q
  have h0 : (0 : Int) ≤ ρ 1 ∧ ρ 1 ≤ 1200 := hf_rg hT (hH _ (List.mem_of_getElem? (i := 0) rfl)) ev_v g0 rfl rfl rfl ev_v
  have h1 : (0 : Int) ≤ ρ 2 ∧ ρ 2 ≤ 1200 := hf_rg hT (hH _ (List.mem_of_getElem? (i := 1) rfl)) ev_v g0 rfl rfl rfl ev_v
  have h2 : (0 : Int) ≤ ρ 3 ∧ ρ 3 ≤ 1200 := hf_rg hT (hH _ (List.mem_of_getElem? (i := 2) rfl)) ev_v g0 rfl rfl rfl ev_v
  obtain ⟨k1, k2⟩ := tk_end (B := (tB (vw C h))) (n := ρ 1) (s := ρ 3) (by omega) (by omega)
  refine ⟨_, List.mem_cons_self, ρ, fun _ _ => rfl, fun q hq => absurd hq List.not_mem_nil, trivial, fun f hf => ?_, fun q hq => absurd hq List.not_mem_nil, fun q hq => absurd hq List.not_mem_nil, fun q hq => absurd hq List.not_mem_nil, fun q hq => ?_⟩
  · exact absurd hf List.not_mem_nil
  · simp only [List.mem_cons, List.not_mem_nil, or_false] at hq
    rcases hq with rfl | rfl | rfl | rfl
    · show q180 (tB (vw C h)) (((0) + ((1) * ρ 1 + ((2048) * ρ 3 + 0)))) (((0) + ((1) * ρ 4 + 0)))
      refine c2 (P := q180 (tB (vw C h))) (r := ρ 1 + 2048 * ρ 3) (c := ρ 4) ?_ (by omega) (by omega)
      show q180 (tB (vw C h)) (ρ 1 + 2048 * ρ 3) (ρ 4)
      exact o180 (n := ρ 1) (s := ρ 3) (by omega) (by omega) (by omega) (by omega) (by omega) k1 (by omega)
    · show q156 (tB (vw C h)) (((0) + ((1) * ρ 1 + ((2048) * ρ 2 + 0)))) (((0) + ((1) * ρ 3 + 0)))
      refine c2 (P := q156 (tB (vw C h))) (r := ρ 1 + 2048 * ρ 2) (c := ρ 3) ?_ (by omega) (by omega)
      show q156 (tB (vw C h)) (ρ 1 + 2048 * ρ 2) (ρ 3)
      exact o156 (n := ρ 1) (s := ρ 3) (e := ρ 2) (by omega) (by omega) (by omega) (by omega) (by omega) (by omega) (k2.trans (by omega))
    · show q157 (tB (vw C h)) (((0) + ((1) * ρ 1 + ((2048) * ρ 3 + 0)))) (((0) + ((1) * ρ 5 + 0)))
      refine c2 (P := q157 (tB (vw C h))) (r := ρ 1 + 2048 * ρ 3) (c := ρ 5) ?_ (by omega) (by omega)
      show q157 (tB (vw C h)) (ρ 1 + 2048 * ρ 3) (ρ 5)
      exact o157n (n := ρ 1) (s := ρ 3) (by omega) (by omega) (by omega) (by omega) (by omega) k1 (by decide)
    · show q181 (tB (vw C h)) (((0) + ((1) * ρ 1 + ((2048) * ρ 3 + 0)))) (((0) + ((1) * ρ 5 + 0)))
      refine c2 (P := q181 (tB (vw C h))) (r := ρ 1 + 2048 * ρ 3) (c := ρ 5) ?_ (by omega) (by omega)
      show q181 (tB (vw C h)) (ρ 1 + 2048 * ρ 3) (ρ 5)
      exact o181n (n := ρ 1) (s := ρ 3) (by omega) (by omega) (by omega) (by omega) (by omega) k1 (by decide)
/-- tkWM -/
theorem lem_263_ok (hU : uqG G C) : lem_263.1.2.1 = [] ∧ lemOK (PRd G C D xs) G rgs lem_263 := by
  refine ⟨rfl, fun ρ h ha hT => ?_⟩
  obtain ⟨-, -, hF, hG, hH, hA, hP⟩ := ha
  have f0 : (0 : Int) ≤ ((0) + ((1) * ρ 1 + 0)) := hF _ (List.mem_of_getElem? (i := 0) rfl)
  have f1 : (0 : Int) ≤ ((1200) + ((-1) * ρ 1 + 0)) := hF _ (List.mem_of_getElem? (i := 1) rfl)
  have f2 : (0 : Int) ≤ ((2) + ((-1) * ρ 4 + 0)) := hF _ (List.mem_of_getElem? (i := 2) rfl)
  have f3 : (0 : Int) ≤ ((-2) + ((1) * ρ 4 + 0)) := hF _ (List.mem_of_getElem? (i := 3) rfl)
  have f4 : (0 : Int) ≤ ((0) + ((1) * ρ 3 + 0)) := hF _ (List.mem_of_getElem? (i := 4) rfl)
  have f5 : (0 : Int) ≤ ((-1) + ((1) * ρ 1 + ((-1) * ρ 3 + 0))) := hF _ (List.mem_of_getElem? (i := 5) rfl)
  have f6 : (0 : Int) ≤ ((9) + ((-1) * ρ 2 + ((1) * ρ 3 + 0))) := hF _ (List.mem_of_getElem? (i := 6) rfl)
  have g0 : G (ρ 0).toNat = 22 := by
    have q := (hG _ (List.mem_of_getElem? (i := 0) rfl)).2
    rwa [show ev ρ (0, [(0, 1)]) = ρ 0 from ev_v] at q
  have h0 : (0 : Int) ≤ ρ 1 ∧ ρ 1 ≤ 1200 := hf_rg hT (hH _ (List.mem_of_getElem? (i := 0) rfl)) ev_v g0 rfl rfl rfl ev_v
  have h1 : (0 : Int) ≤ ρ 2 ∧ ρ 2 ≤ 1200 := hf_rg hT (hH _ (List.mem_of_getElem? (i := 1) rfl)) ev_v g0 rfl rfl rfl ev_v
  have h2 : (0 : Int) ≤ ρ 3 ∧ ρ 3 ≤ 1200 := hf_rg hT (hH _ (List.mem_of_getElem? (i := 2) rfl)) ev_v g0 rfl rfl rfl ev_v
  have p0 : q178 (tB (vw C h)) (ρ 1 + 2048 * ρ 3) (ρ 2) := c2 (P := q178 (tB (vw C h))) (show q178 (tB (vw C h)) (((0) + ((1) * ρ 1 + ((2048) * ρ 3 + 0)))) (((0) + ((1) * ρ 2 + 0))) from hP _ (List.mem_of_getElem? (i := 0) rfl)) (by omega) (by omega)
  obtain ⟨k1, k2, k3, k4⟩ := tk_word (n := ρ 1) (s := ρ 3) (by omega) (by omega) (by omega) (by omega) (by omega) p0
  rw [if_pos (by omega)] at k1
  refine ⟨_, List.mem_cons_self, ρ, fun _ _ => rfl, fun q hq => absurd hq List.not_mem_nil, trivial, fun f hf => ?_, fun q hq => absurd hq List.not_mem_nil, fun q hq => absurd hq List.not_mem_nil, fun q hq => absurd hq List.not_mem_nil, fun q hq => ?_⟩
  · exact absurd hf List.not_mem_nil
  · simp only [List.mem_cons, List.not_mem_nil, or_false] at hq
    rcases hq with rfl | rfl | rfl | rfl
    · show q180 (tB (vw C h)) (((0) + ((1) * ρ 1 + ((2048) * ρ 3 + 0)))) (((0) + ((1) * ρ 4 + 0)))
      refine c2 (P := q180 (tB (vw C h))) (r := ρ 1 + 2048 * ρ 3) (c := ρ 4) ?_ (by omega) (by omega)
      show q180 (tB (vw C h)) (ρ 1 + 2048 * ρ 3) (ρ 4)
      exact o180 (n := ρ 1) (s := ρ 3) (by omega) (by omega) (by omega) (by omega) (by omega) k1 (by omega)
    · show q156 (tB (vw C h)) (((0) + ((1) * ρ 1 + ((2048) * ρ 2 + 0)))) (((0) + ((1) * ρ 3 + 0)))
      refine c2 (P := q156 (tB (vw C h))) (r := ρ 1 + 2048 * ρ 2) (c := ρ 3) ?_ (by omega) (by omega)
      show q156 (tB (vw C h)) (ρ 1 + 2048 * ρ 2) (ρ 3)
      exact o156 (n := ρ 1) (s := ρ 3) (e := ρ 2) (by omega) (by omega) (by omega) (by omega) (by omega) (by omega) (k2.trans (by omega))
    · show q157 (tB (vw C h)) (((0) + ((1) * ρ 1 + ((2048) * ρ 3 + 0)))) (((0) + ((1) * ρ 5 + 0)))
      refine c2 (P := q157 (tB (vw C h))) (r := ρ 1 + 2048 * ρ 3) (c := ρ 5) ?_ (by omega) (by omega)
      show q157 (tB (vw C h)) (ρ 1 + 2048 * ρ 3) (ρ 5)
      exact o157n (n := ρ 1) (s := ρ 3) (by omega) (by omega) (by omega) (by omega) (by omega) k1 (by decide)
    · show q181 (tB (vw C h)) (((0) + ((1) * ρ 1 + ((2048) * ρ 3 + 0)))) (((0) + ((1) * ρ 5 + 0)))
      refine c2 (P := q181 (tB (vw C h))) (r := ρ 1 + 2048 * ρ 3) (c := ρ 5) ?_ (by omega) (by omega)
      show q181 (tB (vw C h)) (ρ 1 + 2048 * ρ 3) (ρ 5)
      exact o181n (n := ρ 1) (s := ρ 3) (by omega) (by omega) (by omega) (by omega) (by omega) k1 (by decide)
/-- tkWBM -/
theorem lem_264_ok (hU : uqG G C) : lem_264.1.2.1 = [] ∧ lemOK (PRd G C D xs) G rgs lem_264 := by
  refine ⟨rfl, fun ρ h ha hT => ?_⟩
  obtain ⟨-, -, hF, hG, hH, hA, hP⟩ := ha
  have f0 : (0 : Int) ≤ ((0) + ((1) * ρ 1 + 0)) := hF _ (List.mem_of_getElem? (i := 0) rfl)
  have f1 : (0 : Int) ≤ ((1200) + ((-1) * ρ 1 + 0)) := hF _ (List.mem_of_getElem? (i := 1) rfl)
  have f2 : (0 : Int) ≤ ((0) + ((-1) * ρ 4 + 0)) := hF _ (List.mem_of_getElem? (i := 2) rfl)
  have f3 : (0 : Int) ≤ ((0) + ((1) * ρ 4 + 0)) := hF _ (List.mem_of_getElem? (i := 3) rfl)
  have f4 : (0 : Int) ≤ ((0) + ((1) * ρ 3 + 0)) := hF _ (List.mem_of_getElem? (i := 4) rfl)
  have f5 : (0 : Int) ≤ ((-1) + ((1) * ρ 1 + ((-1) * ρ 3 + 0))) := hF _ (List.mem_of_getElem? (i := 5) rfl)
  have f6 : (0 : Int) ≤ ((-10) + ((1) * ρ 2 + ((-1) * ρ 3 + 0))) := hF _ (List.mem_of_getElem? (i := 6) rfl)
  have g0 : G (ρ 0).toNat = 22 := by
    have q := (hG _ (List.mem_of_getElem? (i := 0) rfl)).2
    rwa [show ev ρ (0, [(0, 1)]) = ρ 0 from ev_v] at q
  have h0 : (0 : Int) ≤ ρ 1 ∧ ρ 1 ≤ 1200 := hf_rg hT (hH _ (List.mem_of_getElem? (i := 0) rfl)) ev_v g0 rfl rfl rfl ev_v
  have h1 : (0 : Int) ≤ ρ 2 ∧ ρ 2 ≤ 1200 := hf_rg hT (hH _ (List.mem_of_getElem? (i := 1) rfl)) ev_v g0 rfl rfl rfl ev_v
  have h2 : (0 : Int) ≤ ρ 3 ∧ ρ 3 ≤ 1200 := hf_rg hT (hH _ (List.mem_of_getElem? (i := 2) rfl)) ev_v g0 rfl rfl rfl ev_v
  have p0 : q178 (tB (vw C h)) (ρ 1 + 2048 * ρ 3) (ρ 2) := c2 (P := q178 (tB (vw C h))) (show q178 (tB (vw C h)) (((0) + ((1) * ρ 1 + ((2048) * ρ 3 + 0)))) (((0) + ((1) * ρ 2 + 0))) from hP _ (List.mem_of_getElem? (i := 0) rfl)) (by omega) (by omega)
  obtain ⟨k1, k2, k3, k4⟩ := tk_word (n := ρ 1) (s := ρ 3) (by omega) (by omega) (by omega) (by omega) (by omega) p0
  rw [if_neg (by omega)] at k1
  refine ⟨_, List.mem_cons_self, ρ, fun _ _ => rfl, fun q hq => absurd hq List.not_mem_nil, trivial, fun f hf => ?_, fun q hq => absurd hq List.not_mem_nil, fun q hq => absurd hq List.not_mem_nil, fun q hq => absurd hq List.not_mem_nil, fun q hq => ?_⟩
  · exact absurd hf List.not_mem_nil
  · simp only [List.mem_cons, List.not_mem_nil, or_false] at hq
    rcases hq with rfl | rfl | rfl | rfl
    · show q180 (tB (vw C h)) (((0) + ((1) * ρ 1 + ((2048) * ρ 3 + 0)))) (((0) + ((1) * ρ 4 + 0)))
      refine c2 (P := q180 (tB (vw C h))) (r := ρ 1 + 2048 * ρ 3) (c := ρ 4) ?_ (by omega) (by omega)
      show q180 (tB (vw C h)) (ρ 1 + 2048 * ρ 3) (ρ 4)
      exact o180 (n := ρ 1) (s := ρ 3) (by omega) (by omega) (by omega) (by omega) (by omega) k1 (by omega)
    · show q156 (tB (vw C h)) (((0) + ((1) * ρ 1 + ((2048) * ρ 2 + 0)))) (((0) + ((1) * ρ 3 + 0)))
      refine c2 (P := q156 (tB (vw C h))) (r := ρ 1 + 2048 * ρ 2) (c := ρ 3) ?_ (by omega) (by omega)
      show q156 (tB (vw C h)) (ρ 1 + 2048 * ρ 2) (ρ 3)
      exact o156 (n := ρ 1) (s := ρ 3) (e := ρ 2) (by omega) (by omega) (by omega) (by omega) (by omega) (by omega) (k2.trans (by omega))
    · show q157 (tB (vw C h)) (((0) + ((1) * ρ 1 + ((2048) * ρ 3 + 0)))) (((0) + ((1) * ρ 5 + 0)))
      refine c2 (P := q157 (tB (vw C h))) (r := ρ 1 + 2048 * ρ 3) (c := ρ 5) ?_ (by omega) (by omega)
      show q157 (tB (vw C h)) (ρ 1 + 2048 * ρ 3) (ρ 5)
      exact o157n (n := ρ 1) (s := ρ 3) (by omega) (by omega) (by omega) (by omega) (by omega) k1 (by decide)
    · show q181 (tB (vw C h)) (((0) + ((1) * ρ 1 + ((2048) * ρ 3 + 0)))) (((0) + ((1) * ρ 5 + 0)))
      refine c2 (P := q181 (tB (vw C h))) (r := ρ 1 + 2048 * ρ 3) (c := ρ 5) ?_ (by omega) (by omega)
      show q181 (tB (vw C h)) (ρ 1 + 2048 * ρ 3) (ρ 5)
      exact o181n (n := ρ 1) (s := ρ 3) (by omega) (by omega) (by omega) (by omega) (by omega) k1 (by decide)
/-- tkNM -/
theorem lem_265_ok (hU : uqG G C) : lem_265.1.2.1 = [] ∧ lemOK (PRd G C D xs) G rgs lem_265 := by
  refine ⟨rfl, fun ρ h ha hT => ?_⟩
  obtain ⟨-, -, hF, hG, hH, hA, hP⟩ := ha
  have f0 : (0 : Int) ≤ ((0) + ((1) * ρ 1 + 0)) := hF _ (List.mem_of_getElem? (i := 0) rfl)
  have f1 : (0 : Int) ≤ ((1200) + ((-1) * ρ 1 + 0)) := hF _ (List.mem_of_getElem? (i := 1) rfl)
  have f2 : (0 : Int) ≤ ((3) + ((-1) * ρ 4 + 0)) := hF _ (List.mem_of_getElem? (i := 2) rfl)
  have f3 : (0 : Int) ≤ ((-3) + ((1) * ρ 4 + 0)) := hF _ (List.mem_of_getElem? (i := 3) rfl)
  have f4 : (0 : Int) ≤ ((0) + ((1) * ρ 3 + 0)) := hF _ (List.mem_of_getElem? (i := 4) rfl)
  have f5 : (0 : Int) ≤ ((-1) + ((1) * ρ 1 + ((-1) * ρ 3 + 0))) := hF _ (List.mem_of_getElem? (i := 5) rfl)
  have f6 : (0 : Int) ≤ ((0) + ((1) * ρ 2 + ((-1) * ρ 3 + 0))) := hF _ (List.mem_of_getElem? (i := 6) rfl)
  have f7 : (0 : Int) ≤ ((5) + ((-1) * ρ 2 + ((1) * ρ 3 + 0))) := hF _ (List.mem_of_getElem? (i := 7) rfl)
  have g0 : G (ρ 0).toNat = 22 := by
    have q := (hG _ (List.mem_of_getElem? (i := 0) rfl)).2
    rwa [show ev ρ (0, [(0, 1)]) = ρ 0 from ev_v] at q
  have h0 : (0 : Int) ≤ ρ 1 ∧ ρ 1 ≤ 1200 := hf_rg hT (hH _ (List.mem_of_getElem? (i := 0) rfl)) ev_v g0 rfl rfl rfl ev_v
  have h1 : (0 : Int) ≤ ρ 2 ∧ ρ 2 ≤ 1200 := hf_rg hT (hH _ (List.mem_of_getElem? (i := 1) rfl)) ev_v g0 rfl rfl rfl ev_v
  have h2 : (0 : Int) ≤ ρ 3 ∧ ρ 3 ≤ 1200 := hf_rg hT (hH _ (List.mem_of_getElem? (i := 2) rfl)) ev_v g0 rfl rfl rfl ev_v
  have p0 : q179 (tB (vw C h)) (ρ 1 + 2048 * ρ 3) (ρ 2) := c2 (P := q179 (tB (vw C h))) (show q179 (tB (vw C h)) (((0) + ((1) * ρ 1 + ((2048) * ρ 3 + 0)))) (((0) + ((1) * ρ 2 + 0))) from hP _ (List.mem_of_getElem? (i := 0) rfl)) (by omega) (by omega)
  have p1 : q154 (tB (vw C h)) (2048 * ρ 2 + (-2047) * ρ 3) (ρ 5) := c2 (P := q154 (tB (vw C h))) (show q154 (tB (vw C h)) (((0) + ((2048) * ρ 2 + ((-2047) * ρ 3 + 0)))) (((0) + ((1) * ρ 5 + 0))) from hP _ (List.mem_of_getElem? (i := 1) rfl)) (by omega) (by omega)
  obtain ⟨k1, k2, k3, k4⟩ := tk_num (n := ρ 1) (s := ρ 3) (by omega) (by omega) (by omega) (by omega) (by omega) p0
  rw [if_pos (by omega)] at k1
  refine ⟨_, List.mem_cons_self, ρ, fun _ _ => rfl, fun q hq => absurd hq List.not_mem_nil, trivial, fun f hf => ?_, fun q hq => absurd hq List.not_mem_nil, fun q hq => absurd hq List.not_mem_nil, fun q hq => absurd hq List.not_mem_nil, fun q hq => ?_⟩
  · exact absurd hf List.not_mem_nil
  · simp only [List.mem_cons, List.not_mem_nil, or_false] at hq
    rcases hq with rfl | rfl | rfl | rfl
    · show q180 (tB (vw C h)) (((0) + ((1) * ρ 1 + ((2048) * ρ 3 + 0)))) (((0) + ((1) * ρ 4 + 0)))
      refine c2 (P := q180 (tB (vw C h))) (r := ρ 1 + 2048 * ρ 3) (c := ρ 4) ?_ (by omega) (by omega)
      show q180 (tB (vw C h)) (ρ 1 + 2048 * ρ 3) (ρ 4)
      exact o180 (n := ρ 1) (s := ρ 3) (by omega) (by omega) (by omega) (by omega) (by omega) k1 (by omega)
    · show q156 (tB (vw C h)) (((0) + ((1) * ρ 1 + ((2048) * ρ 2 + 0)))) (((0) + ((1) * ρ 3 + 0)))
      refine c2 (P := q156 (tB (vw C h))) (r := ρ 1 + 2048 * ρ 2) (c := ρ 3) ?_ (by omega) (by omega)
      show q156 (tB (vw C h)) (ρ 1 + 2048 * ρ 2) (ρ 3)
      exact o156 (n := ρ 1) (s := ρ 3) (e := ρ 2) (by omega) (by omega) (by omega) (by omega) (by omega) (by omega) (k2.trans (by omega))
    · show q157 (tB (vw C h)) (((0) + ((1) * ρ 1 + ((2048) * ρ 3 + 0)))) (((0) + ((1) * ρ 5 + 0)))
      refine c2 (P := q157 (tB (vw C h))) (r := ρ 1 + 2048 * ρ 3) (c := ρ 5) ?_ (by omega) (by omega)
      show q157 (tB (vw C h)) (ρ 1 + 2048 * ρ 3) (ρ 5)
      exact o157 (n := ρ 1) (s := ρ 3) (i := ρ 2) (by omega) (by omega) (by omega) (by omega) (by omega) (k2.trans (by omega)) (by omega) (by omega) (by omega) p1
    · show q181 (tB (vw C h)) (((0) + ((1) * ρ 1 + ((2048) * ρ 3 + 0)))) (((0) + ((1) * ρ 5 + 0)))
      refine c2 (P := q181 (tB (vw C h))) (r := ρ 1 + 2048 * ρ 3) (c := ρ 5) ?_ (by omega) (by omega)
      show q181 (tB (vw C h)) (ρ 1 + 2048 * ρ 3) (ρ 5)
      exact o181n (n := ρ 1) (s := ρ 3) (by omega) (by omega) (by omega) (by omega) (by omega) k1 (by decide)
/-- tkNBM -/
theorem lem_266_ok (hU : uqG G C) : lem_266.1.2.1 = [] ∧ lemOK (PRd G C D xs) G rgs lem_266 := by
  refine ⟨rfl, fun ρ h ha hT => ?_⟩
  obtain ⟨-, -, hF, hG, hH, hA, hP⟩ := ha
  have f0 : (0 : Int) ≤ ((0) + ((1) * ρ 1 + 0)) := hF _ (List.mem_of_getElem? (i := 0) rfl)
  have f1 : (0 : Int) ≤ ((1200) + ((-1) * ρ 1 + 0)) := hF _ (List.mem_of_getElem? (i := 1) rfl)
  have f2 : (0 : Int) ≤ ((0) + ((-1) * ρ 4 + 0)) := hF _ (List.mem_of_getElem? (i := 2) rfl)
  have f3 : (0 : Int) ≤ ((0) + ((1) * ρ 4 + 0)) := hF _ (List.mem_of_getElem? (i := 3) rfl)
  have f4 : (0 : Int) ≤ ((0) + ((1) * ρ 3 + 0)) := hF _ (List.mem_of_getElem? (i := 4) rfl)
  have f5 : (0 : Int) ≤ ((-1) + ((1) * ρ 1 + ((-1) * ρ 3 + 0))) := hF _ (List.mem_of_getElem? (i := 5) rfl)
  have f6 : (0 : Int) ≤ ((-6) + ((1) * ρ 2 + ((-1) * ρ 3 + 0))) := hF _ (List.mem_of_getElem? (i := 6) rfl)
  have g0 : G (ρ 0).toNat = 22 := by
    have q := (hG _ (List.mem_of_getElem? (i := 0) rfl)).2
    rwa [show ev ρ (0, [(0, 1)]) = ρ 0 from ev_v] at q
  have h0 : (0 : Int) ≤ ρ 1 ∧ ρ 1 ≤ 1200 := hf_rg hT (hH _ (List.mem_of_getElem? (i := 0) rfl)) ev_v g0 rfl rfl rfl ev_v
  have h1 : (0 : Int) ≤ ρ 2 ∧ ρ 2 ≤ 1200 := hf_rg hT (hH _ (List.mem_of_getElem? (i := 1) rfl)) ev_v g0 rfl rfl rfl ev_v
  have h2 : (0 : Int) ≤ ρ 3 ∧ ρ 3 ≤ 1200 := hf_rg hT (hH _ (List.mem_of_getElem? (i := 2) rfl)) ev_v g0 rfl rfl rfl ev_v
  have p0 : q179 (tB (vw C h)) (ρ 1 + 2048 * ρ 3) (ρ 2) := c2 (P := q179 (tB (vw C h))) (show q179 (tB (vw C h)) (((0) + ((1) * ρ 1 + ((2048) * ρ 3 + 0)))) (((0) + ((1) * ρ 2 + 0))) from hP _ (List.mem_of_getElem? (i := 0) rfl)) (by omega) (by omega)
  obtain ⟨k1, k2, k3, k4⟩ := tk_num (n := ρ 1) (s := ρ 3) (by omega) (by omega) (by omega) (by omega) (by omega) p0
  rw [if_neg (by omega)] at k1
  refine ⟨_, List.mem_cons_self, ρ, fun _ _ => rfl, fun q hq => absurd hq List.not_mem_nil, trivial, fun f hf => ?_, fun q hq => absurd hq List.not_mem_nil, fun q hq => absurd hq List.not_mem_nil, fun q hq => absurd hq List.not_mem_nil, fun q hq => ?_⟩
  · exact absurd hf List.not_mem_nil
  · simp only [List.mem_cons, List.not_mem_nil, or_false] at hq
    rcases hq with rfl | rfl | rfl | rfl
    · show q180 (tB (vw C h)) (((0) + ((1) * ρ 1 + ((2048) * ρ 3 + 0)))) (((0) + ((1) * ρ 4 + 0)))
      refine c2 (P := q180 (tB (vw C h))) (r := ρ 1 + 2048 * ρ 3) (c := ρ 4) ?_ (by omega) (by omega)
      show q180 (tB (vw C h)) (ρ 1 + 2048 * ρ 3) (ρ 4)
      exact o180 (n := ρ 1) (s := ρ 3) (by omega) (by omega) (by omega) (by omega) (by omega) k1 (by omega)
    · show q156 (tB (vw C h)) (((0) + ((1) * ρ 1 + ((2048) * ρ 2 + 0)))) (((0) + ((1) * ρ 3 + 0)))
      refine c2 (P := q156 (tB (vw C h))) (r := ρ 1 + 2048 * ρ 2) (c := ρ 3) ?_ (by omega) (by omega)
      show q156 (tB (vw C h)) (ρ 1 + 2048 * ρ 2) (ρ 3)
      exact o156 (n := ρ 1) (s := ρ 3) (e := ρ 2) (by omega) (by omega) (by omega) (by omega) (by omega) (by omega) (k2.trans (by omega))
    · show q157 (tB (vw C h)) (((0) + ((1) * ρ 1 + ((2048) * ρ 3 + 0)))) (((0) + ((1) * ρ 5 + 0)))
      refine c2 (P := q157 (tB (vw C h))) (r := ρ 1 + 2048 * ρ 3) (c := ρ 5) ?_ (by omega) (by omega)
      show q157 (tB (vw C h)) (ρ 1 + 2048 * ρ 3) (ρ 5)
      exact o157n (n := ρ 1) (s := ρ 3) (by omega) (by omega) (by omega) (by omega) (by omega) k1 (by decide)
    · show q181 (tB (vw C h)) (((0) + ((1) * ρ 1 + ((2048) * ρ 3 + 0)))) (((0) + ((1) * ρ 5 + 0)))
      refine c2 (P := q181 (tB (vw C h))) (r := ρ 1 + 2048 * ρ 3) (c := ρ 5) ?_ (by omega) (by omega)
      show q181 (tB (vw C h)) (ρ 1 + 2048 * ρ 3) (ρ 5)
      exact o181n (n := ρ 1) (s := ρ 3) (by omega) (by omega) (by omega) (by omega) (by omega) k1 (by decide)
/-- tkS59M -/
theorem lem_267_ok (hU : uqG G C) : lem_267.1.2.1 = [] ∧ lemOK (PRd G C D xs) G rgs lem_267 := by
  refine ⟨rfl, fun ρ h ha hT => ?_⟩
  obtain ⟨-, -, hF, hG, hH, hA, hP⟩ := ha
  have f0 : (0 : Int) ≤ ((0) + ((1) * ρ 1 + 0)) := hF _ (List.mem_of_getElem? (i := 0) rfl)
  have f1 : (0 : Int) ≤ ((1200) + ((-1) * ρ 1 + 0)) := hF _ (List.mem_of_getElem? (i := 1) rfl)
  have f2 : (0 : Int) ≤ ((0) + ((1) * ρ 2 + 0)) := hF _ (List.mem_of_getElem? (i := 2) rfl)
  have f3 : (0 : Int) ≤ ((-1) + ((1) * ρ 1 + ((-1) * ρ 2 + 0))) := hF _ (List.mem_of_getElem? (i := 3) rfl)
  have f4 : (0 : Int) ≤ ((-59) + ((1) * ρ 3 + 0)) := hF _ (List.mem_of_getElem? (i := 4) rfl)
  have f5 : (0 : Int) ≤ ((59) + ((-1) * ρ 3 + 0)) := hF _ (List.mem_of_getElem? (i := 5) rfl)
  have g0 : G (ρ 0).toNat = 22 := by
    have q := (hG _ (List.mem_of_getElem? (i := 0) rfl)).2
    rwa [show ev ρ (0, [(0, 1)]) = ρ 0 from ev_v] at q
  have h0 : (0 : Int) ≤ ρ 1 ∧ ρ 1 ≤ 1200 := hf_rg hT (hH _ (List.mem_of_getElem? (i := 0) rfl)) ev_v g0 rfl rfl rfl ev_v
  have h1 : (0 : Int) ≤ ρ 2 ∧ ρ 2 ≤ 1200 := hf_rg hT (hH _ (List.mem_of_getElem? (i := 1) rfl)) ev_v g0 rfl rfl rfl ev_v
  have p0 : q150 (tB (vw C h)) (ρ 2) (ρ 3) := c2 (P := q150 (tB (vw C h))) (show q150 (tB (vw C h)) (((0) + ((1) * ρ 2 + 0))) (((0) + ((1) * ρ 3 + 0))) from hP _ (List.mem_of_getElem? (i := 0) rfl)) (by omega) (by omega)
  have hb := p0
  have hb1 := hb.1
  have hb2 := hb.2.1
  have hB : (tB (vw C h)) (ρ 2).toNat = ρ 3 % 256 := hb.2.2.symm
  obtain ⟨k1, k2⟩ := tk_sign (u := 59) (n := ρ 1) (s := ρ 2) (by omega) (by omega) (by omega) (hB.trans (by omega)) (by decide)
  refine ⟨_, List.mem_cons_self, ρ, fun _ _ => rfl, fun q hq => absurd hq List.not_mem_nil, trivial, fun f hf => ?_, fun q hq => absurd hq List.not_mem_nil, fun q hq => absurd hq List.not_mem_nil, fun q hq => absurd hq List.not_mem_nil, fun q hq => ?_⟩
  · exact absurd hf List.not_mem_nil
  · simp only [List.mem_cons, List.not_mem_nil, or_false] at hq
    rcases hq with rfl | rfl | rfl | rfl
    · show q180 (tB (vw C h)) (((0) + ((1) * ρ 1 + ((2048) * ρ 2 + 0)))) (((4) + 0))
      refine c2 (P := q180 (tB (vw C h))) (r := ρ 1 + 2048 * ρ 2) (c := (4 : Int)) ?_ (by omega) (by omega)
      show q180 (tB (vw C h)) (ρ 1 + 2048 * ρ 2) ((4 : Int))
      exact o180 (n := ρ 1) (s := ρ 2) (by omega) (by omega) (by omega) (by omega) (by omega) k1 (by omega)
    · show q156 (tB (vw C h)) (((2048) + ((1) * ρ 1 + ((2048) * ρ 2 + 0)))) (((0) + ((1) * ρ 2 + 0)))
      refine c2 (P := q156 (tB (vw C h))) (r := ρ 1 + 2048 * ρ 2 + 2048) (c := ρ 2) ?_ (by omega) (by omega)
      show q156 (tB (vw C h)) (ρ 1 + 2048 * ρ 2 + 2048) (ρ 2)
      exact o156 (n := ρ 1) (s := ρ 2) (e := ρ 2 + 1) (by omega) (by omega) (by omega) (by omega) (by omega) (by omega) (k2.trans (by omega))
    · show q157 (tB (vw C h)) (((0) + ((1) * ρ 1 + ((2048) * ρ 2 + 0)))) (((0) + ((1) * ρ 3 + 0)))
      refine c2 (P := q157 (tB (vw C h))) (r := ρ 1 + 2048 * ρ 2) (c := ρ 3) ?_ (by omega) (by omega)
      show q157 (tB (vw C h)) (ρ 1 + 2048 * ρ 2) (ρ 3)
      exact o157n (n := ρ 1) (s := ρ 2) (by omega) (by omega) (by omega) (by omega) (by omega) k1 (by decide)
    · show q181 (tB (vw C h)) (((0) + ((1) * ρ 1 + ((2048) * ρ 2 + 0)))) (((0) + ((1) * ρ 3 + 0)))
      refine c2 (P := q181 (tB (vw C h))) (r := ρ 1 + 2048 * ρ 2) (c := ρ 3) ?_ (by omega) (by omega)
      show q181 (tB (vw C h)) (ρ 1 + 2048 * ρ 2) (ρ 3)
      exact o181 (n := ρ 1) (s := ρ 2) (by omega) (by omega) (by omega) (by omega) (by omega) (hB.trans (by omega))
/-- tkS40M -/
theorem lem_268_ok (hU : uqG G C) : lem_268.1.2.1 = [] ∧ lemOK (PRd G C D xs) G rgs lem_268 := by
  refine ⟨rfl, fun ρ h ha hT => ?_⟩
  obtain ⟨-, -, hF, hG, hH, hA, hP⟩ := ha
  have f0 : (0 : Int) ≤ ((0) + ((1) * ρ 1 + 0)) := hF _ (List.mem_of_getElem? (i := 0) rfl)
  have f1 : (0 : Int) ≤ ((1200) + ((-1) * ρ 1 + 0)) := hF _ (List.mem_of_getElem? (i := 1) rfl)
  have f2 : (0 : Int) ≤ ((0) + ((1) * ρ 2 + 0)) := hF _ (List.mem_of_getElem? (i := 2) rfl)
  have f3 : (0 : Int) ≤ ((-1) + ((1) * ρ 1 + ((-1) * ρ 2 + 0))) := hF _ (List.mem_of_getElem? (i := 3) rfl)
  have f4 : (0 : Int) ≤ ((-40) + ((1) * ρ 3 + 0)) := hF _ (List.mem_of_getElem? (i := 4) rfl)
  have f5 : (0 : Int) ≤ ((40) + ((-1) * ρ 3 + 0)) := hF _ (List.mem_of_getElem? (i := 5) rfl)
  have g0 : G (ρ 0).toNat = 22 := by
    have q := (hG _ (List.mem_of_getElem? (i := 0) rfl)).2
    rwa [show ev ρ (0, [(0, 1)]) = ρ 0 from ev_v] at q
  have h0 : (0 : Int) ≤ ρ 1 ∧ ρ 1 ≤ 1200 := hf_rg hT (hH _ (List.mem_of_getElem? (i := 0) rfl)) ev_v g0 rfl rfl rfl ev_v
  have h1 : (0 : Int) ≤ ρ 2 ∧ ρ 2 ≤ 1200 := hf_rg hT (hH _ (List.mem_of_getElem? (i := 1) rfl)) ev_v g0 rfl rfl rfl ev_v
  have p0 : q150 (tB (vw C h)) (ρ 2) (ρ 3) := c2 (P := q150 (tB (vw C h))) (show q150 (tB (vw C h)) (((0) + ((1) * ρ 2 + 0))) (((0) + ((1) * ρ 3 + 0))) from hP _ (List.mem_of_getElem? (i := 0) rfl)) (by omega) (by omega)
  have hb := p0
  have hb1 := hb.1
  have hb2 := hb.2.1
  have hB : (tB (vw C h)) (ρ 2).toNat = ρ 3 % 256 := hb.2.2.symm
  obtain ⟨k1, k2⟩ := tk_sign (u := 40) (n := ρ 1) (s := ρ 2) (by omega) (by omega) (by omega) (hB.trans (by omega)) (by decide)
  refine ⟨_, List.mem_cons_self, ρ, fun _ _ => rfl, fun q hq => absurd hq List.not_mem_nil, trivial, fun f hf => ?_, fun q hq => absurd hq List.not_mem_nil, fun q hq => absurd hq List.not_mem_nil, fun q hq => absurd hq List.not_mem_nil, fun q hq => ?_⟩
  · exact absurd hf List.not_mem_nil
  · simp only [List.mem_cons, List.not_mem_nil, or_false] at hq
    rcases hq with rfl | rfl | rfl | rfl
    · show q180 (tB (vw C h)) (((0) + ((1) * ρ 1 + ((2048) * ρ 2 + 0)))) (((4) + 0))
      refine c2 (P := q180 (tB (vw C h))) (r := ρ 1 + 2048 * ρ 2) (c := (4 : Int)) ?_ (by omega) (by omega)
      show q180 (tB (vw C h)) (ρ 1 + 2048 * ρ 2) ((4 : Int))
      exact o180 (n := ρ 1) (s := ρ 2) (by omega) (by omega) (by omega) (by omega) (by omega) k1 (by omega)
    · show q156 (tB (vw C h)) (((2048) + ((1) * ρ 1 + ((2048) * ρ 2 + 0)))) (((0) + ((1) * ρ 2 + 0)))
      refine c2 (P := q156 (tB (vw C h))) (r := ρ 1 + 2048 * ρ 2 + 2048) (c := ρ 2) ?_ (by omega) (by omega)
      show q156 (tB (vw C h)) (ρ 1 + 2048 * ρ 2 + 2048) (ρ 2)
      exact o156 (n := ρ 1) (s := ρ 2) (e := ρ 2 + 1) (by omega) (by omega) (by omega) (by omega) (by omega) (by omega) (k2.trans (by omega))
    · show q157 (tB (vw C h)) (((0) + ((1) * ρ 1 + ((2048) * ρ 2 + 0)))) (((0) + ((1) * ρ 3 + 0)))
      refine c2 (P := q157 (tB (vw C h))) (r := ρ 1 + 2048 * ρ 2) (c := ρ 3) ?_ (by omega) (by omega)
      show q157 (tB (vw C h)) (ρ 1 + 2048 * ρ 2) (ρ 3)
      exact o157n (n := ρ 1) (s := ρ 2) (by omega) (by omega) (by omega) (by omega) (by omega) k1 (by decide)
    · show q181 (tB (vw C h)) (((0) + ((1) * ρ 1 + ((2048) * ρ 2 + 0)))) (((0) + ((1) * ρ 3 + 0)))
      refine c2 (P := q181 (tB (vw C h))) (r := ρ 1 + 2048 * ρ 2) (c := ρ 3) ?_ (by omega) (by omega)
      show q181 (tB (vw C h)) (ρ 1 + 2048 * ρ 2) (ρ 3)
      exact o181 (n := ρ 1) (s := ρ 2) (by omega) (by omega) (by omega) (by omega) (by omega) (hB.trans (by omega))
/-- tkS41M -/
theorem lem_269_ok (hU : uqG G C) : lem_269.1.2.1 = [] ∧ lemOK (PRd G C D xs) G rgs lem_269 := by
  refine ⟨rfl, fun ρ h ha hT => ?_⟩
  obtain ⟨-, -, hF, hG, hH, hA, hP⟩ := ha
  have f0 : (0 : Int) ≤ ((0) + ((1) * ρ 1 + 0)) := hF _ (List.mem_of_getElem? (i := 0) rfl)
  have f1 : (0 : Int) ≤ ((1200) + ((-1) * ρ 1 + 0)) := hF _ (List.mem_of_getElem? (i := 1) rfl)
  have f2 : (0 : Int) ≤ ((0) + ((1) * ρ 2 + 0)) := hF _ (List.mem_of_getElem? (i := 2) rfl)
  have f3 : (0 : Int) ≤ ((-1) + ((1) * ρ 1 + ((-1) * ρ 2 + 0))) := hF _ (List.mem_of_getElem? (i := 3) rfl)
  have f4 : (0 : Int) ≤ ((-41) + ((1) * ρ 3 + 0)) := hF _ (List.mem_of_getElem? (i := 4) rfl)
  have f5 : (0 : Int) ≤ ((41) + ((-1) * ρ 3 + 0)) := hF _ (List.mem_of_getElem? (i := 5) rfl)
  have g0 : G (ρ 0).toNat = 22 := by
    have q := (hG _ (List.mem_of_getElem? (i := 0) rfl)).2
    rwa [show ev ρ (0, [(0, 1)]) = ρ 0 from ev_v] at q
  have h0 : (0 : Int) ≤ ρ 1 ∧ ρ 1 ≤ 1200 := hf_rg hT (hH _ (List.mem_of_getElem? (i := 0) rfl)) ev_v g0 rfl rfl rfl ev_v
  have h1 : (0 : Int) ≤ ρ 2 ∧ ρ 2 ≤ 1200 := hf_rg hT (hH _ (List.mem_of_getElem? (i := 1) rfl)) ev_v g0 rfl rfl rfl ev_v
  have p0 : q150 (tB (vw C h)) (ρ 2) (ρ 3) := c2 (P := q150 (tB (vw C h))) (show q150 (tB (vw C h)) (((0) + ((1) * ρ 2 + 0))) (((0) + ((1) * ρ 3 + 0))) from hP _ (List.mem_of_getElem? (i := 0) rfl)) (by omega) (by omega)
  have hb := p0
  have hb1 := hb.1
  have hb2 := hb.2.1
  have hB : (tB (vw C h)) (ρ 2).toNat = ρ 3 % 256 := hb.2.2.symm
  obtain ⟨k1, k2⟩ := tk_sign (u := 41) (n := ρ 1) (s := ρ 2) (by omega) (by omega) (by omega) (hB.trans (by omega)) (by decide)
  refine ⟨_, List.mem_cons_self, ρ, fun _ _ => rfl, fun q hq => absurd hq List.not_mem_nil, trivial, fun f hf => ?_, fun q hq => absurd hq List.not_mem_nil, fun q hq => absurd hq List.not_mem_nil, fun q hq => absurd hq List.not_mem_nil, fun q hq => ?_⟩
  · exact absurd hf List.not_mem_nil
  · simp only [List.mem_cons, List.not_mem_nil, or_false] at hq
    rcases hq with rfl | rfl | rfl | rfl
    · show q180 (tB (vw C h)) (((0) + ((1) * ρ 1 + ((2048) * ρ 2 + 0)))) (((4) + 0))
      refine c2 (P := q180 (tB (vw C h))) (r := ρ 1 + 2048 * ρ 2) (c := (4 : Int)) ?_ (by omega) (by omega)
      show q180 (tB (vw C h)) (ρ 1 + 2048 * ρ 2) ((4 : Int))
      exact o180 (n := ρ 1) (s := ρ 2) (by omega) (by omega) (by omega) (by omega) (by omega) k1 (by omega)
    · show q156 (tB (vw C h)) (((2048) + ((1) * ρ 1 + ((2048) * ρ 2 + 0)))) (((0) + ((1) * ρ 2 + 0)))
      refine c2 (P := q156 (tB (vw C h))) (r := ρ 1 + 2048 * ρ 2 + 2048) (c := ρ 2) ?_ (by omega) (by omega)
      show q156 (tB (vw C h)) (ρ 1 + 2048 * ρ 2 + 2048) (ρ 2)
      exact o156 (n := ρ 1) (s := ρ 2) (e := ρ 2 + 1) (by omega) (by omega) (by omega) (by omega) (by omega) (by omega) (k2.trans (by omega))
    · show q157 (tB (vw C h)) (((0) + ((1) * ρ 1 + ((2048) * ρ 2 + 0)))) (((0) + ((1) * ρ 3 + 0)))
      refine c2 (P := q157 (tB (vw C h))) (r := ρ 1 + 2048 * ρ 2) (c := ρ 3) ?_ (by omega) (by omega)
      show q157 (tB (vw C h)) (ρ 1 + 2048 * ρ 2) (ρ 3)
      exact o157n (n := ρ 1) (s := ρ 2) (by omega) (by omega) (by omega) (by omega) (by omega) k1 (by decide)
    · show q181 (tB (vw C h)) (((0) + ((1) * ρ 1 + ((2048) * ρ 2 + 0)))) (((0) + ((1) * ρ 3 + 0)))
      refine c2 (P := q181 (tB (vw C h))) (r := ρ 1 + 2048 * ρ 2) (c := ρ 3) ?_ (by omega) (by omega)
      show q181 (tB (vw C h)) (ρ 1 + 2048 * ρ 2) (ρ 3)
      exact o181 (n := ρ 1) (s := ρ 2) (by omega) (by omega) (by omega) (by omega) (by omega) (hB.trans (by omega))
/-- tkS60M -/
theorem lem_270_ok (hU : uqG G C) : lem_270.1.2.1 = [] ∧ lemOK (PRd G C D xs) G rgs lem_270 := by
  refine ⟨rfl, fun ρ h ha hT => ?_⟩
  obtain ⟨-, -, hF, hG, hH, hA, hP⟩ := ha
  have f0 : (0 : Int) ≤ ((0) + ((1) * ρ 1 + 0)) := hF _ (List.mem_of_getElem? (i := 0) rfl)
  have f1 : (0 : Int) ≤ ((1200) + ((-1) * ρ 1 + 0)) := hF _ (List.mem_of_getElem? (i := 1) rfl)
  have f2 : (0 : Int) ≤ ((0) + ((1) * ρ 2 + 0)) := hF _ (List.mem_of_getElem? (i := 2) rfl)
  have f3 : (0 : Int) ≤ ((-1) + ((1) * ρ 1 + ((-1) * ρ 2 + 0))) := hF _ (List.mem_of_getElem? (i := 3) rfl)
  have f4 : (0 : Int) ≤ ((-60) + ((1) * ρ 3 + 0)) := hF _ (List.mem_of_getElem? (i := 4) rfl)
  have f5 : (0 : Int) ≤ ((60) + ((-1) * ρ 3 + 0)) := hF _ (List.mem_of_getElem? (i := 5) rfl)
  have g0 : G (ρ 0).toNat = 22 := by
    have q := (hG _ (List.mem_of_getElem? (i := 0) rfl)).2
    rwa [show ev ρ (0, [(0, 1)]) = ρ 0 from ev_v] at q
  have h0 : (0 : Int) ≤ ρ 1 ∧ ρ 1 ≤ 1200 := hf_rg hT (hH _ (List.mem_of_getElem? (i := 0) rfl)) ev_v g0 rfl rfl rfl ev_v
  have h1 : (0 : Int) ≤ ρ 2 ∧ ρ 2 ≤ 1200 := hf_rg hT (hH _ (List.mem_of_getElem? (i := 1) rfl)) ev_v g0 rfl rfl rfl ev_v
  have p0 : q150 (tB (vw C h)) (ρ 2) (ρ 3) := c2 (P := q150 (tB (vw C h))) (show q150 (tB (vw C h)) (((0) + ((1) * ρ 2 + 0))) (((0) + ((1) * ρ 3 + 0))) from hP _ (List.mem_of_getElem? (i := 0) rfl)) (by omega) (by omega)
  have hb := p0
  have hb1 := hb.1
  have hb2 := hb.2.1
  have hB : (tB (vw C h)) (ρ 2).toNat = ρ 3 % 256 := hb.2.2.symm
  obtain ⟨k1, k2⟩ := tk_sign (u := 60) (n := ρ 1) (s := ρ 2) (by omega) (by omega) (by omega) (hB.trans (by omega)) (by decide)
  refine ⟨_, List.mem_cons_self, ρ, fun _ _ => rfl, fun q hq => absurd hq List.not_mem_nil, trivial, fun f hf => ?_, fun q hq => absurd hq List.not_mem_nil, fun q hq => absurd hq List.not_mem_nil, fun q hq => absurd hq List.not_mem_nil, fun q hq => ?_⟩
  · exact absurd hf List.not_mem_nil
  · simp only [List.mem_cons, List.not_mem_nil, or_false] at hq
    rcases hq with rfl | rfl | rfl | rfl
    · show q180 (tB (vw C h)) (((0) + ((1) * ρ 1 + ((2048) * ρ 2 + 0)))) (((4) + 0))
      refine c2 (P := q180 (tB (vw C h))) (r := ρ 1 + 2048 * ρ 2) (c := (4 : Int)) ?_ (by omega) (by omega)
      show q180 (tB (vw C h)) (ρ 1 + 2048 * ρ 2) ((4 : Int))
      exact o180 (n := ρ 1) (s := ρ 2) (by omega) (by omega) (by omega) (by omega) (by omega) k1 (by omega)
    · show q156 (tB (vw C h)) (((2048) + ((1) * ρ 1 + ((2048) * ρ 2 + 0)))) (((0) + ((1) * ρ 2 + 0)))
      refine c2 (P := q156 (tB (vw C h))) (r := ρ 1 + 2048 * ρ 2 + 2048) (c := ρ 2) ?_ (by omega) (by omega)
      show q156 (tB (vw C h)) (ρ 1 + 2048 * ρ 2 + 2048) (ρ 2)
      exact o156 (n := ρ 1) (s := ρ 2) (e := ρ 2 + 1) (by omega) (by omega) (by omega) (by omega) (by omega) (by omega) (k2.trans (by omega))
    · show q157 (tB (vw C h)) (((0) + ((1) * ρ 1 + ((2048) * ρ 2 + 0)))) (((0) + ((1) * ρ 3 + 0)))
      refine c2 (P := q157 (tB (vw C h))) (r := ρ 1 + 2048 * ρ 2) (c := ρ 3) ?_ (by omega) (by omega)
      show q157 (tB (vw C h)) (ρ 1 + 2048 * ρ 2) (ρ 3)
      exact o157n (n := ρ 1) (s := ρ 2) (by omega) (by omega) (by omega) (by omega) (by omega) k1 (by decide)
    · show q181 (tB (vw C h)) (((0) + ((1) * ρ 1 + ((2048) * ρ 2 + 0)))) (((0) + ((1) * ρ 3 + 0)))
      refine c2 (P := q181 (tB (vw C h))) (r := ρ 1 + 2048 * ρ 2) (c := ρ 3) ?_ (by omega) (by omega)
      show q181 (tB (vw C h)) (ρ 1 + 2048 * ρ 2) (ρ 3)
      exact o181 (n := ρ 1) (s := ρ 2) (by omega) (by omega) (by omega) (by omega) (by omega) (hB.trans (by omega))
/-- tkS62M -/
theorem lem_271_ok (hU : uqG G C) : lem_271.1.2.1 = [] ∧ lemOK (PRd G C D xs) G rgs lem_271 := by
  refine ⟨rfl, fun ρ h ha hT => ?_⟩
  obtain ⟨-, -, hF, hG, hH, hA, hP⟩ := ha
  have f0 : (0 : Int) ≤ ((0) + ((1) * ρ 1 + 0)) := hF _ (List.mem_of_getElem? (i := 0) rfl)
  have f1 : (0 : Int) ≤ ((1200) + ((-1) * ρ 1 + 0)) := hF _ (List.mem_of_getElem? (i := 1) rfl)
  have f2 : (0 : Int) ≤ ((0) + ((1) * ρ 2 + 0)) := hF _ (List.mem_of_getElem? (i := 2) rfl)
  have f3 : (0 : Int) ≤ ((-1) + ((1) * ρ 1 + ((-1) * ρ 2 + 0))) := hF _ (List.mem_of_getElem? (i := 3) rfl)
  have f4 : (0 : Int) ≤ ((-62) + ((1) * ρ 3 + 0)) := hF _ (List.mem_of_getElem? (i := 4) rfl)
  have f5 : (0 : Int) ≤ ((62) + ((-1) * ρ 3 + 0)) := hF _ (List.mem_of_getElem? (i := 5) rfl)
  have g0 : G (ρ 0).toNat = 22 := by
    have q := (hG _ (List.mem_of_getElem? (i := 0) rfl)).2
    rwa [show ev ρ (0, [(0, 1)]) = ρ 0 from ev_v] at q
  have h0 : (0 : Int) ≤ ρ 1 ∧ ρ 1 ≤ 1200 := hf_rg hT (hH _ (List.mem_of_getElem? (i := 0) rfl)) ev_v g0 rfl rfl rfl ev_v
  have h1 : (0 : Int) ≤ ρ 2 ∧ ρ 2 ≤ 1200 := hf_rg hT (hH _ (List.mem_of_getElem? (i := 1) rfl)) ev_v g0 rfl rfl rfl ev_v
  have p0 : q150 (tB (vw C h)) (ρ 2) (ρ 3) := c2 (P := q150 (tB (vw C h))) (show q150 (tB (vw C h)) (((0) + ((1) * ρ 2 + 0))) (((0) + ((1) * ρ 3 + 0))) from hP _ (List.mem_of_getElem? (i := 0) rfl)) (by omega) (by omega)
  have hb := p0
  have hb1 := hb.1
  have hb2 := hb.2.1
  have hB : (tB (vw C h)) (ρ 2).toNat = ρ 3 % 256 := hb.2.2.symm
  obtain ⟨k1, k2⟩ := tk_sign (u := 62) (n := ρ 1) (s := ρ 2) (by omega) (by omega) (by omega) (hB.trans (by omega)) (by decide)
  refine ⟨_, List.mem_cons_self, ρ, fun _ _ => rfl, fun q hq => absurd hq List.not_mem_nil, trivial, fun f hf => ?_, fun q hq => absurd hq List.not_mem_nil, fun q hq => absurd hq List.not_mem_nil, fun q hq => absurd hq List.not_mem_nil, fun q hq => ?_⟩
  · exact absurd hf List.not_mem_nil
  · simp only [List.mem_cons, List.not_mem_nil, or_false] at hq
    rcases hq with rfl | rfl | rfl | rfl
    · show q180 (tB (vw C h)) (((0) + ((1) * ρ 1 + ((2048) * ρ 2 + 0)))) (((4) + 0))
      refine c2 (P := q180 (tB (vw C h))) (r := ρ 1 + 2048 * ρ 2) (c := (4 : Int)) ?_ (by omega) (by omega)
      show q180 (tB (vw C h)) (ρ 1 + 2048 * ρ 2) ((4 : Int))
      exact o180 (n := ρ 1) (s := ρ 2) (by omega) (by omega) (by omega) (by omega) (by omega) k1 (by omega)
    · show q156 (tB (vw C h)) (((2048) + ((1) * ρ 1 + ((2048) * ρ 2 + 0)))) (((0) + ((1) * ρ 2 + 0)))
      refine c2 (P := q156 (tB (vw C h))) (r := ρ 1 + 2048 * ρ 2 + 2048) (c := ρ 2) ?_ (by omega) (by omega)
      show q156 (tB (vw C h)) (ρ 1 + 2048 * ρ 2 + 2048) (ρ 2)
      exact o156 (n := ρ 1) (s := ρ 2) (e := ρ 2 + 1) (by omega) (by omega) (by omega) (by omega) (by omega) (by omega) (k2.trans (by omega))
    · show q157 (tB (vw C h)) (((0) + ((1) * ρ 1 + ((2048) * ρ 2 + 0)))) (((0) + ((1) * ρ 3 + 0)))
      refine c2 (P := q157 (tB (vw C h))) (r := ρ 1 + 2048 * ρ 2) (c := ρ 3) ?_ (by omega) (by omega)
      show q157 (tB (vw C h)) (ρ 1 + 2048 * ρ 2) (ρ 3)
      exact o157n (n := ρ 1) (s := ρ 2) (by omega) (by omega) (by omega) (by omega) (by omega) k1 (by decide)
    · show q181 (tB (vw C h)) (((0) + ((1) * ρ 1 + ((2048) * ρ 2 + 0)))) (((0) + ((1) * ρ 3 + 0)))
      refine c2 (P := q181 (tB (vw C h))) (r := ρ 1 + 2048 * ρ 2) (c := ρ 3) ?_ (by omega) (by omega)
      show q181 (tB (vw C h)) (ρ 1 + 2048 * ρ 2) (ρ 3)
      exact o181 (n := ρ 1) (s := ρ 2) (by omega) (by omega) (by omega) (by omega) (by omega) (hB.trans (by omega))
/-- tkS61M -/
theorem lem_272_ok (hU : uqG G C) : lem_272.1.2.1 = [] ∧ lemOK (PRd G C D xs) G rgs lem_272 := by
  refine ⟨rfl, fun ρ h ha hT => ?_⟩
  obtain ⟨-, -, hF, hG, hH, hA, hP⟩ := ha
  have f0 : (0 : Int) ≤ ((0) + ((1) * ρ 1 + 0)) := hF _ (List.mem_of_getElem? (i := 0) rfl)
  have f1 : (0 : Int) ≤ ((1200) + ((-1) * ρ 1 + 0)) := hF _ (List.mem_of_getElem? (i := 1) rfl)
  have f2 : (0 : Int) ≤ ((0) + ((1) * ρ 2 + 0)) := hF _ (List.mem_of_getElem? (i := 2) rfl)
  have f3 : (0 : Int) ≤ ((-1) + ((1) * ρ 1 + ((-1) * ρ 2 + 0))) := hF _ (List.mem_of_getElem? (i := 3) rfl)
  have f4 : (0 : Int) ≤ ((-61) + ((1) * ρ 3 + 0)) := hF _ (List.mem_of_getElem? (i := 4) rfl)
  have f5 : (0 : Int) ≤ ((61) + ((-1) * ρ 3 + 0)) := hF _ (List.mem_of_getElem? (i := 5) rfl)
  have g0 : G (ρ 0).toNat = 22 := by
    have q := (hG _ (List.mem_of_getElem? (i := 0) rfl)).2
    rwa [show ev ρ (0, [(0, 1)]) = ρ 0 from ev_v] at q
  have h0 : (0 : Int) ≤ ρ 1 ∧ ρ 1 ≤ 1200 := hf_rg hT (hH _ (List.mem_of_getElem? (i := 0) rfl)) ev_v g0 rfl rfl rfl ev_v
  have h1 : (0 : Int) ≤ ρ 2 ∧ ρ 2 ≤ 1200 := hf_rg hT (hH _ (List.mem_of_getElem? (i := 1) rfl)) ev_v g0 rfl rfl rfl ev_v
  have p0 : q150 (tB (vw C h)) (ρ 2) (ρ 3) := c2 (P := q150 (tB (vw C h))) (show q150 (tB (vw C h)) (((0) + ((1) * ρ 2 + 0))) (((0) + ((1) * ρ 3 + 0))) from hP _ (List.mem_of_getElem? (i := 0) rfl)) (by omega) (by omega)
  have hb := p0
  have hb1 := hb.1
  have hb2 := hb.2.1
  have hB : (tB (vw C h)) (ρ 2).toNat = ρ 3 % 256 := hb.2.2.symm
  obtain ⟨k1, k2⟩ := tk_sign (u := 61) (n := ρ 1) (s := ρ 2) (by omega) (by omega) (by omega) (hB.trans (by omega)) (by decide)
  refine ⟨_, List.mem_cons_self, ρ, fun _ _ => rfl, fun q hq => absurd hq List.not_mem_nil, trivial, fun f hf => ?_, fun q hq => absurd hq List.not_mem_nil, fun q hq => absurd hq List.not_mem_nil, fun q hq => absurd hq List.not_mem_nil, fun q hq => ?_⟩
  · exact absurd hf List.not_mem_nil
  · simp only [List.mem_cons, List.not_mem_nil, or_false] at hq
    rcases hq with rfl | rfl | rfl | rfl
    · show q180 (tB (vw C h)) (((0) + ((1) * ρ 1 + ((2048) * ρ 2 + 0)))) (((4) + 0))
      refine c2 (P := q180 (tB (vw C h))) (r := ρ 1 + 2048 * ρ 2) (c := (4 : Int)) ?_ (by omega) (by omega)
      show q180 (tB (vw C h)) (ρ 1 + 2048 * ρ 2) ((4 : Int))
      exact o180 (n := ρ 1) (s := ρ 2) (by omega) (by omega) (by omega) (by omega) (by omega) k1 (by omega)
    · show q156 (tB (vw C h)) (((2048) + ((1) * ρ 1 + ((2048) * ρ 2 + 0)))) (((0) + ((1) * ρ 2 + 0)))
      refine c2 (P := q156 (tB (vw C h))) (r := ρ 1 + 2048 * ρ 2 + 2048) (c := ρ 2) ?_ (by omega) (by omega)
      show q156 (tB (vw C h)) (ρ 1 + 2048 * ρ 2 + 2048) (ρ 2)
      exact o156 (n := ρ 1) (s := ρ 2) (e := ρ 2 + 1) (by omega) (by omega) (by omega) (by omega) (by omega) (by omega) (k2.trans (by omega))
    · show q157 (tB (vw C h)) (((0) + ((1) * ρ 1 + ((2048) * ρ 2 + 0)))) (((0) + ((1) * ρ 3 + 0)))
      refine c2 (P := q157 (tB (vw C h))) (r := ρ 1 + 2048 * ρ 2) (c := ρ 3) ?_ (by omega) (by omega)
      show q157 (tB (vw C h)) (ρ 1 + 2048 * ρ 2) (ρ 3)
      exact o157n (n := ρ 1) (s := ρ 2) (by omega) (by omega) (by omega) (by omega) (by omega) k1 (by decide)
    · show q181 (tB (vw C h)) (((0) + ((1) * ρ 1 + ((2048) * ρ 2 + 0)))) (((0) + ((1) * ρ 3 + 0)))
      refine c2 (P := q181 (tB (vw C h))) (r := ρ 1 + 2048 * ρ 2) (c := ρ 3) ?_ (by omega) (by omega)
      show q181 (tB (vw C h)) (ρ 1 + 2048 * ρ 2) (ρ 3)
      exact o181 (n := ρ 1) (s := ρ 2) (by omega) (by omega) (by omega) (by omega) (by omega) (hB.trans (by omega))
/-- nld0M -/
theorem lem_273_ok (hU : uqG G C) : lem_273.1.2.1 = [] ∧ lemOK (PRd G C D xs) G rgs lem_273 := by
  refine ⟨rfl, fun ρ h ha hT => ?_⟩
  obtain ⟨-, -, hF, hG, hH, hA, hP⟩ := ha
  have f0 : (0 : Int) ≤ ((0) + ((1) * ρ 1 + 0)) := hF _ (List.mem_of_getElem? (i := 0) rfl)
  have f1 : (0 : Int) ≤ ((1200) + ((-1) * ρ 1 + 0)) := hF _ (List.mem_of_getElem? (i := 1) rfl)
  have f2 : (0 : Int) ≤ ((0) + ((1) * ρ 2 + 0)) := hF _ (List.mem_of_getElem? (i := 2) rfl)
  have f3 : (0 : Int) ≤ ((-1) + ((1) * ρ 1 + ((-1) * ρ 2 + 0))) := hF _ (List.mem_of_getElem? (i := 3) rfl)
  have f4 : (0 : Int) ≤ ((47) + ((-1) * ρ 3 + 0)) := hF _ (List.mem_of_getElem? (i := 4) rfl)
  have g0 : G (ρ 0).toNat = 22 := by
    have q := (hG _ (List.mem_of_getElem? (i := 0) rfl)).2
    rwa [show ev ρ (0, [(0, 1)]) = ρ 0 from ev_v] at q
  have h0 : (0 : Int) ≤ ρ 1 ∧ ρ 1 ≤ 1200 := hf_rg hT (hH _ (List.mem_of_getElem? (i := 0) rfl)) ev_v g0 rfl rfl rfl ev_v
  have h1 : (0 : Int) ≤ ρ 2 ∧ ρ 2 ≤ 1200 := hf_rg hT (hH _ (List.mem_of_getElem? (i := 1) rfl)) ev_v g0 rfl rfl rfl ev_v
  have p0 : q150 (tB (vw C h)) (ρ 2) (ρ 3) := c2 (P := q150 (tB (vw C h))) (show q150 (tB (vw C h)) (((0) + ((1) * ρ 2 + 0))) (((0) + ((1) * ρ 3 + 0))) from hP _ (List.mem_of_getElem? (i := 0) rfl)) (by omega) (by omega)
  have hb : q150 (tB (vw C h)) (ρ 2) (ρ 3) := p0
  refine ⟨_, List.mem_cons_self, ρ, fun _ _ => rfl, fun q hq => absurd hq List.not_mem_nil, trivial, fun f hf => ?_, fun q hq => absurd hq List.not_mem_nil, fun q hq => absurd hq List.not_mem_nil, fun q hq => absurd hq List.not_mem_nil, fun q hq => ?_⟩
  · exact absurd hf List.not_mem_nil
  · simp only [List.mem_cons, List.not_mem_nil, or_false] at hq
    subst hq
    show q189 (tB (vw C h)) (((0) + ((1) * ρ 1 + ((2048) * ρ 2 + 0))))
    refine c2 (P := (fun r (_ : Int) => q189 (tB (vw C h)) r)) (c := 0) (c' := 0) (r := ρ 1 + 2048 * ρ 2) ?_ (by omega) rfl
    show q189 (tB (vw C h)) (ρ 1 + 2048 * ρ 2)
    exact nl_new (n := ρ 1) (i := ρ 2) (by omega) (by omega) (by omega) (by omega) (by omega) (lt_n hb (Or.inl (by omega))) (dg_n hb (Or.inl (by omega)))
/-- nld1M -/
theorem lem_274_ok (hU : uqG G C) : lem_274.1.2.1 = [] ∧ lemOK (PRd G C D xs) G rgs lem_274 := by
  refine ⟨rfl, fun ρ h ha hT => ?_⟩
  obtain ⟨-, -, hF, hG, hH, hA, hP⟩ := ha
  have f0 : (0 : Int) ≤ ((0) + ((1) * ρ 1 + 0)) := hF _ (List.mem_of_getElem? (i := 0) rfl)
  have f1 : (0 : Int) ≤ ((1200) + ((-1) * ρ 1 + 0)) := hF _ (List.mem_of_getElem? (i := 1) rfl)
  have f2 : (0 : Int) ≤ ((0) + ((1) * ρ 2 + 0)) := hF _ (List.mem_of_getElem? (i := 2) rfl)
  have f3 : (0 : Int) ≤ ((-1) + ((1) * ρ 1 + ((-1) * ρ 2 + 0))) := hF _ (List.mem_of_getElem? (i := 3) rfl)
  have f4 : (0 : Int) ≤ ((-58) + ((1) * ρ 3 + 0)) := hF _ (List.mem_of_getElem? (i := 4) rfl)
  have f5 : (0 : Int) ≤ ((96) + ((-1) * ρ 3 + 0)) := hF _ (List.mem_of_getElem? (i := 5) rfl)
  have g0 : G (ρ 0).toNat = 22 := by
    have q := (hG _ (List.mem_of_getElem? (i := 0) rfl)).2
    rwa [show ev ρ (0, [(0, 1)]) = ρ 0 from ev_v] at q
  have h0 : (0 : Int) ≤ ρ 1 ∧ ρ 1 ≤ 1200 := hf_rg hT (hH _ (List.mem_of_getElem? (i := 0) rfl)) ev_v g0 rfl rfl rfl ev_v
  have h1 : (0 : Int) ≤ ρ 2 ∧ ρ 2 ≤ 1200 := hf_rg hT (hH _ (List.mem_of_getElem? (i := 1) rfl)) ev_v g0 rfl rfl rfl ev_v
  have p0 : q150 (tB (vw C h)) (ρ 2) (ρ 3) := c2 (P := q150 (tB (vw C h))) (show q150 (tB (vw C h)) (((0) + ((1) * ρ 2 + 0))) (((0) + ((1) * ρ 3 + 0))) from hP _ (List.mem_of_getElem? (i := 0) rfl)) (by omega) (by omega)
  have hb : q150 (tB (vw C h)) (ρ 2) (ρ 3) := p0
  refine ⟨_, List.mem_cons_self, ρ, fun _ _ => rfl, fun q hq => absurd hq List.not_mem_nil, trivial, fun f hf => ?_, fun q hq => absurd hq List.not_mem_nil, fun q hq => absurd hq List.not_mem_nil, fun q hq => absurd hq List.not_mem_nil, fun q hq => ?_⟩
  · exact absurd hf List.not_mem_nil
  · simp only [List.mem_cons, List.not_mem_nil, or_false] at hq
    subst hq
    show q189 (tB (vw C h)) (((0) + ((1) * ρ 1 + ((2048) * ρ 2 + 0))))
    refine c2 (P := (fun r (_ : Int) => q189 (tB (vw C h)) r)) (c := 0) (c' := 0) (r := ρ 1 + 2048 * ρ 2) ?_ (by omega) rfl
    show q189 (tB (vw C h)) (ρ 1 + 2048 * ρ 2)
    exact nl_new (n := ρ 1) (i := ρ 2) (by omega) (by omega) (by omega) (by omega) (by omega) (lt_n hb (Or.inl (by omega))) (dg_n hb (Or.inr (by omega)))
/-- nld2M -/
theorem lem_275_ok (hU : uqG G C) : lem_275.1.2.1 = [] ∧ lemOK (PRd G C D xs) G rgs lem_275 := by
  refine ⟨rfl, fun ρ h ha hT => ?_⟩
  obtain ⟨-, -, hF, hG, hH, hA, hP⟩ := ha
  have f0 : (0 : Int) ≤ ((0) + ((1) * ρ 1 + 0)) := hF _ (List.mem_of_getElem? (i := 0) rfl)
  have f1 : (0 : Int) ≤ ((1200) + ((-1) * ρ 1 + 0)) := hF _ (List.mem_of_getElem? (i := 1) rfl)
  have f2 : (0 : Int) ≤ ((0) + ((1) * ρ 2 + 0)) := hF _ (List.mem_of_getElem? (i := 2) rfl)
  have f3 : (0 : Int) ≤ ((-1) + ((1) * ρ 1 + ((-1) * ρ 2 + 0))) := hF _ (List.mem_of_getElem? (i := 3) rfl)
  have f4 : (0 : Int) ≤ ((-123) + ((1) * ρ 3 + 0)) := hF _ (List.mem_of_getElem? (i := 4) rfl)
  have g0 : G (ρ 0).toNat = 22 := by
    have q := (hG _ (List.mem_of_getElem? (i := 0) rfl)).2
    rwa [show ev ρ (0, [(0, 1)]) = ρ 0 from ev_v] at q
  have h0 : (0 : Int) ≤ ρ 1 ∧ ρ 1 ≤ 1200 := hf_rg hT (hH _ (List.mem_of_getElem? (i := 0) rfl)) ev_v g0 rfl rfl rfl ev_v
  have h1 : (0 : Int) ≤ ρ 2 ∧ ρ 2 ≤ 1200 := hf_rg hT (hH _ (List.mem_of_getElem? (i := 1) rfl)) ev_v g0 rfl rfl rfl ev_v
  have p0 : q150 (tB (vw C h)) (ρ 2) (ρ 3) := c2 (P := q150 (tB (vw C h))) (show q150 (tB (vw C h)) (((0) + ((1) * ρ 2 + 0))) (((0) + ((1) * ρ 3 + 0))) from hP _ (List.mem_of_getElem? (i := 0) rfl)) (by omega) (by omega)
  have hb : q150 (tB (vw C h)) (ρ 2) (ρ 3) := p0
  refine ⟨_, List.mem_cons_self, ρ, fun _ _ => rfl, fun q hq => absurd hq List.not_mem_nil, trivial, fun f hf => ?_, fun q hq => absurd hq List.not_mem_nil, fun q hq => absurd hq List.not_mem_nil, fun q hq => absurd hq List.not_mem_nil, fun q hq => ?_⟩
  · exact absurd hf List.not_mem_nil
  · simp only [List.mem_cons, List.not_mem_nil, or_false] at hq
    subst hq
    show q189 (tB (vw C h)) (((0) + ((1) * ρ 1 + ((2048) * ρ 2 + 0))))
    refine c2 (P := (fun r (_ : Int) => q189 (tB (vw C h)) r)) (c := 0) (c' := 0) (r := ρ 1 + 2048 * ρ 2) ?_ (by omega) rfl
    show q189 (tB (vw C h)) (ρ 1 + 2048 * ρ 2)
    exact nl_new (n := ρ 1) (i := ρ 2) (by omega) (by omega) (by omega) (by omega) (by omega) (lt_n hb (Or.inr (by omega))) (dg_n hb (Or.inr (by omega)))
/-- tkB0M -/
theorem lem_276_ok (hU : uqG G C) : lem_276.1.2.1 = [] ∧ lemOK (PRd G C D xs) G rgs lem_276 := by
  refine ⟨rfl, fun ρ h ha hT => ?_⟩
  obtain ⟨-, -, hF, hG, hH, hA, hP⟩ := ha
  have f0 : (0 : Int) ≤ ((0) + ((1) * ρ 1 + 0)) := hF _ (List.mem_of_getElem? (i := 0) rfl)
  have f1 : (0 : Int) ≤ ((1200) + ((-1) * ρ 1 + 0)) := hF _ (List.mem_of_getElem? (i := 1) rfl)
  have f2 : (0 : Int) ≤ ((0) + ((1) * ρ 2 + 0)) := hF _ (List.mem_of_getElem? (i := 2) rfl)
  have f3 : (0 : Int) ≤ ((-1) + ((1) * ρ 1 + ((-1) * ρ 2 + 0))) := hF _ (List.mem_of_getElem? (i := 3) rfl)
  have f4 : (0 : Int) ≤ ((39) + ((-1) * ρ 3 + 0)) := hF _ (List.mem_of_getElem? (i := 4) rfl)
  have g0 : G (ρ 0).toNat = 22 := by
    have q := (hG _ (List.mem_of_getElem? (i := 0) rfl)).2
    rwa [show ev ρ (0, [(0, 1)]) = ρ 0 from ev_v] at q
  have h0 : (0 : Int) ≤ ρ 1 ∧ ρ 1 ≤ 1200 := hf_rg hT (hH _ (List.mem_of_getElem? (i := 0) rfl)) ev_v g0 rfl rfl rfl ev_v
  have h1 : (0 : Int) ≤ ρ 2 ∧ ρ 2 ≤ 1200 := hf_rg hT (hH _ (List.mem_of_getElem? (i := 1) rfl)) ev_v g0 rfl rfl rfl ev_v
  have p0 : q150 (tB (vw C h)) (ρ 2) (ρ 3) := c2 (P := q150 (tB (vw C h))) (show q150 (tB (vw C h)) (((0) + ((1) * ρ 2 + 0))) (((0) + ((1) * ρ 3 + 0))) from hP _ (List.mem_of_getElem? (i := 0) rfl)) (by omega) (by omega)
  have p1 : q189 (tB (vw C h)) (ρ 1 + 2048 * ρ 2) := c2 (P := (fun r (_ : Int) => q189 (tB (vw C h)) r)) (c := 0) (c' := 0) (show q189 (tB (vw C h)) (((0) + ((1) * ρ 1 + ((2048) * ρ 2 + 0)))) from hP _ (List.mem_of_getElem? (i := 1) rfl)) (by omega) rfl
  have hb := p0
  have hb1 := hb.1
  have hb2 := hb.2.1
  have hB : (tB (vw C h)) (ρ 2).toNat = ρ 3 % 256 := hb.2.2.symm
  obtain ⟨k1, k2⟩ := tk_bad (n := ρ 1) (s := ρ 2) (by omega) (by omega) (by omega) (by omega) (by omega) hB (by omega) p1
  refine ⟨_, List.mem_cons_self, ρ, fun _ _ => rfl, fun q hq => absurd hq List.not_mem_nil, trivial, fun f hf => ?_, fun q hq => absurd hq List.not_mem_nil, fun q hq => absurd hq List.not_mem_nil, fun q hq => absurd hq List.not_mem_nil, fun q hq => ?_⟩
  · exact absurd hf List.not_mem_nil
  · simp only [List.mem_cons, List.not_mem_nil, or_false] at hq
    rcases hq with rfl | rfl | rfl | rfl
    · show q180 (tB (vw C h)) (((0) + ((1) * ρ 1 + ((2048) * ρ 2 + 0)))) (((0) + 0))
      refine c2 (P := q180 (tB (vw C h))) (r := ρ 1 + 2048 * ρ 2) (c := (0 : Int)) ?_ (by omega) (by omega)
      show q180 (tB (vw C h)) (ρ 1 + 2048 * ρ 2) ((0 : Int))
      exact o180 (n := ρ 1) (s := ρ 2) (by omega) (by omega) (by omega) (by omega) (by omega) k1 (by omega)
    · show q156 (tB (vw C h)) (((2048) + ((1) * ρ 1 + ((2048) * ρ 2 + 0)))) (((0) + ((1) * ρ 2 + 0)))
      refine c2 (P := q156 (tB (vw C h))) (r := ρ 1 + 2048 * ρ 2 + 2048) (c := ρ 2) ?_ (by omega) (by omega)
      show q156 (tB (vw C h)) (ρ 1 + 2048 * ρ 2 + 2048) (ρ 2)
      exact o156 (n := ρ 1) (s := ρ 2) (e := ρ 2 + 1) (by omega) (by omega) (by omega) (by omega) (by omega) (by omega) (k2.trans (by omega))
    · show q157 (tB (vw C h)) (((0) + ((1) * ρ 1 + ((2048) * ρ 2 + 0)))) (((0) + ((1) * ρ 3 + 0)))
      refine c2 (P := q157 (tB (vw C h))) (r := ρ 1 + 2048 * ρ 2) (c := ρ 3) ?_ (by omega) (by omega)
      show q157 (tB (vw C h)) (ρ 1 + 2048 * ρ 2) (ρ 3)
      exact o157n (n := ρ 1) (s := ρ 2) (by omega) (by omega) (by omega) (by omega) (by omega) k1 (by decide)
    · show q181 (tB (vw C h)) (((0) + ((1) * ρ 1 + ((2048) * ρ 2 + 0)))) (((0) + ((1) * ρ 3 + 0)))
      refine c2 (P := q181 (tB (vw C h))) (r := ρ 1 + 2048 * ρ 2) (c := ρ 3) ?_ (by omega) (by omega)
      show q181 (tB (vw C h)) (ρ 1 + 2048 * ρ 2) (ρ 3)
      exact o181n (n := ρ 1) (s := ρ 2) (by omega) (by omega) (by omega) (by omega) (by omega) k1 (by decide)
/-- tkB1M -/
theorem lem_277_ok (hU : uqG G C) : lem_277.1.2.1 = [] ∧ lemOK (PRd G C D xs) G rgs lem_277 := by
  refine ⟨rfl, fun ρ h ha hT => ?_⟩
  obtain ⟨-, -, hF, hG, hH, hA, hP⟩ := ha
  have f0 : (0 : Int) ≤ ((0) + ((1) * ρ 1 + 0)) := hF _ (List.mem_of_getElem? (i := 0) rfl)
  have f1 : (0 : Int) ≤ ((1200) + ((-1) * ρ 1 + 0)) := hF _ (List.mem_of_getElem? (i := 1) rfl)
  have f2 : (0 : Int) ≤ ((0) + ((1) * ρ 2 + 0)) := hF _ (List.mem_of_getElem? (i := 2) rfl)
  have f3 : (0 : Int) ≤ ((-1) + ((1) * ρ 1 + ((-1) * ρ 2 + 0))) := hF _ (List.mem_of_getElem? (i := 3) rfl)
  have f4 : (0 : Int) ≤ ((-42) + ((1) * ρ 3 + 0)) := hF _ (List.mem_of_getElem? (i := 4) rfl)
  have f5 : (0 : Int) ≤ ((58) + ((-1) * ρ 3 + 0)) := hF _ (List.mem_of_getElem? (i := 5) rfl)
  have g0 : G (ρ 0).toNat = 22 := by
    have q := (hG _ (List.mem_of_getElem? (i := 0) rfl)).2
    rwa [show ev ρ (0, [(0, 1)]) = ρ 0 from ev_v] at q
  have h0 : (0 : Int) ≤ ρ 1 ∧ ρ 1 ≤ 1200 := hf_rg hT (hH _ (List.mem_of_getElem? (i := 0) rfl)) ev_v g0 rfl rfl rfl ev_v
  have h1 : (0 : Int) ≤ ρ 2 ∧ ρ 2 ≤ 1200 := hf_rg hT (hH _ (List.mem_of_getElem? (i := 1) rfl)) ev_v g0 rfl rfl rfl ev_v
  have p0 : q150 (tB (vw C h)) (ρ 2) (ρ 3) := c2 (P := q150 (tB (vw C h))) (show q150 (tB (vw C h)) (((0) + ((1) * ρ 2 + 0))) (((0) + ((1) * ρ 3 + 0))) from hP _ (List.mem_of_getElem? (i := 0) rfl)) (by omega) (by omega)
  have p1 : q189 (tB (vw C h)) (ρ 1 + 2048 * ρ 2) := c2 (P := (fun r (_ : Int) => q189 (tB (vw C h)) r)) (c := 0) (c' := 0) (show q189 (tB (vw C h)) (((0) + ((1) * ρ 1 + ((2048) * ρ 2 + 0)))) from hP _ (List.mem_of_getElem? (i := 1) rfl)) (by omega) rfl
  have hb := p0
  have hb1 := hb.1
  have hb2 := hb.2.1
  have hB : (tB (vw C h)) (ρ 2).toNat = ρ 3 % 256 := hb.2.2.symm
  obtain ⟨k1, k2⟩ := tk_bad (n := ρ 1) (s := ρ 2) (by omega) (by omega) (by omega) (by omega) (by omega) hB (by omega) p1
  refine ⟨_, List.mem_cons_self, ρ, fun _ _ => rfl, fun q hq => absurd hq List.not_mem_nil, trivial, fun f hf => ?_, fun q hq => absurd hq List.not_mem_nil, fun q hq => absurd hq List.not_mem_nil, fun q hq => absurd hq List.not_mem_nil, fun q hq => ?_⟩
  · exact absurd hf List.not_mem_nil
  · simp only [List.mem_cons, List.not_mem_nil, or_false] at hq
    rcases hq with rfl | rfl | rfl | rfl
    · show q180 (tB (vw C h)) (((0) + ((1) * ρ 1 + ((2048) * ρ 2 + 0)))) (((0) + 0))
      refine c2 (P := q180 (tB (vw C h))) (r := ρ 1 + 2048 * ρ 2) (c := (0 : Int)) ?_ (by omega) (by omega)
      show q180 (tB (vw C h)) (ρ 1 + 2048 * ρ 2) ((0 : Int))
      exact o180 (n := ρ 1) (s := ρ 2) (by omega) (by omega) (by omega) (by omega) (by omega) k1 (by omega)
    · show q156 (tB (vw C h)) (((2048) + ((1) * ρ 1 + ((2048) * ρ 2 + 0)))) (((0) + ((1) * ρ 2 + 0)))
      refine c2 (P := q156 (tB (vw C h))) (r := ρ 1 + 2048 * ρ 2 + 2048) (c := ρ 2) ?_ (by omega) (by omega)
      show q156 (tB (vw C h)) (ρ 1 + 2048 * ρ 2 + 2048) (ρ 2)
      exact o156 (n := ρ 1) (s := ρ 2) (e := ρ 2 + 1) (by omega) (by omega) (by omega) (by omega) (by omega) (by omega) (k2.trans (by omega))
    · show q157 (tB (vw C h)) (((0) + ((1) * ρ 1 + ((2048) * ρ 2 + 0)))) (((0) + ((1) * ρ 3 + 0)))
      refine c2 (P := q157 (tB (vw C h))) (r := ρ 1 + 2048 * ρ 2) (c := ρ 3) ?_ (by omega) (by omega)
      show q157 (tB (vw C h)) (ρ 1 + 2048 * ρ 2) (ρ 3)
      exact o157n (n := ρ 1) (s := ρ 2) (by omega) (by omega) (by omega) (by omega) (by omega) k1 (by decide)
    · show q181 (tB (vw C h)) (((0) + ((1) * ρ 1 + ((2048) * ρ 2 + 0)))) (((0) + ((1) * ρ 3 + 0)))
      refine c2 (P := q181 (tB (vw C h))) (r := ρ 1 + 2048 * ρ 2) (c := ρ 3) ?_ (by omega) (by omega)
      show q181 (tB (vw C h)) (ρ 1 + 2048 * ρ 2) (ρ 3)
      exact o181n (n := ρ 1) (s := ρ 2) (by omega) (by omega) (by omega) (by omega) (by omega) k1 (by decide)
/-- tkB2M -/
theorem lem_278_ok (hU : uqG G C) : lem_278.1.2.1 = [] ∧ lemOK (PRd G C D xs) G rgs lem_278 := by
  refine ⟨rfl, fun ρ h ha hT => ?_⟩
  obtain ⟨-, -, hF, hG, hH, hA, hP⟩ := ha
  have f0 : (0 : Int) ≤ ((0) + ((1) * ρ 1 + 0)) := hF _ (List.mem_of_getElem? (i := 0) rfl)
  have f1 : (0 : Int) ≤ ((1200) + ((-1) * ρ 1 + 0)) := hF _ (List.mem_of_getElem? (i := 1) rfl)
  have f2 : (0 : Int) ≤ ((0) + ((1) * ρ 2 + 0)) := hF _ (List.mem_of_getElem? (i := 2) rfl)
  have f3 : (0 : Int) ≤ ((-1) + ((1) * ρ 1 + ((-1) * ρ 2 + 0))) := hF _ (List.mem_of_getElem? (i := 3) rfl)
  have f4 : (0 : Int) ≤ ((-63) + ((1) * ρ 3 + 0)) := hF _ (List.mem_of_getElem? (i := 4) rfl)
  have g0 : G (ρ 0).toNat = 22 := by
    have q := (hG _ (List.mem_of_getElem? (i := 0) rfl)).2
    rwa [show ev ρ (0, [(0, 1)]) = ρ 0 from ev_v] at q
  have h0 : (0 : Int) ≤ ρ 1 ∧ ρ 1 ≤ 1200 := hf_rg hT (hH _ (List.mem_of_getElem? (i := 0) rfl)) ev_v g0 rfl rfl rfl ev_v
  have h1 : (0 : Int) ≤ ρ 2 ∧ ρ 2 ≤ 1200 := hf_rg hT (hH _ (List.mem_of_getElem? (i := 1) rfl)) ev_v g0 rfl rfl rfl ev_v
  have p0 : q150 (tB (vw C h)) (ρ 2) (ρ 3) := c2 (P := q150 (tB (vw C h))) (show q150 (tB (vw C h)) (((0) + ((1) * ρ 2 + 0))) (((0) + ((1) * ρ 3 + 0))) from hP _ (List.mem_of_getElem? (i := 0) rfl)) (by omega) (by omega)
  have p1 : q189 (tB (vw C h)) (ρ 1 + 2048 * ρ 2) := c2 (P := (fun r (_ : Int) => q189 (tB (vw C h)) r)) (c := 0) (c' := 0) (show q189 (tB (vw C h)) (((0) + ((1) * ρ 1 + ((2048) * ρ 2 + 0)))) from hP _ (List.mem_of_getElem? (i := 1) rfl)) (by omega) rfl
  have hb := p0
  have hb1 := hb.1
  have hb2 := hb.2.1
  have hB : (tB (vw C h)) (ρ 2).toNat = ρ 3 % 256 := hb.2.2.symm
  obtain ⟨k1, k2⟩ := tk_bad (n := ρ 1) (s := ρ 2) (by omega) (by omega) (by omega) (by omega) (by omega) hB (by omega) p1
  refine ⟨_, List.mem_cons_self, ρ, fun _ _ => rfl, fun q hq => absurd hq List.not_mem_nil, trivial, fun f hf => ?_, fun q hq => absurd hq List.not_mem_nil, fun q hq => absurd hq List.not_mem_nil, fun q hq => absurd hq List.not_mem_nil, fun q hq => ?_⟩
  · exact absurd hf List.not_mem_nil
  · simp only [List.mem_cons, List.not_mem_nil, or_false] at hq
    rcases hq with rfl | rfl | rfl | rfl
    · show q180 (tB (vw C h)) (((0) + ((1) * ρ 1 + ((2048) * ρ 2 + 0)))) (((0) + 0))
      refine c2 (P := q180 (tB (vw C h))) (r := ρ 1 + 2048 * ρ 2) (c := (0 : Int)) ?_ (by omega) (by omega)
      show q180 (tB (vw C h)) (ρ 1 + 2048 * ρ 2) ((0 : Int))
      exact o180 (n := ρ 1) (s := ρ 2) (by omega) (by omega) (by omega) (by omega) (by omega) k1 (by omega)
    · show q156 (tB (vw C h)) (((2048) + ((1) * ρ 1 + ((2048) * ρ 2 + 0)))) (((0) + ((1) * ρ 2 + 0)))
      refine c2 (P := q156 (tB (vw C h))) (r := ρ 1 + 2048 * ρ 2 + 2048) (c := ρ 2) ?_ (by omega) (by omega)
      show q156 (tB (vw C h)) (ρ 1 + 2048 * ρ 2 + 2048) (ρ 2)
      exact o156 (n := ρ 1) (s := ρ 2) (e := ρ 2 + 1) (by omega) (by omega) (by omega) (by omega) (by omega) (by omega) (k2.trans (by omega))
    · show q157 (tB (vw C h)) (((0) + ((1) * ρ 1 + ((2048) * ρ 2 + 0)))) (((0) + ((1) * ρ 3 + 0)))
      refine c2 (P := q157 (tB (vw C h))) (r := ρ 1 + 2048 * ρ 2) (c := ρ 3) ?_ (by omega) (by omega)
      show q157 (tB (vw C h)) (ρ 1 + 2048 * ρ 2) (ρ 3)
      exact o157n (n := ρ 1) (s := ρ 2) (by omega) (by omega) (by omega) (by omega) (by omega) k1 (by decide)
    · show q181 (tB (vw C h)) (((0) + ((1) * ρ 1 + ((2048) * ρ 2 + 0)))) (((0) + ((1) * ρ 3 + 0)))
      refine c2 (P := q181 (tB (vw C h))) (r := ρ 1 + 2048 * ρ 2) (c := ρ 3) ?_ (by omega) (by omega)
      show q181 (tB (vw C h)) (ρ 1 + 2048 * ρ 2) (ρ 3)
      exact o181n (n := ρ 1) (s := ρ 2) (by omega) (by omega) (by omega) (by omega) (by omega) k1 (by decide)
/-- sgLoM -/
theorem lem_279_ok (hU : uqG G C) : lem_279.1.2.1 = [] ∧ lemOK (PRd G C D xs) G rgs lem_279 := by
  refine ⟨rfl, fun ρ h ha hT => ?_⟩
  obtain ⟨-, -, hF, hG, hH, hA, hP⟩ := ha
  have f0 : (0 : Int) ≤ ((0) + ((1) * ρ 2 + 0)) := hF _ (List.mem_of_getElem? (i := 0) rfl)
  have f1 : (0 : Int) ≤ ((1200) + ((-1) * ρ 2 + 0)) := hF _ (List.mem_of_getElem? (i := 1) rfl)
  have f2 : (0 : Int) ≤ ((0) + ((1) * ρ 3 + 0)) := hF _ (List.mem_of_getElem? (i := 2) rfl)
  have f3 : (0 : Int) ≤ ((0) + ((1) * ρ 2 + ((-1) * ρ 3 + 0))) := hF _ (List.mem_of_getElem? (i := 3) rfl)
  have f4 : (0 : Int) ≤ ((0) + ((1) * ρ 1 + 0)) := hF _ (List.mem_of_getElem? (i := 4) rfl)
  have f5 : (0 : Int) ≤ ((3) + ((-1) * ρ 4 + 0)) := hF _ (List.mem_of_getElem? (i := 5) rfl)
  have g0 : G (ρ 0).toNat = 22 := by
    have q := (hG _ (List.mem_of_getElem? (i := 0) rfl)).2
    rwa [show ev ρ (0, [(0, 1)]) = ρ 0 from ev_v] at q
  have h0 : (0 : Int) ≤ ρ 2 ∧ ρ 2 ≤ 1200 := hf_rg hT (hH _ (List.mem_of_getElem? (i := 0) rfl)) ev_v g0 rfl rfl rfl ev_v
  have h1 : (0 : Int) ≤ ρ 3 ∧ ρ 3 ≤ 1200 := hf_rg hT (hH _ (List.mem_of_getElem? (i := 1) rfl)) ev_v g0 rfl rfl rfl ev_v
  have p0 : q180 (tB (vw C h)) (ρ 2 + 2048 * ρ 3) (ρ 4) := c2 (P := q180 (tB (vw C h))) (show q180 (tB (vw C h)) (((0) + ((1) * ρ 2 + ((2048) * ρ 3 + 0)))) (((0) + ((1) * ρ 4 + 0))) from hP _ (List.mem_of_getElem? (i := 0) rfl)) (by omega) (by omega)
  obtain ⟨kk, kx⟩ := k180 (n := ρ 2) (s := ρ 3) (by omega) (by omega) (by omega) (by omega) (by omega) p0
  refine ⟨_, List.mem_cons_self, ρ, fun _ _ => rfl, fun q hq => absurd hq List.not_mem_nil, trivial, fun f hf => ?_, fun q hq => absurd hq List.not_mem_nil, fun q hq => absurd hq List.not_mem_nil, fun q hq => absurd hq List.not_mem_nil, fun q hq => ?_⟩
  · exact absurd hf List.not_mem_nil
  · simp only [List.mem_cons, List.not_mem_nil, or_false] at hq
    subst hq
    show q160 (tB (vw C h)) (((0) + ((4194304) * ρ 1 + ((1) * ρ 2 + ((2048) * ρ 3 + 0))))) (((0) + 0))
    refine c2 (P := q160 (tB (vw C h))) (r := 4194304 * ρ 1 + ρ 2 + 2048 * ρ 3) (c := (0 : Int)) ?_ (by omega) (by omega)
    show q160 (tB (vw C h)) (4194304 * ρ 1 + ρ 2 + 2048 * ρ 3) ((0 : Int))
    exact o160 (n := ρ 2) (s := ρ 3) (c := ρ 1) (by omega) (by omega) (by omega) (by omega) (by omega) (by omega) (by have q := sg_kno (B := (tB (vw C h))) (n := (ρ 2).toNat) (s := (ρ 3).toNat) (v := ρ 1) (by omega); omega)
/-- sgHiM -/
theorem lem_280_ok (hU : uqG G C) : lem_280.1.2.1 = [] ∧ lemOK (PRd G C D xs) G rgs lem_280 := by
  refine ⟨rfl, fun ρ h ha hT => ?_⟩
  obtain ⟨-, -, hF, hG, hH, hA, hP⟩ := ha
  have f0 : (0 : Int) ≤ ((0) + ((1) * ρ 2 + 0)) := hF _ (List.mem_of_getElem? (i := 0) rfl)
  have f1 : (0 : Int) ≤ ((1200) + ((-1) * ρ 2 + 0)) := hF _ (List.mem_of_getElem? (i := 1) rfl)
  have f2 : (0 : Int) ≤ ((0) + ((1) * ρ 3 + 0)) := hF _ (List.mem_of_getElem? (i := 2) rfl)
  have f3 : (0 : Int) ≤ ((0) + ((1) * ρ 2 + ((-1) * ρ 3 + 0))) := hF _ (List.mem_of_getElem? (i := 3) rfl)
  have f4 : (0 : Int) ≤ ((0) + ((1) * ρ 1 + 0)) := hF _ (List.mem_of_getElem? (i := 4) rfl)
  have f5 : (0 : Int) ≤ ((-5) + ((1) * ρ 4 + 0)) := hF _ (List.mem_of_getElem? (i := 5) rfl)
  have g0 : G (ρ 0).toNat = 22 := by
    have q := (hG _ (List.mem_of_getElem? (i := 0) rfl)).2
    rwa [show ev ρ (0, [(0, 1)]) = ρ 0 from ev_v] at q
  have h0 : (0 : Int) ≤ ρ 2 ∧ ρ 2 ≤ 1200 := hf_rg hT (hH _ (List.mem_of_getElem? (i := 0) rfl)) ev_v g0 rfl rfl rfl ev_v
  have h1 : (0 : Int) ≤ ρ 3 ∧ ρ 3 ≤ 1200 := hf_rg hT (hH _ (List.mem_of_getElem? (i := 1) rfl)) ev_v g0 rfl rfl rfl ev_v
  have p0 : q180 (tB (vw C h)) (ρ 2 + 2048 * ρ 3) (ρ 4) := c2 (P := q180 (tB (vw C h))) (show q180 (tB (vw C h)) (((0) + ((1) * ρ 2 + ((2048) * ρ 3 + 0)))) (((0) + ((1) * ρ 4 + 0))) from hP _ (List.mem_of_getElem? (i := 0) rfl)) (by omega) (by omega)
  obtain ⟨kk, kx⟩ := k180 (n := ρ 2) (s := ρ 3) (by omega) (by omega) (by omega) (by omega) (by omega) p0
  refine ⟨_, List.mem_cons_self, ρ, fun _ _ => rfl, fun q hq => absurd hq List.not_mem_nil, trivial, fun f hf => ?_, fun q hq => absurd hq List.not_mem_nil, fun q hq => absurd hq List.not_mem_nil, fun q hq => absurd hq List.not_mem_nil, fun q hq => ?_⟩
  · exact absurd hf List.not_mem_nil
  · simp only [List.mem_cons, List.not_mem_nil, or_false] at hq
    subst hq
    show q160 (tB (vw C h)) (((0) + ((4194304) * ρ 1 + ((1) * ρ 2 + ((2048) * ρ 3 + 0))))) (((0) + 0))
    refine c2 (P := q160 (tB (vw C h))) (r := 4194304 * ρ 1 + ρ 2 + 2048 * ρ 3) (c := (0 : Int)) ?_ (by omega) (by omega)
    show q160 (tB (vw C h)) (4194304 * ρ 1 + ρ 2 + 2048 * ρ 3) ((0 : Int))
    exact o160 (n := ρ 2) (s := ρ 3) (c := ρ 1) (by omega) (by omega) (by omega) (by omega) (by omega) (by omega) (by have q := sg_kno (B := (tB (vw C h))) (n := (ρ 2).toNat) (s := (ρ 3).toNat) (v := ρ 1) (by omega); omega)
/-- sgYesM -/
theorem lem_281_ok (hU : uqG G C) : lem_281.1.2.1 = [] ∧ lemOK (PRd G C D xs) G rgs lem_281 := by
  refine ⟨rfl, fun ρ h ha hT => ?_⟩
  obtain ⟨-, -, hF, hG, hH, hA, hP⟩ := ha
  have f0 : (0 : Int) ≤ ((0) + ((1) * ρ 2 + 0)) := hF _ (List.mem_of_getElem? (i := 0) rfl)
  have f1 : (0 : Int) ≤ ((1200) + ((-1) * ρ 2 + 0)) := hF _ (List.mem_of_getElem? (i := 1) rfl)
  have f2 : (0 : Int) ≤ ((0) + ((1) * ρ 3 + 0)) := hF _ (List.mem_of_getElem? (i := 2) rfl)
  have f3 : (0 : Int) ≤ ((0) + ((1) * ρ 2 + ((-1) * ρ 3 + 0))) := hF _ (List.mem_of_getElem? (i := 3) rfl)
  have f4 : (0 : Int) ≤ ((0) + ((1) * ρ 1 + 0)) := hF _ (List.mem_of_getElem? (i := 4) rfl)
  have f5 : (0 : Int) ≤ ((127) + ((-1) * ρ 1 + 0)) := hF _ (List.mem_of_getElem? (i := 5) rfl)
  have f6 : (0 : Int) ≤ ((4) + ((-1) * ρ 4 + 0)) := hF _ (List.mem_of_getElem? (i := 6) rfl)
  have f7 : (0 : Int) ≤ ((-4) + ((1) * ρ 4 + 0)) := hF _ (List.mem_of_getElem? (i := 7) rfl)
  have f8 : (0 : Int) ≤ ((0) + ((-1) * ρ 1 + ((1) * ρ 5 + 0))) := hF _ (List.mem_of_getElem? (i := 8) rfl)
  have f9 : (0 : Int) ≤ ((0) + ((1) * ρ 1 + ((-1) * ρ 5 + 0))) := hF _ (List.mem_of_getElem? (i := 9) rfl)
  have g0 : G (ρ 0).toNat = 22 := by
    have q := (hG _ (List.mem_of_getElem? (i := 0) rfl)).2
    rwa [show ev ρ (0, [(0, 1)]) = ρ 0 from ev_v] at q
  have h0 : (0 : Int) ≤ ρ 2 ∧ ρ 2 ≤ 1200 := hf_rg hT (hH _ (List.mem_of_getElem? (i := 0) rfl)) ev_v g0 rfl rfl rfl ev_v
  have h1 : (0 : Int) ≤ ρ 3 ∧ ρ 3 ≤ 1200 := hf_rg hT (hH _ (List.mem_of_getElem? (i := 1) rfl)) ev_v g0 rfl rfl rfl ev_v
  have p0 : q180 (tB (vw C h)) (ρ 2 + 2048 * ρ 3) (ρ 4) := c2 (P := q180 (tB (vw C h))) (show q180 (tB (vw C h)) (((0) + ((1) * ρ 2 + ((2048) * ρ 3 + 0)))) (((0) + ((1) * ρ 4 + 0))) from hP _ (List.mem_of_getElem? (i := 0) rfl)) (by omega) (by omega)
  have p1 : q181 (tB (vw C h)) (ρ 2 + 2048 * ρ 3) (ρ 5) := c2 (P := q181 (tB (vw C h))) (show q181 (tB (vw C h)) (((0) + ((1) * ρ 2 + ((2048) * ρ 3 + 0)))) (((0) + ((1) * ρ 5 + 0))) from hP _ (List.mem_of_getElem? (i := 1) rfl)) (by omega) (by omega)
  obtain ⟨kk, kx⟩ := k180 (n := ρ 2) (s := ρ 3) (by omega) (by omega) (by omega) (by omega) (by omega) p0
  have hB := k181 (n := ρ 2) (s := ρ 3) (by omega) (by omega) (by omega) (by omega) (by omega) (by omega) p1
  refine ⟨_, List.mem_cons_self, ρ, fun _ _ => rfl, fun q hq => absurd hq List.not_mem_nil, trivial, fun f hf => ?_, fun q hq => absurd hq List.not_mem_nil, fun q hq => absurd hq List.not_mem_nil, fun q hq => absurd hq List.not_mem_nil, fun q hq => ?_⟩
  · exact absurd hf List.not_mem_nil
  · simp only [List.mem_cons, List.not_mem_nil, or_false] at hq
    subst hq
    show q160 (tB (vw C h)) (((0) + ((4194304) * ρ 1 + ((1) * ρ 2 + ((2048) * ρ 3 + 0))))) (((1) + 0))
    refine c2 (P := q160 (tB (vw C h))) (r := 4194304 * ρ 1 + ρ 2 + 2048 * ρ 3) (c := (1 : Int)) ?_ (by omega) (by omega)
    show q160 (tB (vw C h)) (4194304 * ρ 1 + ρ 2 + 2048 * ρ 3) ((1 : Int))
    exact o160 (n := ρ 2) (s := ρ 3) (c := ρ 1) (by omega) (by omega) (by omega) (by omega) (by omega) (by omega) (by have q := sg_yes (B := (tB (vw C h))) (n := (ρ 2).toNat) (s := (ρ 3).toNat) (v := ρ 1) (by omega) (hB.trans (by omega)); omega)
/-- sgNoLoM -/
theorem lem_282_ok (hU : uqG G C) : lem_282.1.2.1 = [] ∧ lemOK (PRd G C D xs) G rgs lem_282 := by
  refine ⟨rfl, fun ρ h ha hT => ?_⟩
  obtain ⟨-, -, hF, hG, hH, hA, hP⟩ := ha
  have f0 : (0 : Int) ≤ ((0) + ((1) * ρ 2 + 0)) := hF _ (List.mem_of_getElem? (i := 0) rfl)
  have f1 : (0 : Int) ≤ ((1200) + ((-1) * ρ 2 + 0)) := hF _ (List.mem_of_getElem? (i := 1) rfl)
  have f2 : (0 : Int) ≤ ((0) + ((1) * ρ 3 + 0)) := hF _ (List.mem_of_getElem? (i := 2) rfl)
  have f3 : (0 : Int) ≤ ((0) + ((1) * ρ 2 + ((-1) * ρ 3 + 0))) := hF _ (List.mem_of_getElem? (i := 3) rfl)
  have f4 : (0 : Int) ≤ ((0) + ((1) * ρ 1 + 0)) := hF _ (List.mem_of_getElem? (i := 4) rfl)
  have f5 : (0 : Int) ≤ ((127) + ((-1) * ρ 1 + 0)) := hF _ (List.mem_of_getElem? (i := 5) rfl)
  have f6 : (0 : Int) ≤ ((4) + ((-1) * ρ 4 + 0)) := hF _ (List.mem_of_getElem? (i := 6) rfl)
  have f7 : (0 : Int) ≤ ((-4) + ((1) * ρ 4 + 0)) := hF _ (List.mem_of_getElem? (i := 7) rfl)
  have f8 : (0 : Int) ≤ ((-1) + ((1) * ρ 1 + ((-1) * ρ 5 + 0))) := hF _ (List.mem_of_getElem? (i := 8) rfl)
  have g0 : G (ρ 0).toNat = 22 := by
    have q := (hG _ (List.mem_of_getElem? (i := 0) rfl)).2
    rwa [show ev ρ (0, [(0, 1)]) = ρ 0 from ev_v] at q
  have h0 : (0 : Int) ≤ ρ 2 ∧ ρ 2 ≤ 1200 := hf_rg hT (hH _ (List.mem_of_getElem? (i := 0) rfl)) ev_v g0 rfl rfl rfl ev_v
  have h1 : (0 : Int) ≤ ρ 3 ∧ ρ 3 ≤ 1200 := hf_rg hT (hH _ (List.mem_of_getElem? (i := 1) rfl)) ev_v g0 rfl rfl rfl ev_v
  have p0 : q180 (tB (vw C h)) (ρ 2 + 2048 * ρ 3) (ρ 4) := c2 (P := q180 (tB (vw C h))) (show q180 (tB (vw C h)) (((0) + ((1) * ρ 2 + ((2048) * ρ 3 + 0)))) (((0) + ((1) * ρ 4 + 0))) from hP _ (List.mem_of_getElem? (i := 0) rfl)) (by omega) (by omega)
  have p1 : q181 (tB (vw C h)) (ρ 2 + 2048 * ρ 3) (ρ 5) := c2 (P := q181 (tB (vw C h))) (show q181 (tB (vw C h)) (((0) + ((1) * ρ 2 + ((2048) * ρ 3 + 0)))) (((0) + ((1) * ρ 5 + 0))) from hP _ (List.mem_of_getElem? (i := 1) rfl)) (by omega) (by omega)
  obtain ⟨kk, kx⟩ := k180 (n := ρ 2) (s := ρ 3) (by omega) (by omega) (by omega) (by omega) (by omega) p0
  have hB := k181 (n := ρ 2) (s := ρ 3) (by omega) (by omega) (by omega) (by omega) (by omega) (by omega) p1
  refine ⟨_, List.mem_cons_self, ρ, fun _ _ => rfl, fun q hq => absurd hq List.not_mem_nil, trivial, fun f hf => ?_, fun q hq => absurd hq List.not_mem_nil, fun q hq => absurd hq List.not_mem_nil, fun q hq => absurd hq List.not_mem_nil, fun q hq => ?_⟩
  · exact absurd hf List.not_mem_nil
  · simp only [List.mem_cons, List.not_mem_nil, or_false] at hq
    subst hq
    show q160 (tB (vw C h)) (((0) + ((4194304) * ρ 1 + ((1) * ρ 2 + ((2048) * ρ 3 + 0))))) (((0) + 0))
    refine c2 (P := q160 (tB (vw C h))) (r := 4194304 * ρ 1 + ρ 2 + 2048 * ρ 3) (c := (0 : Int)) ?_ (by omega) (by omega)
    show q160 (tB (vw C h)) (4194304 * ρ 1 + ρ 2 + 2048 * ρ 3) ((0 : Int))
    exact o160 (n := ρ 2) (s := ρ 3) (c := ρ 1) (by omega) (by omega) (by omega) (by omega) (by omega) (by omega) (by have q := sg_bno (B := (tB (vw C h))) (n := (ρ 2).toNat) (s := (ρ 3).toNat) (v := ρ 1) (by rw [hB]; omega); omega)
/-- sgNoHiM -/
theorem lem_283_ok (hU : uqG G C) : lem_283.1.2.1 = [] ∧ lemOK (PRd G C D xs) G rgs lem_283 := by
  refine ⟨rfl, fun ρ h ha hT => ?_⟩
  obtain ⟨-, -, hF, hG, hH, hA, hP⟩ := ha
  have f0 : (0 : Int) ≤ ((0) + ((1) * ρ 2 + 0)) := hF _ (List.mem_of_getElem? (i := 0) rfl)
  have f1 : (0 : Int) ≤ ((1200) + ((-1) * ρ 2 + 0)) := hF _ (List.mem_of_getElem? (i := 1) rfl)
  have f2 : (0 : Int) ≤ ((0) + ((1) * ρ 3 + 0)) := hF _ (List.mem_of_getElem? (i := 2) rfl)
  have f3 : (0 : Int) ≤ ((0) + ((1) * ρ 2 + ((-1) * ρ 3 + 0))) := hF _ (List.mem_of_getElem? (i := 3) rfl)
  have f4 : (0 : Int) ≤ ((0) + ((1) * ρ 1 + 0)) := hF _ (List.mem_of_getElem? (i := 4) rfl)
  have f5 : (0 : Int) ≤ ((127) + ((-1) * ρ 1 + 0)) := hF _ (List.mem_of_getElem? (i := 5) rfl)
  have f6 : (0 : Int) ≤ ((4) + ((-1) * ρ 4 + 0)) := hF _ (List.mem_of_getElem? (i := 6) rfl)
  have f7 : (0 : Int) ≤ ((-4) + ((1) * ρ 4 + 0)) := hF _ (List.mem_of_getElem? (i := 7) rfl)
  have f8 : (0 : Int) ≤ ((-1) + ((-1) * ρ 1 + ((1) * ρ 5 + 0))) := hF _ (List.mem_of_getElem? (i := 8) rfl)
  have g0 : G (ρ 0).toNat = 22 := by
    have q := (hG _ (List.mem_of_getElem? (i := 0) rfl)).2
    rwa [show ev ρ (0, [(0, 1)]) = ρ 0 from ev_v] at q
  have h0 : (0 : Int) ≤ ρ 2 ∧ ρ 2 ≤ 1200 := hf_rg hT (hH _ (List.mem_of_getElem? (i := 0) rfl)) ev_v g0 rfl rfl rfl ev_v
  have h1 : (0 : Int) ≤ ρ 3 ∧ ρ 3 ≤ 1200 := hf_rg hT (hH _ (List.mem_of_getElem? (i := 1) rfl)) ev_v g0 rfl rfl rfl ev_v
  have p0 : q180 (tB (vw C h)) (ρ 2 + 2048 * ρ 3) (ρ 4) := c2 (P := q180 (tB (vw C h))) (show q180 (tB (vw C h)) (((0) + ((1) * ρ 2 + ((2048) * ρ 3 + 0)))) (((0) + ((1) * ρ 4 + 0))) from hP _ (List.mem_of_getElem? (i := 0) rfl)) (by omega) (by omega)
  have p1 : q181 (tB (vw C h)) (ρ 2 + 2048 * ρ 3) (ρ 5) := c2 (P := q181 (tB (vw C h))) (show q181 (tB (vw C h)) (((0) + ((1) * ρ 2 + ((2048) * ρ 3 + 0)))) (((0) + ((1) * ρ 5 + 0))) from hP _ (List.mem_of_getElem? (i := 1) rfl)) (by omega) (by omega)
  obtain ⟨kk, kx⟩ := k180 (n := ρ 2) (s := ρ 3) (by omega) (by omega) (by omega) (by omega) (by omega) p0
  have hB := k181 (n := ρ 2) (s := ρ 3) (by omega) (by omega) (by omega) (by omega) (by omega) (by omega) p1
  refine ⟨_, List.mem_cons_self, ρ, fun _ _ => rfl, fun q hq => absurd hq List.not_mem_nil, trivial, fun f hf => ?_, fun q hq => absurd hq List.not_mem_nil, fun q hq => absurd hq List.not_mem_nil, fun q hq => absurd hq List.not_mem_nil, fun q hq => ?_⟩
  · exact absurd hf List.not_mem_nil
  · simp only [List.mem_cons, List.not_mem_nil, or_false] at hq
    subst hq
    show q160 (tB (vw C h)) (((0) + ((4194304) * ρ 1 + ((1) * ρ 2 + ((2048) * ρ 3 + 0))))) (((0) + 0))
    refine c2 (P := q160 (tB (vw C h))) (r := 4194304 * ρ 1 + ρ 2 + 2048 * ρ 3) (c := (0 : Int)) ?_ (by omega) (by omega)
    show q160 (tB (vw C h)) (4194304 * ρ 1 + ρ 2 + 2048 * ρ 3) ((0 : Int))
    exact o160 (n := ρ 2) (s := ρ 3) (c := ρ 1) (by omega) (by omega) (by omega) (by omega) (by omega) (by omega) (by have q := sg_bno (B := (tB (vw C h))) (n := (ρ 2).toNat) (s := (ρ 3).toNat) (v := ρ 1) (by rw [hB]; omega); omega)
/-- wdLoM -/
theorem lem_284_ok (hU : uqG G C) : lem_284.1.2.1 = [] ∧ lemOK (PRd G C D xs) G rgs lem_284 := by
  refine ⟨rfl, fun ρ h ha hT => ?_⟩
  obtain ⟨-, -, hF, hG, hH, hA, hP⟩ := ha
  have f0 : (0 : Int) ≤ ((0) + ((1) * ρ 2 + 0)) := hF _ (List.mem_of_getElem? (i := 0) rfl)
  have f1 : (0 : Int) ≤ ((1200) + ((-1) * ρ 2 + 0)) := hF _ (List.mem_of_getElem? (i := 1) rfl)
  have f2 : (0 : Int) ≤ ((0) + ((1) * ρ 4 + 0)) := hF _ (List.mem_of_getElem? (i := 2) rfl)
  have f3 : (0 : Int) ≤ ((0) + ((1) * ρ 2 + ((-1) * ρ 4 + 0))) := hF _ (List.mem_of_getElem? (i := 3) rfl)
  have f4 : (0 : Int) ≤ ((0) + ((1) * ρ 1 + 0)) := hF _ (List.mem_of_getElem? (i := 4) rfl)
  have f5 : (0 : Int) ≤ ((1) + ((-1) * ρ 5 + 0)) := hF _ (List.mem_of_getElem? (i := 5) rfl)
  have g0 : G (ρ 0).toNat = 22 := by
    have q := (hG _ (List.mem_of_getElem? (i := 0) rfl)).2
    rwa [show ev ρ (0, [(0, 1)]) = ρ 0 from ev_v] at q
  have h0 : (0 : Int) ≤ ρ 2 ∧ ρ 2 ≤ 1200 := hf_rg hT (hH _ (List.mem_of_getElem? (i := 0) rfl)) ev_v g0 rfl rfl rfl ev_v
  have h1 : (0 : Int) ≤ ρ 3 ∧ ρ 3 ≤ 1200 := hf_rg hT (hH _ (List.mem_of_getElem? (i := 1) rfl)) ev_v g0 rfl rfl rfl ev_v
  have h2 : (0 : Int) ≤ ρ 4 ∧ ρ 4 ≤ 1200 := hf_rg hT (hH _ (List.mem_of_getElem? (i := 2) rfl)) ev_v g0 rfl rfl rfl ev_v
  have p0 : q180 (tB (vw C h)) (ρ 2 + 2048 * ρ 4) (ρ 5) := c2 (P := q180 (tB (vw C h))) (show q180 (tB (vw C h)) (((0) + ((1) * ρ 2 + ((2048) * ρ 4 + 0)))) (((0) + ((1) * ρ 5 + 0))) from hP _ (List.mem_of_getElem? (i := 0) rfl)) (by omega) (by omega)
  obtain ⟨kk, kx⟩ := k180 (n := ρ 2) (s := ρ 4) (by omega) (by omega) (by omega) (by omega) (by omega) p0
  refine ⟨_, List.mem_cons_self, ρ, fun _ _ => rfl, fun q hq => absurd hq List.not_mem_nil, trivial, fun f hf => ?_, fun q hq => absurd hq List.not_mem_nil, fun q hq => absurd hq List.not_mem_nil, fun q hq => absurd hq List.not_mem_nil, fun q hq => ?_⟩
  · exact absurd hf List.not_mem_nil
  · simp only [List.mem_cons, List.not_mem_nil, or_false] at hq
    subst hq
    show q159 (tB (vw C h)) (((0) + ((4194304) * ρ 1 + ((1) * ρ 2 + ((2048) * ρ 4 + 0))))) (((0) + 0))
    refine c2 (P := q159 (tB (vw C h))) (r := 4194304 * ρ 1 + ρ 2 + 2048 * ρ 4) (c := (0 : Int)) ?_ (by omega) (by omega)
    show q159 (tB (vw C h)) (4194304 * ρ 1 + ρ 2 + 2048 * ρ 4) ((0 : Int))
    exact o159 (n := ρ 2) (s := ρ 4) (w := ρ 1) (by omega) (by omega) (by omega) (by omega) (by omega) (by omega) (by have q := wd_kno (B := (tB (vw C h))) (n := (ρ 2).toNat) (s := (ρ 4).toNat) (w := (ρ 1).toNat) (by omega); omega)
/-- wdHiM -/
theorem lem_285_ok (hU : uqG G C) : lem_285.1.2.1 = [] ∧ lemOK (PRd G C D xs) G rgs lem_285 := by
  refine ⟨rfl, fun ρ h ha hT => ?_⟩
  obtain ⟨-, -, hF, hG, hH, hA, hP⟩ := ha
  have f0 : (0 : Int) ≤ ((0) + ((1) * ρ 2 + 0)) := hF _ (List.mem_of_getElem? (i := 0) rfl)
  have f1 : (0 : Int) ≤ ((1200) + ((-1) * ρ 2 + 0)) := hF _ (List.mem_of_getElem? (i := 1) rfl)
  have f2 : (0 : Int) ≤ ((0) + ((1) * ρ 4 + 0)) := hF _ (List.mem_of_getElem? (i := 2) rfl)
  have f3 : (0 : Int) ≤ ((0) + ((1) * ρ 2 + ((-1) * ρ 4 + 0))) := hF _ (List.mem_of_getElem? (i := 3) rfl)
  have f4 : (0 : Int) ≤ ((0) + ((1) * ρ 1 + 0)) := hF _ (List.mem_of_getElem? (i := 4) rfl)
  have f5 : (0 : Int) ≤ ((-3) + ((1) * ρ 5 + 0)) := hF _ (List.mem_of_getElem? (i := 5) rfl)
  have g0 : G (ρ 0).toNat = 22 := by
    have q := (hG _ (List.mem_of_getElem? (i := 0) rfl)).2
    rwa [show ev ρ (0, [(0, 1)]) = ρ 0 from ev_v] at q
  have h0 : (0 : Int) ≤ ρ 2 ∧ ρ 2 ≤ 1200 := hf_rg hT (hH _ (List.mem_of_getElem? (i := 0) rfl)) ev_v g0 rfl rfl rfl ev_v
  have h1 : (0 : Int) ≤ ρ 3 ∧ ρ 3 ≤ 1200 := hf_rg hT (hH _ (List.mem_of_getElem? (i := 1) rfl)) ev_v g0 rfl rfl rfl ev_v
  have h2 : (0 : Int) ≤ ρ 4 ∧ ρ 4 ≤ 1200 := hf_rg hT (hH _ (List.mem_of_getElem? (i := 2) rfl)) ev_v g0 rfl rfl rfl ev_v
  have p0 : q180 (tB (vw C h)) (ρ 2 + 2048 * ρ 4) (ρ 5) := c2 (P := q180 (tB (vw C h))) (show q180 (tB (vw C h)) (((0) + ((1) * ρ 2 + ((2048) * ρ 4 + 0)))) (((0) + ((1) * ρ 5 + 0))) from hP _ (List.mem_of_getElem? (i := 0) rfl)) (by omega) (by omega)
  obtain ⟨kk, kx⟩ := k180 (n := ρ 2) (s := ρ 4) (by omega) (by omega) (by omega) (by omega) (by omega) p0
  refine ⟨_, List.mem_cons_self, ρ, fun _ _ => rfl, fun q hq => absurd hq List.not_mem_nil, trivial, fun f hf => ?_, fun q hq => absurd hq List.not_mem_nil, fun q hq => absurd hq List.not_mem_nil, fun q hq => absurd hq List.not_mem_nil, fun q hq => ?_⟩
  · exact absurd hf List.not_mem_nil
  · simp only [List.mem_cons, List.not_mem_nil, or_false] at hq
    subst hq
    show q159 (tB (vw C h)) (((0) + ((4194304) * ρ 1 + ((1) * ρ 2 + ((2048) * ρ 4 + 0))))) (((0) + 0))
    refine c2 (P := q159 (tB (vw C h))) (r := 4194304 * ρ 1 + ρ 2 + 2048 * ρ 4) (c := (0 : Int)) ?_ (by omega) (by omega)
    show q159 (tB (vw C h)) (4194304 * ρ 1 + ρ 2 + 2048 * ρ 4) ((0 : Int))
    exact o159 (n := ρ 2) (s := ρ 4) (w := ρ 1) (by omega) (by omega) (by omega) (by omega) (by omega) (by omega) (by have q := wd_kno (B := (tB (vw C h))) (n := (ρ 2).toNat) (s := (ρ 4).toNat) (w := (ρ 1).toNat) (by omega); omega)
/-- wdShortM -/
theorem lem_286_ok (hU : uqG G C) : lem_286.1.2.1 = [] ∧ lemOK (PRd G C D xs) G rgs lem_286 := by
  refine ⟨rfl, fun ρ h ha hT => ?_⟩
  obtain ⟨-, -, hF, hG, hH, hA, hP⟩ := ha
  have f0 : (0 : Int) ≤ ((0) + ((1) * ρ 2 + 0)) := hF _ (List.mem_of_getElem? (i := 0) rfl)
  have f1 : (0 : Int) ≤ ((1200) + ((-1) * ρ 2 + 0)) := hF _ (List.mem_of_getElem? (i := 1) rfl)
  have f2 : (0 : Int) ≤ ((0) + ((1) * ρ 4 + 0)) := hF _ (List.mem_of_getElem? (i := 2) rfl)
  have f3 : (0 : Int) ≤ ((0) + ((1) * ρ 2 + ((-1) * ρ 4 + 0))) := hF _ (List.mem_of_getElem? (i := 3) rfl)
  have f4 : (0 : Int) ≤ ((0) + ((1) * ρ 1 + 0)) := hF _ (List.mem_of_getElem? (i := 4) rfl)
  have f5 : (0 : Int) ≤ ((2) + ((-1) * ρ 5 + 0)) := hF _ (List.mem_of_getElem? (i := 5) rfl)
  have f6 : (0 : Int) ≤ ((-2) + ((1) * ρ 5 + 0)) := hF _ (List.mem_of_getElem? (i := 6) rfl)
  have f7 : (0 : Int) ≤ ((-1) + ((-1) * ρ 3 + ((1) * ρ 4 + ((1) * ρ 6 + 0)))) := hF _ (List.mem_of_getElem? (i := 7) rfl)
  have g0 : G (ρ 0).toNat = 22 := by
    have q := (hG _ (List.mem_of_getElem? (i := 0) rfl)).2
    rwa [show ev ρ (0, [(0, 1)]) = ρ 0 from ev_v] at q
  have h0 : (0 : Int) ≤ ρ 2 ∧ ρ 2 ≤ 1200 := hf_rg hT (hH _ (List.mem_of_getElem? (i := 0) rfl)) ev_v g0 rfl rfl rfl ev_v
  have h1 : (0 : Int) ≤ ρ 3 ∧ ρ 3 ≤ 1200 := hf_rg hT (hH _ (List.mem_of_getElem? (i := 1) rfl)) ev_v g0 rfl rfl rfl ev_v
  have h2 : (0 : Int) ≤ ρ 4 ∧ ρ 4 ≤ 1200 := hf_rg hT (hH _ (List.mem_of_getElem? (i := 2) rfl)) ev_v g0 rfl rfl rfl ev_v
  have p0 : q180 (tB (vw C h)) (ρ 2 + 2048 * ρ 4) (ρ 5) := c2 (P := q180 (tB (vw C h))) (show q180 (tB (vw C h)) (((0) + ((1) * ρ 2 + ((2048) * ρ 4 + 0)))) (((0) + ((1) * ρ 5 + 0))) from hP _ (List.mem_of_getElem? (i := 0) rfl)) (by omega) (by omega)
  have p1 : q156 (tB (vw C h)) (ρ 2 + 2048 * ρ 3) (ρ 4) := c2 (P := q156 (tB (vw C h))) (show q156 (tB (vw C h)) (((0) + ((1) * ρ 2 + ((2048) * ρ 3 + 0)))) (((0) + ((1) * ρ 4 + 0))) from hP _ (List.mem_of_getElem? (i := 1) rfl)) (by omega) (by omega)
  have p2 : q182 (ρ 1) (ρ 6) := c2 (P := q182) (show q182 (((0) + ((1) * ρ 1 + 0))) (((0) + ((1) * ρ 6 + 0))) from hP _ (List.mem_of_getElem? (i := 2) rfl)) (by omega) (by omega)
  obtain ⟨kk, kx⟩ := k180 (n := ρ 2) (s := ρ 4) (by omega) (by omega) (by omega) (by omega) (by omega) p0
  have ke := k156 (n := ρ 2) (s := ρ 4) (e := ρ 3) (by omega) (by omega) (by omega) (by omega) (by omega) (by omega) p1
  have kl := k182 p2 (w := ρ 1) (by omega)
  refine ⟨_, List.mem_cons_self, ρ, fun _ _ => rfl, fun q hq => absurd hq List.not_mem_nil, trivial, fun f hf => ?_, fun q hq => absurd hq List.not_mem_nil, fun q hq => absurd hq List.not_mem_nil, fun q hq => absurd hq List.not_mem_nil, fun q hq => ?_⟩
  · exact absurd hf List.not_mem_nil
  · simp only [List.mem_cons, List.not_mem_nil, or_false] at hq
    subst hq
    show q159 (tB (vw C h)) (((0) + ((4194304) * ρ 1 + ((1) * ρ 2 + ((2048) * ρ 4 + 0))))) (((0) + 0))
    refine c2 (P := q159 (tB (vw C h))) (r := 4194304 * ρ 1 + ρ 2 + 2048 * ρ 4) (c := (0 : Int)) ?_ (by omega) (by omega)
    show q159 (tB (vw C h)) (4194304 * ρ 1 + ρ 2 + 2048 * ρ 4) ((0 : Int))
    exact o159 (n := ρ 2) (s := ρ 4) (w := ρ 1) (by omega) (by omega) (by omega) (by omega) (by omega) (by omega) (by have q := wd_lno (B := (tB (vw C h))) (n := (ρ 2).toNat) (s := (ρ 4).toNat) (w := (ρ 1).toNat) (by omega); omega)
/-- wdLongM -/
theorem lem_287_ok (hU : uqG G C) : lem_287.1.2.1 = [] ∧ lemOK (PRd G C D xs) G rgs lem_287 := by
  refine ⟨rfl, fun ρ h ha hT => ?_⟩
  obtain ⟨-, -, hF, hG, hH, hA, hP⟩ := ha
  have f0 : (0 : Int) ≤ ((0) + ((1) * ρ 2 + 0)) := hF _ (List.mem_of_getElem? (i := 0) rfl)
  have f1 : (0 : Int) ≤ ((1200) + ((-1) * ρ 2 + 0)) := hF _ (List.mem_of_getElem? (i := 1) rfl)
  have f2 : (0 : Int) ≤ ((0) + ((1) * ρ 4 + 0)) := hF _ (List.mem_of_getElem? (i := 2) rfl)
  have f3 : (0 : Int) ≤ ((0) + ((1) * ρ 2 + ((-1) * ρ 4 + 0))) := hF _ (List.mem_of_getElem? (i := 3) rfl)
  have f4 : (0 : Int) ≤ ((0) + ((1) * ρ 1 + 0)) := hF _ (List.mem_of_getElem? (i := 4) rfl)
  have f5 : (0 : Int) ≤ ((2) + ((-1) * ρ 5 + 0)) := hF _ (List.mem_of_getElem? (i := 5) rfl)
  have f6 : (0 : Int) ≤ ((-2) + ((1) * ρ 5 + 0)) := hF _ (List.mem_of_getElem? (i := 6) rfl)
  have f7 : (0 : Int) ≤ ((-1) + ((1) * ρ 3 + ((-1) * ρ 4 + ((-1) * ρ 6 + 0)))) := hF _ (List.mem_of_getElem? (i := 7) rfl)
  have g0 : G (ρ 0).toNat = 22 := by
    have q := (hG _ (List.mem_of_getElem? (i := 0) rfl)).2
    rwa [show ev ρ (0, [(0, 1)]) = ρ 0 from ev_v] at q
  have h0 : (0 : Int) ≤ ρ 2 ∧ ρ 2 ≤ 1200 := hf_rg hT (hH _ (List.mem_of_getElem? (i := 0) rfl)) ev_v g0 rfl rfl rfl ev_v
  have h1 : (0 : Int) ≤ ρ 3 ∧ ρ 3 ≤ 1200 := hf_rg hT (hH _ (List.mem_of_getElem? (i := 1) rfl)) ev_v g0 rfl rfl rfl ev_v
  have h2 : (0 : Int) ≤ ρ 4 ∧ ρ 4 ≤ 1200 := hf_rg hT (hH _ (List.mem_of_getElem? (i := 2) rfl)) ev_v g0 rfl rfl rfl ev_v
  have p0 : q180 (tB (vw C h)) (ρ 2 + 2048 * ρ 4) (ρ 5) := c2 (P := q180 (tB (vw C h))) (show q180 (tB (vw C h)) (((0) + ((1) * ρ 2 + ((2048) * ρ 4 + 0)))) (((0) + ((1) * ρ 5 + 0))) from hP _ (List.mem_of_getElem? (i := 0) rfl)) (by omega) (by omega)
  have p1 : q156 (tB (vw C h)) (ρ 2 + 2048 * ρ 3) (ρ 4) := c2 (P := q156 (tB (vw C h))) (show q156 (tB (vw C h)) (((0) + ((1) * ρ 2 + ((2048) * ρ 3 + 0)))) (((0) + ((1) * ρ 4 + 0))) from hP _ (List.mem_of_getElem? (i := 1) rfl)) (by omega) (by omega)
  have p2 : q182 (ρ 1) (ρ 6) := c2 (P := q182) (show q182 (((0) + ((1) * ρ 1 + 0))) (((0) + ((1) * ρ 6 + 0))) from hP _ (List.mem_of_getElem? (i := 2) rfl)) (by omega) (by omega)
  obtain ⟨kk, kx⟩ := k180 (n := ρ 2) (s := ρ 4) (by omega) (by omega) (by omega) (by omega) (by omega) p0
  have ke := k156 (n := ρ 2) (s := ρ 4) (e := ρ 3) (by omega) (by omega) (by omega) (by omega) (by omega) (by omega) p1
  have kl := k182 p2 (w := ρ 1) (by omega)
  refine ⟨_, List.mem_cons_self, ρ, fun _ _ => rfl, fun q hq => absurd hq List.not_mem_nil, trivial, fun f hf => ?_, fun q hq => absurd hq List.not_mem_nil, fun q hq => absurd hq List.not_mem_nil, fun q hq => absurd hq List.not_mem_nil, fun q hq => ?_⟩
  · exact absurd hf List.not_mem_nil
  · simp only [List.mem_cons, List.not_mem_nil, or_false] at hq
    subst hq
    show q159 (tB (vw C h)) (((0) + ((4194304) * ρ 1 + ((1) * ρ 2 + ((2048) * ρ 4 + 0))))) (((0) + 0))
    refine c2 (P := q159 (tB (vw C h))) (r := 4194304 * ρ 1 + ρ 2 + 2048 * ρ 4) (c := (0 : Int)) ?_ (by omega) (by omega)
    show q159 (tB (vw C h)) (4194304 * ρ 1 + ρ 2 + 2048 * ρ 4) ((0 : Int))
    exact o159 (n := ρ 2) (s := ρ 4) (w := ρ 1) (by omega) (by omega) (by omega) (by omega) (by omega) (by omega) (by have q := wd_lno (B := (tB (vw C h))) (n := (ρ 2).toNat) (s := (ρ 4).toNat) (w := (ρ 1).toNat) (by omega); omega)
/-- wdAllM -/
theorem lem_288_ok (hU : uqG G C) : lem_288.1.2.1 = [] ∧ lemOK (PRd G C D xs) G rgs lem_288 := by
  refine ⟨rfl, fun ρ h ha hT => ?_⟩
  obtain ⟨-, -, hF, hG, hH, hA, hP⟩ := ha
  have f0 : (0 : Int) ≤ ((0) + ((1) * ρ 3 + 0)) := hF _ (List.mem_of_getElem? (i := 0) rfl)
  have f1 : (0 : Int) ≤ ((1200) + ((-1) * ρ 3 + 0)) := hF _ (List.mem_of_getElem? (i := 1) rfl)
  have f2 : (0 : Int) ≤ ((0) + ((1) * ρ 5 + 0)) := hF _ (List.mem_of_getElem? (i := 2) rfl)
  have f3 : (0 : Int) ≤ ((0) + ((1) * ρ 3 + ((-1) * ρ 5 + 0))) := hF _ (List.mem_of_getElem? (i := 3) rfl)
  have f4 : (0 : Int) ≤ ((0) + ((1) * ρ 1 + 0)) := hF _ (List.mem_of_getElem? (i := 4) rfl)
  have f5 : (0 : Int) ≤ ((0) + ((1) * ρ 2 + ((-1) * ρ 7 + 0))) := hF _ (List.mem_of_getElem? (i := 5) rfl)
  have f6 : (0 : Int) ≤ ((0) + ((1) * ρ 4 + ((-1) * ρ 5 + ((-1) * ρ 7 + 0)))) := hF _ (List.mem_of_getElem? (i := 6) rfl)
  have f7 : (0 : Int) ≤ ((0) + ((-1) * ρ 4 + ((1) * ρ 5 + ((1) * ρ 7 + 0)))) := hF _ (List.mem_of_getElem? (i := 7) rfl)
  have f8 : (0 : Int) ≤ ((2) + ((-1) * ρ 6 + 0)) := hF _ (List.mem_of_getElem? (i := 8) rfl)
  have f9 : (0 : Int) ≤ ((-2) + ((1) * ρ 6 + 0)) := hF _ (List.mem_of_getElem? (i := 9) rfl)
  have g0 : G (ρ 0).toNat = 22 := by
    have q := (hG _ (List.mem_of_getElem? (i := 0) rfl)).2
    rwa [show ev ρ (0, [(0, 1)]) = ρ 0 from ev_v] at q
  have h0 : (0 : Int) ≤ ρ 3 ∧ ρ 3 ≤ 1200 := hf_rg hT (hH _ (List.mem_of_getElem? (i := 0) rfl)) ev_v g0 rfl rfl rfl ev_v
  have h1 : (0 : Int) ≤ ρ 4 ∧ ρ 4 ≤ 1200 := hf_rg hT (hH _ (List.mem_of_getElem? (i := 1) rfl)) ev_v g0 rfl rfl rfl ev_v
  have h2 : (0 : Int) ≤ ρ 5 ∧ ρ 5 ≤ 1200 := hf_rg hT (hH _ (List.mem_of_getElem? (i := 2) rfl)) ev_v g0 rfl rfl rfl ev_v
  have p0 : q180 (tB (vw C h)) (ρ 3 + 2048 * ρ 5) (ρ 6) := c2 (P := q180 (tB (vw C h))) (show q180 (tB (vw C h)) (((0) + ((1) * ρ 3 + ((2048) * ρ 5 + 0)))) (((0) + ((1) * ρ 6 + 0))) from hP _ (List.mem_of_getElem? (i := 0) rfl)) (by omega) (by omega)
  have p1 : q156 (tB (vw C h)) (ρ 3 + 2048 * ρ 4) (ρ 5) := c2 (P := q156 (tB (vw C h))) (show q156 (tB (vw C h)) (((0) + ((1) * ρ 3 + ((2048) * ρ 4 + 0)))) (((0) + ((1) * ρ 5 + 0))) from hP _ (List.mem_of_getElem? (i := 1) rfl)) (by omega) (by omega)
  have p2 : q182 (ρ 1) (ρ 7) := c2 (P := q182) (show q182 (((0) + ((1) * ρ 1 + 0))) (((0) + ((1) * ρ 7 + 0))) from hP _ (List.mem_of_getElem? (i := 2) rfl)) (by omega) (by omega)
  have p3 : q161 (tB (vw C h)) (2048 * ρ 1 + ρ 5) (ρ 2) := c2 (P := q161 (tB (vw C h))) (show q161 (tB (vw C h)) (((0) + ((2048) * ρ 1 + ((1) * ρ 5 + 0)))) (((0) + ((1) * ρ 2 + 0))) from hP _ (List.mem_of_getElem? (i := 3) rfl)) (by omega) (by omega)
  obtain ⟨kk, kx⟩ := k180 (n := ρ 3) (s := ρ 5) (by omega) (by omega) (by omega) (by omega) (by omega) p0
  have ke := k156 (n := ρ 3) (s := ρ 5) (e := ρ 4) (by omega) (by omega) (by omega) (by omega) (by omega) (by omega) p1
  have kl := k182 p2 (w := ρ 1) (by omega)
  refine ⟨_, List.mem_cons_self, ρ, fun _ _ => rfl, fun q hq => absurd hq List.not_mem_nil, trivial, fun f hf => ?_, fun q hq => absurd hq List.not_mem_nil, fun q hq => absurd hq List.not_mem_nil, fun q hq => absurd hq List.not_mem_nil, fun q hq => ?_⟩
  · exact absurd hf List.not_mem_nil
  · simp only [List.mem_cons, List.not_mem_nil, or_false] at hq
    subst hq
    show q159 (tB (vw C h)) (((0) + ((4194304) * ρ 1 + ((1) * ρ 3 + ((2048) * ρ 5 + 0))))) (((1) + 0))
    refine c2 (P := q159 (tB (vw C h))) (r := 4194304 * ρ 1 + ρ 3 + 2048 * ρ 5) (c := (1 : Int)) ?_ (by omega) (by omega)
    show q159 (tB (vw C h)) (4194304 * ρ 1 + ρ 3 + 2048 * ρ 5) ((1 : Int))
    exact o159 (n := ρ 3) (s := ρ 5) (w := ρ 1) (by omega) (by omega) (by omega) (by omega) (by omega) (by omega) (by have q := wd_yes (B := (tB (vw C h))) (n := ρ 3) (s := ρ 5) (i := ρ 4) (w := ρ 1) (j := ρ 2) (by omega) ke (by omega) (by omega) (by omega) (by omega) (by omega) p3 (by omega); omega)
/-- mtStepM -/
theorem lem_289_ok (hU : uqG G C) : lem_289.1.2.1 = [] ∧ lemOK (PRd G C D xs) G rgs lem_289 := by
  refine ⟨rfl, fun ρ h ha hT => ?_⟩
  obtain ⟨-, -, hF, hG, hH, hA, hP⟩ := ha
  have f0 : (0 : Int) ≤ ((0) + ((1) * ρ 3 + 0)) := hF _ (List.mem_of_getElem? (i := 0) rfl)
  have f1 : (0 : Int) ≤ ((1200) + ((-1) * ρ 3 + 0)) := hF _ (List.mem_of_getElem? (i := 1) rfl)
  have f2 : (0 : Int) ≤ ((0) + ((1) * ρ 4 + 0)) := hF _ (List.mem_of_getElem? (i := 2) rfl)
  have f3 : (0 : Int) ≤ ((-1) + ((-1) * ρ 2 + ((1) * ρ 3 + ((-1) * ρ 4 + 0)))) := hF _ (List.mem_of_getElem? (i := 3) rfl)
  have f4 : (0 : Int) ≤ ((0) + ((1) * ρ 2 + 0)) := hF _ (List.mem_of_getElem? (i := 4) rfl)
  have f5 : (0 : Int) ≤ ((0) + ((1) * ρ 1 + 0)) := hF _ (List.mem_of_getElem? (i := 5) rfl)
  have f6 : (0 : Int) ≤ ((20) + ((-1) * ρ 1 + 0)) := hF _ (List.mem_of_getElem? (i := 6) rfl)
  have f7 : (0 : Int) ≤ ((-1) + ((-1) * ρ 2 + ((1) * ρ 7 + 0))) := hF _ (List.mem_of_getElem? (i := 7) rfl)
  have f8 : (0 : Int) ≤ ((0) + ((1) * ρ 6 + ((-1) * ρ 8 + 0))) := hF _ (List.mem_of_getElem? (i := 8) rfl)
  have f9 : (0 : Int) ≤ ((0) + ((-1) * ρ 6 + ((1) * ρ 8 + 0))) := hF _ (List.mem_of_getElem? (i := 9) rfl)
  have g0 : G (ρ 0).toNat = 22 := by
    have q := (hG _ (List.mem_of_getElem? (i := 0) rfl)).2
    rwa [show ev ρ (0, [(0, 1)]) = ρ 0 from ev_v] at q
  have g1 : G (ρ 5).toNat = 125 := by
    have q := (hG _ (List.mem_of_getElem? (i := 1) rfl)).2
    rwa [show ev ρ (0, [(5, 1)]) = ρ 5 from ev_v] at q
  have h0 : (0 : Int) ≤ ρ 3 ∧ ρ 3 ≤ 1200 := hf_rg hT (hH _ (List.mem_of_getElem? (i := 0) rfl)) ev_v g0 rfl rfl rfl ev_v
  have h1 : (0 : Int) ≤ ρ 4 ∧ ρ 4 ≤ 1200 := hf_rg hT (hH _ (List.mem_of_getElem? (i := 1) rfl)) ev_v g0 rfl rfl rfl ev_v
  have b0 : (0 : Int) ≤ ((0) + ((1) * ρ 2 + ((1) * ρ 4 + 0))) := b_aA (hA _ (List.mem_of_getElem? (i := 0) rfl))
  have a0 : vw C h 125 ((ρ 2 + ρ 4).toNat) = ρ 6 := vw_aA hU (hA _ (List.mem_of_getElem? (i := 0) rfl)) ev_v g1 (by omega) (by omega) (i := (ρ 2 + ρ 4).toNat) (show ((((ρ 2 + ρ 4).toNat : Nat)) : Int) = ((0) + ((1) * ρ 2 + ((1) * ρ 4 + 0))) by omega) ev_v
  have p0 : P170 (vw C h) (ρ 3) := c2 (P := (fun r (_ : Int) => P170 (vw C h) r)) (c := 0) (c' := 0) (show P170 (vw C h) (((0) + ((1) * ρ 3 + 0))) from hP _ (List.mem_of_getElem? (i := 0) rfl)) (by omega) rfl
  have p1 : q182 (ρ 1) (ρ 7) := c2 (P := q182) (show q182 (((0) + ((1) * ρ 1 + 0))) (((0) + ((1) * ρ 7 + 0))) from hP _ (List.mem_of_getElem? (i := 1) rfl)) (by omega) (by omega)
  have p2 : q177 (64 * ρ 1 + ρ 2) (ρ 8) := c2 (P := q177) (show q177 (((0) + ((64) * ρ 1 + ((1) * ρ 2 + 0)))) (((0) + ((1) * ρ 8 + 0))) from hP _ (List.mem_of_getElem? (i := 2) rfl)) (by omega) (by omega)
  have p3 : q161 (tB (vw C h)) (2048 * ρ 1 + ρ 4) (ρ 2) := c2 (P := q161 (tB (vw C h))) (show q161 (tB (vw C h)) (((0) + ((2048) * ρ 1 + ((1) * ρ 4 + 0)))) (((0) + ((1) * ρ 2 + 0))) from hP _ (List.mem_of_getElem? (i := 3) rfl)) (by omega) (by omega)
  have kl := k182 p1 (w := ρ 1) (by omega)
  have k8 := wd_len (ρ 1).toNat (by omega)
  have kc := k177 (w := ρ 1) (j := ρ 2) (by omega) (by omega) (by omega) (by omega) p2
  have kr := wd_let (ρ 1).toNat (by omega) (ρ 2).toNat (by omega)
  have hb := by_M (j := ρ 4 + ρ 2) (b := ρ 6) p0 (by omega) (by omega) (by omega) (by have q := a0; rwa [show (ρ 2 + ρ 4).toNat = (ρ 4 + ρ 2).toNat by omega] at q)
  have hb1 := hb.2.1
  have hb2 := hb.1.2.1
  have hb3 : ρ 6 % 256 = (tB (vw C h)) ((ρ 4).toNat + (ρ 2).toNat) := by rw [← show (ρ 4 + ρ 2).toNat = (ρ 4).toNat + (ρ 2).toNat by omega]; exact hb.1.2.2
  refine ⟨_, List.mem_cons_self, ρ, fun _ _ => rfl, fun q hq => absurd hq List.not_mem_nil, trivial, fun f hf => ?_, fun q hq => absurd hq List.not_mem_nil, fun q hq => absurd hq List.not_mem_nil, fun q hq => absurd hq List.not_mem_nil, fun q hq => ?_⟩
  · exact absurd hf List.not_mem_nil
  · simp only [List.mem_cons, List.not_mem_nil, or_false] at hq
    subst hq
    show q161 (tB (vw C h)) (((0) + ((2048) * ρ 1 + ((1) * ρ 4 + 0)))) (((1) + ((1) * ρ 2 + 0)))
    refine c2 (P := q161 (tB (vw C h))) (r := 2048 * ρ 1 + ρ 4) (c := ρ 2 + 1) ?_ (by omega) (by omega)
    show q161 (tB (vw C h)) (2048 * ρ 1 + ρ 4) (ρ 2 + 1)
    exact mt_step (s := ρ 4) (w := ρ 1) (j := ρ 2) (by omega) (by omega) (by omega) (by omega) (by omega) (by omega) (by omega) p3
/-- mtLoM -/
theorem lem_290_ok (hU : uqG G C) : lem_290.1.2.1 = [] ∧ lemOK (PRd G C D xs) G rgs lem_290 := by
  refine ⟨rfl, fun ρ h ha hT => ?_⟩
  obtain ⟨-, -, hF, hG, hH, hA, hP⟩ := ha
  have f0 : (0 : Int) ≤ ((0) + ((1) * ρ 3 + 0)) := hF _ (List.mem_of_getElem? (i := 0) rfl)
  have f1 : (0 : Int) ≤ ((1200) + ((-1) * ρ 3 + 0)) := hF _ (List.mem_of_getElem? (i := 1) rfl)
  have f2 : (0 : Int) ≤ ((0) + ((1) * ρ 4 + 0)) := hF _ (List.mem_of_getElem? (i := 2) rfl)
  have f3 : (0 : Int) ≤ ((-1) + ((-1) * ρ 2 + ((1) * ρ 3 + ((-1) * ρ 4 + 0)))) := hF _ (List.mem_of_getElem? (i := 3) rfl)
  have f4 : (0 : Int) ≤ ((0) + ((1) * ρ 2 + 0)) := hF _ (List.mem_of_getElem? (i := 4) rfl)
  have f5 : (0 : Int) ≤ ((0) + ((1) * ρ 1 + 0)) := hF _ (List.mem_of_getElem? (i := 5) rfl)
  have f6 : (0 : Int) ≤ ((20) + ((-1) * ρ 1 + 0)) := hF _ (List.mem_of_getElem? (i := 6) rfl)
  have f7 : (0 : Int) ≤ ((-1) + ((-1) * ρ 2 + ((1) * ρ 7 + 0))) := hF _ (List.mem_of_getElem? (i := 7) rfl)
  have f8 : (0 : Int) ≤ ((-1) + ((-1) * ρ 6 + ((1) * ρ 8 + 0))) := hF _ (List.mem_of_getElem? (i := 8) rfl)
  have f9 : (0 : Int) ≤ ((0) + ((1) * ρ 8 + 0)) := hF _ (List.mem_of_getElem? (i := 9) rfl)
  have f10 : (0 : Int) ≤ ((127) + ((-1) * ρ 8 + 0)) := hF _ (List.mem_of_getElem? (i := 10) rfl)
  have g0 : G (ρ 0).toNat = 22 := by
    have q := (hG _ (List.mem_of_getElem? (i := 0) rfl)).2
    rwa [show ev ρ (0, [(0, 1)]) = ρ 0 from ev_v] at q
  have g1 : G (ρ 5).toNat = 125 := by
    have q := (hG _ (List.mem_of_getElem? (i := 1) rfl)).2
    rwa [show ev ρ (0, [(5, 1)]) = ρ 5 from ev_v] at q
  have h0 : (0 : Int) ≤ ρ 3 ∧ ρ 3 ≤ 1200 := hf_rg hT (hH _ (List.mem_of_getElem? (i := 0) rfl)) ev_v g0 rfl rfl rfl ev_v
  have h1 : (0 : Int) ≤ ρ 4 ∧ ρ 4 ≤ 1200 := hf_rg hT (hH _ (List.mem_of_getElem? (i := 1) rfl)) ev_v g0 rfl rfl rfl ev_v
  have b0 : (0 : Int) ≤ ((0) + ((1) * ρ 2 + ((1) * ρ 4 + 0))) := b_aA (hA _ (List.mem_of_getElem? (i := 0) rfl))
  have a0 : vw C h 125 ((ρ 2 + ρ 4).toNat) = ρ 6 := vw_aA hU (hA _ (List.mem_of_getElem? (i := 0) rfl)) ev_v g1 (by omega) (by omega) (i := (ρ 2 + ρ 4).toNat) (show ((((ρ 2 + ρ 4).toNat : Nat)) : Int) = ((0) + ((1) * ρ 2 + ((1) * ρ 4 + 0))) by omega) ev_v
  have p0 : P170 (vw C h) (ρ 3) := c2 (P := (fun r (_ : Int) => P170 (vw C h) r)) (c := 0) (c' := 0) (show P170 (vw C h) (((0) + ((1) * ρ 3 + 0))) from hP _ (List.mem_of_getElem? (i := 0) rfl)) (by omega) rfl
  have p1 : q182 (ρ 1) (ρ 7) := c2 (P := q182) (show q182 (((0) + ((1) * ρ 1 + 0))) (((0) + ((1) * ρ 7 + 0))) from hP _ (List.mem_of_getElem? (i := 1) rfl)) (by omega) (by omega)
  have p2 : q177 (64 * ρ 1 + ρ 2) (ρ 8) := c2 (P := q177) (show q177 (((0) + ((64) * ρ 1 + ((1) * ρ 2 + 0)))) (((0) + ((1) * ρ 8 + 0))) from hP _ (List.mem_of_getElem? (i := 2) rfl)) (by omega) (by omega)
  have kl := k182 p1 (w := ρ 1) (by omega)
  have k8 := wd_len (ρ 1).toNat (by omega)
  have kc := k177 (w := ρ 1) (j := ρ 2) (by omega) (by omega) (by omega) (by omega) p2
  have kr := wd_let (ρ 1).toNat (by omega) (ρ 2).toNat (by omega)
  have hb := by_M (j := ρ 4 + ρ 2) (b := ρ 6) p0 (by omega) (by omega) (by omega) (by have q := a0; rwa [show (ρ 2 + ρ 4).toNat = (ρ 4 + ρ 2).toNat by omega] at q)
  have hb1 := hb.2.1
  have hb2 := hb.1.2.1
  have hb3 : ρ 6 % 256 = (tB (vw C h)) ((ρ 4).toNat + (ρ 2).toNat) := by rw [← show (ρ 4 + ρ 2).toNat = (ρ 4).toNat + (ρ 2).toNat by omega]; exact hb.1.2.2
  refine ⟨_, List.mem_cons_self, ρ, fun _ _ => rfl, fun q hq => absurd hq List.not_mem_nil, trivial, fun f hf => ?_, fun q hq => absurd hq List.not_mem_nil, fun q hq => absurd hq List.not_mem_nil, fun q hq => absurd hq List.not_mem_nil, fun q hq => ?_⟩
  · exact absurd hf List.not_mem_nil
  · simp only [List.mem_cons, List.not_mem_nil, or_false] at hq
    subst hq
    show q159 (tB (vw C h)) (((0) + ((4194304) * ρ 1 + ((1) * ρ 3 + ((2048) * ρ 4 + 0))))) (((0) + 0))
    refine c2 (P := q159 (tB (vw C h))) (r := 4194304 * ρ 1 + ρ 3 + 2048 * ρ 4) (c := (0 : Int)) ?_ (by omega) (by omega)
    show q159 (tB (vw C h)) (4194304 * ρ 1 + ρ 3 + 2048 * ρ 4) ((0 : Int))
    exact o159 (n := ρ 3) (s := ρ 4) (w := ρ 1) (by omega) (by omega) (by omega) (by omega) (by omega) (by omega) (by have q := wd_eno (B := (tB (vw C h))) (n := (ρ 3).toNat) (s := (ρ 4).toNat) (w := (ρ 1).toNat) (j := (ρ 2).toNat) (by omega) (by omega); omega)
/-- mtHiM -/
theorem lem_291_ok (hU : uqG G C) : lem_291.1.2.1 = [] ∧ lemOK (PRd G C D xs) G rgs lem_291 := by
  refine ⟨rfl, fun ρ h ha hT => ?_⟩
  obtain ⟨-, -, hF, hG, hH, hA, hP⟩ := ha
  have f0 : (0 : Int) ≤ ((0) + ((1) * ρ 3 + 0)) := hF _ (List.mem_of_getElem? (i := 0) rfl)
  have f1 : (0 : Int) ≤ ((1200) + ((-1) * ρ 3 + 0)) := hF _ (List.mem_of_getElem? (i := 1) rfl)
  have f2 : (0 : Int) ≤ ((0) + ((1) * ρ 4 + 0)) := hF _ (List.mem_of_getElem? (i := 2) rfl)
  have f3 : (0 : Int) ≤ ((-1) + ((-1) * ρ 2 + ((1) * ρ 3 + ((-1) * ρ 4 + 0)))) := hF _ (List.mem_of_getElem? (i := 3) rfl)
  have f4 : (0 : Int) ≤ ((0) + ((1) * ρ 2 + 0)) := hF _ (List.mem_of_getElem? (i := 4) rfl)
  have f5 : (0 : Int) ≤ ((0) + ((1) * ρ 1 + 0)) := hF _ (List.mem_of_getElem? (i := 5) rfl)
  have f6 : (0 : Int) ≤ ((20) + ((-1) * ρ 1 + 0)) := hF _ (List.mem_of_getElem? (i := 6) rfl)
  have f7 : (0 : Int) ≤ ((-1) + ((-1) * ρ 2 + ((1) * ρ 7 + 0))) := hF _ (List.mem_of_getElem? (i := 7) rfl)
  have f8 : (0 : Int) ≤ ((-1) + ((1) * ρ 6 + ((-1) * ρ 8 + 0))) := hF _ (List.mem_of_getElem? (i := 8) rfl)
  have f9 : (0 : Int) ≤ ((0) + ((1) * ρ 8 + 0)) := hF _ (List.mem_of_getElem? (i := 9) rfl)
  have f10 : (0 : Int) ≤ ((127) + ((-1) * ρ 8 + 0)) := hF _ (List.mem_of_getElem? (i := 10) rfl)
  have g0 : G (ρ 0).toNat = 22 := by
    have q := (hG _ (List.mem_of_getElem? (i := 0) rfl)).2
    rwa [show ev ρ (0, [(0, 1)]) = ρ 0 from ev_v] at q
  have g1 : G (ρ 5).toNat = 125 := by
    have q := (hG _ (List.mem_of_getElem? (i := 1) rfl)).2
    rwa [show ev ρ (0, [(5, 1)]) = ρ 5 from ev_v] at q
  have h0 : (0 : Int) ≤ ρ 3 ∧ ρ 3 ≤ 1200 := hf_rg hT (hH _ (List.mem_of_getElem? (i := 0) rfl)) ev_v g0 rfl rfl rfl ev_v
  have h1 : (0 : Int) ≤ ρ 4 ∧ ρ 4 ≤ 1200 := hf_rg hT (hH _ (List.mem_of_getElem? (i := 1) rfl)) ev_v g0 rfl rfl rfl ev_v
  have b0 : (0 : Int) ≤ ((0) + ((1) * ρ 2 + ((1) * ρ 4 + 0))) := b_aA (hA _ (List.mem_of_getElem? (i := 0) rfl))
  have a0 : vw C h 125 ((ρ 2 + ρ 4).toNat) = ρ 6 := vw_aA hU (hA _ (List.mem_of_getElem? (i := 0) rfl)) ev_v g1 (by omega) (by omega) (i := (ρ 2 + ρ 4).toNat) (show ((((ρ 2 + ρ 4).toNat : Nat)) : Int) = ((0) + ((1) * ρ 2 + ((1) * ρ 4 + 0))) by omega) ev_v
  have p0 : P170 (vw C h) (ρ 3) := c2 (P := (fun r (_ : Int) => P170 (vw C h) r)) (c := 0) (c' := 0) (show P170 (vw C h) (((0) + ((1) * ρ 3 + 0))) from hP _ (List.mem_of_getElem? (i := 0) rfl)) (by omega) rfl
  have p1 : q182 (ρ 1) (ρ 7) := c2 (P := q182) (show q182 (((0) + ((1) * ρ 1 + 0))) (((0) + ((1) * ρ 7 + 0))) from hP _ (List.mem_of_getElem? (i := 1) rfl)) (by omega) (by omega)
  have p2 : q177 (64 * ρ 1 + ρ 2) (ρ 8) := c2 (P := q177) (show q177 (((0) + ((64) * ρ 1 + ((1) * ρ 2 + 0)))) (((0) + ((1) * ρ 8 + 0))) from hP _ (List.mem_of_getElem? (i := 2) rfl)) (by omega) (by omega)
  have kl := k182 p1 (w := ρ 1) (by omega)
  have k8 := wd_len (ρ 1).toNat (by omega)
  have kc := k177 (w := ρ 1) (j := ρ 2) (by omega) (by omega) (by omega) (by omega) p2
  have kr := wd_let (ρ 1).toNat (by omega) (ρ 2).toNat (by omega)
  have hb := by_M (j := ρ 4 + ρ 2) (b := ρ 6) p0 (by omega) (by omega) (by omega) (by have q := a0; rwa [show (ρ 2 + ρ 4).toNat = (ρ 4 + ρ 2).toNat by omega] at q)
  have hb1 := hb.2.1
  have hb2 := hb.1.2.1
  have hb3 : ρ 6 % 256 = (tB (vw C h)) ((ρ 4).toNat + (ρ 2).toNat) := by rw [← show (ρ 4 + ρ 2).toNat = (ρ 4).toNat + (ρ 2).toNat by omega]; exact hb.1.2.2
  refine ⟨_, List.mem_cons_self, ρ, fun _ _ => rfl, fun q hq => absurd hq List.not_mem_nil, trivial, fun f hf => ?_, fun q hq => absurd hq List.not_mem_nil, fun q hq => absurd hq List.not_mem_nil, fun q hq => absurd hq List.not_mem_nil, fun q hq => ?_⟩
  · exact absurd hf List.not_mem_nil
  · simp only [List.mem_cons, List.not_mem_nil, or_false] at hq
    subst hq
    show q159 (tB (vw C h)) (((0) + ((4194304) * ρ 1 + ((1) * ρ 3 + ((2048) * ρ 4 + 0))))) (((0) + 0))
    refine c2 (P := q159 (tB (vw C h))) (r := 4194304 * ρ 1 + ρ 3 + 2048 * ρ 4) (c := (0 : Int)) ?_ (by omega) (by omega)
    show q159 (tB (vw C h)) (4194304 * ρ 1 + ρ 3 + 2048 * ρ 4) ((0 : Int))
    exact o159 (n := ρ 3) (s := ρ 4) (w := ρ 1) (by omega) (by omega) (by omega) (by omega) (by omega) (by omega) (by have q := wd_eno (B := (tB (vw C h))) (n := (ρ 3).toNat) (s := (ρ 4).toNat) (w := (ρ 1).toNat) (j := (ρ 2).toNat) (by omega) (by omega); omega)
/-- byte7 -/
theorem lem_292_ok (hU : uqG G C) : lem_292.1.2.1 = [] ∧ lemOK (PRd G C D xs) G rgs lem_292 := by
  refine ⟨rfl, fun ρ h ha hT => ?_⟩
  obtain ⟨-, -, hF, hG, hH, hA, hP⟩ := ha
  rcases (by omega : ρ 0 ≤ 127 ∨ 128 ≤ ρ 0) with hc | hc
  · refine ⟨_, List.mem_cons_self, ρ, fun _ _ => rfl, fun q hq => absurd hq List.not_mem_nil, trivial, fun f hf => ?_, fun q hq => absurd hq List.not_mem_nil, fun q hq => absurd hq List.not_mem_nil, fun q hq => absurd hq List.not_mem_nil, fun q hq => ?_⟩
    · simp only [List.mem_cons, List.not_mem_nil, or_false] at hf
      subst hf
      show (0 : Int) ≤ ((127) + ((-1) * ρ 0 + 0))
      omega
    · exact absurd hq List.not_mem_nil
  · refine ⟨_, (List.mem_cons_of_mem _ List.mem_cons_self), ρ, fun _ _ => rfl, fun q hq => absurd hq List.not_mem_nil, trivial, fun f hf => ?_, fun q hq => absurd hq List.not_mem_nil, fun q hq => absurd hq List.not_mem_nil, fun q hq => absurd hq List.not_mem_nil, fun q hq => ?_⟩
    · simp only [List.mem_cons, List.not_mem_nil, or_false] at hf
      subst hf
      show (0 : Int) ≤ ((-128) + ((1) * ρ 0 + 0))
      omega
    · exact absurd hq List.not_mem_nil
/-- wl0 -/
theorem lem_293_ok (hU : uqG G C) : lem_293.1.2.1 = [] ∧ lemOK (PRd G C D xs) G rgs lem_293 := by
  refine ⟨rfl, fun ρ h ha hT => ?_⟩
  obtain ⟨-, -, hF, hG, hH, hA, hP⟩ := ha
  refine ⟨_, List.mem_cons_self, ρ, fun _ _ => rfl, fun q hq => absurd hq List.not_mem_nil, trivial, fun f hf => ?_, fun q hq => absurd hq List.not_mem_nil, fun q hq => absurd hq List.not_mem_nil, fun q hq => absurd hq List.not_mem_nil, fun q hq => ?_⟩
  · exact absurd hf List.not_mem_nil
  · simp only [List.mem_cons, List.not_mem_nil, or_false] at hq
    subst hq
    show q182 (((0) + 0)) (((5) + 0))
    refine c2 (P := q182) (r := (0 : Int)) (c := (5 : Int)) ?_ (by omega) (by omega)
    show q182 ((0 : Int)) ((5 : Int))
    unfold q182
    rfl
/-- wl1 -/
theorem lem_294_ok (hU : uqG G C) : lem_294.1.2.1 = [] ∧ lemOK (PRd G C D xs) G rgs lem_294 := by
  refine ⟨rfl, fun ρ h ha hT => ?_⟩
  obtain ⟨-, -, hF, hG, hH, hA, hP⟩ := ha
  refine ⟨_, List.mem_cons_self, ρ, fun _ _ => rfl, fun q hq => absurd hq List.not_mem_nil, trivial, fun f hf => ?_, fun q hq => absurd hq List.not_mem_nil, fun q hq => absurd hq List.not_mem_nil, fun q hq => absurd hq List.not_mem_nil, fun q hq => ?_⟩
  · exact absurd hf List.not_mem_nil
  · simp only [List.mem_cons, List.not_mem_nil, or_false] at hq
    subst hq
    show q182 (((1) + 0)) (((5) + 0))
    refine c2 (P := q182) (r := (1 : Int)) (c := (5 : Int)) ?_ (by omega) (by omega)
    show q182 ((1 : Int)) ((5 : Int))
    unfold q182
    rfl
/-- wl2 -/
theorem lem_295_ok (hU : uqG G C) : lem_295.1.2.1 = [] ∧ lemOK (PRd G C D xs) G rgs lem_295 := by
  refine ⟨rfl, fun ρ h ha hT => ?_⟩
  obtain ⟨-, -, hF, hG, hH, hA, hP⟩ := ha
  refine ⟨_, List.mem_cons_self, ρ, fun _ _ => rfl, fun q hq => absurd hq List.not_mem_nil, trivial, fun f hf => ?_, fun q hq => absurd hq List.not_mem_nil, fun q hq => absurd hq List.not_mem_nil, fun q hq => absurd hq List.not_mem_nil, fun q hq => ?_⟩
  · exact absurd hf List.not_mem_nil
  · simp only [List.mem_cons, List.not_mem_nil, or_false] at hq
    subst hq
    show q182 (((2) + 0)) (((4) + 0))
    refine c2 (P := q182) (r := (2 : Int)) (c := (4 : Int)) ?_ (by omega) (by omega)
    show q182 ((2 : Int)) ((4 : Int))
    unfold q182
    rfl
/-- wl3 -/
theorem lem_296_ok (hU : uqG G C) : lem_296.1.2.1 = [] ∧ lemOK (PRd G C D xs) G rgs lem_296 := by
  refine ⟨rfl, fun ρ h ha hT => ?_⟩
  obtain ⟨-, -, hF, hG, hH, hA, hP⟩ := ha
  refine ⟨_, List.mem_cons_self, ρ, fun _ _ => rfl, fun q hq => absurd hq List.not_mem_nil, trivial, fun f hf => ?_, fun q hq => absurd hq List.not_mem_nil, fun q hq => absurd hq List.not_mem_nil, fun q hq => absurd hq List.not_mem_nil, fun q hq => ?_⟩
  · exact absurd hf List.not_mem_nil
  · simp only [List.mem_cons, List.not_mem_nil, or_false] at hq
    subst hq
    show q182 (((3) + 0)) (((5) + 0))
    refine c2 (P := q182) (r := (3 : Int)) (c := (5 : Int)) ?_ (by omega) (by omega)
    show q182 ((3 : Int)) ((5 : Int))
    unfold q182
    rfl
/-- wl4 -/
theorem lem_297_ok (hU : uqG G C) : lem_297.1.2.1 = [] ∧ lemOK (PRd G C D xs) G rgs lem_297 := by
  refine ⟨rfl, fun ρ h ha hT => ?_⟩
  obtain ⟨-, -, hF, hG, hH, hA, hP⟩ := ha
  refine ⟨_, List.mem_cons_self, ρ, fun _ _ => rfl, fun q hq => absurd hq List.not_mem_nil, trivial, fun f hf => ?_, fun q hq => absurd hq List.not_mem_nil, fun q hq => absurd hq List.not_mem_nil, fun q hq => absurd hq List.not_mem_nil, fun q hq => ?_⟩
  · exact absurd hf List.not_mem_nil
  · simp only [List.mem_cons, List.not_mem_nil, or_false] at hq
    subst hq
    show q182 (((4) + 0)) (((5) + 0))
    refine c2 (P := q182) (r := (4 : Int)) (c := (5 : Int)) ?_ (by omega) (by omega)
    show q182 ((4 : Int)) ((5 : Int))
    unfold q182
    rfl
/-- wl5 -/
theorem lem_298_ok (hU : uqG G C) : lem_298.1.2.1 = [] ∧ lemOK (PRd G C D xs) G rgs lem_298 := by
  refine ⟨rfl, fun ρ h ha hT => ?_⟩
  obtain ⟨-, -, hF, hG, hH, hA, hP⟩ := ha
  refine ⟨_, List.mem_cons_self, ρ, fun _ _ => rfl, fun q hq => absurd hq List.not_mem_nil, trivial, fun f hf => ?_, fun q hq => absurd hq List.not_mem_nil, fun q hq => absurd hq List.not_mem_nil, fun q hq => absurd hq List.not_mem_nil, fun q hq => ?_⟩
  · exact absurd hf List.not_mem_nil
  · simp only [List.mem_cons, List.not_mem_nil, or_false] at hq
    subst hq
    show q182 (((5) + 0)) (((5) + 0))
    refine c2 (P := q182) (r := (5 : Int)) (c := (5 : Int)) ?_ (by omega) (by omega)
    show q182 ((5 : Int)) ((5 : Int))
    unfold q182
    rfl
/-- wl6 -/
theorem lem_299_ok (hU : uqG G C) : lem_299.1.2.1 = [] ∧ lemOK (PRd G C D xs) G rgs lem_299 := by
  refine ⟨rfl, fun ρ h ha hT => ?_⟩
  obtain ⟨-, -, hF, hG, hH, hA, hP⟩ := ha
  refine ⟨_, List.mem_cons_self, ρ, fun _ _ => rfl, fun q hq => absurd hq List.not_mem_nil, trivial, fun f hf => ?_, fun q hq => absurd hq List.not_mem_nil, fun q hq => absurd hq List.not_mem_nil, fun q hq => absurd hq List.not_mem_nil, fun q hq => ?_⟩
  · exact absurd hf List.not_mem_nil
  · simp only [List.mem_cons, List.not_mem_nil, or_false] at hq
    subst hq
    show q182 (((6) + 0)) (((7) + 0))
    refine c2 (P := q182) (r := (6 : Int)) (c := (7 : Int)) ?_ (by omega) (by omega)
    show q182 ((6 : Int)) ((7 : Int))
    unfold q182
    rfl
/-- wl7 -/
theorem lem_300_ok (hU : uqG G C) : lem_300.1.2.1 = [] ∧ lemOK (PRd G C D xs) G rgs lem_300 := by
  refine ⟨rfl, fun ρ h ha hT => ?_⟩
  obtain ⟨-, -, hF, hG, hH, hA, hP⟩ := ha
  refine ⟨_, List.mem_cons_self, ρ, fun _ _ => rfl, fun q hq => absurd hq List.not_mem_nil, trivial, fun f hf => ?_, fun q hq => absurd hq List.not_mem_nil, fun q hq => absurd hq List.not_mem_nil, fun q hq => absurd hq List.not_mem_nil, fun q hq => ?_⟩
  · exact absurd hf List.not_mem_nil
  · simp only [List.mem_cons, List.not_mem_nil, or_false] at hq
    subst hq
    show q182 (((7) + 0)) (((7) + 0))
    refine c2 (P := q182) (r := (7 : Int)) (c := (7 : Int)) ?_ (by omega) (by omega)
    show q182 ((7 : Int)) ((7 : Int))
    unfold q182
    rfl
end LMT
