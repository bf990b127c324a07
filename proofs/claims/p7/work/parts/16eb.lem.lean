section LMT
variable {G C : Nat → Nat} {h : mH} {D : Nat} {xs : Nat → Int32}
/-- wl8 -/
theorem lem_301_ok (hU : uqG G C) : lem_301.1.2.1 = [] ∧ lemOK (PRd G C D xs) G rgs lem_301 := by
  refine ⟨rfl, fun ρ h ha hT => ?_⟩
  obtain ⟨-, -, hF, hG, hH, hA, hP⟩ := ha
  refine ⟨_, List.mem_cons_self, ρ, fun _ _ => rfl, fun q hq => absurd hq List.not_mem_nil, trivial, fun f hf => ?_, fun q hq => absurd hq List.not_mem_nil, fun q hq => absurd hq List.not_mem_nil, fun q hq => absurd hq List.not_mem_nil, fun q hq => ?_⟩
  · exact absurd hf List.not_mem_nil
  · simp only [List.mem_cons, List.not_mem_nil, or_false] at hq
    subst hq
    show q182 (((8) + 0)) (((7) + 0))
    refine c2 (P := q182) (r := (8 : Int)) (c := (7 : Int)) ?_ (by omega) (by omega)
    show q182 ((8 : Int)) ((7 : Int))
    unfold q182
    rfl
/-- wl9 -/
theorem lem_302_ok (hU : uqG G C) : lem_302.1.2.1 = [] ∧ lemOK (PRd G C D xs) G rgs lem_302 := by
  refine ⟨rfl, fun ρ h ha hT => ?_⟩
  obtain ⟨-, -, hF, hG, hH, hA, hP⟩ := ha
  refine ⟨_, List.mem_cons_self, ρ, fun _ _ => rfl, fun q hq => absurd hq List.not_mem_nil, trivial, fun f hf => ?_, fun q hq => absurd hq List.not_mem_nil, fun q hq => absurd hq List.not_mem_nil, fun q hq => absurd hq List.not_mem_nil, fun q hq => ?_⟩
  · exact absurd hf List.not_mem_nil
  · simp only [List.mem_cons, List.not_mem_nil, or_false] at hq
    subst hq
    show q182 (((9) + 0)) (((4) + 0))
    refine c2 (P := q182) (r := (9 : Int)) (c := (4 : Int)) ?_ (by omega) (by omega)
    show q182 ((9 : Int)) ((4 : Int))
    unfold q182
    rfl
/-- wl10 -/
theorem lem_303_ok (hU : uqG G C) : lem_303.1.2.1 = [] ∧ lemOK (PRd G C D xs) G rgs lem_303 := by
  refine ⟨rfl, fun ρ h ha hT => ?_⟩
  obtain ⟨-, -, hF, hG, hH, hA, hP⟩ := ha
  refine ⟨_, List.mem_cons_self, ρ, fun _ _ => rfl, fun q hq => absurd hq List.not_mem_nil, trivial, fun f hf => ?_, fun q hq => absurd hq List.not_mem_nil, fun q hq => absurd hq List.not_mem_nil, fun q hq => absurd hq List.not_mem_nil, fun q hq => ?_⟩
  · exact absurd hf List.not_mem_nil
  · simp only [List.mem_cons, List.not_mem_nil, or_false] at hq
    subst hq
    show q182 (((10) + 0)) (((4) + 0))
    refine c2 (P := q182) (r := (10 : Int)) (c := (4 : Int)) ?_ (by omega) (by omega)
    show q182 ((10 : Int)) ((4 : Int))
    unfold q182
    rfl
/-- wl11 -/
theorem lem_304_ok (hU : uqG G C) : lem_304.1.2.1 = [] ∧ lemOK (PRd G C D xs) G rgs lem_304 := by
  refine ⟨rfl, fun ρ h ha hT => ?_⟩
  obtain ⟨-, -, hF, hG, hH, hA, hP⟩ := ha
  refine ⟨_, List.mem_cons_self, ρ, fun _ _ => rfl, fun q hq => absurd hq List.not_mem_nil, trivial, fun f hf => ?_, fun q hq => absurd hq List.not_mem_nil, fun q hq => absurd hq List.not_mem_nil, fun q hq => absurd hq List.not_mem_nil, fun q hq => ?_⟩
  · exact absurd hf List.not_mem_nil
  · simp only [List.mem_cons, List.not_mem_nil, or_false] at hq
    subst hq
    show q182 (((11) + 0)) (((3) + 0))
    refine c2 (P := q182) (r := (11 : Int)) (c := (3 : Int)) ?_ (by omega) (by omega)
    show q182 ((11 : Int)) ((3 : Int))
    unfold q182
    rfl
/-- wl12 -/
theorem lem_305_ok (hU : uqG G C) : lem_305.1.2.1 = [] ∧ lemOK (PRd G C D xs) G rgs lem_305 := by
  refine ⟨rfl, fun ρ h ha hT => ?_⟩
  obtain ⟨-, -, hF, hG, hH, hA, hP⟩ := ha
  refine ⟨_, List.mem_cons_self, ρ, fun _ _ => rfl, fun q hq => absurd hq List.not_mem_nil, trivial, fun f hf => ?_, fun q hq => absurd hq List.not_mem_nil, fun q hq => absurd hq List.not_mem_nil, fun q hq => absurd hq List.not_mem_nil, fun q hq => ?_⟩
  · exact absurd hf List.not_mem_nil
  · simp only [List.mem_cons, List.not_mem_nil, or_false] at hq
    subst hq
    show q182 (((12) + 0)) (((5) + 0))
    refine c2 (P := q182) (r := (12 : Int)) (c := (5 : Int)) ?_ (by omega) (by omega)
    show q182 ((12 : Int)) ((5 : Int))
    unfold q182
    rfl
/-- wl13 -/
theorem lem_306_ok (hU : uqG G C) : lem_306.1.2.1 = [] ∧ lemOK (PRd G C D xs) G rgs lem_306 := by
  refine ⟨rfl, fun ρ h ha hT => ?_⟩
  obtain ⟨-, -, hF, hG, hH, hA, hP⟩ := ha
  refine ⟨_, List.mem_cons_self, ρ, fun _ _ => rfl, fun q hq => absurd hq List.not_mem_nil, trivial, fun f hf => ?_, fun q hq => absurd hq List.not_mem_nil, fun q hq => absurd hq List.not_mem_nil, fun q hq => absurd hq List.not_mem_nil, fun q hq => ?_⟩
  · exact absurd hf List.not_mem_nil
  · simp only [List.mem_cons, List.not_mem_nil, or_false] at hq
    subst hq
    show q182 (((13) + 0)) (((3) + 0))
    refine c2 (P := q182) (r := (13 : Int)) (c := (3 : Int)) ?_ (by omega) (by omega)
    show q182 ((13 : Int)) ((3 : Int))
    unfold q182
    rfl
/-- wl14 -/
theorem lem_307_ok (hU : uqG G C) : lem_307.1.2.1 = [] ∧ lemOK (PRd G C D xs) G rgs lem_307 := by
  refine ⟨rfl, fun ρ h ha hT => ?_⟩
  obtain ⟨-, -, hF, hG, hH, hA, hP⟩ := ha
  refine ⟨_, List.mem_cons_self, ρ, fun _ _ => rfl, fun q hq => absurd hq List.not_mem_nil, trivial, fun f hf => ?_, fun q hq => absurd hq List.not_mem_nil, fun q hq => absurd hq List.not_mem_nil, fun q hq => absurd hq List.not_mem_nil, fun q hq => ?_⟩
  · exact absurd hf List.not_mem_nil
  · simp only [List.mem_cons, List.not_mem_nil, or_false] at hq
    subst hq
    show q182 (((14) + 0)) (((3) + 0))
    refine c2 (P := q182) (r := (14 : Int)) (c := (3 : Int)) ?_ (by omega) (by omega)
    show q182 ((14 : Int)) ((3 : Int))
    unfold q182
    rfl
/-- wl15 -/
theorem lem_308_ok (hU : uqG G C) : lem_308.1.2.1 = [] ∧ lemOK (PRd G C D xs) G rgs lem_308 := by
  refine ⟨rfl, fun ρ h ha hT => ?_⟩
  obtain ⟨-, -, hF, hG, hH, hA, hP⟩ := ha
  refine ⟨_, List.mem_cons_self, ρ, fun _ _ => rfl, fun q hq => absurd hq List.not_mem_nil, trivial, fun f hf => ?_, fun q hq => absurd hq List.not_mem_nil, fun q hq => absurd hq List.not_mem_nil, fun q hq => absurd hq List.not_mem_nil, fun q hq => ?_⟩
  · exact absurd hf List.not_mem_nil
  · simp only [List.mem_cons, List.not_mem_nil, or_false] at hq
    subst hq
    show q182 (((15) + 0)) (((2) + 0))
    refine c2 (P := q182) (r := (15 : Int)) (c := (2 : Int)) ?_ (by omega) (by omega)
    show q182 ((15 : Int)) ((2 : Int))
    unfold q182
    rfl
/-- wl16 -/
theorem lem_309_ok (hU : uqG G C) : lem_309.1.2.1 = [] ∧ lemOK (PRd G C D xs) G rgs lem_309 := by
  refine ⟨rfl, fun ρ h ha hT => ?_⟩
  obtain ⟨-, -, hF, hG, hH, hA, hP⟩ := ha
  refine ⟨_, List.mem_cons_self, ρ, fun _ _ => rfl, fun q hq => absurd hq List.not_mem_nil, trivial, fun f hf => ?_, fun q hq => absurd hq List.not_mem_nil, fun q hq => absurd hq List.not_mem_nil, fun q hq => absurd hq List.not_mem_nil, fun q hq => ?_⟩
  · exact absurd hf List.not_mem_nil
  · simp only [List.mem_cons, List.not_mem_nil, or_false] at hq
    subst hq
    show q182 (((16) + 0)) (((4) + 0))
    refine c2 (P := q182) (r := (16 : Int)) (c := (4 : Int)) ?_ (by omega) (by omega)
    show q182 ((16 : Int)) ((4 : Int))
    unfold q182
    rfl
/-- wl17 -/
theorem lem_310_ok (hU : uqG G C) : lem_310.1.2.1 = [] ∧ lemOK (PRd G C D xs) G rgs lem_310 := by
  refine ⟨rfl, fun ρ h ha hT => ?_⟩
  obtain ⟨-, -, hF, hG, hH, hA, hP⟩ := ha
  refine ⟨_, List.mem_cons_self, ρ, fun _ _ => rfl, fun q hq => absurd hq List.not_mem_nil, trivial, fun f hf => ?_, fun q hq => absurd hq List.not_mem_nil, fun q hq => absurd hq List.not_mem_nil, fun q hq => absurd hq List.not_mem_nil, fun q hq => ?_⟩
  · exact absurd hf List.not_mem_nil
  · simp only [List.mem_cons, List.not_mem_nil, or_false] at hq
    subst hq
    show q182 (((17) + 0)) (((4) + 0))
    refine c2 (P := q182) (r := (17 : Int)) (c := (4 : Int)) ?_ (by omega) (by omega)
    show q182 ((17 : Int)) ((4 : Int))
    unfold q182
    rfl
/-- wl18 -/
theorem lem_311_ok (hU : uqG G C) : lem_311.1.2.1 = [] ∧ lemOK (PRd G C D xs) G rgs lem_311 := by
  refine ⟨rfl, fun ρ h ha hT => ?_⟩
  obtain ⟨-, -, hF, hG, hH, hA, hP⟩ := ha
  refine ⟨_, List.mem_cons_self, ρ, fun _ _ => rfl, fun q hq => absurd hq List.not_mem_nil, trivial, fun f hf => ?_, fun q hq => absurd hq List.not_mem_nil, fun q hq => absurd hq List.not_mem_nil, fun q hq => absurd hq List.not_mem_nil, fun q hq => ?_⟩
  · exact absurd hf List.not_mem_nil
  · simp only [List.mem_cons, List.not_mem_nil, or_false] at hq
    subst hq
    show q182 (((18) + 0)) (((7) + 0))
    refine c2 (P := q182) (r := (18 : Int)) (c := (7 : Int)) ?_ (by omega) (by omega)
    show q182 ((18 : Int)) ((7 : Int))
    unfold q182
    rfl
/-- wl19 -/
theorem lem_312_ok (hU : uqG G C) : lem_312.1.2.1 = [] ∧ lemOK (PRd G C D xs) G rgs lem_312 := by
  refine ⟨rfl, fun ρ h ha hT => ?_⟩
  obtain ⟨-, -, hF, hG, hH, hA, hP⟩ := ha
  refine ⟨_, List.mem_cons_self, ρ, fun _ _ => rfl, fun q hq => absurd hq List.not_mem_nil, trivial, fun f hf => ?_, fun q hq => absurd hq List.not_mem_nil, fun q hq => absurd hq List.not_mem_nil, fun q hq => absurd hq List.not_mem_nil, fun q hq => ?_⟩
  · exact absurd hf List.not_mem_nil
  · simp only [List.mem_cons, List.not_mem_nil, or_false] at hq
    subst hq
    show q182 (((19) + 0)) (((6) + 0))
    refine c2 (P := q182) (r := (19 : Int)) (c := (6 : Int)) ?_ (by omega) (by omega)
    show q182 ((19 : Int)) ((6 : Int))
    unfold q182
    rfl
/-- wl20 -/
theorem lem_313_ok (hU : uqG G C) : lem_313.1.2.1 = [] ∧ lemOK (PRd G C D xs) G rgs lem_313 := by
  refine ⟨rfl, fun ρ h ha hT => ?_⟩
  obtain ⟨-, -, hF, hG, hH, hA, hP⟩ := ha
  refine ⟨_, List.mem_cons_self, ρ, fun _ _ => rfl, fun q hq => absurd hq List.not_mem_nil, trivial, fun f hf => ?_, fun q hq => absurd hq List.not_mem_nil, fun q hq => absurd hq List.not_mem_nil, fun q hq => absurd hq List.not_mem_nil, fun q hq => ?_⟩
  · exact absurd hf List.not_mem_nil
  · simp only [List.mem_cons, List.not_mem_nil, or_false] at hq
    subst hq
    show q182 (((20) + 0)) (((5) + 0))
    refine c2 (P := q182) (r := (20 : Int)) (c := (5 : Int)) ?_ (by omega) (by omega)
    show q182 ((20 : Int)) ((5 : Int))
    unfold q182
    rfl
/-- mtNew -/
theorem lem_314_ok (hU : uqG G C) : lem_314.1.2.1 = [] ∧ lemOK (PRd G C D xs) G rgs lem_314 := by
  refine ⟨rfl, fun ρ h ha hT => ?_⟩
  obtain ⟨-, -, hF, hG, hH, hA, hP⟩ := ha
  have f0 : (0 : Int) ≤ ((0) + ((1) * ρ 2 + 0)) := hF _ (List.mem_of_getElem? (i := 0) rfl)
  have f1 : (0 : Int) ≤ ((0) + ((1) * ρ 1 + 0)) := hF _ (List.mem_of_getElem? (i := 1) rfl)
  have f2 : (0 : Int) ≤ ((1200) + ((-1) * ρ 2 + 0)) := hF _ (List.mem_of_getElem? (i := 2) rfl)
  have g0 : G (ρ 0).toNat = 17 := by
    have q := (hG _ (List.mem_of_getElem? (i := 0) rfl)).2
    rwa [show ev ρ (0, [(0, 1)]) = ρ 0 from ev_v] at q
  have h0 : (0 : Int) ≤ ρ 2 ∧ ρ 2 ≤ 1200 := hf_rg hT (hH _ (List.mem_of_getElem? (i := 0) rfl)) ev_v g0 rfl rfl rfl ev_v
  refine ⟨_, List.mem_cons_self, ρ, fun _ _ => rfl, fun q hq => absurd hq List.not_mem_nil, trivial, fun f hf => ?_, fun q hq => absurd hq List.not_mem_nil, fun q hq => absurd hq List.not_mem_nil, fun q hq => absurd hq List.not_mem_nil, fun q hq => ?_⟩
  · exact absurd hf List.not_mem_nil
  · simp only [List.mem_cons, List.not_mem_nil, or_false] at hq
    subst hq
    show q161 (tB (vw C h)) (((0) + ((2048) * ρ 1 + ((1) * ρ 2 + 0)))) (((0) + 0))
    refine c2 (P := q161 (tB (vw C h))) (r := 2048 * ρ 1 + ρ 2) (c := (0 : Int)) ?_ (by omega) (by omega)
    show q161 (tB (vw C h)) (2048 * ρ 1 + ρ 2) ((0 : Int))
    exact mt_new rfl
/-- mtNewM -/
theorem lem_315_ok (hU : uqG G C) : lem_315.1.2.1 = [] ∧ lemOK (PRd G C D xs) G rgs lem_315 := by
  refine ⟨rfl, fun ρ h ha hT => ?_⟩
  obtain ⟨-, -, hF, hG, hH, hA, hP⟩ := ha
  have f0 : (0 : Int) ≤ ((0) + ((1) * ρ 2 + 0)) := hF _ (List.mem_of_getElem? (i := 0) rfl)
  have f1 : (0 : Int) ≤ ((0) + ((1) * ρ 1 + 0)) := hF _ (List.mem_of_getElem? (i := 1) rfl)
  have f2 : (0 : Int) ≤ ((1200) + ((-1) * ρ 2 + 0)) := hF _ (List.mem_of_getElem? (i := 2) rfl)
  have g0 : G (ρ 0).toNat = 22 := by
    have q := (hG _ (List.mem_of_getElem? (i := 0) rfl)).2
    rwa [show ev ρ (0, [(0, 1)]) = ρ 0 from ev_v] at q
  have h0 : (0 : Int) ≤ ρ 2 ∧ ρ 2 ≤ 1200 := hf_rg hT (hH _ (List.mem_of_getElem? (i := 0) rfl)) ev_v g0 rfl rfl rfl ev_v
  refine ⟨_, List.mem_cons_self, ρ, fun _ _ => rfl, fun q hq => absurd hq List.not_mem_nil, trivial, fun f hf => ?_, fun q hq => absurd hq List.not_mem_nil, fun q hq => absurd hq List.not_mem_nil, fun q hq => absurd hq List.not_mem_nil, fun q hq => ?_⟩
  · exact absurd hf List.not_mem_nil
  · simp only [List.mem_cons, List.not_mem_nil, or_false] at hq
    subst hq
    show q161 (tB (vw C h)) (((0) + ((2048) * ρ 1 + ((1) * ρ 2 + 0)))) (((0) + 0))
    refine c2 (P := q161 (tB (vw C h))) (r := 2048 * ρ 1 + ρ 2) (c := (0 : Int)) ?_ (by omega) (by omega)
    show q161 (tB (vw C h)) (2048 * ρ 1 + ρ 2) ((0 : Int))
    exact mt_new rfl
set_option maxRecDepth 20000 in
/-- let367 -/
theorem lem_316_ok (hU : uqG G C) : lem_316.1.2.1 = [] ∧ lemOK (PRd G C D xs) G rgs lem_316 := by
  refine ⟨rfl, fun ρ h ha hT => ?_⟩
  obtain ⟨-, -, hF, hG, hH, hA, hP⟩ := ha
  have f0 : (0 : Int) ≤ ((0) + ((1) * ρ 1 + 0)) := hF _ (List.mem_of_getElem? (i := 0) rfl)
  have f1 : (0 : Int) ≤ ((4) + ((-1) * ρ 1 + 0)) := hF _ (List.mem_of_getElem? (i := 1) rfl)
  have g0 : G (ρ 0).toNat = 367 := by
    have q := (hG _ (List.mem_of_getElem? (i := 0) rfl)).2
    rwa [show ev ρ (0, [(0, 1)]) = ρ 0 from ev_v] at q
  have b0 : (0 : Int) ≤ ((0) + ((1) * ρ 1 + 0)) := b_aA (hA _ (List.mem_of_getElem? (i := 0) rfl))
  have q := let_rg hT (x := ρ 0) (j := ρ 1) (c := ρ 2) (w := 0) (hA _ (List.mem_of_getElem? (i := 0) rfl)) ev_v g0 rfl (show ρ 1 = ((0) + ((1) * ρ 1 + 0)) by omega) (by omega) ev_v (by decide +kernel)
  refine ⟨_, List.mem_cons_self, ρ, fun _ _ => rfl, fun q hq => absurd hq List.not_mem_nil, trivial, fun f hf => ?_, fun q hq => absurd hq List.not_mem_nil, fun q hq => absurd hq List.not_mem_nil, fun q hq => absurd hq List.not_mem_nil, fun q hq => ?_⟩
  · simp only [List.mem_cons, List.not_mem_nil, or_false] at hf
    rcases hf with rfl | rfl
    · show (0 : Int) ≤ ((-97) + ((1) * ρ 2 + 0))
      omega
    · show (0 : Int) ≤ ((122) + ((-1) * ρ 2 + 0))
      omega
  · simp only [List.mem_cons, List.not_mem_nil, or_false] at hq
    subst hq
    show q177 (((0) + ((1) * ρ 1 + 0))) (((0) + ((1) * ρ 2 + 0)))
    refine c2 (P := q177) (r := ρ 1) (c := ρ 2) ?_ (by omega) (by omega)
    show q177 (ρ 1) (ρ 2)
    exact k177o (w := 0) (j := ρ 1) (by omega) (by omega) (by omega) q.1
set_option maxRecDepth 20000 in
/-- let369 -/
theorem lem_317_ok (hU : uqG G C) : lem_317.1.2.1 = [] ∧ lemOK (PRd G C D xs) G rgs lem_317 := by
  refine ⟨rfl, fun ρ h ha hT => ?_⟩
  obtain ⟨-, -, hF, hG, hH, hA, hP⟩ := ha
  have f0 : (0 : Int) ≤ ((0) + ((1) * ρ 1 + 0)) := hF _ (List.mem_of_getElem? (i := 0) rfl)
  have f1 : (0 : Int) ≤ ((4) + ((-1) * ρ 1 + 0)) := hF _ (List.mem_of_getElem? (i := 1) rfl)
  have g0 : G (ρ 0).toNat = 369 := by
    have q := (hG _ (List.mem_of_getElem? (i := 0) rfl)).2
    rwa [show ev ρ (0, [(0, 1)]) = ρ 0 from ev_v] at q
  have b0 : (0 : Int) ≤ ((0) + ((1) * ρ 1 + 0)) := b_aA (hA _ (List.mem_of_getElem? (i := 0) rfl))
  have q := let_rg hT (x := ρ 0) (j := ρ 1) (c := ρ 2) (w := 1) (hA _ (List.mem_of_getElem? (i := 0) rfl)) ev_v g0 rfl (show ρ 1 = ((0) + ((1) * ρ 1 + 0)) by omega) (by omega) ev_v (by decide +kernel)
  refine ⟨_, List.mem_cons_self, ρ, fun _ _ => rfl, fun q hq => absurd hq List.not_mem_nil, trivial, fun f hf => ?_, fun q hq => absurd hq List.not_mem_nil, fun q hq => absurd hq List.not_mem_nil, fun q hq => absurd hq List.not_mem_nil, fun q hq => ?_⟩
  · simp only [List.mem_cons, List.not_mem_nil, or_false] at hf
    rcases hf with rfl | rfl
    · show (0 : Int) ≤ ((-97) + ((1) * ρ 2 + 0))
      omega
    · show (0 : Int) ≤ ((122) + ((-1) * ρ 2 + 0))
      omega
  · simp only [List.mem_cons, List.not_mem_nil, or_false] at hq
    subst hq
    show q177 (((64) + ((1) * ρ 1 + 0))) (((0) + ((1) * ρ 2 + 0)))
    refine c2 (P := q177) (r := ρ 1 + 64) (c := ρ 2) ?_ (by omega) (by omega)
    show q177 (ρ 1 + 64) (ρ 2)
    exact k177o (w := 1) (j := ρ 1) (by omega) (by omega) (by omega) q.1
set_option maxRecDepth 20000 in
/-- let370 -/
theorem lem_318_ok (hU : uqG G C) : lem_318.1.2.1 = [] ∧ lemOK (PRd G C D xs) G rgs lem_318 := by
  refine ⟨rfl, fun ρ h ha hT => ?_⟩
  obtain ⟨-, -, hF, hG, hH, hA, hP⟩ := ha
  have f0 : (0 : Int) ≤ ((0) + ((1) * ρ 1 + 0)) := hF _ (List.mem_of_getElem? (i := 0) rfl)
  have f1 : (0 : Int) ≤ ((3) + ((-1) * ρ 1 + 0)) := hF _ (List.mem_of_getElem? (i := 1) rfl)
  have g0 : G (ρ 0).toNat = 370 := by
    have q := (hG _ (List.mem_of_getElem? (i := 0) rfl)).2
    rwa [show ev ρ (0, [(0, 1)]) = ρ 0 from ev_v] at q
  have b0 : (0 : Int) ≤ ((0) + ((1) * ρ 1 + 0)) := b_aA (hA _ (List.mem_of_getElem? (i := 0) rfl))
  have q := let_rg hT (x := ρ 0) (j := ρ 1) (c := ρ 2) (w := 2) (hA _ (List.mem_of_getElem? (i := 0) rfl)) ev_v g0 rfl (show ρ 1 = ((0) + ((1) * ρ 1 + 0)) by omega) (by omega) ev_v (by decide +kernel)
  refine ⟨_, List.mem_cons_self, ρ, fun _ _ => rfl, fun q hq => absurd hq List.not_mem_nil, trivial, fun f hf => ?_, fun q hq => absurd hq List.not_mem_nil, fun q hq => absurd hq List.not_mem_nil, fun q hq => absurd hq List.not_mem_nil, fun q hq => ?_⟩
  · simp only [List.mem_cons, List.not_mem_nil, or_false] at hf
    rcases hf with rfl | rfl
    · show (0 : Int) ≤ ((-97) + ((1) * ρ 2 + 0))
      omega
    · show (0 : Int) ≤ ((122) + ((-1) * ρ 2 + 0))
      omega
  · simp only [List.mem_cons, List.not_mem_nil, or_false] at hq
    subst hq
    show q177 (((128) + ((1) * ρ 1 + 0))) (((0) + ((1) * ρ 2 + 0)))
    refine c2 (P := q177) (r := ρ 1 + 128) (c := ρ 2) ?_ (by omega) (by omega)
    show q177 (ρ 1 + 128) (ρ 2)
    exact k177o (w := 2) (j := ρ 1) (by omega) (by omega) (by omega) q.1
set_option maxRecDepth 20000 in
/-- let371 -/
theorem lem_319_ok (hU : uqG G C) : lem_319.1.2.1 = [] ∧ lemOK (PRd G C D xs) G rgs lem_319 := by
  refine ⟨rfl, fun ρ h ha hT => ?_⟩
  obtain ⟨-, -, hF, hG, hH, hA, hP⟩ := ha
  have f0 : (0 : Int) ≤ ((0) + ((1) * ρ 1 + 0)) := hF _ (List.mem_of_getElem? (i := 0) rfl)
  have f1 : (0 : Int) ≤ ((4) + ((-1) * ρ 1 + 0)) := hF _ (List.mem_of_getElem? (i := 1) rfl)
  have g0 : G (ρ 0).toNat = 371 := by
    have q := (hG _ (List.mem_of_getElem? (i := 0) rfl)).2
    rwa [show ev ρ (0, [(0, 1)]) = ρ 0 from ev_v] at q
  have b0 : (0 : Int) ≤ ((0) + ((1) * ρ 1 + 0)) := b_aA (hA _ (List.mem_of_getElem? (i := 0) rfl))
  have q := let_rg hT (x := ρ 0) (j := ρ 1) (c := ρ 2) (w := 3) (hA _ (List.mem_of_getElem? (i := 0) rfl)) ev_v g0 rfl (show ρ 1 = ((0) + ((1) * ρ 1 + 0)) by omega) (by omega) ev_v (by decide +kernel)
  refine ⟨_, List.mem_cons_self, ρ, fun _ _ => rfl, fun q hq => absurd hq List.not_mem_nil, trivial, fun f hf => ?_, fun q hq => absurd hq List.not_mem_nil, fun q hq => absurd hq List.not_mem_nil, fun q hq => absurd hq List.not_mem_nil, fun q hq => ?_⟩
  · simp only [List.mem_cons, List.not_mem_nil, or_false] at hf
    rcases hf with rfl | rfl
    · show (0 : Int) ≤ ((-97) + ((1) * ρ 2 + 0))
      omega
    · show (0 : Int) ≤ ((122) + ((-1) * ρ 2 + 0))
      omega
  · simp only [List.mem_cons, List.not_mem_nil, or_false] at hq
    subst hq
    show q177 (((192) + ((1) * ρ 1 + 0))) (((0) + ((1) * ρ 2 + 0)))
    refine c2 (P := q177) (r := ρ 1 + 192) (c := ρ 2) ?_ (by omega) (by omega)
    show q177 (ρ 1 + 192) (ρ 2)
    exact k177o (w := 3) (j := ρ 1) (by omega) (by omega) (by omega) q.1
set_option maxRecDepth 20000 in
/-- let372 -/
theorem lem_320_ok (hU : uqG G C) : lem_320.1.2.1 = [] ∧ lemOK (PRd G C D xs) G rgs lem_320 := by
  refine ⟨rfl, fun ρ h ha hT => ?_⟩
  obtain ⟨-, -, hF, hG, hH, hA, hP⟩ := ha
  have f0 : (0 : Int) ≤ ((0) + ((1) * ρ 1 + 0)) := hF _ (List.mem_of_getElem? (i := 0) rfl)
  have f1 : (0 : Int) ≤ ((4) + ((-1) * ρ 1 + 0)) := hF _ (List.mem_of_getElem? (i := 1) rfl)
  have g0 : G (ρ 0).toNat = 372 := by
    have q := (hG _ (List.mem_of_getElem? (i := 0) rfl)).2
    rwa [show ev ρ (0, [(0, 1)]) = ρ 0 from ev_v] at q
  have b0 : (0 : Int) ≤ ((0) + ((1) * ρ 1 + 0)) := b_aA (hA _ (List.mem_of_getElem? (i := 0) rfl))
  have q := let_rg hT (x := ρ 0) (j := ρ 1) (c := ρ 2) (w := 4) (hA _ (List.mem_of_getElem? (i := 0) rfl)) ev_v g0 rfl (show ρ 1 = ((0) + ((1) * ρ 1 + 0)) by omega) (by omega) ev_v (by decide +kernel)
  refine ⟨_, List.mem_cons_self, ρ, fun _ _ => rfl, fun q hq => absurd hq List.not_mem_nil, trivial, fun f hf => ?_, fun q hq => absurd hq List.not_mem_nil, fun q hq => absurd hq List.not_mem_nil, fun q hq => absurd hq List.not_mem_nil, fun q hq => ?_⟩
  · simp only [List.mem_cons, List.not_mem_nil, or_false] at hf
    rcases hf with rfl | rfl
    · show (0 : Int) ≤ ((-97) + ((1) * ρ 2 + 0))
      omega
    · show (0 : Int) ≤ ((122) + ((-1) * ρ 2 + 0))
      omega
  · simp only [List.mem_cons, List.not_mem_nil, or_false] at hq
    subst hq
    show q177 (((256) + ((1) * ρ 1 + 0))) (((0) + ((1) * ρ 2 + 0)))
    refine c2 (P := q177) (r := ρ 1 + 256) (c := ρ 2) ?_ (by omega) (by omega)
    show q177 (ρ 1 + 256) (ρ 2)
    exact k177o (w := 4) (j := ρ 1) (by omega) (by omega) (by omega) q.1
set_option maxRecDepth 20000 in
/-- let373 -/
theorem lem_321_ok (hU : uqG G C) : lem_321.1.2.1 = [] ∧ lemOK (PRd G C D xs) G rgs lem_321 := by
  refine ⟨rfl, fun ρ h ha hT => ?_⟩
  obtain ⟨-, -, hF, hG, hH, hA, hP⟩ := ha
  have f0 : (0 : Int) ≤ ((0) + ((1) * ρ 1 + 0)) := hF _ (List.mem_of_getElem? (i := 0) rfl)
  have f1 : (0 : Int) ≤ ((4) + ((-1) * ρ 1 + 0)) := hF _ (List.mem_of_getElem? (i := 1) rfl)
  have g0 : G (ρ 0).toNat = 373 := by
    have q := (hG _ (List.mem_of_getElem? (i := 0) rfl)).2
    rwa [show ev ρ (0, [(0, 1)]) = ρ 0 from ev_v] at q
  have b0 : (0 : Int) ≤ ((0) + ((1) * ρ 1 + 0)) := b_aA (hA _ (List.mem_of_getElem? (i := 0) rfl))
  have q := let_rg hT (x := ρ 0) (j := ρ 1) (c := ρ 2) (w := 5) (hA _ (List.mem_of_getElem? (i := 0) rfl)) ev_v g0 rfl (show ρ 1 = ((0) + ((1) * ρ 1 + 0)) by omega) (by omega) ev_v (by decide +kernel)
  refine ⟨_, List.mem_cons_self, ρ, fun _ _ => rfl, fun q hq => absurd hq List.not_mem_nil, trivial, fun f hf => ?_, fun q hq => absurd hq List.not_mem_nil, fun q hq => absurd hq List.not_mem_nil, fun q hq => absurd hq List.not_mem_nil, fun q hq => ?_⟩
  · simp only [List.mem_cons, List.not_mem_nil, or_false] at hf
    rcases hf with rfl | rfl
    · show (0 : Int) ≤ ((-97) + ((1) * ρ 2 + 0))
      omega
    · show (0 : Int) ≤ ((122) + ((-1) * ρ 2 + 0))
      omega
  · simp only [List.mem_cons, List.not_mem_nil, or_false] at hq
    subst hq
    show q177 (((320) + ((1) * ρ 1 + 0))) (((0) + ((1) * ρ 2 + 0)))
    refine c2 (P := q177) (r := ρ 1 + 320) (c := ρ 2) ?_ (by omega) (by omega)
    show q177 (ρ 1 + 320) (ρ 2)
    exact k177o (w := 5) (j := ρ 1) (by omega) (by omega) (by omega) q.1
set_option maxRecDepth 20000 in
/-- let374 -/
theorem lem_322_ok (hU : uqG G C) : lem_322.1.2.1 = [] ∧ lemOK (PRd G C D xs) G rgs lem_322 := by
  refine ⟨rfl, fun ρ h ha hT => ?_⟩
  obtain ⟨-, -, hF, hG, hH, hA, hP⟩ := ha
  have f0 : (0 : Int) ≤ ((0) + ((1) * ρ 1 + 0)) := hF _ (List.mem_of_getElem? (i := 0) rfl)
  have f1 : (0 : Int) ≤ ((6) + ((-1) * ρ 1 + 0)) := hF _ (List.mem_of_getElem? (i := 1) rfl)
  have g0 : G (ρ 0).toNat = 374 := by
    have q := (hG _ (List.mem_of_getElem? (i := 0) rfl)).2
    rwa [show ev ρ (0, [(0, 1)]) = ρ 0 from ev_v] at q
  have b0 : (0 : Int) ≤ ((0) + ((1) * ρ 1 + 0)) := b_aA (hA _ (List.mem_of_getElem? (i := 0) rfl))
  have q := let_rg hT (x := ρ 0) (j := ρ 1) (c := ρ 2) (w := 6) (hA _ (List.mem_of_getElem? (i := 0) rfl)) ev_v g0 rfl (show ρ 1 = ((0) + ((1) * ρ 1 + 0)) by omega) (by omega) ev_v (by decide +kernel)
  refine ⟨_, List.mem_cons_self, ρ, fun _ _ => rfl, fun q hq => absurd hq List.not_mem_nil, trivial, fun f hf => ?_, fun q hq => absurd hq List.not_mem_nil, fun q hq => absurd hq List.not_mem_nil, fun q hq => absurd hq List.not_mem_nil, fun q hq => ?_⟩
  · simp only [List.mem_cons, List.not_mem_nil, or_false] at hf
    rcases hf with rfl | rfl
    · show (0 : Int) ≤ ((-97) + ((1) * ρ 2 + 0))
      omega
    · show (0 : Int) ≤ ((122) + ((-1) * ρ 2 + 0))
      omega
  · simp only [List.mem_cons, List.not_mem_nil, or_false] at hq
    subst hq
    show q177 (((384) + ((1) * ρ 1 + 0))) (((0) + ((1) * ρ 2 + 0)))
    refine c2 (P := q177) (r := ρ 1 + 384) (c := ρ 2) ?_ (by omega) (by omega)
    show q177 (ρ 1 + 384) (ρ 2)
    exact k177o (w := 6) (j := ρ 1) (by omega) (by omega) (by omega) q.1
set_option maxRecDepth 20000 in
/-- let375 -/
theorem lem_323_ok (hU : uqG G C) : lem_323.1.2.1 = [] ∧ lemOK (PRd G C D xs) G rgs lem_323 := by
  refine ⟨rfl, fun ρ h ha hT => ?_⟩
  obtain ⟨-, -, hF, hG, hH, hA, hP⟩ := ha
  have f0 : (0 : Int) ≤ ((0) + ((1) * ρ 1 + 0)) := hF _ (List.mem_of_getElem? (i := 0) rfl)
  have f1 : (0 : Int) ≤ ((6) + ((-1) * ρ 1 + 0)) := hF _ (List.mem_of_getElem? (i := 1) rfl)
  have g0 : G (ρ 0).toNat = 375 := by
    have q := (hG _ (List.mem_of_getElem? (i := 0) rfl)).2
    rwa [show ev ρ (0, [(0, 1)]) = ρ 0 from ev_v] at q
  have b0 : (0 : Int) ≤ ((0) + ((1) * ρ 1 + 0)) := b_aA (hA _ (List.mem_of_getElem? (i := 0) rfl))
  have q := let_rg hT (x := ρ 0) (j := ρ 1) (c := ρ 2) (w := 7) (hA _ (List.mem_of_getElem? (i := 0) rfl)) ev_v g0 rfl (show ρ 1 = ((0) + ((1) * ρ 1 + 0)) by omega) (by omega) ev_v (by decide +kernel)
  refine ⟨_, List.mem_cons_self, ρ, fun _ _ => rfl, fun q hq => absurd hq List.not_mem_nil, trivial, fun f hf => ?_, fun q hq => absurd hq List.not_mem_nil, fun q hq => absurd hq List.not_mem_nil, fun q hq => absurd hq List.not_mem_nil, fun q hq => ?_⟩
  · simp only [List.mem_cons, List.not_mem_nil, or_false] at hf
    rcases hf with rfl | rfl
    · show (0 : Int) ≤ ((-97) + ((1) * ρ 2 + 0))
      omega
    · show (0 : Int) ≤ ((122) + ((-1) * ρ 2 + 0))
      omega
  · simp only [List.mem_cons, List.not_mem_nil, or_false] at hq
    subst hq
    show q177 (((448) + ((1) * ρ 1 + 0))) (((0) + ((1) * ρ 2 + 0)))
    refine c2 (P := q177) (r := ρ 1 + 448) (c := ρ 2) ?_ (by omega) (by omega)
    show q177 (ρ 1 + 448) (ρ 2)
    exact k177o (w := 7) (j := ρ 1) (by omega) (by omega) (by omega) q.1
set_option maxRecDepth 20000 in
/-- let376 -/
theorem lem_324_ok (hU : uqG G C) : lem_324.1.2.1 = [] ∧ lemOK (PRd G C D xs) G rgs lem_324 := by
  refine ⟨rfl, fun ρ h ha hT => ?_⟩
  obtain ⟨-, -, hF, hG, hH, hA, hP⟩ := ha
  have f0 : (0 : Int) ≤ ((0) + ((1) * ρ 1 + 0)) := hF _ (List.mem_of_getElem? (i := 0) rfl)
  have f1 : (0 : Int) ≤ ((6) + ((-1) * ρ 1 + 0)) := hF _ (List.mem_of_getElem? (i := 1) rfl)
  have g0 : G (ρ 0).toNat = 376 := by
    have q := (hG _ (List.mem_of_getElem? (i := 0) rfl)).2
    rwa [show ev ρ (0, [(0, 1)]) = ρ 0 from ev_v] at q
  have b0 : (0 : Int) ≤ ((0) + ((1) * ρ 1 + 0)) := b_aA (hA _ (List.mem_of_getElem? (i := 0) rfl))
  have q := let_rg hT (x := ρ 0) (j := ρ 1) (c := ρ 2) (w := 8) (hA _ (List.mem_of_getElem? (i := 0) rfl)) ev_v g0 rfl (show ρ 1 = ((0) + ((1) * ρ 1 + 0)) by omega) (by omega) ev_v (by decide +kernel)
  refine ⟨_, List.mem_cons_self, ρ, fun _ _ => rfl, fun q hq => absurd hq List.not_mem_nil, trivial, fun f hf => ?_, fun q hq => absurd hq List.not_mem_nil, fun q hq => absurd hq List.not_mem_nil, fun q hq => absurd hq List.not_mem_nil, fun q hq => ?_⟩
  · simp only [List.mem_cons, List.not_mem_nil, or_false] at hf
    rcases hf with rfl | rfl
    · show (0 : Int) ≤ ((-97) + ((1) * ρ 2 + 0))
      omega
    · show (0 : Int) ≤ ((122) + ((-1) * ρ 2 + 0))
      omega
  · simp only [List.mem_cons, List.not_mem_nil, or_false] at hq
    subst hq
    show q177 (((512) + ((1) * ρ 1 + 0))) (((0) + ((1) * ρ 2 + 0)))
    refine c2 (P := q177) (r := ρ 1 + 512) (c := ρ 2) ?_ (by omega) (by omega)
    show q177 (ρ 1 + 512) (ρ 2)
    exact k177o (w := 8) (j := ρ 1) (by omega) (by omega) (by omega) q.1
set_option maxRecDepth 20000 in
/-- let377 -/
theorem lem_325_ok (hU : uqG G C) : lem_325.1.2.1 = [] ∧ lemOK (PRd G C D xs) G rgs lem_325 := by
  refine ⟨rfl, fun ρ h ha hT => ?_⟩
  obtain ⟨-, -, hF, hG, hH, hA, hP⟩ := ha
  have f0 : (0 : Int) ≤ ((0) + ((1) * ρ 1 + 0)) := hF _ (List.mem_of_getElem? (i := 0) rfl)
  have f1 : (0 : Int) ≤ ((2) + ((-1) * ρ 1 + 0)) := hF _ (List.mem_of_getElem? (i := 1) rfl)
  have g0 : G (ρ 0).toNat = 377 := by
    have q := (hG _ (List.mem_of_getElem? (i := 0) rfl)).2
    rwa [show ev ρ (0, [(0, 1)]) = ρ 0 from ev_v] at q
  have b0 : (0 : Int) ≤ ((0) + ((1) * ρ 1 + 0)) := b_aA (hA _ (List.mem_of_getElem? (i := 0) rfl))
  have q := let_rg hT (x := ρ 0) (j := ρ 1) (c := ρ 2) (w := 11) (hA _ (List.mem_of_getElem? (i := 0) rfl)) ev_v g0 rfl (show ρ 1 = ((0) + ((1) * ρ 1 + 0)) by omega) (by omega) ev_v (by decide +kernel)
  refine ⟨_, List.mem_cons_self, ρ, fun _ _ => rfl, fun q hq => absurd hq List.not_mem_nil, trivial, fun f hf => ?_, fun q hq => absurd hq List.not_mem_nil, fun q hq => absurd hq List.not_mem_nil, fun q hq => absurd hq List.not_mem_nil, fun q hq => ?_⟩
  · simp only [List.mem_cons, List.not_mem_nil, or_false] at hf
    rcases hf with rfl | rfl
    · show (0 : Int) ≤ ((-97) + ((1) * ρ 2 + 0))
      omega
    · show (0 : Int) ≤ ((122) + ((-1) * ρ 2 + 0))
      omega
  · simp only [List.mem_cons, List.not_mem_nil, or_false] at hq
    subst hq
    show q177 (((704) + ((1) * ρ 1 + 0))) (((0) + ((1) * ρ 2 + 0)))
    refine c2 (P := q177) (r := ρ 1 + 704) (c := ρ 2) ?_ (by omega) (by omega)
    show q177 (ρ 1 + 704) (ρ 2)
    exact k177o (w := 11) (j := ρ 1) (by omega) (by omega) (by omega) q.1
set_option maxRecDepth 20000 in
/-- let378 -/
theorem lem_326_ok (hU : uqG G C) : lem_326.1.2.1 = [] ∧ lemOK (PRd G C D xs) G rgs lem_326 := by
  refine ⟨rfl, fun ρ h ha hT => ?_⟩
  obtain ⟨-, -, hF, hG, hH, hA, hP⟩ := ha
  have f0 : (0 : Int) ≤ ((0) + ((1) * ρ 1 + 0)) := hF _ (List.mem_of_getElem? (i := 0) rfl)
  have f1 : (0 : Int) ≤ ((3) + ((-1) * ρ 1 + 0)) := hF _ (List.mem_of_getElem? (i := 1) rfl)
  have g0 : G (ρ 0).toNat = 378 := by
    have q := (hG _ (List.mem_of_getElem? (i := 0) rfl)).2
    rwa [show ev ρ (0, [(0, 1)]) = ρ 0 from ev_v] at q
  have b0 : (0 : Int) ≤ ((0) + ((1) * ρ 1 + 0)) := b_aA (hA _ (List.mem_of_getElem? (i := 0) rfl))
  have q := let_rg hT (x := ρ 0) (j := ρ 1) (c := ρ 2) (w := 9) (hA _ (List.mem_of_getElem? (i := 0) rfl)) ev_v g0 rfl (show ρ 1 = ((0) + ((1) * ρ 1 + 0)) by omega) (by omega) ev_v (by decide +kernel)
  refine ⟨_, List.mem_cons_self, ρ, fun _ _ => rfl, fun q hq => absurd hq List.not_mem_nil, trivial, fun f hf => ?_, fun q hq => absurd hq List.not_mem_nil, fun q hq => absurd hq List.not_mem_nil, fun q hq => absurd hq List.not_mem_nil, fun q hq => ?_⟩
  · simp only [List.mem_cons, List.not_mem_nil, or_false] at hf
    rcases hf with rfl | rfl
    · show (0 : Int) ≤ ((-97) + ((1) * ρ 2 + 0))
      omega
    · show (0 : Int) ≤ ((122) + ((-1) * ρ 2 + 0))
      omega
  · simp only [List.mem_cons, List.not_mem_nil, or_false] at hq
    subst hq
    show q177 (((576) + ((1) * ρ 1 + 0))) (((0) + ((1) * ρ 2 + 0)))
    refine c2 (P := q177) (r := ρ 1 + 576) (c := ρ 2) ?_ (by omega) (by omega)
    show q177 (ρ 1 + 576) (ρ 2)
    exact k177o (w := 9) (j := ρ 1) (by omega) (by omega) (by omega) q.1
set_option maxRecDepth 20000 in
/-- let379 -/
theorem lem_327_ok (hU : uqG G C) : lem_327.1.2.1 = [] ∧ lemOK (PRd G C D xs) G rgs lem_327 := by
  refine ⟨rfl, fun ρ h ha hT => ?_⟩
  obtain ⟨-, -, hF, hG, hH, hA, hP⟩ := ha
  have f0 : (0 : Int) ≤ ((0) + ((1) * ρ 1 + 0)) := hF _ (List.mem_of_getElem? (i := 0) rfl)
  have f1 : (0 : Int) ≤ ((4) + ((-1) * ρ 1 + 0)) := hF _ (List.mem_of_getElem? (i := 1) rfl)
  have g0 : G (ρ 0).toNat = 379 := by
    have q := (hG _ (List.mem_of_getElem? (i := 0) rfl)).2
    rwa [show ev ρ (0, [(0, 1)]) = ρ 0 from ev_v] at q
  have b0 : (0 : Int) ≤ ((0) + ((1) * ρ 1 + 0)) := b_aA (hA _ (List.mem_of_getElem? (i := 0) rfl))
  have q := let_rg hT (x := ρ 0) (j := ρ 1) (c := ρ 2) (w := 12) (hA _ (List.mem_of_getElem? (i := 0) rfl)) ev_v g0 rfl (show ρ 1 = ((0) + ((1) * ρ 1 + 0)) by omega) (by omega) ev_v (by decide +kernel)
  refine ⟨_, List.mem_cons_self, ρ, fun _ _ => rfl, fun q hq => absurd hq List.not_mem_nil, trivial, fun f hf => ?_, fun q hq => absurd hq List.not_mem_nil, fun q hq => absurd hq List.not_mem_nil, fun q hq => absurd hq List.not_mem_nil, fun q hq => ?_⟩
  · simp only [List.mem_cons, List.not_mem_nil, or_false] at hf
    rcases hf with rfl | rfl
    · show (0 : Int) ≤ ((-97) + ((1) * ρ 2 + 0))
      omega
    · show (0 : Int) ≤ ((122) + ((-1) * ρ 2 + 0))
      omega
  · simp only [List.mem_cons, List.not_mem_nil, or_false] at hq
    subst hq
    show q177 (((768) + ((1) * ρ 1 + 0))) (((0) + ((1) * ρ 2 + 0)))
    refine c2 (P := q177) (r := ρ 1 + 768) (c := ρ 2) ?_ (by omega) (by omega)
    show q177 (ρ 1 + 768) (ρ 2)
    exact k177o (w := 12) (j := ρ 1) (by omega) (by omega) (by omega) q.1
set_option maxRecDepth 20000 in
/-- let380 -/
theorem lem_328_ok (hU : uqG G C) : lem_328.1.2.1 = [] ∧ lemOK (PRd G C D xs) G rgs lem_328 := by
  refine ⟨rfl, fun ρ h ha hT => ?_⟩
  obtain ⟨-, -, hF, hG, hH, hA, hP⟩ := ha
  have f0 : (0 : Int) ≤ ((0) + ((1) * ρ 1 + 0)) := hF _ (List.mem_of_getElem? (i := 0) rfl)
  have f1 : (0 : Int) ≤ ((3) + ((-1) * ρ 1 + 0)) := hF _ (List.mem_of_getElem? (i := 1) rfl)
  have g0 : G (ρ 0).toNat = 380 := by
    have q := (hG _ (List.mem_of_getElem? (i := 0) rfl)).2
    rwa [show ev ρ (0, [(0, 1)]) = ρ 0 from ev_v] at q
  have b0 : (0 : Int) ≤ ((0) + ((1) * ρ 1 + 0)) := b_aA (hA _ (List.mem_of_getElem? (i := 0) rfl))
  have q := let_rg hT (x := ρ 0) (j := ρ 1) (c := ρ 2) (w := 10) (hA _ (List.mem_of_getElem? (i := 0) rfl)) ev_v g0 rfl (show ρ 1 = ((0) + ((1) * ρ 1 + 0)) by omega) (by omega) ev_v (by decide +kernel)
  refine ⟨_, List.mem_cons_self, ρ, fun _ _ => rfl, fun q hq => absurd hq List.not_mem_nil, trivial, fun f hf => ?_, fun q hq => absurd hq List.not_mem_nil, fun q hq => absurd hq List.not_mem_nil, fun q hq => absurd hq List.not_mem_nil, fun q hq => ?_⟩
  · simp only [List.mem_cons, List.not_mem_nil, or_false] at hf
    rcases hf with rfl | rfl
    · show (0 : Int) ≤ ((-97) + ((1) * ρ 2 + 0))
      omega
    · show (0 : Int) ≤ ((122) + ((-1) * ρ 2 + 0))
      omega
  · simp only [List.mem_cons, List.not_mem_nil, or_false] at hq
    subst hq
    show q177 (((640) + ((1) * ρ 1 + 0))) (((0) + ((1) * ρ 2 + 0)))
    refine c2 (P := q177) (r := ρ 1 + 640) (c := ρ 2) ?_ (by omega) (by omega)
    show q177 (ρ 1 + 640) (ρ 2)
    exact k177o (w := 10) (j := ρ 1) (by omega) (by omega) (by omega) q.1
set_option maxRecDepth 20000 in
/-- let381 -/
theorem lem_329_ok (hU : uqG G C) : lem_329.1.2.1 = [] ∧ lemOK (PRd G C D xs) G rgs lem_329 := by
  refine ⟨rfl, fun ρ h ha hT => ?_⟩
  obtain ⟨-, -, hF, hG, hH, hA, hP⟩ := ha
  have f0 : (0 : Int) ≤ ((0) + ((1) * ρ 1 + 0)) := hF _ (List.mem_of_getElem? (i := 0) rfl)
  have f1 : (0 : Int) ≤ ((2) + ((-1) * ρ 1 + 0)) := hF _ (List.mem_of_getElem? (i := 1) rfl)
  have g0 : G (ρ 0).toNat = 381 := by
    have q := (hG _ (List.mem_of_getElem? (i := 0) rfl)).2
    rwa [show ev ρ (0, [(0, 1)]) = ρ 0 from ev_v] at q
  have b0 : (0 : Int) ≤ ((0) + ((1) * ρ 1 + 0)) := b_aA (hA _ (List.mem_of_getElem? (i := 0) rfl))
  have q := let_rg hT (x := ρ 0) (j := ρ 1) (c := ρ 2) (w := 13) (hA _ (List.mem_of_getElem? (i := 0) rfl)) ev_v g0 rfl (show ρ 1 = ((0) + ((1) * ρ 1 + 0)) by omega) (by omega) ev_v (by decide +kernel)
  refine ⟨_, List.mem_cons_self, ρ, fun _ _ => rfl, fun q hq => absurd hq List.not_mem_nil, trivial, fun f hf => ?_, fun q hq => absurd hq List.not_mem_nil, fun q hq => absurd hq List.not_mem_nil, fun q hq => absurd hq List.not_mem_nil, fun q hq => ?_⟩
  · simp only [List.mem_cons, List.not_mem_nil, or_false] at hf
    rcases hf with rfl | rfl
    · show (0 : Int) ≤ ((-97) + ((1) * ρ 2 + 0))
      omega
    · show (0 : Int) ≤ ((122) + ((-1) * ρ 2 + 0))
      omega
  · simp only [List.mem_cons, List.not_mem_nil, or_false] at hq
    subst hq
    show q177 (((832) + ((1) * ρ 1 + 0))) (((0) + ((1) * ρ 2 + 0)))
    refine c2 (P := q177) (r := ρ 1 + 832) (c := ρ 2) ?_ (by omega) (by omega)
    show q177 (ρ 1 + 832) (ρ 2)
    exact k177o (w := 13) (j := ρ 1) (by omega) (by omega) (by omega) q.1
set_option maxRecDepth 20000 in
/-- let382 -/
theorem lem_330_ok (hU : uqG G C) : lem_330.1.2.1 = [] ∧ lemOK (PRd G C D xs) G rgs lem_330 := by
  refine ⟨rfl, fun ρ h ha hT => ?_⟩
  obtain ⟨-, -, hF, hG, hH, hA, hP⟩ := ha
  have f0 : (0 : Int) ≤ ((0) + ((1) * ρ 1 + 0)) := hF _ (List.mem_of_getElem? (i := 0) rfl)
  have f1 : (0 : Int) ≤ ((3) + ((-1) * ρ 1 + 0)) := hF _ (List.mem_of_getElem? (i := 1) rfl)
  have g0 : G (ρ 0).toNat = 382 := by
    have q := (hG _ (List.mem_of_getElem? (i := 0) rfl)).2
    rwa [show ev ρ (0, [(0, 1)]) = ρ 0 from ev_v] at q
  have b0 : (0 : Int) ≤ ((0) + ((1) * ρ 1 + 0)) := b_aA (hA _ (List.mem_of_getElem? (i := 0) rfl))
  have q := let_rg hT (x := ρ 0) (j := ρ 1) (c := ρ 2) (w := 16) (hA _ (List.mem_of_getElem? (i := 0) rfl)) ev_v g0 rfl (show ρ 1 = ((0) + ((1) * ρ 1 + 0)) by omega) (by omega) ev_v (by decide +kernel)
  refine ⟨_, List.mem_cons_self, ρ, fun _ _ => rfl, fun q hq => absurd hq List.not_mem_nil, trivial, fun f hf => ?_, fun q hq => absurd hq List.not_mem_nil, fun q hq => absurd hq List.not_mem_nil, fun q hq => absurd hq List.not_mem_nil, fun q hq => ?_⟩
  · simp only [List.mem_cons, List.not_mem_nil, or_false] at hf
    rcases hf with rfl | rfl
    · show (0 : Int) ≤ ((-97) + ((1) * ρ 2 + 0))
      omega
    · show (0 : Int) ≤ ((122) + ((-1) * ρ 2 + 0))
      omega
  · simp only [List.mem_cons, List.not_mem_nil, or_false] at hq
    subst hq
    show q177 (((1024) + ((1) * ρ 1 + 0))) (((0) + ((1) * ρ 2 + 0)))
    refine c2 (P := q177) (r := ρ 1 + 1024) (c := ρ 2) ?_ (by omega) (by omega)
    show q177 (ρ 1 + 1024) (ρ 2)
    exact k177o (w := 16) (j := ρ 1) (by omega) (by omega) (by omega) q.1
set_option maxRecDepth 20000 in
/-- let383 -/
theorem lem_331_ok (hU : uqG G C) : lem_331.1.2.1 = [] ∧ lemOK (PRd G C D xs) G rgs lem_331 := by
  refine ⟨rfl, fun ρ h ha hT => ?_⟩
  obtain ⟨-, -, hF, hG, hH, hA, hP⟩ := ha
  have f0 : (0 : Int) ≤ ((0) + ((1) * ρ 1 + 0)) := hF _ (List.mem_of_getElem? (i := 0) rfl)
  have f1 : (0 : Int) ≤ ((3) + ((-1) * ρ 1 + 0)) := hF _ (List.mem_of_getElem? (i := 1) rfl)
  have g0 : G (ρ 0).toNat = 383 := by
    have q := (hG _ (List.mem_of_getElem? (i := 0) rfl)).2
    rwa [show ev ρ (0, [(0, 1)]) = ρ 0 from ev_v] at q
  have b0 : (0 : Int) ≤ ((0) + ((1) * ρ 1 + 0)) := b_aA (hA _ (List.mem_of_getElem? (i := 0) rfl))
  have q := let_rg hT (x := ρ 0) (j := ρ 1) (c := ρ 2) (w := 17) (hA _ (List.mem_of_getElem? (i := 0) rfl)) ev_v g0 rfl (show ρ 1 = ((0) + ((1) * ρ 1 + 0)) by omega) (by omega) ev_v (by decide +kernel)
  refine ⟨_, List.mem_cons_self, ρ, fun _ _ => rfl, fun q hq => absurd hq List.not_mem_nil, trivial, fun f hf => ?_, fun q hq => absurd hq List.not_mem_nil, fun q hq => absurd hq List.not_mem_nil, fun q hq => absurd hq List.not_mem_nil, fun q hq => ?_⟩
  · simp only [List.mem_cons, List.not_mem_nil, or_false] at hf
    rcases hf with rfl | rfl
    · show (0 : Int) ≤ ((-97) + ((1) * ρ 2 + 0))
      omega
    · show (0 : Int) ≤ ((122) + ((-1) * ρ 2 + 0))
      omega
  · simp only [List.mem_cons, List.not_mem_nil, or_false] at hq
    subst hq
    show q177 (((1088) + ((1) * ρ 1 + 0))) (((0) + ((1) * ρ 2 + 0)))
    refine c2 (P := q177) (r := ρ 1 + 1088) (c := ρ 2) ?_ (by omega) (by omega)
    show q177 (ρ 1 + 1088) (ρ 2)
    exact k177o (w := 17) (j := ρ 1) (by omega) (by omega) (by omega) q.1
set_option maxRecDepth 20000 in
/-- let384 -/
theorem lem_332_ok (hU : uqG G C) : lem_332.1.2.1 = [] ∧ lemOK (PRd G C D xs) G rgs lem_332 := by
  refine ⟨rfl, fun ρ h ha hT => ?_⟩
  obtain ⟨-, -, hF, hG, hH, hA, hP⟩ := ha
  have f0 : (0 : Int) ≤ ((0) + ((1) * ρ 1 + 0)) := hF _ (List.mem_of_getElem? (i := 0) rfl)
  have f1 : (0 : Int) ≤ ((6) + ((-1) * ρ 1 + 0)) := hF _ (List.mem_of_getElem? (i := 1) rfl)
  have g0 : G (ρ 0).toNat = 384 := by
    have q := (hG _ (List.mem_of_getElem? (i := 0) rfl)).2
    rwa [show ev ρ (0, [(0, 1)]) = ρ 0 from ev_v] at q
  have b0 : (0 : Int) ≤ ((0) + ((1) * ρ 1 + 0)) := b_aA (hA _ (List.mem_of_getElem? (i := 0) rfl))
  have q := let_rg hT (x := ρ 0) (j := ρ 1) (c := ρ 2) (w := 18) (hA _ (List.mem_of_getElem? (i := 0) rfl)) ev_v g0 rfl (show ρ 1 = ((0) + ((1) * ρ 1 + 0)) by omega) (by omega) ev_v (by decide +kernel)
  refine ⟨_, List.mem_cons_self, ρ, fun _ _ => rfl, fun q hq => absurd hq List.not_mem_nil, trivial, fun f hf => ?_, fun q hq => absurd hq List.not_mem_nil, fun q hq => absurd hq List.not_mem_nil, fun q hq => absurd hq List.not_mem_nil, fun q hq => ?_⟩
  · simp only [List.mem_cons, List.not_mem_nil, or_false] at hf
    rcases hf with rfl | rfl
    · show (0 : Int) ≤ ((-97) + ((1) * ρ 2 + 0))
      omega
    · show (0 : Int) ≤ ((122) + ((-1) * ρ 2 + 0))
      omega
  · simp only [List.mem_cons, List.not_mem_nil, or_false] at hq
    subst hq
    show q177 (((1152) + ((1) * ρ 1 + 0))) (((0) + ((1) * ρ 2 + 0)))
    refine c2 (P := q177) (r := ρ 1 + 1152) (c := ρ 2) ?_ (by omega) (by omega)
    show q177 (ρ 1 + 1152) (ρ 2)
    exact k177o (w := 18) (j := ρ 1) (by omega) (by omega) (by omega) q.1
set_option maxRecDepth 20000 in
/-- let385 -/
theorem lem_333_ok (hU : uqG G C) : lem_333.1.2.1 = [] ∧ lemOK (PRd G C D xs) G rgs lem_333 := by
  refine ⟨rfl, fun ρ h ha hT => ?_⟩
  obtain ⟨-, -, hF, hG, hH, hA, hP⟩ := ha
  have f0 : (0 : Int) ≤ ((0) + ((1) * ρ 1 + 0)) := hF _ (List.mem_of_getElem? (i := 0) rfl)
  have f1 : (0 : Int) ≤ ((5) + ((-1) * ρ 1 + 0)) := hF _ (List.mem_of_getElem? (i := 1) rfl)
  have g0 : G (ρ 0).toNat = 385 := by
    have q := (hG _ (List.mem_of_getElem? (i := 0) rfl)).2
    rwa [show ev ρ (0, [(0, 1)]) = ρ 0 from ev_v] at q
  have b0 : (0 : Int) ≤ ((0) + ((1) * ρ 1 + 0)) := b_aA (hA _ (List.mem_of_getElem? (i := 0) rfl))
  have q := let_rg hT (x := ρ 0) (j := ρ 1) (c := ρ 2) (w := 19) (hA _ (List.mem_of_getElem? (i := 0) rfl)) ev_v g0 rfl (show ρ 1 = ((0) + ((1) * ρ 1 + 0)) by omega) (by omega) ev_v (by decide +kernel)
  refine ⟨_, List.mem_cons_self, ρ, fun _ _ => rfl, fun q hq => absurd hq List.not_mem_nil, trivial, fun f hf => ?_, fun q hq => absurd hq List.not_mem_nil, fun q hq => absurd hq List.not_mem_nil, fun q hq => absurd hq List.not_mem_nil, fun q hq => ?_⟩
  · simp only [List.mem_cons, List.not_mem_nil, or_false] at hf
    rcases hf with rfl | rfl
    · show (0 : Int) ≤ ((-97) + ((1) * ρ 2 + 0))
      omega
    · show (0 : Int) ≤ ((122) + ((-1) * ρ 2 + 0))
      omega
  · simp only [List.mem_cons, List.not_mem_nil, or_false] at hq
    subst hq
    show q177 (((1216) + ((1) * ρ 1 + 0))) (((0) + ((1) * ρ 2 + 0)))
    refine c2 (P := q177) (r := ρ 1 + 1216) (c := ρ 2) ?_ (by omega) (by omega)
    show q177 (ρ 1 + 1216) (ρ 2)
    exact k177o (w := 19) (j := ρ 1) (by omega) (by omega) (by omega) q.1
set_option maxRecDepth 20000 in
/-- let386 -/
theorem lem_334_ok (hU : uqG G C) : lem_334.1.2.1 = [] ∧ lemOK (PRd G C D xs) G rgs lem_334 := by
  refine ⟨rfl, fun ρ h ha hT => ?_⟩
  obtain ⟨-, -, hF, hG, hH, hA, hP⟩ := ha
  have f0 : (0 : Int) ≤ ((0) + ((1) * ρ 1 + 0)) := hF _ (List.mem_of_getElem? (i := 0) rfl)
  have f1 : (0 : Int) ≤ ((4) + ((-1) * ρ 1 + 0)) := hF _ (List.mem_of_getElem? (i := 1) rfl)
  have g0 : G (ρ 0).toNat = 386 := by
    have q := (hG _ (List.mem_of_getElem? (i := 0) rfl)).2
    rwa [show ev ρ (0, [(0, 1)]) = ρ 0 from ev_v] at q
  have b0 : (0 : Int) ≤ ((0) + ((1) * ρ 1 + 0)) := b_aA (hA _ (List.mem_of_getElem? (i := 0) rfl))
  have q := let_rg hT (x := ρ 0) (j := ρ 1) (c := ρ 2) (w := 20) (hA _ (List.mem_of_getElem? (i := 0) rfl)) ev_v g0 rfl (show ρ 1 = ((0) + ((1) * ρ 1 + 0)) by omega) (by omega) ev_v (by decide +kernel)
  refine ⟨_, List.mem_cons_self, ρ, fun _ _ => rfl, fun q hq => absurd hq List.not_mem_nil, trivial, fun f hf => ?_, fun q hq => absurd hq List.not_mem_nil, fun q hq => absurd hq List.not_mem_nil, fun q hq => absurd hq List.not_mem_nil, fun q hq => ?_⟩
  · simp only [List.mem_cons, List.not_mem_nil, or_false] at hf
    rcases hf with rfl | rfl
    · show (0 : Int) ≤ ((-97) + ((1) * ρ 2 + 0))
      omega
    · show (0 : Int) ≤ ((122) + ((-1) * ρ 2 + 0))
      omega
  · simp only [List.mem_cons, List.not_mem_nil, or_false] at hq
    subst hq
    show q177 (((1280) + ((1) * ρ 1 + 0))) (((0) + ((1) * ρ 2 + 0)))
    refine c2 (P := q177) (r := ρ 1 + 1280) (c := ρ 2) ?_ (by omega) (by omega)
    show q177 (ρ 1 + 1280) (ρ 2)
    exact k177o (w := 20) (j := ρ 1) (by omega) (by omega) (by omega) q.1
set_option maxRecDepth 20000 in
/-- let387 -/
theorem lem_335_ok (hU : uqG G C) : lem_335.1.2.1 = [] ∧ lemOK (PRd G C D xs) G rgs lem_335 := by
  refine ⟨rfl, fun ρ h ha hT => ?_⟩
  obtain ⟨-, -, hF, hG, hH, hA, hP⟩ := ha
  have f0 : (0 : Int) ≤ ((0) + ((1) * ρ 1 + 0)) := hF _ (List.mem_of_getElem? (i := 0) rfl)
  have f1 : (0 : Int) ≤ ((2) + ((-1) * ρ 1 + 0)) := hF _ (List.mem_of_getElem? (i := 1) rfl)
  have g0 : G (ρ 0).toNat = 387 := by
    have q := (hG _ (List.mem_of_getElem? (i := 0) rfl)).2
    rwa [show ev ρ (0, [(0, 1)]) = ρ 0 from ev_v] at q
  have b0 : (0 : Int) ≤ ((0) + ((1) * ρ 1 + 0)) := b_aA (hA _ (List.mem_of_getElem? (i := 0) rfl))
  have q := let_rg hT (x := ρ 0) (j := ρ 1) (c := ρ 2) (w := 14) (hA _ (List.mem_of_getElem? (i := 0) rfl)) ev_v g0 rfl (show ρ 1 = ((0) + ((1) * ρ 1 + 0)) by omega) (by omega) ev_v (by decide +kernel)
  refine ⟨_, List.mem_cons_self, ρ, fun _ _ => rfl, fun q hq => absurd hq List.not_mem_nil, trivial, fun f hf => ?_, fun q hq => absurd hq List.not_mem_nil, fun q hq => absurd hq List.not_mem_nil, fun q hq => absurd hq List.not_mem_nil, fun q hq => ?_⟩
  · simp only [List.mem_cons, List.not_mem_nil, or_false] at hf
    rcases hf with rfl | rfl
    · show (0 : Int) ≤ ((-97) + ((1) * ρ 2 + 0))
      omega
    · show (0 : Int) ≤ ((122) + ((-1) * ρ 2 + 0))
      omega
  · simp only [List.mem_cons, List.not_mem_nil, or_false] at hq
    subst hq
    show q177 (((896) + ((1) * ρ 1 + 0))) (((0) + ((1) * ρ 2 + 0)))
    refine c2 (P := q177) (r := ρ 1 + 896) (c := ρ 2) ?_ (by omega) (by omega)
    show q177 (ρ 1 + 896) (ρ 2)
    exact k177o (w := 14) (j := ρ 1) (by omega) (by omega) (by omega) q.1
set_option maxRecDepth 20000 in
/-- let388 -/
theorem lem_336_ok (hU : uqG G C) : lem_336.1.2.1 = [] ∧ lemOK (PRd G C D xs) G rgs lem_336 := by
  refine ⟨rfl, fun ρ h ha hT => ?_⟩
  obtain ⟨-, -, hF, hG, hH, hA, hP⟩ := ha
  have f0 : (0 : Int) ≤ ((0) + ((1) * ρ 1 + 0)) := hF _ (List.mem_of_getElem? (i := 0) rfl)
  have f1 : (0 : Int) ≤ ((1) + ((-1) * ρ 1 + 0)) := hF _ (List.mem_of_getElem? (i := 1) rfl)
  have g0 : G (ρ 0).toNat = 388 := by
    have q := (hG _ (List.mem_of_getElem? (i := 0) rfl)).2
    rwa [show ev ρ (0, [(0, 1)]) = ρ 0 from ev_v] at q
  have b0 : (0 : Int) ≤ ((0) + ((1) * ρ 1 + 0)) := b_aA (hA _ (List.mem_of_getElem? (i := 0) rfl))
  have q := let_rg hT (x := ρ 0) (j := ρ 1) (c := ρ 2) (w := 15) (hA _ (List.mem_of_getElem? (i := 0) rfl)) ev_v g0 rfl (show ρ 1 = ((0) + ((1) * ρ 1 + 0)) by omega) (by omega) ev_v (by decide +kernel)
  refine ⟨_, List.mem_cons_self, ρ, fun _ _ => rfl, fun q hq => absurd hq List.not_mem_nil, trivial, fun f hf => ?_, fun q hq => absurd hq List.not_mem_nil, fun q hq => absurd hq List.not_mem_nil, fun q hq => absurd hq List.not_mem_nil, fun q hq => ?_⟩
  · simp only [List.mem_cons, List.not_mem_nil, or_false] at hf
    rcases hf with rfl | rfl
    · show (0 : Int) ≤ ((-97) + ((1) * ρ 2 + 0))
      omega
    · show (0 : Int) ≤ ((122) + ((-1) * ρ 2 + 0))
      omega
  · simp only [List.mem_cons, List.not_mem_nil, or_false] at hq
    subst hq
    show q177 (((960) + ((1) * ρ 1 + 0))) (((0) + ((1) * ρ 2 + 0)))
    refine c2 (P := q177) (r := ρ 1 + 960) (c := ρ 2) ?_ (by omega) (by omega)
    show q177 (ρ 1 + 960) (ρ 2)
    exact k177o (w := 15) (j := ρ 1) (by omega) (by omega) (by omega) q.1
set_option maxRecDepth 20000 in
/-- let409 -/
theorem lem_337_ok (hU : uqG G C) : lem_337.1.2.1 = [] ∧ lemOK (PRd G C D xs) G rgs lem_337 := by
  refine ⟨rfl, fun ρ h ha hT => ?_⟩
  obtain ⟨-, -, hF, hG, hH, hA, hP⟩ := ha
  have f0 : (0 : Int) ≤ ((0) + ((1) * ρ 1 + 0)) := hF _ (List.mem_of_getElem? (i := 0) rfl)
  have f1 : (0 : Int) ≤ ((3) + ((-1) * ρ 1 + 0)) := hF _ (List.mem_of_getElem? (i := 1) rfl)
  have g0 : G (ρ 0).toNat = 409 := by
    have q := (hG _ (List.mem_of_getElem? (i := 0) rfl)).2
    rwa [show ev ρ (0, [(0, 1)]) = ρ 0 from ev_v] at q
  have b0 : (0 : Int) ≤ ((0) + ((1) * ρ 1 + 0)) := b_aA (hA _ (List.mem_of_getElem? (i := 0) rfl))
  have q := let_rg hT (x := ρ 0) (j := ρ 1) (c := ρ 2) (w := 16) (hA _ (List.mem_of_getElem? (i := 0) rfl)) ev_v g0 rfl (show ρ 1 = ((0) + ((1) * ρ 1 + 0)) by omega) (by omega) ev_v (by decide +kernel)
  refine ⟨_, List.mem_cons_self, ρ, fun _ _ => rfl, fun q hq => absurd hq List.not_mem_nil, trivial, fun f hf => ?_, fun q hq => absurd hq List.not_mem_nil, fun q hq => absurd hq List.not_mem_nil, fun q hq => absurd hq List.not_mem_nil, fun q hq => ?_⟩
  · simp only [List.mem_cons, List.not_mem_nil, or_false] at hf
    rcases hf with rfl | rfl
    · show (0 : Int) ≤ ((-97) + ((1) * ρ 2 + 0))
      omega
    · show (0 : Int) ≤ ((122) + ((-1) * ρ 2 + 0))
      omega
  · simp only [List.mem_cons, List.not_mem_nil, or_false] at hq
    subst hq
    show q177 (((1024) + ((1) * ρ 1 + 0))) (((0) + ((1) * ρ 2 + 0)))
    refine c2 (P := q177) (r := ρ 1 + 1024) (c := ρ 2) ?_ (by omega) (by omega)
    show q177 (ρ 1 + 1024) (ρ 2)
    exact k177o (w := 16) (j := ρ 1) (by omega) (by omega) (by omega) q.1
set_option maxRecDepth 20000 in
/-- let410 -/
theorem lem_338_ok (hU : uqG G C) : lem_338.1.2.1 = [] ∧ lemOK (PRd G C D xs) G rgs lem_338 := by
  refine ⟨rfl, fun ρ h ha hT => ?_⟩
  obtain ⟨-, -, hF, hG, hH, hA, hP⟩ := ha
  have f0 : (0 : Int) ≤ ((0) + ((1) * ρ 1 + 0)) := hF _ (List.mem_of_getElem? (i := 0) rfl)
  have f1 : (0 : Int) ≤ ((3) + ((-1) * ρ 1 + 0)) := hF _ (List.mem_of_getElem? (i := 1) rfl)
  have g0 : G (ρ 0).toNat = 410 := by
    have q := (hG _ (List.mem_of_getElem? (i := 0) rfl)).2
    rwa [show ev ρ (0, [(0, 1)]) = ρ 0 from ev_v] at q
  have b0 : (0 : Int) ≤ ((0) + ((1) * ρ 1 + 0)) := b_aA (hA _ (List.mem_of_getElem? (i := 0) rfl))
  have q := let_rg hT (x := ρ 0) (j := ρ 1) (c := ρ 2) (w := 17) (hA _ (List.mem_of_getElem? (i := 0) rfl)) ev_v g0 rfl (show ρ 1 = ((0) + ((1) * ρ 1 + 0)) by omega) (by omega) ev_v (by decide +kernel)
  refine ⟨_, List.mem_cons_self, ρ, fun _ _ => rfl, fun q hq => absurd hq List.not_mem_nil, trivial, fun f hf => ?_, fun q hq => absurd hq List.not_mem_nil, fun q hq => absurd hq List.not_mem_nil, fun q hq => absurd hq List.not_mem_nil, fun q hq => ?_⟩
  · simp only [List.mem_cons, List.not_mem_nil, or_false] at hf
    rcases hf with rfl | rfl
    · show (0 : Int) ≤ ((-97) + ((1) * ρ 2 + 0))
      omega
    · show (0 : Int) ≤ ((122) + ((-1) * ρ 2 + 0))
      omega
  · simp only [List.mem_cons, List.not_mem_nil, or_false] at hq
    subst hq
    show q177 (((1088) + ((1) * ρ 1 + 0))) (((0) + ((1) * ρ 2 + 0)))
    refine c2 (P := q177) (r := ρ 1 + 1088) (c := ρ 2) ?_ (by omega) (by omega)
    show q177 (ρ 1 + 1088) (ρ 2)
    exact k177o (w := 17) (j := ρ 1) (by omega) (by omega) (by omega) q.1
set_option maxRecDepth 20000 in
/-- let411 -/
theorem lem_339_ok (hU : uqG G C) : lem_339.1.2.1 = [] ∧ lemOK (PRd G C D xs) G rgs lem_339 := by
  refine ⟨rfl, fun ρ h ha hT => ?_⟩
  obtain ⟨-, -, hF, hG, hH, hA, hP⟩ := ha
  have f0 : (0 : Int) ≤ ((0) + ((1) * ρ 1 + 0)) := hF _ (List.mem_of_getElem? (i := 0) rfl)
  have f1 : (0 : Int) ≤ ((6) + ((-1) * ρ 1 + 0)) := hF _ (List.mem_of_getElem? (i := 1) rfl)
  have g0 : G (ρ 0).toNat = 411 := by
    have q := (hG _ (List.mem_of_getElem? (i := 0) rfl)).2
    rwa [show ev ρ (0, [(0, 1)]) = ρ 0 from ev_v] at q
  have b0 : (0 : Int) ≤ ((0) + ((1) * ρ 1 + 0)) := b_aA (hA _ (List.mem_of_getElem? (i := 0) rfl))
  have q := let_rg hT (x := ρ 0) (j := ρ 1) (c := ρ 2) (w := 18) (hA _ (List.mem_of_getElem? (i := 0) rfl)) ev_v g0 rfl (show ρ 1 = ((0) + ((1) * ρ 1 + 0)) by omega) (by omega) ev_v (by decide +kernel)
  refine ⟨_, List.mem_cons_self, ρ, fun _ _ => rfl, fun q hq => absurd hq List.not_mem_nil, trivial, fun f hf => ?_, fun q hq => absurd hq List.not_mem_nil, fun q hq => absurd hq List.not_mem_nil, fun q hq => absurd hq List.not_mem_nil, fun q hq => ?_⟩
  · simp only [List.mem_cons, List.not_mem_nil, or_false] at hf
    rcases hf with rfl | rfl
    · show (0 : Int) ≤ ((-97) + ((1) * ρ 2 + 0))
      omega
    · show (0 : Int) ≤ ((122) + ((-1) * ρ 2 + 0))
      omega
  · simp only [List.mem_cons, List.not_mem_nil, or_false] at hq
    subst hq
    show q177 (((1152) + ((1) * ρ 1 + 0))) (((0) + ((1) * ρ 2 + 0)))
    refine c2 (P := q177) (r := ρ 1 + 1152) (c := ρ 2) ?_ (by omega) (by omega)
    show q177 (ρ 1 + 1152) (ρ 2)
    exact k177o (w := 18) (j := ρ 1) (by omega) (by omega) (by omega) q.1
set_option maxRecDepth 20000 in
/-- let412 -/
theorem lem_340_ok (hU : uqG G C) : lem_340.1.2.1 = [] ∧ lemOK (PRd G C D xs) G rgs lem_340 := by
  refine ⟨rfl, fun ρ h ha hT => ?_⟩
  obtain ⟨-, -, hF, hG, hH, hA, hP⟩ := ha
  have f0 : (0 : Int) ≤ ((0) + ((1) * ρ 1 + 0)) := hF _ (List.mem_of_getElem? (i := 0) rfl)
  have f1 : (0 : Int) ≤ ((5) + ((-1) * ρ 1 + 0)) := hF _ (List.mem_of_getElem? (i := 1) rfl)
  have g0 : G (ρ 0).toNat = 412 := by
    have q := (hG _ (List.mem_of_getElem? (i := 0) rfl)).2
    rwa [show ev ρ (0, [(0, 1)]) = ρ 0 from ev_v] at q
  have b0 : (0 : Int) ≤ ((0) + ((1) * ρ 1 + 0)) := b_aA (hA _ (List.mem_of_getElem? (i := 0) rfl))
  have q := let_rg hT (x := ρ 0) (j := ρ 1) (c := ρ 2) (w := 19) (hA _ (List.mem_of_getElem? (i := 0) rfl)) ev_v g0 rfl (show ρ 1 = ((0) + ((1) * ρ 1 + 0)) by omega) (by omega) ev_v (by decide +kernel)
  refine ⟨_, List.mem_cons_self, ρ, fun _ _ => rfl, fun q hq => absurd hq List.not_mem_nil, trivial, fun f hf => ?_, fun q hq => absurd hq List.not_mem_nil, fun q hq => absurd hq List.not_mem_nil, fun q hq => absurd hq List.not_mem_nil, fun q hq => ?_⟩
  · simp only [List.mem_cons, List.not_mem_nil, or_false] at hf
    rcases hf with rfl | rfl
    · show (0 : Int) ≤ ((-97) + ((1) * ρ 2 + 0))
      omega
    · show (0 : Int) ≤ ((122) + ((-1) * ρ 2 + 0))
      omega
  · simp only [List.mem_cons, List.not_mem_nil, or_false] at hq
    subst hq
    show q177 (((1216) + ((1) * ρ 1 + 0))) (((0) + ((1) * ρ 2 + 0)))
    refine c2 (P := q177) (r := ρ 1 + 1216) (c := ρ 2) ?_ (by omega) (by omega)
    show q177 (ρ 1 + 1216) (ρ 2)
    exact k177o (w := 19) (j := ρ 1) (by omega) (by omega) (by omega) q.1
set_option maxRecDepth 20000 in
/-- let413 -/
theorem lem_341_ok (hU : uqG G C) : lem_341.1.2.1 = [] ∧ lemOK (PRd G C D xs) G rgs lem_341 := by
  refine ⟨rfl, fun ρ h ha hT => ?_⟩
  obtain ⟨-, -, hF, hG, hH, hA, hP⟩ := ha
  have f0 : (0 : Int) ≤ ((0) + ((1) * ρ 1 + 0)) := hF _ (List.mem_of_getElem? (i := 0) rfl)
  have f1 : (0 : Int) ≤ ((4) + ((-1) * ρ 1 + 0)) := hF _ (List.mem_of_getElem? (i := 1) rfl)
  have g0 : G (ρ 0).toNat = 413 := by
    have q := (hG _ (List.mem_of_getElem? (i := 0) rfl)).2
    rwa [show ev ρ (0, [(0, 1)]) = ρ 0 from ev_v] at q
  have b0 : (0 : Int) ≤ ((0) + ((1) * ρ 1 + 0)) := b_aA (hA _ (List.mem_of_getElem? (i := 0) rfl))
  have q := let_rg hT (x := ρ 0) (j := ρ 1) (c := ρ 2) (w := 20) (hA _ (List.mem_of_getElem? (i := 0) rfl)) ev_v g0 rfl (show ρ 1 = ((0) + ((1) * ρ 1 + 0)) by omega) (by omega) ev_v (by decide +kernel)
  refine ⟨_, List.mem_cons_self, ρ, fun _ _ => rfl, fun q hq => absurd hq List.not_mem_nil, trivial, fun f hf => ?_, fun q hq => absurd hq List.not_mem_nil, fun q hq => absurd hq List.not_mem_nil, fun q hq => absurd hq List.not_mem_nil, fun q hq => ?_⟩
  · simp only [List.mem_cons, List.not_mem_nil, or_false] at hf
    rcases hf with rfl | rfl
    · show (0 : Int) ≤ ((-97) + ((1) * ρ 2 + 0))
      omega
    · show (0 : Int) ≤ ((122) + ((-1) * ρ 2 + 0))
      omega
  · simp only [List.mem_cons, List.not_mem_nil, or_false] at hq
    subst hq
    show q177 (((1280) + ((1) * ρ 1 + 0))) (((0) + ((1) * ρ 2 + 0)))
    refine c2 (P := q177) (r := ρ 1 + 1280) (c := ρ 2) ?_ (by omega) (by omega)
    show q177 (ρ 1 + 1280) (ρ 2)
    exact k177o (w := 20) (j := ρ 1) (by omega) (by omega) (by omega) q.1
set_option maxRecDepth 20000 in
/-- let414 -/
theorem lem_342_ok (hU : uqG G C) : lem_342.1.2.1 = [] ∧ lemOK (PRd G C D xs) G rgs lem_342 := by
  refine ⟨rfl, fun ρ h ha hT => ?_⟩
  obtain ⟨-, -, hF, hG, hH, hA, hP⟩ := ha
  have f0 : (0 : Int) ≤ ((0) + ((1) * ρ 1 + 0)) := hF _ (List.mem_of_getElem? (i := 0) rfl)
  have f1 : (0 : Int) ≤ ((4) + ((-1) * ρ 1 + 0)) := hF _ (List.mem_of_getElem? (i := 1) rfl)
  have g0 : G (ρ 0).toNat = 414 := by
    have q := (hG _ (List.mem_of_getElem? (i := 0) rfl)).2
    rwa [show ev ρ (0, [(0, 1)]) = ρ 0 from ev_v] at q
  have b0 : (0 : Int) ≤ ((0) + ((1) * ρ 1 + 0)) := b_aA (hA _ (List.mem_of_getElem? (i := 0) rfl))
  have q := let_rg hT (x := ρ 0) (j := ρ 1) (c := ρ 2) (w := 0) (hA _ (List.mem_of_getElem? (i := 0) rfl)) ev_v g0 rfl (show ρ 1 = ((0) + ((1) * ρ 1 + 0)) by omega) (by omega) ev_v (by decide +kernel)
  refine ⟨_, List.mem_cons_self, ρ, fun _ _ => rfl, fun q hq => absurd hq List.not_mem_nil, trivial, fun f hf => ?_, fun q hq => absurd hq List.not_mem_nil, fun q hq => absurd hq List.not_mem_nil, fun q hq => absurd hq List.not_mem_nil, fun q hq => ?_⟩
  · simp only [List.mem_cons, List.not_mem_nil, or_false] at hf
    rcases hf with rfl | rfl
    · show (0 : Int) ≤ ((-97) + ((1) * ρ 2 + 0))
      omega
    · show (0 : Int) ≤ ((122) + ((-1) * ρ 2 + 0))
      omega
  · simp only [List.mem_cons, List.not_mem_nil, or_false] at hq
    subst hq
    show q177 (((0) + ((1) * ρ 1 + 0))) (((0) + ((1) * ρ 2 + 0)))
    refine c2 (P := q177) (r := ρ 1) (c := ρ 2) ?_ (by omega) (by omega)
    show q177 (ρ 1) (ρ 2)
    exact k177o (w := 0) (j := ρ 1) (by omega) (by omega) (by omega) q.1
set_option maxRecDepth 20000 in
/-- let415 -/
theorem lem_343_ok (hU : uqG G C) : lem_343.1.2.1 = [] ∧ lemOK (PRd G C D xs) G rgs lem_343 := by
  refine ⟨rfl, fun ρ h ha hT => ?_⟩
  obtain ⟨-, -, hF, hG, hH, hA, hP⟩ := ha
  have f0 : (0 : Int) ≤ ((0) + ((1) * ρ 1 + 0)) := hF _ (List.mem_of_getElem? (i := 0) rfl)
  have f1 : (0 : Int) ≤ ((4) + ((-1) * ρ 1 + 0)) := hF _ (List.mem_of_getElem? (i := 1) rfl)
  have g0 : G (ρ 0).toNat = 415 := by
    have q := (hG _ (List.mem_of_getElem? (i := 0) rfl)).2
    rwa [show ev ρ (0, [(0, 1)]) = ρ 0 from ev_v] at q
  have b0 : (0 : Int) ≤ ((0) + ((1) * ρ 1 + 0)) := b_aA (hA _ (List.mem_of_getElem? (i := 0) rfl))
  have q := let_rg hT (x := ρ 0) (j := ρ 1) (c := ρ 2) (w := 1) (hA _ (List.mem_of_getElem? (i := 0) rfl)) ev_v g0 rfl (show ρ 1 = ((0) + ((1) * ρ 1 + 0)) by omega) (by omega) ev_v (by decide +kernel)
  refine ⟨_, List.mem_cons_self, ρ, fun _ _ => rfl, fun q hq => absurd hq List.not_mem_nil, trivial, fun f hf => ?_, fun q hq => absurd hq List.not_mem_nil, fun q hq => absurd hq List.not_mem_nil, fun q hq => absurd hq List.not_mem_nil, fun q hq => ?_⟩
  · simp only [List.mem_cons, List.not_mem_nil, or_false] at hf
    rcases hf with rfl | rfl
    · show (0 : Int) ≤ ((-97) + ((1) * ρ 2 + 0))
      omega
    · show (0 : Int) ≤ ((122) + ((-1) * ρ 2 + 0))
      omega
  · simp only [List.mem_cons, List.not_mem_nil, or_false] at hq
    subst hq
    show q177 (((64) + ((1) * ρ 1 + 0))) (((0) + ((1) * ρ 2 + 0)))
    refine c2 (P := q177) (r := ρ 1 + 64) (c := ρ 2) ?_ (by omega) (by omega)
    show q177 (ρ 1 + 64) (ρ 2)
    exact k177o (w := 1) (j := ρ 1) (by omega) (by omega) (by omega) q.1
set_option maxRecDepth 20000 in
/-- let416 -/
theorem lem_344_ok (hU : uqG G C) : lem_344.1.2.1 = [] ∧ lemOK (PRd G C D xs) G rgs lem_344 := by
  refine ⟨rfl, fun ρ h ha hT => ?_⟩
  obtain ⟨-, -, hF, hG, hH, hA, hP⟩ := ha
  have f0 : (0 : Int) ≤ ((0) + ((1) * ρ 1 + 0)) := hF _ (List.mem_of_getElem? (i := 0) rfl)
  have f1 : (0 : Int) ≤ ((3) + ((-1) * ρ 1 + 0)) := hF _ (List.mem_of_getElem? (i := 1) rfl)
  have g0 : G (ρ 0).toNat = 416 := by
    have q := (hG _ (List.mem_of_getElem? (i := 0) rfl)).2
    rwa [show ev ρ (0, [(0, 1)]) = ρ 0 from ev_v] at q
  have b0 : (0 : Int) ≤ ((0) + ((1) * ρ 1 + 0)) := b_aA (hA _ (List.mem_of_getElem? (i := 0) rfl))
  have q := let_rg hT (x := ρ 0) (j := ρ 1) (c := ρ 2) (w := 2) (hA _ (List.mem_of_getElem? (i := 0) rfl)) ev_v g0 rfl (show ρ 1 = ((0) + ((1) * ρ 1 + 0)) by omega) (by omega) ev_v (by decide +kernel)
  refine ⟨_, List.mem_cons_self, ρ, fun _ _ => rfl, fun q hq => absurd hq List.not_mem_nil, trivial, fun f hf => ?_, fun q hq => absurd hq List.not_mem_nil, fun q hq => absurd hq List.not_mem_nil, fun q hq => absurd hq List.not_mem_nil, fun q hq => ?_⟩
  · simp only [List.mem_cons, List.not_mem_nil, or_false] at hf
    rcases hf with rfl | rfl
    · show (0 : Int) ≤ ((-97) + ((1) * ρ 2 + 0))
      omega
    · show (0 : Int) ≤ ((122) + ((-1) * ρ 2 + 0))
      omega
  · simp only [List.mem_cons, List.not_mem_nil, or_false] at hq
    subst hq
    show q177 (((128) + ((1) * ρ 1 + 0))) (((0) + ((1) * ρ 2 + 0)))
    refine c2 (P := q177) (r := ρ 1 + 128) (c := ρ 2) ?_ (by omega) (by omega)
    show q177 (ρ 1 + 128) (ρ 2)
    exact k177o (w := 2) (j := ρ 1) (by omega) (by omega) (by omega) q.1
set_option maxRecDepth 20000 in
/-- let417 -/
theorem lem_345_ok (hU : uqG G C) : lem_345.1.2.1 = [] ∧ lemOK (PRd G C D xs) G rgs lem_345 := by
  refine ⟨rfl, fun ρ h ha hT => ?_⟩
  obtain ⟨-, -, hF, hG, hH, hA, hP⟩ := ha
  have f0 : (0 : Int) ≤ ((0) + ((1) * ρ 1 + 0)) := hF _ (List.mem_of_getElem? (i := 0) rfl)
  have f1 : (0 : Int) ≤ ((4) + ((-1) * ρ 1 + 0)) := hF _ (List.mem_of_getElem? (i := 1) rfl)
  have g0 : G (ρ 0).toNat = 417 := by
    have q := (hG _ (List.mem_of_getElem? (i := 0) rfl)).2
    rwa [show ev ρ (0, [(0, 1)]) = ρ 0 from ev_v] at q
  have b0 : (0 : Int) ≤ ((0) + ((1) * ρ 1 + 0)) := b_aA (hA _ (List.mem_of_getElem? (i := 0) rfl))
  have q := let_rg hT (x := ρ 0) (j := ρ 1) (c := ρ 2) (w := 3) (hA _ (List.mem_of_getElem? (i := 0) rfl)) ev_v g0 rfl (show ρ 1 = ((0) + ((1) * ρ 1 + 0)) by omega) (by omega) ev_v (by decide +kernel)
  refine ⟨_, List.mem_cons_self, ρ, fun _ _ => rfl, fun q hq => absurd hq List.not_mem_nil, trivial, fun f hf => ?_, fun q hq => absurd hq List.not_mem_nil, fun q hq => absurd hq List.not_mem_nil, fun q hq => absurd hq List.not_mem_nil, fun q hq => ?_⟩
  · simp only [List.mem_cons, List.not_mem_nil, or_false] at hf
    rcases hf with rfl | rfl
    · show (0 : Int) ≤ ((-97) + ((1) * ρ 2 + 0))
      omega
    · show (0 : Int) ≤ ((122) + ((-1) * ρ 2 + 0))
      omega
  · simp only [List.mem_cons, List.not_mem_nil, or_false] at hq
    subst hq
    show q177 (((192) + ((1) * ρ 1 + 0))) (((0) + ((1) * ρ 2 + 0)))
    refine c2 (P := q177) (r := ρ 1 + 192) (c := ρ 2) ?_ (by omega) (by omega)
    show q177 (ρ 1 + 192) (ρ 2)
    exact k177o (w := 3) (j := ρ 1) (by omega) (by omega) (by omega) q.1
set_option maxRecDepth 20000 in
/-- let418 -/
theorem lem_346_ok (hU : uqG G C) : lem_346.1.2.1 = [] ∧ lemOK (PRd G C D xs) G rgs lem_346 := by
  refine ⟨rfl, fun ρ h ha hT => ?_⟩
  obtain ⟨-, -, hF, hG, hH, hA, hP⟩ := ha
  have f0 : (0 : Int) ≤ ((0) + ((1) * ρ 1 + 0)) := hF _ (List.mem_of_getElem? (i := 0) rfl)
  have f1 : (0 : Int) ≤ ((4) + ((-1) * ρ 1 + 0)) := hF _ (List.mem_of_getElem? (i := 1) rfl)
  have g0 : G (ρ 0).toNat = 418 := by
    have q := (hG _ (List.mem_of_getElem? (i := 0) rfl)).2
    rwa [show ev ρ (0, [(0, 1)]) = ρ 0 from ev_v] at q
  have b0 : (0 : Int) ≤ ((0) + ((1) * ρ 1 + 0)) := b_aA (hA _ (List.mem_of_getElem? (i := 0) rfl))
  have q := let_rg hT (x := ρ 0) (j := ρ 1) (c := ρ 2) (w := 4) (hA _ (List.mem_of_getElem? (i := 0) rfl)) ev_v g0 rfl (show ρ 1 = ((0) + ((1) * ρ 1 + 0)) by omega) (by omega) ev_v (by decide +kernel)
  refine ⟨_, List.mem_cons_self, ρ, fun _ _ => rfl, fun q hq => absurd hq List.not_mem_nil, trivial, fun f hf => ?_, fun q hq => absurd hq List.not_mem_nil, fun q hq => absurd hq List.not_mem_nil, fun q hq => absurd hq List.not_mem_nil, fun q hq => ?_⟩
  · simp only [List.mem_cons, List.not_mem_nil, or_false] at hf
    rcases hf with rfl | rfl
    · show (0 : Int) ≤ ((-97) + ((1) * ρ 2 + 0))
      omega
    · show (0 : Int) ≤ ((122) + ((-1) * ρ 2 + 0))
      omega
  · simp only [List.mem_cons, List.not_mem_nil, or_false] at hq
    subst hq
    show q177 (((256) + ((1) * ρ 1 + 0))) (((0) + ((1) * ρ 2 + 0)))
    refine c2 (P := q177) (r := ρ 1 + 256) (c := ρ 2) ?_ (by omega) (by omega)
    show q177 (ρ 1 + 256) (ρ 2)
    exact k177o (w := 4) (j := ρ 1) (by omega) (by omega) (by omega) q.1
set_option maxRecDepth 20000 in
/-- let419 -/
theorem lem_347_ok (hU : uqG G C) : lem_347.1.2.1 = [] ∧ lemOK (PRd G C D xs) G rgs lem_347 := by
  refine ⟨rfl, fun ρ h ha hT => ?_⟩
  obtain ⟨-, -, hF, hG, hH, hA, hP⟩ := ha
  have f0 : (0 : Int) ≤ ((0) + ((1) * ρ 1 + 0)) := hF _ (List.mem_of_getElem? (i := 0) rfl)
  have f1 : (0 : Int) ≤ ((4) + ((-1) * ρ 1 + 0)) := hF _ (List.mem_of_getElem? (i := 1) rfl)
  have g0 : G (ρ 0).toNat = 419 := by
    have q := (hG _ (List.mem_of_getElem? (i := 0) rfl)).2
    rwa [show ev ρ (0, [(0, 1)]) = ρ 0 from ev_v] at q
  have b0 : (0 : Int) ≤ ((0) + ((1) * ρ 1 + 0)) := b_aA (hA _ (List.mem_of_getElem? (i := 0) rfl))
  have q := let_rg hT (x := ρ 0) (j := ρ 1) (c := ρ 2) (w := 5) (hA _ (List.mem_of_getElem? (i := 0) rfl)) ev_v g0 rfl (show ρ 1 = ((0) + ((1) * ρ 1 + 0)) by omega) (by omega) ev_v (by decide +kernel)
  refine ⟨_, List.mem_cons_self, ρ, fun _ _ => rfl, fun q hq => absurd hq List.not_mem_nil, trivial, fun f hf => ?_, fun q hq => absurd hq List.not_mem_nil, fun q hq => absurd hq List.not_mem_nil, fun q hq => absurd hq List.not_mem_nil, fun q hq => ?_⟩
  · simp only [List.mem_cons, List.not_mem_nil, or_false] at hf
    rcases hf with rfl | rfl
    · show (0 : Int) ≤ ((-97) + ((1) * ρ 2 + 0))
      omega
    · show (0 : Int) ≤ ((122) + ((-1) * ρ 2 + 0))
      omega
  · simp only [List.mem_cons, List.not_mem_nil, or_false] at hq
    subst hq
    show q177 (((320) + ((1) * ρ 1 + 0))) (((0) + ((1) * ρ 2 + 0)))
    refine c2 (P := q177) (r := ρ 1 + 320) (c := ρ 2) ?_ (by omega) (by omega)
    show q177 (ρ 1 + 320) (ρ 2)
    exact k177o (w := 5) (j := ρ 1) (by omega) (by omega) (by omega) q.1
set_option maxRecDepth 20000 in
/-- let420 -/
theorem lem_348_ok (hU : uqG G C) : lem_348.1.2.1 = [] ∧ lemOK (PRd G C D xs) G rgs lem_348 := by
  refine ⟨rfl, fun ρ h ha hT => ?_⟩
  obtain ⟨-, -, hF, hG, hH, hA, hP⟩ := ha
  have f0 : (0 : Int) ≤ ((0) + ((1) * ρ 1 + 0)) := hF _ (List.mem_of_getElem? (i := 0) rfl)
  have f1 : (0 : Int) ≤ ((6) + ((-1) * ρ 1 + 0)) := hF _ (List.mem_of_getElem? (i := 1) rfl)
  have g0 : G (ρ 0).toNat = 420 := by
    have q := (hG _ (List.mem_of_getElem? (i := 0) rfl)).2
    rwa [show ev ρ (0, [(0, 1)]) = ρ 0 from ev_v] at q
  have b0 : (0 : Int) ≤ ((0) + ((1) * ρ 1 + 0)) := b_aA (hA _ (List.mem_of_getElem? (i := 0) rfl))
  have q := let_rg hT (x := ρ 0) (j := ρ 1) (c := ρ 2) (w := 6) (hA _ (List.mem_of_getElem? (i := 0) rfl)) ev_v g0 rfl (show ρ 1 = ((0) + ((1) * ρ 1 + 0)) by omega) (by omega) ev_v (by decide +kernel)
  refine ⟨_, List.mem_cons_self, ρ, fun _ _ => rfl, fun q hq => absurd hq List.not_mem_nil, trivial, fun f hf => ?_, fun q hq => absurd hq List.not_mem_nil, fun q hq => absurd hq List.not_mem_nil, fun q hq => absurd hq List.not_mem_nil, fun q hq => ?_⟩
  · simp only [List.mem_cons, List.not_mem_nil, or_false] at hf
    rcases hf with rfl | rfl
    · show (0 : Int) ≤ ((-97) + ((1) * ρ 2 + 0))
      omega
    · show (0 : Int) ≤ ((122) + ((-1) * ρ 2 + 0))
      omega
  · simp only [List.mem_cons, List.not_mem_nil, or_false] at hq
    subst hq
    show q177 (((384) + ((1) * ρ 1 + 0))) (((0) + ((1) * ρ 2 + 0)))
    refine c2 (P := q177) (r := ρ 1 + 384) (c := ρ 2) ?_ (by omega) (by omega)
    show q177 (ρ 1 + 384) (ρ 2)
    exact k177o (w := 6) (j := ρ 1) (by omega) (by omega) (by omega) q.1
set_option maxRecDepth 20000 in
/-- let421 -/
theorem lem_349_ok (hU : uqG G C) : lem_349.1.2.1 = [] ∧ lemOK (PRd G C D xs) G rgs lem_349 := by
  refine ⟨rfl, fun ρ h ha hT => ?_⟩
  obtain ⟨-, -, hF, hG, hH, hA, hP⟩ := ha
  have f0 : (0 : Int) ≤ ((0) + ((1) * ρ 1 + 0)) := hF _ (List.mem_of_getElem? (i := 0) rfl)
  have f1 : (0 : Int) ≤ ((6) + ((-1) * ρ 1 + 0)) := hF _ (List.mem_of_getElem? (i := 1) rfl)
  have g0 : G (ρ 0).toNat = 421 := by
    have q := (hG _ (List.mem_of_getElem? (i := 0) rfl)).2
    rwa [show ev ρ (0, [(0, 1)]) = ρ 0 from ev_v] at q
  have b0 : (0 : Int) ≤ ((0) + ((1) * ρ 1 + 0)) := b_aA (hA _ (List.mem_of_getElem? (i := 0) rfl))
  have q := let_rg hT (x := ρ 0) (j := ρ 1) (c := ρ 2) (w := 7) (hA _ (List.mem_of_getElem? (i := 0) rfl)) ev_v g0 rfl (show ρ 1 = ((0) + ((1) * ρ 1 + 0)) by omega) (by omega) ev_v (by decide +kernel)
  refine ⟨_, List.mem_cons_self, ρ, fun _ _ => rfl, fun q hq => absurd hq List.not_mem_nil, trivial, fun f hf => ?_, fun q hq => absurd hq List.not_mem_nil, fun q hq => absurd hq List.not_mem_nil, fun q hq => absurd hq List.not_mem_nil, fun q hq => ?_⟩
  · simp only [List.mem_cons, List.not_mem_nil, or_false] at hf
    rcases hf with rfl | rfl
    · show (0 : Int) ≤ ((-97) + ((1) * ρ 2 + 0))
      omega
    · show (0 : Int) ≤ ((122) + ((-1) * ρ 2 + 0))
      omega
  · simp only [List.mem_cons, List.not_mem_nil, or_false] at hq
    subst hq
    show q177 (((448) + ((1) * ρ 1 + 0))) (((0) + ((1) * ρ 2 + 0)))
    refine c2 (P := q177) (r := ρ 1 + 448) (c := ρ 2) ?_ (by omega) (by omega)
    show q177 (ρ 1 + 448) (ρ 2)
    exact k177o (w := 7) (j := ρ 1) (by omega) (by omega) (by omega) q.1
set_option maxRecDepth 20000 in
/-- let422 -/
theorem lem_350_ok (hU : uqG G C) : lem_350.1.2.1 = [] ∧ lemOK (PRd G C D xs) G rgs lem_350 := by
  refine ⟨rfl, fun ρ h ha hT => ?_⟩
  obtain ⟨-, -, hF, hG, hH, hA, hP⟩ := ha
  have f0 : (0 : Int) ≤ ((0) + ((1) * ρ 1 + 0)) := hF _ (List.mem_of_getElem? (i := 0) rfl)
  have f1 : (0 : Int) ≤ ((6) + ((-1) * ρ 1 + 0)) := hF _ (List.mem_of_getElem? (i := 1) rfl)
  have g0 : G (ρ 0).toNat = 422 := by
    have q := (hG _ (List.mem_of_getElem? (i := 0) rfl)).2
    rwa [show ev ρ (0, [(0, 1)]) = ρ 0 from ev_v] at q
  have b0 : (0 : Int) ≤ ((0) + ((1) * ρ 1 + 0)) := b_aA (hA _ (List.mem_of_getElem? (i := 0) rfl))
  have q := let_rg hT (x := ρ 0) (j := ρ 1) (c := ρ 2) (w := 8) (hA _ (List.mem_of_getElem? (i := 0) rfl)) ev_v g0 rfl (show ρ 1 = ((0) + ((1) * ρ 1 + 0)) by omega) (by omega) ev_v (by decide +kernel)
  refine ⟨_, List.mem_cons_self, ρ, fun _ _ => rfl, fun q hq => absurd hq List.not_mem_nil, trivial, fun f hf => ?_, fun q hq => absurd hq List.not_mem_nil, fun q hq => absurd hq List.not_mem_nil, fun q hq => absurd hq List.not_mem_nil, fun q hq => ?_⟩
  · simp only [List.mem_cons, List.not_mem_nil, or_false] at hf
    rcases hf with rfl | rfl
    · show (0 : Int) ≤ ((-97) + ((1) * ρ 2 + 0))
      omega
    · show (0 : Int) ≤ ((122) + ((-1) * ρ 2 + 0))
      omega
  · simp only [List.mem_cons, List.not_mem_nil, or_false] at hq
    subst hq
    show q177 (((512) + ((1) * ρ 1 + 0))) (((0) + ((1) * ρ 2 + 0)))
    refine c2 (P := q177) (r := ρ 1 + 512) (c := ρ 2) ?_ (by omega) (by omega)
    show q177 (ρ 1 + 512) (ρ 2)
    exact k177o (w := 8) (j := ρ 1) (by omega) (by omega) (by omega) q.1
set_option maxRecDepth 20000 in
/-- let423 -/
theorem lem_351_ok (hU : uqG G C) : lem_351.1.2.1 = [] ∧ lemOK (PRd G C D xs) G rgs lem_351 := by
  refine ⟨rfl, fun ρ h ha hT => ?_⟩
  obtain ⟨-, -, hF, hG, hH, hA, hP⟩ := ha
  have f0 : (0 : Int) ≤ ((0) + ((1) * ρ 1 + 0)) := hF _ (List.mem_of_getElem? (i := 0) rfl)
  have f1 : (0 : Int) ≤ ((2) + ((-1) * ρ 1 + 0)) := hF _ (List.mem_of_getElem? (i := 1) rfl)
  have g0 : G (ρ 0).toNat = 423 := by
    have q := (hG _ (List.mem_of_getElem? (i := 0) rfl)).2
    rwa [show ev ρ (0, [(0, 1)]) = ρ 0 from ev_v] at q
  have b0 : (0 : Int) ≤ ((0) + ((1) * ρ 1 + 0)) := b_aA (hA _ (List.mem_of_getElem? (i := 0) rfl))
  have q := let_rg hT (x := ρ 0) (j := ρ 1) (c := ρ 2) (w := 11) (hA _ (List.mem_of_getElem? (i := 0) rfl)) ev_v g0 rfl (show ρ 1 = ((0) + ((1) * ρ 1 + 0)) by omega) (by omega) ev_v (by decide +kernel)
  refine ⟨_, List.mem_cons_self, ρ, fun _ _ => rfl, fun q hq => absurd hq List.not_mem_nil, trivial, fun f hf => ?_, fun q hq => absurd hq List.not_mem_nil, fun q hq => absurd hq List.not_mem_nil, fun q hq => absurd hq List.not_mem_nil, fun q hq => ?_⟩
  · simp only [List.mem_cons, List.not_mem_nil, or_false] at hf
    rcases hf with rfl | rfl
    · show (0 : Int) ≤ ((-97) + ((1) * ρ 2 + 0))
      omega
    · show (0 : Int) ≤ ((122) + ((-1) * ρ 2 + 0))
      omega
  · simp only [List.mem_cons, List.not_mem_nil, or_false] at hq
    subst hq
    show q177 (((704) + ((1) * ρ 1 + 0))) (((0) + ((1) * ρ 2 + 0)))
    refine c2 (P := q177) (r := ρ 1 + 704) (c := ρ 2) ?_ (by omega) (by omega)
    show q177 (ρ 1 + 704) (ρ 2)
    exact k177o (w := 11) (j := ρ 1) (by omega) (by omega) (by omega) q.1
set_option maxRecDepth 20000 in
/-- let424 -/
theorem lem_352_ok (hU : uqG G C) : lem_352.1.2.1 = [] ∧ lemOK (PRd G C D xs) G rgs lem_352 := by
  refine ⟨rfl, fun ρ h ha hT => ?_⟩
  obtain ⟨-, -, hF, hG, hH, hA, hP⟩ := ha
  have f0 : (0 : Int) ≤ ((0) + ((1) * ρ 1 + 0)) := hF _ (List.mem_of_getElem? (i := 0) rfl)
  have f1 : (0 : Int) ≤ ((3) + ((-1) * ρ 1 + 0)) := hF _ (List.mem_of_getElem? (i := 1) rfl)
  have g0 : G (ρ 0).toNat = 424 := by
    have q := (hG _ (List.mem_of_getElem? (i := 0) rfl)).2
    rwa [show ev ρ (0, [(0, 1)]) = ρ 0 from ev_v] at q
  have b0 : (0 : Int) ≤ ((0) + ((1) * ρ 1 + 0)) := b_aA (hA _ (List.mem_of_getElem? (i := 0) rfl))
  have q := let_rg hT (x := ρ 0) (j := ρ 1) (c := ρ 2) (w := 9) (hA _ (List.mem_of_getElem? (i := 0) rfl)) ev_v g0 rfl (show ρ 1 = ((0) + ((1) * ρ 1 + 0)) by omega) (by omega) ev_v (by decide +kernel)
  refine ⟨_, List.mem_cons_self, ρ, fun _ _ => rfl, fun q hq => absurd hq List.not_mem_nil, trivial, fun f hf => ?_, fun q hq => absurd hq List.not_mem_nil, fun q hq => absurd hq List.not_mem_nil, fun q hq => absurd hq List.not_mem_nil, fun q hq => ?_⟩
  · simp only [List.mem_cons, List.not_mem_nil, or_false] at hf
    rcases hf with rfl | rfl
    · show (0 : Int) ≤ ((-97) + ((1) * ρ 2 + 0))
      omega
    · show (0 : Int) ≤ ((122) + ((-1) * ρ 2 + 0))
      omega
  · simp only [List.mem_cons, List.not_mem_nil, or_false] at hq
    subst hq
    show q177 (((576) + ((1) * ρ 1 + 0))) (((0) + ((1) * ρ 2 + 0)))
    refine c2 (P := q177) (r := ρ 1 + 576) (c := ρ 2) ?_ (by omega) (by omega)
    show q177 (ρ 1 + 576) (ρ 2)
    exact k177o (w := 9) (j := ρ 1) (by omega) (by omega) (by omega) q.1
set_option maxRecDepth 20000 in
/-- let425 -/
theorem lem_353_ok (hU : uqG G C) : lem_353.1.2.1 = [] ∧ lemOK (PRd G C D xs) G rgs lem_353 := by
  refine ⟨rfl, fun ρ h ha hT => ?_⟩
  obtain ⟨-, -, hF, hG, hH, hA, hP⟩ := ha
  have f0 : (0 : Int) ≤ ((0) + ((1) * ρ 1 + 0)) := hF _ (List.mem_of_getElem? (i := 0) rfl)
  have f1 : (0 : Int) ≤ ((4) + ((-1) * ρ 1 + 0)) := hF _ (List.mem_of_getElem? (i := 1) rfl)
  have g0 : G (ρ 0).toNat = 425 := by
    have q := (hG _ (List.mem_of_getElem? (i := 0) rfl)).2
    rwa [show ev ρ (0, [(0, 1)]) = ρ 0 from ev_v] at q
  have b0 : (0 : Int) ≤ ((0) + ((1) * ρ 1 + 0)) := b_aA (hA _ (List.mem_of_getElem? (i := 0) rfl))
  have q := let_rg hT (x := ρ 0) (j := ρ 1) (c := ρ 2) (w := 12) (hA _ (List.mem_of_getElem? (i := 0) rfl)) ev_v g0 rfl (show ρ 1 = ((0) + ((1) * ρ 1 + 0)) by omega) (by omega) ev_v (by decide +kernel)
  refine ⟨_, List.mem_cons_self, ρ, fun _ _ => rfl, fun q hq => absurd hq List.not_mem_nil, trivial, fun f hf => ?_, fun q hq => absurd hq List.not_mem_nil, fun q hq => absurd hq List.not_mem_nil, fun q hq => absurd hq List.not_mem_nil, fun q hq => ?_⟩
  · simp only [List.mem_cons, List.not_mem_nil, or_false] at hf
    rcases hf with rfl | rfl
    · show (0 : Int) ≤ ((-97) + ((1) * ρ 2 + 0))
      omega
    · show (0 : Int) ≤ ((122) + ((-1) * ρ 2 + 0))
      omega
  · simp only [List.mem_cons, List.not_mem_nil, or_false] at hq
    subst hq
    show q177 (((768) + ((1) * ρ 1 + 0))) (((0) + ((1) * ρ 2 + 0)))
    refine c2 (P := q177) (r := ρ 1 + 768) (c := ρ 2) ?_ (by omega) (by omega)
    show q177 (ρ 1 + 768) (ρ 2)
    exact k177o (w := 12) (j := ρ 1) (by omega) (by omega) (by omega) q.1
set_option maxRecDepth 20000 in
/-- let426 -/
theorem lem_354_ok (hU : uqG G C) : lem_354.1.2.1 = [] ∧ lemOK (PRd G C D xs) G rgs lem_354 := by
  refine ⟨rfl, fun ρ h ha hT => ?_⟩
  obtain ⟨-, -, hF, hG, hH, hA, hP⟩ := ha
  have f0 : (0 : Int) ≤ ((0) + ((1) * ρ 1 + 0)) := hF _ (List.mem_of_getElem? (i := 0) rfl)
  have f1 : (0 : Int) ≤ ((3) + ((-1) * ρ 1 + 0)) := hF _ (List.mem_of_getElem? (i := 1) rfl)
  have g0 : G (ρ 0).toNat = 426 := by
    have q := (hG _ (List.mem_of_getElem? (i := 0) rfl)).2
    rwa [show ev ρ (0, [(0, 1)]) = ρ 0 from ev_v] at q
  have b0 : (0 : Int) ≤ ((0) + ((1) * ρ 1 + 0)) := b_aA (hA _ (List.mem_of_getElem? (i := 0) rfl))
  have q := let_rg hT (x := ρ 0) (j := ρ 1) (c := ρ 2) (w := 10) (hA _ (List.mem_of_getElem? (i := 0) rfl)) ev_v g0 rfl (show ρ 1 = ((0) + ((1) * ρ 1 + 0)) by omega) (by omega) ev_v (by decide +kernel)
  refine ⟨_, List.mem_cons_self, ρ, fun _ _ => rfl, fun q hq => absurd hq List.not_mem_nil, trivial, fun f hf => ?_, fun q hq => absurd hq List.not_mem_nil, fun q hq => absurd hq List.not_mem_nil, fun q hq => absurd hq List.not_mem_nil, fun q hq => ?_⟩
  · simp only [List.mem_cons, List.not_mem_nil, or_false] at hf
    rcases hf with rfl | rfl
    · show (0 : Int) ≤ ((-97) + ((1) * ρ 2 + 0))
      omega
    · show (0 : Int) ≤ ((122) + ((-1) * ρ 2 + 0))
      omega
  · simp only [List.mem_cons, List.not_mem_nil, or_false] at hq
    subst hq
    show q177 (((640) + ((1) * ρ 1 + 0))) (((0) + ((1) * ρ 2 + 0)))
    refine c2 (P := q177) (r := ρ 1 + 640) (c := ρ 2) ?_ (by omega) (by omega)
    show q177 (ρ 1 + 640) (ρ 2)
    exact k177o (w := 10) (j := ρ 1) (by omega) (by omega) (by omega) q.1
set_option maxRecDepth 20000 in
/-- let427 -/
theorem lem_355_ok (hU : uqG G C) : lem_355.1.2.1 = [] ∧ lemOK (PRd G C D xs) G rgs lem_355 := by
  refine ⟨rfl, fun ρ h ha hT => ?_⟩
  obtain ⟨-, -, hF, hG, hH, hA, hP⟩ := ha
  have f0 : (0 : Int) ≤ ((0) + ((1) * ρ 1 + 0)) := hF _ (List.mem_of_getElem? (i := 0) rfl)
  have f1 : (0 : Int) ≤ ((2) + ((-1) * ρ 1 + 0)) := hF _ (List.mem_of_getElem? (i := 1) rfl)
  have g0 : G (ρ 0).toNat = 427 := by
    have q := (hG _ (List.mem_of_getElem? (i := 0) rfl)).2
    rwa [show ev ρ (0, [(0, 1)]) = ρ 0 from ev_v] at q
  have b0 : (0 : Int) ≤ ((0) + ((1) * ρ 1 + 0)) := b_aA (hA _ (List.mem_of_getElem? (i := 0) rfl))
  have q := let_rg hT (x := ρ 0) (j := ρ 1) (c := ρ 2) (w := 13) (hA _ (List.mem_of_getElem? (i := 0) rfl)) ev_v g0 rfl (show ρ 1 = ((0) + ((1) * ρ 1 + 0)) by omega) (by omega) ev_v (by decide +kernel)
  refine ⟨_, List.mem_cons_self, ρ, fun _ _ => rfl, fun q hq => absurd hq List.not_mem_nil, trivial, fun f hf => ?_, fun q hq => absurd hq List.not_mem_nil, fun q hq => absurd hq List.not_mem_nil, fun q hq => absurd hq List.not_mem_nil, fun q hq => ?_⟩
  · simp only [List.mem_cons, List.not_mem_nil, or_false] at hf
    rcases hf with rfl | rfl
    · show (0 : Int) ≤ ((-97) + ((1) * ρ 2 + 0))
      omega
    · show (0 : Int) ≤ ((122) + ((-1) * ρ 2 + 0))
      omega
  · simp only [List.mem_cons, List.not_mem_nil, or_false] at hq
    subst hq
    show q177 (((832) + ((1) * ρ 1 + 0))) (((0) + ((1) * ρ 2 + 0)))
    refine c2 (P := q177) (r := ρ 1 + 832) (c := ρ 2) ?_ (by omega) (by omega)
    show q177 (ρ 1 + 832) (ρ 2)
    exact k177o (w := 13) (j := ρ 1) (by omega) (by omega) (by omega) q.1
set_option maxRecDepth 20000 in
/-- let428 -/
theorem lem_356_ok (hU : uqG G C) : lem_356.1.2.1 = [] ∧ lemOK (PRd G C D xs) G rgs lem_356 := by
  refine ⟨rfl, fun ρ h ha hT => ?_⟩
  obtain ⟨-, -, hF, hG, hH, hA, hP⟩ := ha
  have f0 : (0 : Int) ≤ ((0) + ((1) * ρ 1 + 0)) := hF _ (List.mem_of_getElem? (i := 0) rfl)
  have f1 : (0 : Int) ≤ ((2) + ((-1) * ρ 1 + 0)) := hF _ (List.mem_of_getElem? (i := 1) rfl)
  have g0 : G (ρ 0).toNat = 428 := by
    have q := (hG _ (List.mem_of_getElem? (i := 0) rfl)).2
    rwa [show ev ρ (0, [(0, 1)]) = ρ 0 from ev_v] at q
  have b0 : (0 : Int) ≤ ((0) + ((1) * ρ 1 + 0)) := b_aA (hA _ (List.mem_of_getElem? (i := 0) rfl))
  have q := let_rg hT (x := ρ 0) (j := ρ 1) (c := ρ 2) (w := 14) (hA _ (List.mem_of_getElem? (i := 0) rfl)) ev_v g0 rfl (show ρ 1 = ((0) + ((1) * ρ 1 + 0)) by omega) (by omega) ev_v (by decide +kernel)
  refine ⟨_, List.mem_cons_self, ρ, fun _ _ => rfl, fun q hq => absurd hq List.not_mem_nil, trivial, fun f hf => ?_, fun q hq => absurd hq List.not_mem_nil, fun q hq => absurd hq List.not_mem_nil, fun q hq => absurd hq List.not_mem_nil, fun q hq => ?_⟩
  · simp only [List.mem_cons, List.not_mem_nil, or_false] at hf
    rcases hf with rfl | rfl
    · show (0 : Int) ≤ ((-97) + ((1) * ρ 2 + 0))
      omega
    · show (0 : Int) ≤ ((122) + ((-1) * ρ 2 + 0))
      omega
  · simp only [List.mem_cons, List.not_mem_nil, or_false] at hq
    subst hq
    show q177 (((896) + ((1) * ρ 1 + 0))) (((0) + ((1) * ρ 2 + 0)))
    refine c2 (P := q177) (r := ρ 1 + 896) (c := ρ 2) ?_ (by omega) (by omega)
    show q177 (ρ 1 + 896) (ρ 2)
    exact k177o (w := 14) (j := ρ 1) (by omega) (by omega) (by omega) q.1
set_option maxRecDepth 20000 in
/-- let429 -/
theorem lem_357_ok (hU : uqG G C) : lem_357.1.2.1 = [] ∧ lemOK (PRd G C D xs) G rgs lem_357 := by
  refine ⟨rfl, fun ρ h ha hT => ?_⟩
  obtain ⟨-, -, hF, hG, hH, hA, hP⟩ := ha
  have f0 : (0 : Int) ≤ ((0) + ((1) * ρ 1 + 0)) := hF _ (List.mem_of_getElem? (i := 0) rfl)
  have f1 : (0 : Int) ≤ ((1) + ((-1) * ρ 1 + 0)) := hF _ (List.mem_of_getElem? (i := 1) rfl)
  have g0 : G (ρ 0).toNat = 429 := by
    have q := (hG _ (List.mem_of_getElem? (i := 0) rfl)).2
    rwa [show ev ρ (0, [(0, 1)]) = ρ 0 from ev_v] at q
  have b0 : (0 : Int) ≤ ((0) + ((1) * ρ 1 + 0)) := b_aA (hA _ (List.mem_of_getElem? (i := 0) rfl))
  have q := let_rg hT (x := ρ 0) (j := ρ 1) (c := ρ 2) (w := 15) (hA _ (List.mem_of_getElem? (i := 0) rfl)) ev_v g0 rfl (show ρ 1 = ((0) + ((1) * ρ 1 + 0)) by omega) (by omega) ev_v (by decide +kernel)
  refine ⟨_, List.mem_cons_self, ρ, fun _ _ => rfl, fun q hq => absurd hq List.not_mem_nil, trivial, fun f hf => ?_, fun q hq => absurd hq List.not_mem_nil, fun q hq => absurd hq List.not_mem_nil, fun q hq => absurd hq List.not_mem_nil, fun q hq => ?_⟩
  · simp only [List.mem_cons, List.not_mem_nil, or_false] at hf
    rcases hf with rfl | rfl
    · show (0 : Int) ≤ ((-97) + ((1) * ρ 2 + 0))
      omega
    · show (0 : Int) ≤ ((122) + ((-1) * ρ 2 + 0))
      omega
  · simp only [List.mem_cons, List.not_mem_nil, or_false] at hq
    subst hq
    show q177 (((960) + ((1) * ρ 1 + 0))) (((0) + ((1) * ρ 2 + 0)))
    refine c2 (P := q177) (r := ρ 1 + 960) (c := ρ 2) ?_ (by omega) (by omega)
    show q177 (ρ 1 + 960) (ρ 2)
    exact k177o (w := 15) (j := ρ 1) (by omega) (by omega) (by omega) q.1
/-- chM -/
theorem lem_358_ok (hU : uqG G C) : lem_358.1.2.1 = [] ∧ lemOK (PRd G C D xs) G rgs lem_358 := by
  refine ⟨rfl, fun ρ h ha hT => ?_⟩
  obtain ⟨-, -, hF, hG, hH, hA, hP⟩ := ha
  have f0 : (0 : Int) ≤ ((0) + ((1) * ρ 1 + 0)) := hF _ (List.mem_of_getElem? (i := 0) rfl)
  have f1 : (0 : Int) ≤ ((-1) + ((-1) * ρ 1 + ((1) * ρ 2 + 0))) := hF _ (List.mem_of_getElem? (i := 1) rfl)
  have f2 : (0 : Int) ≤ ((1200) + ((-1) * ρ 2 + 0)) := hF _ (List.mem_of_getElem? (i := 2) rfl)
  have g0 : G (ρ 0).toNat = 22 := by
    have q := (hG _ (List.mem_of_getElem? (i := 0) rfl)).2
    rwa [show ev ρ (0, [(0, 1)]) = ρ 0 from ev_v] at q
  have g1 : G (ρ 3).toNat = 125 := by
    have q := (hG _ (List.mem_of_getElem? (i := 1) rfl)).2
    rwa [show ev ρ (0, [(3, 1)]) = ρ 3 from ev_v] at q
  have h0 : (0 : Int) ≤ ρ 2 ∧ ρ 2 ≤ 1200 := hf_rg hT (hH _ (List.mem_of_getElem? (i := 0) rfl)) ev_v g0 rfl rfl rfl ev_v
  have b0 : (0 : Int) ≤ ((0) + ((1) * ρ 1 + 0)) := b_aA (hA _ (List.mem_of_getElem? (i := 0) rfl))
  have a0 : vw C h 125 ((ρ 1).toNat) = ρ 4 := vw_aA hU (hA _ (List.mem_of_getElem? (i := 0) rfl)) ev_v g1 (by omega) (by omega) (i := (ρ 1).toNat) (show ((((ρ 1).toNat : Nat)) : Int) = ((0) + ((1) * ρ 1 + 0)) by omega) ev_v
  have p0 : P170 (vw C h) (ρ 2) := c2 (P := (fun r (_ : Int) => P170 (vw C h) r)) (c := 0) (c' := 0) (show P170 (vw C h) (((0) + ((1) * ρ 2 + 0))) from hP _ (List.mem_of_getElem? (i := 0) rfl)) (by omega) rfl
  refine ⟨_, List.mem_cons_self, ρ, fun _ _ => rfl, fun q hq => absurd hq List.not_mem_nil, trivial, fun f hf => ?_, fun q hq => absurd hq List.not_mem_nil, fun q hq => absurd hq List.not_mem_nil, fun q hq => absurd hq List.not_mem_nil, fun q hq => ?_⟩
  · exact absurd hf List.not_mem_nil
  · simp only [List.mem_cons, List.not_mem_nil, or_false] at hq
    subst hq
    show q150 (tB (vw C h)) (((0) + ((1) * ρ 1 + 0))) (((0) + ((1) * ρ 4 + 0)))
    refine c2 (P := q150 (tB (vw C h))) (r := ρ 1) (c := ρ 4) ?_ (by omega) (by omega)
    show q150 (tB (vw C h)) (ρ 1) (ρ 4)
    exact (by_M (j := ρ 1) (b := ρ 4) p0 (by omega) (by omega) (by omega) a0).1
/-- regB -/
theorem lem_359_ok (hU : uqG G C) : lem_359.1.2.1 = [] ∧ lemOK (PRd G C D xs) G rgs lem_359 := by
  refine ⟨rfl, fun ρ h ha hT => ?_⟩
  obtain ⟨-, -, hF, hG, hH, hA, hP⟩ := ha
  have g0 : G (ρ 0).toNat = 22 := by
    have q := (hG _ (List.mem_of_getElem? (i := 0) rfl)).2
    rwa [show ev ρ (0, [(0, 1)]) = ρ 0 from ev_v] at q
  have h0 : (0 : Int) ≤ ρ 1 ∧ ρ 1 ≤ 1200 := hf_rg hT (hH _ (List.mem_of_getElem? (i := 0) rfl)) ev_v g0 rfl rfl rfl ev_v
  have p0 : q150 (tB (vw C h)) (ρ 1) (ρ 2) := c2 (P := q150 (tB (vw C h))) (show q150 (tB (vw C h)) (((0) + ((1) * ρ 1 + 0))) (((0) + ((1) * ρ 2 + 0))) from hP _ (List.mem_of_getElem? (i := 0) rfl)) (by omega) (by omega)
  refine ⟨_, List.mem_cons_self, ρ, fun _ _ => rfl, fun q hq => absurd hq List.not_mem_nil, trivial, fun f hf => ?_, fun q hq => absurd hq List.not_mem_nil, fun q hq => absurd hq List.not_mem_nil, fun q hq => absurd hq List.not_mem_nil, fun q hq => ?_⟩
  · exact absurd hf List.not_mem_nil
  · simp only [List.mem_cons, List.not_mem_nil, or_false] at hq
    subst hq
    show True
    refine c2 (P := (fun (_ _ : Int) => True)) (r := 0) (r' := 0) (c := 0) (c' := 0) ?_ rfl rfl
    show True
    trivial
/-- noEndM -/
theorem lem_360_ok (hU : uqG G C) : lem_360.1.2.1 = [] ∧ lemOK (PRd G C D xs) G rgs lem_360 := by
  refine ⟨rfl, fun ρ h ha hT => ?_⟩
  obtain ⟨-, -, hF, hG, hH, hA, hP⟩ := ha
  have f0 : (0 : Int) ≤ ((0) + ((-1) * ρ 1 + ((1) * ρ 2 + 0))) := hF _ (List.mem_of_getElem? (i := 0) rfl)
  have f1 : (0 : Int) ≤ ((-1) + ((1) * ρ 1 + ((-1) * ρ 2 + 0))) := hF _ (List.mem_of_getElem? (i := 1) rfl)
  have g0 : G (ρ 0).toNat = 22 := by
    have q := (hG _ (List.mem_of_getElem? (i := 0) rfl)).2
    rwa [show ev ρ (0, [(0, 1)]) = ρ 0 from ev_v] at q
  have h0 : (0 : Int) ≤ ρ 1 ∧ ρ 1 ≤ 1200 := hf_rg hT (hH _ (List.mem_of_getElem? (i := 0) rfl)) ev_v g0 rfl rfl rfl ev_v
  have h1 : (0 : Int) ≤ ρ 2 ∧ ρ 2 ≤ 1200 := hf_rg hT (hH _ (List.mem_of_getElem? (i := 1) rfl)) ev_v g0 rfl rfl rfl ev_v
  omega
/-- chSame -/
theorem lem_361_ok (hU : uqG G C) : lem_361.1.2.1 = [] ∧ lemOK (PRd G C D xs) G rgs lem_361 := by
  refine ⟨rfl, fun ρ h ha hT => ?_⟩
  obtain ⟨-, -, hF, hG, hH, hA, hP⟩ := ha
  have f0 : (0 : Int) ≤ ((0) + ((1) * ρ 1 + 0)) := hF _ (List.mem_of_getElem? (i := 0) rfl)
  have f1 : (0 : Int) ≤ ((255) + ((-1) * ρ 1 + 0)) := hF _ (List.mem_of_getElem? (i := 1) rfl)
  have f2 : (0 : Int) ≤ ((0) + ((1) * ρ 3 + 0)) := hF _ (List.mem_of_getElem? (i := 2) rfl)
  have f3 : (0 : Int) ≤ ((255) + ((-1) * ρ 3 + 0)) := hF _ (List.mem_of_getElem? (i := 3) rfl)
  have g0 : G (ρ 0).toNat = 22 := by
    have q := (hG _ (List.mem_of_getElem? (i := 0) rfl)).2
    rwa [show ev ρ (0, [(0, 1)]) = ρ 0 from ev_v] at q
  have h0 : (0 : Int) ≤ ρ 2 ∧ ρ 2 ≤ 1200 := hf_rg hT (hH _ (List.mem_of_getElem? (i := 0) rfl)) ev_v g0 rfl rfl rfl ev_v
  have p0 : True := c2 (P := (fun (_ _ : Int) => True)) (r := 0) (r' := 0) (c := 0) (c' := 0) (show True from hP _ (List.mem_of_getElem? (i := 0) rfl)) rfl rfl
  have p1 : q150 (tB (vw C h)) (ρ 2) (ρ 1) := c2 (P := q150 (tB (vw C h))) (show q150 (tB (vw C h)) (((0) + ((1) * ρ 2 + 0))) (((0) + ((1) * ρ 1 + 0))) from hP _ (List.mem_of_getElem? (i := 1) rfl)) (by omega) (by omega)
  have p2 : q150 (tB (vw C h)) (ρ 2) (ρ 3) := c2 (P := q150 (tB (vw C h))) (show q150 (tB (vw C h)) (((0) + ((1) * ρ 2 + 0))) (((0) + ((1) * ρ 3 + 0))) from hP _ (List.mem_of_getElem? (i := 2) rfl)) (by omega) (by omega)
  have q1 := p1.2.2
  have q2 := p2.2.2
  refine ⟨_, List.mem_cons_self, ρ, fun _ _ => rfl, fun q hq => absurd hq List.not_mem_nil, trivial, fun f hf => ?_, fun q hq => absurd hq List.not_mem_nil, fun q hq => absurd hq List.not_mem_nil, fun q hq => absurd hq List.not_mem_nil, fun q hq => ?_⟩
  · simp only [List.mem_cons, List.not_mem_nil, or_false] at hf
    rcases hf with rfl | rfl
    · show (0 : Int) ≤ ((0) + ((-1) * ρ 1 + ((1) * ρ 3 + 0)))
      omega
    · show (0 : Int) ≤ ((0) + ((1) * ρ 1 + ((-1) * ρ 3 + 0)))
      omega
  · exact absurd hq List.not_mem_nil
/-- pv0C -/
theorem lem_362_ok (hU : uqG G C) : lem_362.1.2.1 = [] ∧ lemOK (PRd G C D xs) G rgs lem_362 := by
  refine ⟨rfl, fun ρ h ha hT => ?_⟩
  obtain ⟨-, -, hF, hG, hH, hA, hP⟩ := ha
  have f0 : (0 : Int) ≤ ((0) + ((1) * ρ 1 + 0)) := hF _ (List.mem_of_getElem? (i := 0) rfl)
  have f1 : (0 : Int) ≤ ((1200) + ((-1) * ρ 1 + 0)) := hF _ (List.mem_of_getElem? (i := 1) rfl)
  have g0 : G (ρ 0).toNat = 17 := by
    have q := (hG _ (List.mem_of_getElem? (i := 0) rfl)).2
    rwa [show ev ρ (0, [(0, 1)]) = ρ 0 from ev_v] at q
  have h0 : (0 : Int) ≤ ρ 1 ∧ ρ 1 ≤ 1200 := hf_rg hT (hH _ (List.mem_of_getElem? (i := 0) rfl)) ev_v g0 rfl rfl rfl ev_v
  refine ⟨_, List.mem_cons_self, ρ, fun _ _ => rfl, fun q hq => absurd hq List.not_mem_nil, trivial, fun f hf => ?_, fun q hq => absurd hq List.not_mem_nil, fun q hq => absurd hq List.not_mem_nil, fun q hq => absurd hq List.not_mem_nil, fun q hq => ?_⟩
  · exact absurd hf List.not_mem_nil
  · simp only [List.mem_cons, List.not_mem_nil, or_false] at hq
    subst hq
    show q156 (tB (vw C h)) (((0) + ((1) * ρ 1 + 0))) (((-1) + 0))
    refine c2 (P := q156 (tB (vw C h))) (r := ρ 1) (c := ((-1) : Int)) ?_ (by omega) (by omega)
    show q156 (tB (vw C h)) (ρ 1) (((-1) : Int))
    exact Or.inl ⟨by omega, by unfold ts; omega⟩
/-- wfailC -/
theorem lem_363_ok (hU : uqG G C) : lem_363.1.2.1 = [] ∧ lemOK (PRd G C D xs) G rgs lem_363 := by
  refine ⟨rfl, fun ρ h ha hT => ?_⟩
  obtain ⟨-, -, hF, hG, hH, hA, hP⟩ := ha
  have f0 : (0 : Int) ≤ ((0) + ((1) * ρ 3 + 0)) := hF _ (List.mem_of_getElem? (i := 0) rfl)
  have f1 : (0 : Int) ≤ ((1200) + ((-1) * ρ 3 + 0)) := hF _ (List.mem_of_getElem? (i := 1) rfl)
  have f2 : (0 : Int) ≤ ((0) + ((1) * ρ 4 + 0)) := hF _ (List.mem_of_getElem? (i := 2) rfl)
  have f3 : (0 : Int) ≤ ((0) + ((1) * ρ 3 + ((-1) * ρ 4 + 0))) := hF _ (List.mem_of_getElem? (i := 3) rfl)
  have f4 : (0 : Int) ≤ ((0) + ((1) * ρ 1 + 0)) := hF _ (List.mem_of_getElem? (i := 4) rfl)
  have g0 : G (ρ 0).toNat = 14 := by
    have q := (hG _ (List.mem_of_getElem? (i := 0) rfl)).2
    rwa [show ev ρ (0, [(0, 1)]) = ρ 0 from ev_v] at q
  have g1 : G (ρ 2).toNat = 17 := by
    have q := (hG _ (List.mem_of_getElem? (i := 1) rfl)).2
    rwa [show ev ρ (0, [(2, 1)]) = ρ 2 from ev_v] at q
  have h1 : (0 : Int) ≤ ρ 3 ∧ ρ 3 ≤ 1200 := hf_rg hT (hH _ (List.mem_of_getElem? (i := 1) rfl)) ev_v g1 rfl rfl rfl ev_v
  have h2 : (0 : Int) ≤ ρ 4 ∧ ρ 4 ≤ 1200 := hf_rg hT (hH _ (List.mem_of_getElem? (i := 2) rfl)) ev_v g1 rfl rfl rfl ev_v
  have p0 : q159 (tB (vw C h)) (4194304 * ρ 1 + ρ 3 + 2048 * ρ 4) ((0 : Int)) := c2 (P := q159 (tB (vw C h))) (show q159 (tB (vw C h)) (((0) + ((4194304) * ρ 1 + ((1) * ρ 3 + ((2048) * ρ 4 + 0))))) (((0) + 0)) from hP _ (List.mem_of_getElem? (i := 0) rfl)) (by omega) (by omega)
  have p1 : q165 (tB (vw C h)) (4194304 * ρ 1 + ρ 3 + 2048 * ρ 4) := c2 (P := (fun r (_ : Int) => q165 (tB (vw C h)) r)) (c := 0) (c' := 0) (show q165 (tB (vw C h)) (((0) + ((4194304) * ρ 1 + ((1) * ρ 3 + ((2048) * ρ 4 + 0))))) from hP _ (List.mem_of_getElem? (i := 1) rfl)) (by omega) rfl
  have q := k165 (n := ρ 3) (s := ρ 4) (w := ρ 1) (by omega) (by omega) (by omega) (by omega) (by omega) (by omega) p1 (b01_0 (by have q := k159 (n := ρ 3) (s := ρ 4) (w := ρ 1) (by omega) (by omega) (by omega) (by omega) (by omega) (by omega) p0; omega))
  refine ⟨_, List.mem_cons_self, ρ, fun _ _ => rfl, fun q hq => absurd hq List.not_mem_nil, trivial, fun f hf => ?_, fun q hq => absurd hq List.not_mem_nil, fun q hq => absurd hq List.not_mem_nil, fun q hq => absurd hq List.not_mem_nil, fun q hq => ?_⟩
  · exact absurd hf List.not_mem_nil
  · simp only [List.mem_cons, List.not_mem_nil, or_false] at hq
    subst hq
    show q166 (tB (vw C h)) (((0) + ((1) * ρ 3 + 0))) (((4096) + ((1) * ρ 4 + 0)))
    refine c2 (P := q166 (tB (vw C h))) (r := ρ 3) (c := ρ 4 + 4096) ?_ (by omega) (by omega)
    show q166 (tB (vw C h)) (ρ 3) (ρ 4 + 4096)
    exact o166 (k := 4096) (n := ρ 3) (s := ρ 4) (by omega) q (by omega) rfl (by omega)
/-- nfKLoC -/
theorem lem_364_ok (hU : uqG G C) : lem_364.1.2.1 = [] ∧ lemOK (PRd G C D xs) G rgs lem_364 := by
  refine ⟨rfl, fun ρ h ha hT => ?_⟩
  obtain ⟨-, -, hF, hG, hH, hA, hP⟩ := ha
  have f0 : (0 : Int) ≤ ((0) + ((1) * ρ 4 + 0)) := hF _ (List.mem_of_getElem? (i := 0) rfl)
  have f1 : (0 : Int) ≤ ((1200) + ((-1) * ρ 4 + 0)) := hF _ (List.mem_of_getElem? (i := 1) rfl)
  have f2 : (0 : Int) ≤ ((0) + ((1) * ρ 5 + 0)) := hF _ (List.mem_of_getElem? (i := 2) rfl)
  have f3 : (0 : Int) ≤ ((0) + ((1) * ρ 4 + ((-1) * ρ 5 + 0))) := hF _ (List.mem_of_getElem? (i := 3) rfl)
  have f4 : (0 : Int) ≤ ((0) + ((1) * ρ 1 + 0)) := hF _ (List.mem_of_getElem? (i := 4) rfl)
  have f5 : (0 : Int) ≤ ((16383) + ((-1) * ρ 1 + 0)) := hF _ (List.mem_of_getElem? (i := 5) rfl)
  have f6 : (0 : Int) ≤ ((1) + ((1) * ρ 2 + 0)) := hF _ (List.mem_of_getElem? (i := 6) rfl)
  have f7 : (0 : Int) ≤ ((16382) + ((-1) * ρ 2 + 0)) := hF _ (List.mem_of_getElem? (i := 7) rfl)
  have f8 : (0 : Int) ≤ ((1) + ((-1) * ρ 6 + 0)) := hF _ (List.mem_of_getElem? (i := 8) rfl)
  have g0 : G (ρ 0).toNat = 14 := by
    have q := (hG _ (List.mem_of_getElem? (i := 0) rfl)).2
    rwa [show ev ρ (0, [(0, 1)]) = ρ 0 from ev_v] at q
  have g1 : G (ρ 3).toNat = 17 := by
    have q := (hG _ (List.mem_of_getElem? (i := 1) rfl)).2
    rwa [show ev ρ (0, [(3, 1)]) = ρ 3 from ev_v] at q
  have h1 : (0 : Int) ≤ ρ 4 ∧ ρ 4 ≤ 1200 := hf_rg hT (hH _ (List.mem_of_getElem? (i := 1) rfl)) ev_v g1 rfl rfl rfl ev_v
  have h2 : (0 : Int) ≤ ρ 5 ∧ ρ 5 ≤ 1200 := hf_rg hT (hH _ (List.mem_of_getElem? (i := 2) rfl)) ev_v g1 rfl rfl rfl ev_v
  have p0 : q155 (tB (vw C h)) (ρ 4 + 2048 * ρ 5) (ρ 6) := c2 (P := q155 (tB (vw C h))) (show q155 (tB (vw C h)) (((0) + ((1) * ρ 4 + ((2048) * ρ 5 + 0)))) (((0) + ((1) * ρ 6 + 0))) from hP _ (List.mem_of_getElem? (i := 0) rfl)) (by omega) (by omega)
  have p1 : q163 (tB (vw C h)) (4194304 * ρ 1 + 68719476736 * ρ 2 + ρ 4 + 2048 * ρ 5 + 68719476736) := c2 (P := (fun r (_ : Int) => q163 (tB (vw C h)) r)) (c := 0) (c' := 0) (show q163 (tB (vw C h)) (((68719476736) + ((4194304) * ρ 1 + ((68719476736) * ρ 2 + ((1) * ρ 4 + ((2048) * ρ 5 + 0)))))) from hP _ (List.mem_of_getElem? (i := 1) rfl)) (by omega) rfl
  have kk := k155 (n := ρ 4) (s := ρ 5) (by omega) (by omega) (by omega) (by omega) (by omega) p0
  have q := (k163 (n := ρ 4) (s := ρ 5) (lo := ρ 1) (hi := ρ 2) (by omega) (by omega) (by omega) (by omega) (by omega) (by omega) (by omega) p1).1 (by omega)
  refine ⟨_, List.mem_cons_self, ρ, fun _ _ => rfl, fun q hq => absurd hq List.not_mem_nil, trivial, fun f hf => ?_, fun q hq => absurd hq List.not_mem_nil, fun q hq => absurd hq List.not_mem_nil, fun q hq => absurd hq List.not_mem_nil, fun q hq => ?_⟩
  · exact absurd hf List.not_mem_nil
  · simp only [List.mem_cons, List.not_mem_nil, or_false] at hq
    subst hq
    show q166 (tB (vw C h)) (((0) + ((1) * ρ 4 + 0))) (((4096) + ((1) * ρ 5 + 0)))
    refine c2 (P := q166 (tB (vw C h))) (r := ρ 4) (c := ρ 5 + 4096) ?_ (by omega) (by omega)
    show q166 (tB (vw C h)) (ρ 4) (ρ 5 + 4096)
    exact o166 (k := 4096) (n := ρ 4) (s := ρ 5) (by omega) q (by omega) rfl (by omega)
/-- nfKHiC -/
theorem lem_365_ok (hU : uqG G C) : lem_365.1.2.1 = [] ∧ lemOK (PRd G C D xs) G rgs lem_365 := by
  refine ⟨rfl, fun ρ h ha hT => ?_⟩
  obtain ⟨-, -, hF, hG, hH, hA, hP⟩ := ha
  have f0 : (0 : Int) ≤ ((0) + ((1) * ρ 4 + 0)) := hF _ (List.mem_of_getElem? (i := 0) rfl)
  have f1 : (0 : Int) ≤ ((1200) + ((-1) * ρ 4 + 0)) := hF _ (List.mem_of_getElem? (i := 1) rfl)
  have f2 : (0 : Int) ≤ ((0) + ((1) * ρ 5 + 0)) := hF _ (List.mem_of_getElem? (i := 2) rfl)
  have f3 : (0 : Int) ≤ ((0) + ((1) * ρ 4 + ((-1) * ρ 5 + 0))) := hF _ (List.mem_of_getElem? (i := 3) rfl)
  have f4 : (0 : Int) ≤ ((0) + ((1) * ρ 1 + 0)) := hF _ (List.mem_of_getElem? (i := 4) rfl)
  have f5 : (0 : Int) ≤ ((16383) + ((-1) * ρ 1 + 0)) := hF _ (List.mem_of_getElem? (i := 5) rfl)
  have f6 : (0 : Int) ≤ ((1) + ((1) * ρ 2 + 0)) := hF _ (List.mem_of_getElem? (i := 6) rfl)
  have f7 : (0 : Int) ≤ ((16382) + ((-1) * ρ 2 + 0)) := hF _ (List.mem_of_getElem? (i := 7) rfl)
  have f8 : (0 : Int) ≤ ((-3) + ((1) * ρ 6 + 0)) := hF _ (List.mem_of_getElem? (i := 8) rfl)
  have g0 : G (ρ 0).toNat = 14 := by
    have q := (hG _ (List.mem_of_getElem? (i := 0) rfl)).2
    rwa [show ev ρ (0, [(0, 1)]) = ρ 0 from ev_v] at q
  have g1 : G (ρ 3).toNat = 17 := by
    have q := (hG _ (List.mem_of_getElem? (i := 1) rfl)).2
    rwa [show ev ρ (0, [(3, 1)]) = ρ 3 from ev_v] at q
  have h1 : (0 : Int) ≤ ρ 4 ∧ ρ 4 ≤ 1200 := hf_rg hT (hH _ (List.mem_of_getElem? (i := 1) rfl)) ev_v g1 rfl rfl rfl ev_v
  have h2 : (0 : Int) ≤ ρ 5 ∧ ρ 5 ≤ 1200 := hf_rg hT (hH _ (List.mem_of_getElem? (i := 2) rfl)) ev_v g1 rfl rfl rfl ev_v
  have p0 : q155 (tB (vw C h)) (ρ 4 + 2048 * ρ 5) (ρ 6) := c2 (P := q155 (tB (vw C h))) (show q155 (tB (vw C h)) (((0) + ((1) * ρ 4 + ((2048) * ρ 5 + 0)))) (((0) + ((1) * ρ 6 + 0))) from hP _ (List.mem_of_getElem? (i := 0) rfl)) (by omega) (by omega)
  have p1 : q163 (tB (vw C h)) (4194304 * ρ 1 + 68719476736 * ρ 2 + ρ 4 + 2048 * ρ 5 + 68719476736) := c2 (P := (fun r (_ : Int) => q163 (tB (vw C h)) r)) (c := 0) (c' := 0) (show q163 (tB (vw C h)) (((68719476736) + ((4194304) * ρ 1 + ((68719476736) * ρ 2 + ((1) * ρ 4 + ((2048) * ρ 5 + 0)))))) from hP _ (List.mem_of_getElem? (i := 1) rfl)) (by omega) rfl
  have kk := k155 (n := ρ 4) (s := ρ 5) (by omega) (by omega) (by omega) (by omega) (by omega) p0
  have q := (k163 (n := ρ 4) (s := ρ 5) (lo := ρ 1) (hi := ρ 2) (by omega) (by omega) (by omega) (by omega) (by omega) (by omega) (by omega) p1).1 (by omega)
  refine ⟨_, List.mem_cons_self, ρ, fun _ _ => rfl, fun q hq => absurd hq List.not_mem_nil, trivial, fun f hf => ?_, fun q hq => absurd hq List.not_mem_nil, fun q hq => absurd hq List.not_mem_nil, fun q hq => absurd hq List.not_mem_nil, fun q hq => ?_⟩
  · exact absurd hf List.not_mem_nil
  · simp only [List.mem_cons, List.not_mem_nil, or_false] at hq
    subst hq
    show q166 (tB (vw C h)) (((0) + ((1) * ρ 4 + 0))) (((4096) + ((1) * ρ 5 + 0)))
    refine c2 (P := q166 (tB (vw C h))) (r := ρ 4) (c := ρ 5 + 4096) ?_ (by omega) (by omega)
    show q166 (tB (vw C h)) (ρ 4) (ρ 5 + 4096)
    exact o166 (k := 4096) (n := ρ 4) (s := ρ 5) (by omega) q (by omega) rfl (by omega)
/-- nfLoC -/
theorem lem_366_ok (hU : uqG G C) : lem_366.1.2.1 = [] ∧ lemOK (PRd G C D xs) G rgs lem_366 := by
  refine ⟨rfl, fun ρ h ha hT => ?_⟩
  obtain ⟨-, -, hF, hG, hH, hA, hP⟩ := ha
  have f0 : (0 : Int) ≤ ((0) + ((1) * ρ 4 + 0)) := hF _ (List.mem_of_getElem? (i := 0) rfl)
  have f1 : (0 : Int) ≤ ((1200) + ((-1) * ρ 4 + 0)) := hF _ (List.mem_of_getElem? (i := 1) rfl)
  have f2 : (0 : Int) ≤ ((0) + ((1) * ρ 5 + 0)) := hF _ (List.mem_of_getElem? (i := 2) rfl)
  have f3 : (0 : Int) ≤ ((0) + ((1) * ρ 4 + ((-1) * ρ 5 + 0))) := hF _ (List.mem_of_getElem? (i := 3) rfl)
  have f4 : (0 : Int) ≤ ((0) + ((1) * ρ 1 + 0)) := hF _ (List.mem_of_getElem? (i := 4) rfl)
  have f5 : (0 : Int) ≤ ((16383) + ((-1) * ρ 1 + 0)) := hF _ (List.mem_of_getElem? (i := 5) rfl)
  have f6 : (0 : Int) ≤ ((1) + ((1) * ρ 2 + 0)) := hF _ (List.mem_of_getElem? (i := 6) rfl)
  have f7 : (0 : Int) ≤ ((16382) + ((-1) * ρ 2 + 0)) := hF _ (List.mem_of_getElem? (i := 7) rfl)
  have f8 : (0 : Int) ≤ ((-2) + ((1) * ρ 6 + 0)) := hF _ (List.mem_of_getElem? (i := 8) rfl)
  have f9 : (0 : Int) ≤ ((2) + ((-1) * ρ 6 + 0)) := hF _ (List.mem_of_getElem? (i := 9) rfl)
  have f10 : (0 : Int) ≤ ((-1) + ((1) * ρ 1 + ((-1) * ρ 7 + 0))) := hF _ (List.mem_of_getElem? (i := 10) rfl)
  have g0 : G (ρ 0).toNat = 14 := by
    have q := (hG _ (List.mem_of_getElem? (i := 0) rfl)).2
    rwa [show ev ρ (0, [(0, 1)]) = ρ 0 from ev_v] at q
  have g1 : G (ρ 3).toNat = 17 := by
    have q := (hG _ (List.mem_of_getElem? (i := 1) rfl)).2
    rwa [show ev ρ (0, [(3, 1)]) = ρ 3 from ev_v] at q
  have h1 : (0 : Int) ≤ ρ 4 ∧ ρ 4 ≤ 1200 := hf_rg hT (hH _ (List.mem_of_getElem? (i := 1) rfl)) ev_v g1 rfl rfl rfl ev_v
  have h2 : (0 : Int) ≤ ρ 5 ∧ ρ 5 ≤ 1200 := hf_rg hT (hH _ (List.mem_of_getElem? (i := 2) rfl)) ev_v g1 rfl rfl rfl ev_v
  have p0 : q155 (tB (vw C h)) (ρ 4 + 2048 * ρ 5) (ρ 6) := c2 (P := q155 (tB (vw C h))) (show q155 (tB (vw C h)) (((0) + ((1) * ρ 4 + ((2048) * ρ 5 + 0)))) (((0) + ((1) * ρ 6 + 0))) from hP _ (List.mem_of_getElem? (i := 0) rfl)) (by omega) (by omega)
  have p1 : q157 (tB (vw C h)) (ρ 4 + 2048 * ρ 5) (ρ 7) := c2 (P := q157 (tB (vw C h))) (show q157 (tB (vw C h)) (((0) + ((1) * ρ 4 + ((2048) * ρ 5 + 0)))) (((0) + ((1) * ρ 7 + 0))) from hP _ (List.mem_of_getElem? (i := 1) rfl)) (by omega) (by omega)
  have p2 : q163 (tB (vw C h)) (4194304 * ρ 1 + 68719476736 * ρ 2 + ρ 4 + 2048 * ρ 5 + 68719476736) := c2 (P := (fun r (_ : Int) => q163 (tB (vw C h)) r)) (c := 0) (c' := 0) (show q163 (tB (vw C h)) (((68719476736) + ((4194304) * ρ 1 + ((68719476736) * ρ 2 + ((1) * ρ 4 + ((2048) * ρ 5 + 0)))))) from hP _ (List.mem_of_getElem? (i := 2) rfl)) (by omega) rfl
  have kk := k155 (n := ρ 4) (s := ρ 5) (by omega) (by omega) (by omega) (by omega) (by omega) p0
  have k2 : tKd (tB (vw C h)) (ρ 4).toNat (ρ 5).toNat = 2 := by omega
  have kv := k157 (n := ρ 4) (s := ρ 5) (by omega) (by omega) (by omega) (by omega) (by omega) k2 p1
  have q := (k163 (n := ρ 4) (s := ρ 5) (lo := ρ 1) (hi := ρ 2) (by omega) (by omega) (by omega) (by omega) (by omega) (by omega) (by omega) p2).2 k2 (by omega)
  refine ⟨_, List.mem_cons_self, ρ, fun _ _ => rfl, fun q hq => absurd hq List.not_mem_nil, trivial, fun f hf => ?_, fun q hq => absurd hq List.not_mem_nil, fun q hq => absurd hq List.not_mem_nil, fun q hq => absurd hq List.not_mem_nil, fun q hq => ?_⟩
  · exact absurd hf List.not_mem_nil
  · simp only [List.mem_cons, List.not_mem_nil, or_false] at hq
    subst hq
    show q166 (tB (vw C h)) (((0) + ((1) * ρ 4 + 0))) (((8192) + ((1) * ρ 5 + 0)))
    refine c2 (P := q166 (tB (vw C h))) (r := ρ 4) (c := ρ 5 + 8192) ?_ (by omega) (by omega)
    show q166 (tB (vw C h)) (ρ 4) (ρ 5 + 8192)
    exact o166 (k := 8192) (n := ρ 4) (s := ρ 5) (by omega) q (by omega) rfl (by omega)
/-- nfHiC -/
theorem lem_367_ok (hU : uqG G C) : lem_367.1.2.1 = [] ∧ lemOK (PRd G C D xs) G rgs lem_367 := by
  refine ⟨rfl, fun ρ h ha hT => ?_⟩
  obtain ⟨-, -, hF, hG, hH, hA, hP⟩ := ha
  have f0 : (0 : Int) ≤ ((0) + ((1) * ρ 4 + 0)) := hF _ (List.mem_of_getElem? (i := 0) rfl)
  have f1 : (0 : Int) ≤ ((1200) + ((-1) * ρ 4 + 0)) := hF _ (List.mem_of_getElem? (i := 1) rfl)
  have f2 : (0 : Int) ≤ ((0) + ((1) * ρ 5 + 0)) := hF _ (List.mem_of_getElem? (i := 2) rfl)
  have f3 : (0 : Int) ≤ ((0) + ((1) * ρ 4 + ((-1) * ρ 5 + 0))) := hF _ (List.mem_of_getElem? (i := 3) rfl)
  have f4 : (0 : Int) ≤ ((0) + ((1) * ρ 1 + 0)) := hF _ (List.mem_of_getElem? (i := 4) rfl)
  have f5 : (0 : Int) ≤ ((16383) + ((-1) * ρ 1 + 0)) := hF _ (List.mem_of_getElem? (i := 5) rfl)
  have f6 : (0 : Int) ≤ ((1) + ((1) * ρ 2 + 0)) := hF _ (List.mem_of_getElem? (i := 6) rfl)
  have f7 : (0 : Int) ≤ ((16382) + ((-1) * ρ 2 + 0)) := hF _ (List.mem_of_getElem? (i := 7) rfl)
  have f8 : (0 : Int) ≤ ((-2) + ((1) * ρ 6 + 0)) := hF _ (List.mem_of_getElem? (i := 8) rfl)
  have f9 : (0 : Int) ≤ ((2) + ((-1) * ρ 6 + 0)) := hF _ (List.mem_of_getElem? (i := 9) rfl)
  have f10 : (0 : Int) ≤ ((-1) + ((-1) * ρ 2 + ((1) * ρ 7 + 0))) := hF _ (List.mem_of_getElem? (i := 10) rfl)
  have g0 : G (ρ 0).toNat = 14 := by
    have q := (hG _ (List.mem_of_getElem? (i := 0) rfl)).2
    rwa [show ev ρ (0, [(0, 1)]) = ρ 0 from ev_v] at q
  have g1 : G (ρ 3).toNat = 17 := by
    have q := (hG _ (List.mem_of_getElem? (i := 1) rfl)).2
    rwa [show ev ρ (0, [(3, 1)]) = ρ 3 from ev_v] at q
  have h1 : (0 : Int) ≤ ρ 4 ∧ ρ 4 ≤ 1200 := hf_rg hT (hH _ (List.mem_of_getElem? (i := 1) rfl)) ev_v g1 rfl rfl rfl ev_v
  have h2 : (0 : Int) ≤ ρ 5 ∧ ρ 5 ≤ 1200 := hf_rg hT (hH _ (List.mem_of_getElem? (i := 2) rfl)) ev_v g1 rfl rfl rfl ev_v
  have p0 : q155 (tB (vw C h)) (ρ 4 + 2048 * ρ 5) (ρ 6) := c2 (P := q155 (tB (vw C h))) (show q155 (tB (vw C h)) (((0) + ((1) * ρ 4 + ((2048) * ρ 5 + 0)))) (((0) + ((1) * ρ 6 + 0))) from hP _ (List.mem_of_getElem? (i := 0) rfl)) (by omega) (by omega)
  have p1 : q157 (tB (vw C h)) (ρ 4 + 2048 * ρ 5) (ρ 7) := c2 (P := q157 (tB (vw C h))) (show q157 (tB (vw C h)) (((0) + ((1) * ρ 4 + ((2048) * ρ 5 + 0)))) (((0) + ((1) * ρ 7 + 0))) from hP _ (List.mem_of_getElem? (i := 1) rfl)) (by omega) (by omega)
  have p2 : q163 (tB (vw C h)) (4194304 * ρ 1 + 68719476736 * ρ 2 + ρ 4 + 2048 * ρ 5 + 68719476736) := c2 (P := (fun r (_ : Int) => q163 (tB (vw C h)) r)) (c := 0) (c' := 0) (show q163 (tB (vw C h)) (((68719476736) + ((4194304) * ρ 1 + ((68719476736) * ρ 2 + ((1) * ρ 4 + ((2048) * ρ 5 + 0)))))) from hP _ (List.mem_of_getElem? (i := 2) rfl)) (by omega) rfl
  have kk := k155 (n := ρ 4) (s := ρ 5) (by omega) (by omega) (by omega) (by omega) (by omega) p0
  have k2 : tKd (tB (vw C h)) (ρ 4).toNat (ρ 5).toNat = 2 := by omega
  have kv := k157 (n := ρ 4) (s := ρ 5) (by omega) (by omega) (by omega) (by omega) (by omega) k2 p1
  have q := (k163 (n := ρ 4) (s := ρ 5) (lo := ρ 1) (hi := ρ 2) (by omega) (by omega) (by omega) (by omega) (by omega) (by omega) (by omega) p2).2 k2 (by omega)
  refine ⟨_, List.mem_cons_self, ρ, fun _ _ => rfl, fun q hq => absurd hq List.not_mem_nil, trivial, fun f hf => ?_, fun q hq => absurd hq List.not_mem_nil, fun q hq => absurd hq List.not_mem_nil, fun q hq => absurd hq List.not_mem_nil, fun q hq => ?_⟩
  · exact absurd hf List.not_mem_nil
  · simp only [List.mem_cons, List.not_mem_nil, or_false] at hq
    subst hq
    show q166 (tB (vw C h)) (((0) + ((1) * ρ 4 + 0))) (((8192) + ((1) * ρ 5 + 0)))
    refine c2 (P := q166 (tB (vw C h))) (r := ρ 4) (c := ρ 5 + 8192) ?_ (by omega) (by omega)
    show q166 (tB (vw C h)) (ρ 4) (ρ 5 + 8192)
    exact o166 (k := 8192) (n := ρ 4) (s := ρ 5) (by omega) q (by omega) rfl (by omega)
/-- nvOKC -/
theorem lem_368_ok (hU : uqG G C) : lem_368.1.2.1 = [] ∧ lemOK (PRd G C D xs) G rgs lem_368 := by
  refine ⟨rfl, fun ρ h ha hT => ?_⟩
  obtain ⟨-, -, hF, hG, hH, hA, hP⟩ := ha
  have f0 : (0 : Int) ≤ ((0) + ((1) * ρ 2 + 0)) := hF _ (List.mem_of_getElem? (i := 0) rfl)
  have f1 : (0 : Int) ≤ ((1200) + ((-1) * ρ 2 + 0)) := hF _ (List.mem_of_getElem? (i := 1) rfl)
  have f2 : (0 : Int) ≤ ((0) + ((1) * ρ 3 + 0)) := hF _ (List.mem_of_getElem? (i := 2) rfl)
  have f3 : (0 : Int) ≤ ((0) + ((1) * ρ 2 + ((-1) * ρ 3 + 0))) := hF _ (List.mem_of_getElem? (i := 3) rfl)
  have f4 : (0 : Int) ≤ ((-2) + ((1) * ρ 4 + 0)) := hF _ (List.mem_of_getElem? (i := 4) rfl)
  have f5 : (0 : Int) ≤ ((2) + ((-1) * ρ 4 + 0)) := hF _ (List.mem_of_getElem? (i := 5) rfl)
  have g0 : G (ρ 0).toNat = 14 := by
    have q := (hG _ (List.mem_of_getElem? (i := 0) rfl)).2
    rwa [show ev ρ (0, [(0, 1)]) = ρ 0 from ev_v] at q
  have g1 : G (ρ 1).toNat = 17 := by
    have q := (hG _ (List.mem_of_getElem? (i := 1) rfl)).2
    rwa [show ev ρ (0, [(1, 1)]) = ρ 1 from ev_v] at q
  have h1 : (0 : Int) ≤ ρ 2 ∧ ρ 2 ≤ 1200 := hf_rg hT (hH _ (List.mem_of_getElem? (i := 1) rfl)) ev_v g1 rfl rfl rfl ev_v
  have h2 : (0 : Int) ≤ ρ 3 ∧ ρ 3 ≤ 1200 := hf_rg hT (hH _ (List.mem_of_getElem? (i := 2) rfl)) ev_v g1 rfl rfl rfl ev_v
  have p0 : q155 (tB (vw C h)) (ρ 2 + 2048 * ρ 3) (ρ 4) := c2 (P := q155 (tB (vw C h))) (show q155 (tB (vw C h)) (((0) + ((1) * ρ 2 + ((2048) * ρ 3 + 0)))) (((0) + ((1) * ρ 4 + 0))) from hP _ (List.mem_of_getElem? (i := 0) rfl)) (by omega) (by omega)
  have p1 : q157 (tB (vw C h)) (ρ 2 + 2048 * ρ 3) (ρ 5) := c2 (P := q157 (tB (vw C h))) (show q157 (tB (vw C h)) (((0) + ((1) * ρ 2 + ((2048) * ρ 3 + 0)))) (((0) + ((1) * ρ 5 + 0))) from hP _ (List.mem_of_getElem? (i := 1) rfl)) (by omega) (by omega)
  have kk := k155 (n := ρ 2) (s := ρ 3) (by omega) (by omega) (by omega) (by omega) (by omega) p0
  refine ⟨_, List.mem_cons_self, ρ, fun _ _ => rfl, fun q hq => absurd hq List.not_mem_nil, trivial, fun f hf => ?_, fun q hq => absurd hq List.not_mem_nil, fun q hq => absurd hq List.not_mem_nil, fun q hq => absurd hq List.not_mem_nil, fun q hq => ?_⟩
  · exact absurd hf List.not_mem_nil
  · simp only [List.mem_cons, List.not_mem_nil, or_false] at hq
    subst hq
    show q164 (tB (vw C h)) (((0) + ((1) * ρ 2 + ((2048) * ρ 3 + 0)))) (((0) + ((1) * ρ 5 + 0)))
    refine c2 (P := q164 (tB (vw C h))) (r := ρ 2 + 2048 * ρ 3) (c := ρ 5) ?_ (by omega) (by omega)
    show q164 (tB (vw C h)) (ρ 2 + 2048 * ρ 3) (ρ 5)
    exact o164 (n := ρ 2) (s := ρ 3) (by omega) (by omega) (by omega) (by omega) (by omega) (by omega) p1
/-- wfailM -/
theorem lem_369_ok (hU : uqG G C) : lem_369.1.2.1 = [] ∧ lemOK (PRd G C D xs) G rgs lem_369 := by
  refine ⟨rfl, fun ρ h ha hT => ?_⟩
  obtain ⟨-, -, hF, hG, hH, hA, hP⟩ := ha
  have f0 : (0 : Int) ≤ ((0) + ((1) * ρ 2 + 0)) := hF _ (List.mem_of_getElem? (i := 0) rfl)
  have f1 : (0 : Int) ≤ ((1200) + ((-1) * ρ 2 + 0)) := hF _ (List.mem_of_getElem? (i := 1) rfl)
  have f2 : (0 : Int) ≤ ((0) + ((1) * ρ 3 + 0)) := hF _ (List.mem_of_getElem? (i := 2) rfl)
  have f3 : (0 : Int) ≤ ((0) + ((1) * ρ 2 + ((-1) * ρ 3 + 0))) := hF _ (List.mem_of_getElem? (i := 3) rfl)
  have f4 : (0 : Int) ≤ ((0) + ((1) * ρ 1 + 0)) := hF _ (List.mem_of_getElem? (i := 4) rfl)
  have g0 : G (ρ 0).toNat = 22 := by
    have q := (hG _ (List.mem_of_getElem? (i := 0) rfl)).2
    rwa [show ev ρ (0, [(0, 1)]) = ρ 0 from ev_v] at q
  have h0 : (0 : Int) ≤ ρ 2 ∧ ρ 2 ≤ 1200 := hf_rg hT (hH _ (List.mem_of_getElem? (i := 0) rfl)) ev_v g0 rfl rfl rfl ev_v
  have h1 : (0 : Int) ≤ ρ 3 ∧ ρ 3 ≤ 1200 := hf_rg hT (hH _ (List.mem_of_getElem? (i := 1) rfl)) ev_v g0 rfl rfl rfl ev_v
  have p0 : q159 (tB (vw C h)) (4194304 * ρ 1 + ρ 2 + 2048 * ρ 3) ((0 : Int)) := c2 (P := q159 (tB (vw C h))) (show q159 (tB (vw C h)) (((0) + ((4194304) * ρ 1 + ((1) * ρ 2 + ((2048) * ρ 3 + 0))))) (((0) + 0)) from hP _ (List.mem_of_getElem? (i := 0) rfl)) (by omega) (by omega)
  have p1 : q165 (tB (vw C h)) (4194304 * ρ 1 + ρ 2 + 2048 * ρ 3) := c2 (P := (fun r (_ : Int) => q165 (tB (vw C h)) r)) (c := 0) (c' := 0) (show q165 (tB (vw C h)) (((0) + ((4194304) * ρ 1 + ((1) * ρ 2 + ((2048) * ρ 3 + 0))))) from hP _ (List.mem_of_getElem? (i := 1) rfl)) (by omega) rfl
  have q := k165 (n := ρ 2) (s := ρ 3) (w := ρ 1) (by omega) (by omega) (by omega) (by omega) (by omega) (by omega) p1 (b01_0 (by have q := k159 (n := ρ 2) (s := ρ 3) (w := ρ 1) (by omega) (by omega) (by omega) (by omega) (by omega) (by omega) p0; omega))
  refine ⟨_, List.mem_cons_self, ρ, fun _ _ => rfl, fun q hq => absurd hq List.not_mem_nil, trivial, fun f hf => ?_, fun q hq => absurd hq List.not_mem_nil, fun q hq => absurd hq List.not_mem_nil, fun q hq => absurd hq List.not_mem_nil, fun q hq => ?_⟩
  · exact absurd hf List.not_mem_nil
  · simp only [List.mem_cons, List.not_mem_nil, or_false] at hq
    subst hq
    show q166 (tB (vw C h)) (((0) + ((1) * ρ 2 + 0))) (((4096) + ((1) * ρ 3 + 0)))
    refine c2 (P := q166 (tB (vw C h))) (r := ρ 2) (c := ρ 3 + 4096) ?_ (by omega) (by omega)
    show q166 (tB (vw C h)) (ρ 2) (ρ 3 + 4096)
    exact o166 (k := 4096) (n := ρ 2) (s := ρ 3) (by omega) q (by omega) rfl (by omega)
/-- nfKLoM -/
theorem lem_370_ok (hU : uqG G C) : lem_370.1.2.1 = [] ∧ lemOK (PRd G C D xs) G rgs lem_370 := by
  refine ⟨rfl, fun ρ h ha hT => ?_⟩
  obtain ⟨-, -, hF, hG, hH, hA, hP⟩ := ha
  have f0 : (0 : Int) ≤ ((0) + ((1) * ρ 3 + 0)) := hF _ (List.mem_of_getElem? (i := 0) rfl)
  have f1 : (0 : Int) ≤ ((1200) + ((-1) * ρ 3 + 0)) := hF _ (List.mem_of_getElem? (i := 1) rfl)
  have f2 : (0 : Int) ≤ ((0) + ((1) * ρ 4 + 0)) := hF _ (List.mem_of_getElem? (i := 2) rfl)
  have f3 : (0 : Int) ≤ ((0) + ((1) * ρ 3 + ((-1) * ρ 4 + 0))) := hF _ (List.mem_of_getElem? (i := 3) rfl)
  have f4 : (0 : Int) ≤ ((0) + ((1) * ρ 1 + 0)) := hF _ (List.mem_of_getElem? (i := 4) rfl)
  have f5 : (0 : Int) ≤ ((16383) + ((-1) * ρ 1 + 0)) := hF _ (List.mem_of_getElem? (i := 5) rfl)
  have f6 : (0 : Int) ≤ ((1) + ((1) * ρ 2 + 0)) := hF _ (List.mem_of_getElem? (i := 6) rfl)
  have f7 : (0 : Int) ≤ ((16382) + ((-1) * ρ 2 + 0)) := hF _ (List.mem_of_getElem? (i := 7) rfl)
  have f8 : (0 : Int) ≤ ((2) + ((-1) * ρ 5 + 0)) := hF _ (List.mem_of_getElem? (i := 8) rfl)
  have g0 : G (ρ 0).toNat = 22 := by
    have q := (hG _ (List.mem_of_getElem? (i := 0) rfl)).2
    rwa [show ev ρ (0, [(0, 1)]) = ρ 0 from ev_v] at q
  have h0 : (0 : Int) ≤ ρ 3 ∧ ρ 3 ≤ 1200 := hf_rg hT (hH _ (List.mem_of_getElem? (i := 0) rfl)) ev_v g0 rfl rfl rfl ev_v
  have h1 : (0 : Int) ≤ ρ 4 ∧ ρ 4 ≤ 1200 := hf_rg hT (hH _ (List.mem_of_getElem? (i := 1) rfl)) ev_v g0 rfl rfl rfl ev_v
  have p0 : q180 (tB (vw C h)) (ρ 3 + 2048 * ρ 4) (ρ 5) := c2 (P := q180 (tB (vw C h))) (show q180 (tB (vw C h)) (((0) + ((1) * ρ 3 + ((2048) * ρ 4 + 0)))) (((0) + ((1) * ρ 5 + 0))) from hP _ (List.mem_of_getElem? (i := 0) rfl)) (by omega) (by omega)
  have p1 : q163 (tB (vw C h)) (4194304 * ρ 1 + 68719476736 * ρ 2 + ρ 3 + 2048 * ρ 4 + 68719476736) := c2 (P := (fun r (_ : Int) => q163 (tB (vw C h)) r)) (c := 0) (c' := 0) (show q163 (tB (vw C h)) (((68719476736) + ((4194304) * ρ 1 + ((68719476736) * ρ 2 + ((1) * ρ 3 + ((2048) * ρ 4 + 0)))))) from hP _ (List.mem_of_getElem? (i := 1) rfl)) (by omega) rfl
  obtain ⟨kk, kx⟩ := k180 (n := ρ 3) (s := ρ 4) (by omega) (by omega) (by omega) (by omega) (by omega) p0
  have q := (k163 (n := ρ 3) (s := ρ 4) (lo := ρ 1) (hi := ρ 2) (by omega) (by omega) (by omega) (by omega) (by omega) (by omega) (by omega) p1).1 (by omega)
  refine ⟨_, List.mem_cons_self, ρ, fun _ _ => rfl, fun q hq => absurd hq List.not_mem_nil, trivial, fun f hf => ?_, fun q hq => absurd hq List.not_mem_nil, fun q hq => absurd hq List.not_mem_nil, fun q hq => absurd hq List.not_mem_nil, fun q hq => ?_⟩
  · exact absurd hf List.not_mem_nil
  · simp only [List.mem_cons, List.not_mem_nil, or_false] at hq
    subst hq
    show q166 (tB (vw C h)) (((0) + ((1) * ρ 3 + 0))) (((4096) + ((1) * ρ 4 + 0)))
    refine c2 (P := q166 (tB (vw C h))) (r := ρ 3) (c := ρ 4 + 4096) ?_ (by omega) (by omega)
    show q166 (tB (vw C h)) (ρ 3) (ρ 4 + 4096)
    exact o166 (k := 4096) (n := ρ 3) (s := ρ 4) (by omega) q (by omega) rfl (by omega)
/-- nfKHiM -/
theorem lem_371_ok (hU : uqG G C) : lem_371.1.2.1 = [] ∧ lemOK (PRd G C D xs) G rgs lem_371 := by
  refine ⟨rfl, fun ρ h ha hT => ?_⟩
  obtain ⟨-, -, hF, hG, hH, hA, hP⟩ := ha
  have f0 : (0 : Int) ≤ ((0) + ((1) * ρ 3 + 0)) := hF _ (List.mem_of_getElem? (i := 0) rfl)
  have f1 : (0 : Int) ≤ ((1200) + ((-1) * ρ 3 + 0)) := hF _ (List.mem_of_getElem? (i := 1) rfl)
  have f2 : (0 : Int) ≤ ((0) + ((1) * ρ 4 + 0)) := hF _ (List.mem_of_getElem? (i := 2) rfl)
  have f3 : (0 : Int) ≤ ((0) + ((1) * ρ 3 + ((-1) * ρ 4 + 0))) := hF _ (List.mem_of_getElem? (i := 3) rfl)
  have f4 : (0 : Int) ≤ ((0) + ((1) * ρ 1 + 0)) := hF _ (List.mem_of_getElem? (i := 4) rfl)
  have f5 : (0 : Int) ≤ ((16383) + ((-1) * ρ 1 + 0)) := hF _ (List.mem_of_getElem? (i := 5) rfl)
  have f6 : (0 : Int) ≤ ((1) + ((1) * ρ 2 + 0)) := hF _ (List.mem_of_getElem? (i := 6) rfl)
  have f7 : (0 : Int) ≤ ((16382) + ((-1) * ρ 2 + 0)) := hF _ (List.mem_of_getElem? (i := 7) rfl)
  have f8 : (0 : Int) ≤ ((-4) + ((1) * ρ 5 + 0)) := hF _ (List.mem_of_getElem? (i := 8) rfl)
  have g0 : G (ρ 0).toNat = 22 := by
    have q := (hG _ (List.mem_of_getElem? (i := 0) rfl)).2
    rwa [show ev ρ (0, [(0, 1)]) = ρ 0 from ev_v] at q
  have h0 : (0 : Int) ≤ ρ 3 ∧ ρ 3 ≤ 1200 := hf_rg hT (hH _ (List.mem_of_getElem? (i := 0) rfl)) ev_v g0 rfl rfl rfl ev_v
  have h1 : (0 : Int) ≤ ρ 4 ∧ ρ 4 ≤ 1200 := hf_rg hT (hH _ (List.mem_of_getElem? (i := 1) rfl)) ev_v g0 rfl rfl rfl ev_v
  have p0 : q180 (tB (vw C h)) (ρ 3 + 2048 * ρ 4) (ρ 5) := c2 (P := q180 (tB (vw C h))) (show q180 (tB (vw C h)) (((0) + ((1) * ρ 3 + ((2048) * ρ 4 + 0)))) (((0) + ((1) * ρ 5 + 0))) from hP _ (List.mem_of_getElem? (i := 0) rfl)) (by omega) (by omega)
  have p1 : q163 (tB (vw C h)) (4194304 * ρ 1 + 68719476736 * ρ 2 + ρ 3 + 2048 * ρ 4 + 68719476736) := c2 (P := (fun r (_ : Int) => q163 (tB (vw C h)) r)) (c := 0) (c' := 0) (show q163 (tB (vw C h)) (((68719476736) + ((4194304) * ρ 1 + ((68719476736) * ρ 2 + ((1) * ρ 3 + ((2048) * ρ 4 + 0)))))) from hP _ (List.mem_of_getElem? (i := 1) rfl)) (by omega) rfl
  obtain ⟨kk, kx⟩ := k180 (n := ρ 3) (s := ρ 4) (by omega) (by omega) (by omega) (by omega) (by omega) p0
  have q := (k163 (n := ρ 3) (s := ρ 4) (lo := ρ 1) (hi := ρ 2) (by omega) (by omega) (by omega) (by omega) (by omega) (by omega) (by omega) p1).1 (by omega)
  refine ⟨_, List.mem_cons_self, ρ, fun _ _ => rfl, fun q hq => absurd hq List.not_mem_nil, trivial, fun f hf => ?_, fun q hq => absurd hq List.not_mem_nil, fun q hq => absurd hq List.not_mem_nil, fun q hq => absurd hq List.not_mem_nil, fun q hq => ?_⟩
  · exact absurd hf List.not_mem_nil
  · simp only [List.mem_cons, List.not_mem_nil, or_false] at hq
    subst hq
    show q166 (tB (vw C h)) (((0) + ((1) * ρ 3 + 0))) (((4096) + ((1) * ρ 4 + 0)))
    refine c2 (P := q166 (tB (vw C h))) (r := ρ 3) (c := ρ 4 + 4096) ?_ (by omega) (by omega)
    show q166 (tB (vw C h)) (ρ 3) (ρ 4 + 4096)
    exact o166 (k := 4096) (n := ρ 3) (s := ρ 4) (by omega) q (by omega) rfl (by omega)
/-- nfLoM -/
theorem lem_372_ok (hU : uqG G C) : lem_372.1.2.1 = [] ∧ lemOK (PRd G C D xs) G rgs lem_372 := by
  refine ⟨rfl, fun ρ h ha hT => ?_⟩
  obtain ⟨-, -, hF, hG, hH, hA, hP⟩ := ha
  have f0 : (0 : Int) ≤ ((0) + ((1) * ρ 3 + 0)) := hF _ (List.mem_of_getElem? (i := 0) rfl)
  have f1 : (0 : Int) ≤ ((1200) + ((-1) * ρ 3 + 0)) := hF _ (List.mem_of_getElem? (i := 1) rfl)
  have f2 : (0 : Int) ≤ ((0) + ((1) * ρ 4 + 0)) := hF _ (List.mem_of_getElem? (i := 2) rfl)
  have f3 : (0 : Int) ≤ ((0) + ((1) * ρ 3 + ((-1) * ρ 4 + 0))) := hF _ (List.mem_of_getElem? (i := 3) rfl)
  have f4 : (0 : Int) ≤ ((0) + ((1) * ρ 1 + 0)) := hF _ (List.mem_of_getElem? (i := 4) rfl)
  have f5 : (0 : Int) ≤ ((16383) + ((-1) * ρ 1 + 0)) := hF _ (List.mem_of_getElem? (i := 5) rfl)
  have f6 : (0 : Int) ≤ ((1) + ((1) * ρ 2 + 0)) := hF _ (List.mem_of_getElem? (i := 6) rfl)
  have f7 : (0 : Int) ≤ ((16382) + ((-1) * ρ 2 + 0)) := hF _ (List.mem_of_getElem? (i := 7) rfl)
  have f8 : (0 : Int) ≤ ((-3) + ((1) * ρ 5 + 0)) := hF _ (List.mem_of_getElem? (i := 8) rfl)
  have f9 : (0 : Int) ≤ ((3) + ((-1) * ρ 5 + 0)) := hF _ (List.mem_of_getElem? (i := 9) rfl)
  have f10 : (0 : Int) ≤ ((-1) + ((1) * ρ 1 + ((-1) * ρ 6 + 0))) := hF _ (List.mem_of_getElem? (i := 10) rfl)
  have g0 : G (ρ 0).toNat = 22 := by
    have q := (hG _ (List.mem_of_getElem? (i := 0) rfl)).2
    rwa [show ev ρ (0, [(0, 1)]) = ρ 0 from ev_v] at q
  have h0 : (0 : Int) ≤ ρ 3 ∧ ρ 3 ≤ 1200 := hf_rg hT (hH _ (List.mem_of_getElem? (i := 0) rfl)) ev_v g0 rfl rfl rfl ev_v
  have h1 : (0 : Int) ≤ ρ 4 ∧ ρ 4 ≤ 1200 := hf_rg hT (hH _ (List.mem_of_getElem? (i := 1) rfl)) ev_v g0 rfl rfl rfl ev_v
  have p0 : q180 (tB (vw C h)) (ρ 3 + 2048 * ρ 4) (ρ 5) := c2 (P := q180 (tB (vw C h))) (show q180 (tB (vw C h)) (((0) + ((1) * ρ 3 + ((2048) * ρ 4 + 0)))) (((0) + ((1) * ρ 5 + 0))) from hP _ (List.mem_of_getElem? (i := 0) rfl)) (by omega) (by omega)
  have p1 : q157 (tB (vw C h)) (ρ 3 + 2048 * ρ 4) (ρ 6) := c2 (P := q157 (tB (vw C h))) (show q157 (tB (vw C h)) (((0) + ((1) * ρ 3 + ((2048) * ρ 4 + 0)))) (((0) + ((1) * ρ 6 + 0))) from hP _ (List.mem_of_getElem? (i := 1) rfl)) (by omega) (by omega)
  have p2 : q163 (tB (vw C h)) (4194304 * ρ 1 + 68719476736 * ρ 2 + ρ 3 + 2048 * ρ 4 + 68719476736) := c2 (P := (fun r (_ : Int) => q163 (tB (vw C h)) r)) (c := 0) (c' := 0) (show q163 (tB (vw C h)) (((68719476736) + ((4194304) * ρ 1 + ((68719476736) * ρ 2 + ((1) * ρ 3 + ((2048) * ρ 4 + 0)))))) from hP _ (List.mem_of_getElem? (i := 2) rfl)) (by omega) rfl
  obtain ⟨kk, kx⟩ := k180 (n := ρ 3) (s := ρ 4) (by omega) (by omega) (by omega) (by omega) (by omega) p0
  have k2 : tKd (tB (vw C h)) (ρ 3).toNat (ρ 4).toNat = 2 := by omega
  have kv := k157 (n := ρ 3) (s := ρ 4) (by omega) (by omega) (by omega) (by omega) (by omega) k2 p1
  have q := (k163 (n := ρ 3) (s := ρ 4) (lo := ρ 1) (hi := ρ 2) (by omega) (by omega) (by omega) (by omega) (by omega) (by omega) (by omega) p2).2 k2 (by omega)
  refine ⟨_, List.mem_cons_self, ρ, fun _ _ => rfl, fun q hq => absurd hq List.not_mem_nil, trivial, fun f hf => ?_, fun q hq => absurd hq List.not_mem_nil, fun q hq => absurd hq List.not_mem_nil, fun q hq => absurd hq List.not_mem_nil, fun q hq => ?_⟩
  · exact absurd hf List.not_mem_nil
  · simp only [List.mem_cons, List.not_mem_nil, or_false] at hq
    subst hq
    show q166 (tB (vw C h)) (((0) + ((1) * ρ 3 + 0))) (((8192) + ((1) * ρ 4 + 0)))
    refine c2 (P := q166 (tB (vw C h))) (r := ρ 3) (c := ρ 4 + 8192) ?_ (by omega) (by omega)
    show q166 (tB (vw C h)) (ρ 3) (ρ 4 + 8192)
    exact o166 (k := 8192) (n := ρ 3) (s := ρ 4) (by omega) q (by omega) rfl (by omega)
/-- nfHiM -/
theorem lem_373_ok (hU : uqG G C) : lem_373.1.2.1 = [] ∧ lemOK (PRd G C D xs) G rgs lem_373 := by
  refine ⟨rfl, fun ρ h ha hT => ?_⟩
  obtain ⟨-, -, hF, hG, hH, hA, hP⟩ := ha
  have f0 : (0 : Int) ≤ ((0) + ((1) * ρ 3 + 0)) := hF _ (List.mem_of_getElem? (i := 0) rfl)
  have f1 : (0 : Int) ≤ ((1200) + ((-1) * ρ 3 + 0)) := hF _ (List.mem_of_getElem? (i := 1) rfl)
  have f2 : (0 : Int) ≤ ((0) + ((1) * ρ 4 + 0)) := hF _ (List.mem_of_getElem? (i := 2) rfl)
  have f3 : (0 : Int) ≤ ((0) + ((1) * ρ 3 + ((-1) * ρ 4 + 0))) := hF _ (List.mem_of_getElem? (i := 3) rfl)
  have f4 : (0 : Int) ≤ ((0) + ((1) * ρ 1 + 0)) := hF _ (List.mem_of_getElem? (i := 4) rfl)
  have f5 : (0 : Int) ≤ ((16383) + ((-1) * ρ 1 + 0)) := hF _ (List.mem_of_getElem? (i := 5) rfl)
  have f6 : (0 : Int) ≤ ((1) + ((1) * ρ 2 + 0)) := hF _ (List.mem_of_getElem? (i := 6) rfl)
  have f7 : (0 : Int) ≤ ((16382) + ((-1) * ρ 2 + 0)) := hF _ (List.mem_of_getElem? (i := 7) rfl)
  have f8 : (0 : Int) ≤ ((-3) + ((1) * ρ 5 + 0)) := hF _ (List.mem_of_getElem? (i := 8) rfl)
  have f9 : (0 : Int) ≤ ((3) + ((-1) * ρ 5 + 0)) := hF _ (List.mem_of_getElem? (i := 9) rfl)
  have f10 : (0 : Int) ≤ ((-1) + ((-1) * ρ 2 + ((1) * ρ 6 + 0))) := hF _ (List.mem_of_getElem? (i := 10) rfl)
  have g0 : G (ρ 0).toNat = 22 := by
    have q := (hG _ (List.mem_of_getElem? (i := 0) rfl)).2
    rwa [show ev ρ (0, [(0, 1)]) = ρ 0 from ev_v] at q
  have h0 : (0 : Int) ≤ ρ 3 ∧ ρ 3 ≤ 1200 := hf_rg hT (hH _ (List.mem_of_getElem? (i := 0) rfl)) ev_v g0 rfl rfl rfl ev_v
  have h1 : (0 : Int) ≤ ρ 4 ∧ ρ 4 ≤ 1200 := hf_rg hT (hH _ (List.mem_of_getElem? (i := 1) rfl)) ev_v g0 rfl rfl rfl ev_v
  have p0 : q180 (tB (vw C h)) (ρ 3 + 2048 * ρ 4) (ρ 5) := c2 (P := q180 (tB (vw C h))) (show q180 (tB (vw C h)) (((0) + ((1) * ρ 3 + ((2048) * ρ 4 + 0)))) (((0) + ((1) * ρ 5 + 0))) from hP _ (List.mem_of_getElem? (i := 0) rfl)) (by omega) (by omega)
  have p1 : q157 (tB (vw C h)) (ρ 3 + 2048 * ρ 4) (ρ 6) := c2 (P := q157 (tB (vw C h))) (show q157 (tB (vw C h)) (((0) + ((1) * ρ 3 + ((2048) * ρ 4 + 0)))) (((0) + ((1) * ρ 6 + 0))) from hP _ (List.mem_of_getElem? (i := 1) rfl)) (by omega) (by omega)
  have p2 : q163 (tB (vw C h)) (4194304 * ρ 1 + 68719476736 * ρ 2 + ρ 3 + 2048 * ρ 4 + 68719476736) := c2 (P := (fun r (_ : Int) => q163 (tB (vw C h)) r)) (c := 0) (c' := 0) (show q163 (tB (vw C h)) (((68719476736) + ((4194304) * ρ 1 + ((68719476736) * ρ 2 + ((1) * ρ 3 + ((2048) * ρ 4 + 0)))))) from hP _ (List.mem_of_getElem? (i := 2) rfl)) (by omega) rfl
  obtain ⟨kk, kx⟩ := k180 (n := ρ 3) (s := ρ 4) (by omega) (by omega) (by omega) (by omega) (by omega) p0
  have k2 : tKd (tB (vw C h)) (ρ 3).toNat (ρ 4).toNat = 2 := by omega
  have kv := k157 (n := ρ 3) (s := ρ 4) (by omega) (by omega) (by omega) (by omega) (by omega) k2 p1
  have q := (k163 (n := ρ 3) (s := ρ 4) (lo := ρ 1) (hi := ρ 2) (by omega) (by omega) (by omega) (by omega) (by omega) (by omega) (by omega) p2).2 k2 (by omega)
  refine ⟨_, List.mem_cons_self, ρ, fun _ _ => rfl, fun q hq => absurd hq List.not_mem_nil, trivial, fun f hf => ?_, fun q hq => absurd hq List.not_mem_nil, fun q hq => absurd hq List.not_mem_nil, fun q hq => absurd hq List.not_mem_nil, fun q hq => ?_⟩
  · exact absurd hf List.not_mem_nil
  · simp only [List.mem_cons, List.not_mem_nil, or_false] at hq
    subst hq
    show q166 (tB (vw C h)) (((0) + ((1) * ρ 3 + 0))) (((8192) + ((1) * ρ 4 + 0)))
    refine c2 (P := q166 (tB (vw C h))) (r := ρ 3) (c := ρ 4 + 8192) ?_ (by omega) (by omega)
    show q166 (tB (vw C h)) (ρ 3) (ρ 4 + 8192)
    exact o166 (k := 8192) (n := ρ 3) (s := ρ 4) (by omega) q (by omega) rfl (by omega)
/-- nvOKM -/
theorem lem_374_ok (hU : uqG G C) : lem_374.1.2.1 = [] ∧ lemOK (PRd G C D xs) G rgs lem_374 := by
  refine ⟨rfl, fun ρ h ha hT => ?_⟩
  obtain ⟨-, -, hF, hG, hH, hA, hP⟩ := ha
  have f0 : (0 : Int) ≤ ((0) + ((1) * ρ 1 + 0)) := hF _ (List.mem_of_getElem? (i := 0) rfl)
  have f1 : (0 : Int) ≤ ((1200) + ((-1) * ρ 1 + 0)) := hF _ (List.mem_of_getElem? (i := 1) rfl)
  have f2 : (0 : Int) ≤ ((0) + ((1) * ρ 2 + 0)) := hF _ (List.mem_of_getElem? (i := 2) rfl)
  have f3 : (0 : Int) ≤ ((0) + ((1) * ρ 1 + ((-1) * ρ 2 + 0))) := hF _ (List.mem_of_getElem? (i := 3) rfl)
  have f4 : (0 : Int) ≤ ((-3) + ((1) * ρ 3 + 0)) := hF _ (List.mem_of_getElem? (i := 4) rfl)
  have f5 : (0 : Int) ≤ ((3) + ((-1) * ρ 3 + 0)) := hF _ (List.mem_of_getElem? (i := 5) rfl)
  have g0 : G (ρ 0).toNat = 22 := by
    have q := (hG _ (List.mem_of_getElem? (i := 0) rfl)).2
    rwa [show ev ρ (0, [(0, 1)]) = ρ 0 from ev_v] at q
  have h0 : (0 : Int) ≤ ρ 1 ∧ ρ 1 ≤ 1200 := hf_rg hT (hH _ (List.mem_of_getElem? (i := 0) rfl)) ev_v g0 rfl rfl rfl ev_v
  have h1 : (0 : Int) ≤ ρ 2 ∧ ρ 2 ≤ 1200 := hf_rg hT (hH _ (List.mem_of_getElem? (i := 1) rfl)) ev_v g0 rfl rfl rfl ev_v
  have p0 : q180 (tB (vw C h)) (ρ 1 + 2048 * ρ 2) (ρ 3) := c2 (P := q180 (tB (vw C h))) (show q180 (tB (vw C h)) (((0) + ((1) * ρ 1 + ((2048) * ρ 2 + 0)))) (((0) + ((1) * ρ 3 + 0))) from hP _ (List.mem_of_getElem? (i := 0) rfl)) (by omega) (by omega)
  have p1 : q157 (tB (vw C h)) (ρ 1 + 2048 * ρ 2) (ρ 4) := c2 (P := q157 (tB (vw C h))) (show q157 (tB (vw C h)) (((0) + ((1) * ρ 1 + ((2048) * ρ 2 + 0)))) (((0) + ((1) * ρ 4 + 0))) from hP _ (List.mem_of_getElem? (i := 1) rfl)) (by omega) (by omega)
  obtain ⟨kk, kx⟩ := k180 (n := ρ 1) (s := ρ 2) (by omega) (by omega) (by omega) (by omega) (by omega) p0
  refine ⟨_, List.mem_cons_self, ρ, fun _ _ => rfl, fun q hq => absurd hq List.not_mem_nil, trivial, fun f hf => ?_, fun q hq => absurd hq List.not_mem_nil, fun q hq => absurd hq List.not_mem_nil, fun q hq => absurd hq List.not_mem_nil, fun q hq => ?_⟩
  · exact absurd hf List.not_mem_nil
  · simp only [List.mem_cons, List.not_mem_nil, or_false] at hq
    subst hq
    show q164 (tB (vw C h)) (((0) + ((1) * ρ 1 + ((2048) * ρ 2 + 0)))) (((0) + ((1) * ρ 4 + 0)))
    refine c2 (P := q164 (tB (vw C h))) (r := ρ 1 + 2048 * ρ 2) (c := ρ 4) ?_ (by omega) (by omega)
    show q164 (tB (vw C h)) (ρ 1 + 2048 * ρ 2) (ρ 4)
    exact o164 (n := ρ 1) (s := ρ 2) (by omega) (by omega) (by omega) (by omega) (by omega) (by omega) p1
/-- outSet -/
theorem lem_375_ok (hU : uqG G C) : lem_375.1.2.1 = [] ∧ lemOK (PRd G C D xs) G rgs lem_375 := by
  refine ⟨rfl, fun ρ h ha hT => ?_⟩
  obtain ⟨-, -, hF, hG, hH, hA, hP⟩ := ha
  have f0 : (0 : Int) ≤ ((0) + ((1) * ρ 4 + 0)) := hF _ (List.mem_of_getElem? (i := 0) rfl)
  have f1 : (0 : Int) ≤ ((1200) + ((-1) * ρ 4 + 0)) := hF _ (List.mem_of_getElem? (i := 1) rfl)
  have f2 : (0 : Int) ≤ ((-1) + ((1) * ρ 1 + 0)) := hF _ (List.mem_of_getElem? (i := 2) rfl)
  have f3 : (0 : Int) ≤ ((6) + ((-1) * ρ 1 + 0)) := hF _ (List.mem_of_getElem? (i := 3) rfl)
  have f4 : (0 : Int) ≤ ((0) + ((1) * ρ 2 + 0)) := hF _ (List.mem_of_getElem? (i := 4) rfl)
  have f5 : (0 : Int) ≤ ((1200) + ((-1) * ρ 2 + 0)) := hF _ (List.mem_of_getElem? (i := 5) rfl)
  have g0 : G (ρ 0).toNat = 14 := by
    have q := (hG _ (List.mem_of_getElem? (i := 0) rfl)).2
    rwa [show ev ρ (0, [(0, 1)]) = ρ 0 from ev_v] at q
  have g1 : G (ρ 3).toNat = 17 := by
    have q := (hG _ (List.mem_of_getElem? (i := 1) rfl)).2
    rwa [show ev ρ (0, [(3, 1)]) = ρ 3 from ev_v] at q
  have h3 : (0 : Int) ≤ ρ 4 ∧ ρ 4 ≤ 1200 := hf_rg hT (hH _ (List.mem_of_getElem? (i := 3) rfl)) ev_v g1 rfl rfl rfl ev_v
  have p0 : q166 (tB (vw C h)) (ρ 4) (4096 * ρ 1 + ρ 2) := c2 (P := q166 (tB (vw C h))) (show q166 (tB (vw C h)) (((0) + ((1) * ρ 4 + 0))) (((0) + ((4096) * ρ 1 + ((1) * ρ 2 + 0)))) from hP _ (List.mem_of_getElem? (i := 0) rfl)) (by omega) (by omega)
  refine ⟨_, List.mem_cons_self, ρ, fun _ _ => rfl, fun q hq => absurd hq List.not_mem_nil, trivial, fun f hf => ?_, fun q hq => absurd hq List.not_mem_nil, fun q hq => absurd hq List.not_mem_nil, fun q hq => absurd hq List.not_mem_nil, fun q hq => ?_⟩
  · exact absurd hf List.not_mem_nil
  · simp only [List.mem_cons, List.not_mem_nil, or_false] at hq
    subst hq
    show q199 C h (((0) + ((1) * ρ 4 + 0)))
    refine c2 (P := (fun (_ : Int) c => q199 C h c)) (r := 0) (r' := 0) (c := ρ 4) ?_ rfl (by omega)
    show q199 C h (ρ 4)
    exact outSet_ok hU hT (x := ρ 0) (e := ρ 1) (p := ρ 2) (hH _ (List.mem_of_getElem? (i := 0) rfl)) (hH _ (List.mem_of_getElem? (i := 1) rfl)) ev_v g0 rfl rfl rfl rfl ev_v rfl rfl ev_v (by omega) (by omega) (by omega) (c2 (P := q166 (tB (vw C h))) p0 rfl (by omega))
/-- op0C -/
theorem lem_376_ok (hU : uqG G C) : lem_376.1.2.1 = [] ∧ lemOK (PRd G C D xs) G rgs lem_376 := by
  refine ⟨rfl, fun ρ h ha hT => ?_⟩
  obtain ⟨-, -, hF, hG, hH, hA, hP⟩ := ha
  have f0 : (0 : Int) ≤ ((0) + ((1) * ρ 2 + 0)) := hF _ (List.mem_of_getElem? (i := 0) rfl)
  have f1 : (0 : Int) ≤ ((1200) + ((-1) * ρ 2 + 0)) := hF _ (List.mem_of_getElem? (i := 1) rfl)
  have f2 : (0 : Int) ≤ ((0) + ((1) * ρ 3 + 0)) := hF _ (List.mem_of_getElem? (i := 2) rfl)
  have f3 : (0 : Int) ≤ ((0) + ((1) * ρ 2 + ((-1) * ρ 3 + 0))) := hF _ (List.mem_of_getElem? (i := 3) rfl)
  have g0 : G (ρ 0).toNat = 14 := by
    have q := (hG _ (List.mem_of_getElem? (i := 0) rfl)).2
    rwa [show ev ρ (0, [(0, 1)]) = ρ 0 from ev_v] at q
  have g1 : G (ρ 1).toNat = 17 := by
    have q := (hG _ (List.mem_of_getElem? (i := 1) rfl)).2
    rwa [show ev ρ (0, [(1, 1)]) = ρ 1 from ev_v] at q
  have h1 : (0 : Int) ≤ ρ 2 ∧ ρ 2 ≤ 1200 := hf_rg hT (hH _ (List.mem_of_getElem? (i := 1) rfl)) ev_v g1 rfl rfl rfl ev_v
  have h2 : (0 : Int) ≤ ρ 3 ∧ ρ 3 ≤ 1200 := hf_rg hT (hH _ (List.mem_of_getElem? (i := 2) rfl)) ev_v g1 rfl rfl rfl ev_v
  have p0 : (qRC 0 (tB (vw C h))) (ρ 2 + 2048 * ρ 3) (ρ 4) := c2 (P := (qRC 0 (tB (vw C h)))) (show (qRC 0 (tB (vw C h))) (((0) + ((1) * ρ 2 + ((2048) * ρ 3 + 0)))) (((0) + ((1) * ρ 4 + 0))) from hP _ (List.mem_of_getElem? (i := 0) rfl)) (by omega) (by omega)
  have hc0 := p0.1
  have hR := rc_el (n := ρ 2) (s := ρ 3) (d := (0 : Int)) (K := (0 : Int)) (R := (0 : Int)) p0 (by omega) (by omega) (by omega) (by omega) (by omega) (by omega) (by omega) (by omega) (by omega) (by omega)
  refine ⟨_, List.mem_cons_self, ρ, fun _ _ => rfl, fun q hq => absurd hq List.not_mem_nil, trivial, fun f hf => ?_, fun q hq => absurd hq List.not_mem_nil, fun q hq => absurd hq List.not_mem_nil, fun q hq => absurd hq List.not_mem_nil, fun q hq => ?_⟩
  · exact absurd hf List.not_mem_nil
  · simp only [List.mem_cons, List.not_mem_nil, or_false] at hq
    subst hq
    show q165 (tB (vw C h)) (((0) + ((1) * ρ 2 + ((2048) * ρ 3 + 0))))
    refine c2 (P := (fun r (_ : Int) => q165 (tB (vw C h)) r)) (c := 0) (c' := 0) (r := ρ 2 + 2048 * ρ 3) ?_ (by omega) rfl
    show q165 (tB (vw C h)) (ρ 2 + 2048 * ρ 3)
    exact o165 (n := ρ 2) (s := ρ 3) (w := 0) (by omega) (by omega) (by omega) (by omega) (by omega) (by omega) (fun hw => fw_0 hR hw)
/-- st0C -/
theorem lem_377_ok (hU : uqG G C) : lem_377.1.2.1 = [] ∧ lemOK (PRd G C D xs) G rgs lem_377 := by
  refine ⟨rfl, fun ρ h ha hT => ?_⟩
  obtain ⟨-, -, hF, hG, hH, hA, hP⟩ := ha
  have f0 : (0 : Int) ≤ ((0) + ((1) * ρ 2 + 0)) := hF _ (List.mem_of_getElem? (i := 0) rfl)
  have f1 : (0 : Int) ≤ ((1200) + ((-1) * ρ 2 + 0)) := hF _ (List.mem_of_getElem? (i := 1) rfl)
  have f2 : (0 : Int) ≤ ((0) + ((1) * ρ 3 + 0)) := hF _ (List.mem_of_getElem? (i := 2) rfl)
  have f3 : (0 : Int) ≤ ((0) + ((1) * ρ 2 + ((-1) * ρ 3 + 0))) := hF _ (List.mem_of_getElem? (i := 3) rfl)
  have f4 : (0 : Int) ≤ ((0) + ((1) * ρ 4 + 0)) := hF _ (List.mem_of_getElem? (i := 4) rfl)
  have f5 : (0 : Int) ≤ ((0) + ((1) * ρ 2 + ((-1) * ρ 4 + 0))) := hF _ (List.mem_of_getElem? (i := 5) rfl)
  have g0 : G (ρ 0).toNat = 14 := by
    have q := (hG _ (List.mem_of_getElem? (i := 0) rfl)).2
    rwa [show ev ρ (0, [(0, 1)]) = ρ 0 from ev_v] at q
  have g1 : G (ρ 1).toNat = 17 := by
    have q := (hG _ (List.mem_of_getElem? (i := 1) rfl)).2
    rwa [show ev ρ (0, [(1, 1)]) = ρ 1 from ev_v] at q
  have h1 : (0 : Int) ≤ ρ 2 ∧ ρ 2 ≤ 1200 := hf_rg hT (hH _ (List.mem_of_getElem? (i := 1) rfl)) ev_v g1 rfl rfl rfl ev_v
  have h2 : (0 : Int) ≤ ρ 3 ∧ ρ 3 ≤ 1200 := hf_rg hT (hH _ (List.mem_of_getElem? (i := 2) rfl)) ev_v g1 rfl rfl rfl ev_v
  have p0 : q158 (tB (vw C h)) (ρ 2 + 2048 * ρ 3) (ρ 4) := c2 (P := q158 (tB (vw C h))) (show q158 (tB (vw C h)) (((0) + ((1) * ρ 2 + ((2048) * ρ 3 + 0)))) (((0) + ((1) * ρ 4 + 0))) from hP _ (List.mem_of_getElem? (i := 0) rfl)) (by omega) (by omega)
  have p1 : q159 (tB (vw C h)) (ρ 2 + 2048 * ρ 4) ((1 : Int)) := c2 (P := q159 (tB (vw C h))) (show q159 (tB (vw C h)) (((0) + ((1) * ρ 2 + ((2048) * ρ 4 + 0)))) (((1) + 0)) from hP _ (List.mem_of_getElem? (i := 1) rfl)) (by omega) (by omega)
  have p2 : (qRC 0 (tB (vw C h))) (ρ 2 + 2048 * ρ 4) (ρ 5) := c2 (P := (qRC 0 (tB (vw C h)))) (show (qRC 0 (tB (vw C h))) (((0) + ((1) * ρ 2 + ((2048) * ρ 4 + 0)))) (((0) + ((1) * ρ 5 + 0))) from hP _ (List.mem_of_getElem? (i := 2) rfl)) (by omega) (by omega)
  have iw0 : tIsB (tB (vw C h)) (ρ 2).toNat (ρ 4).toNat (wd 0) = true := b01_1 (k159 (n := ρ 2) (s := ρ 4) (w := 0) (by omega) (by omega) (by omega) (by omega) (by omega) (by omega) p1)
  have hkd := (is_el.mp iw0).1
  have nx := k158 (n := ρ 2) (s := ρ 4) (t := ρ 3) (by omega) (by omega) (by omega) (by omega) (by omega) (by omega) p0
  have ng := nx_gt (B := (tB (vw C h))) (n := (ρ 2).toNat) (s := (ρ 4).toNat) (by omega)
  have hc0 := p2.1
  have hR := rc_el (n := ρ 2) (s := ρ 4) (d := (0 : Int)) (K := (0 : Int)) (R := (0 : Int)) p2 (by omega) (by omega) (by omega) (by omega) (by omega) (by omega) (by omega) (by omega) (by omega) (by omega)
  have q := sw_0 hR iw0
  refine ⟨_, List.mem_cons_self, ρ, fun _ _ => rfl, fun q hq => absurd hq List.not_mem_nil, trivial, fun f hf => ?_, fun q hq => absurd hq List.not_mem_nil, fun q hq => absurd hq List.not_mem_nil, fun q hq => absurd hq List.not_mem_nil, fun q hq => ?_⟩
  · simp only [List.mem_cons, List.not_mem_nil, or_false] at hf
    subst hf
    show (0 : Int) ≤ ((-1) + ((1) * ρ 3 + ((-1) * ρ 4 + 0)))
    omega
  · simp only [List.mem_cons, List.not_mem_nil, or_false] at hq
    subst hq
    show (qRC 1 (tB (vw C h))) (((0) + ((1) * ρ 2 + ((2048) * ρ 3 + 0)))) (((0) + ((1) * ρ 5 + 0)))
    refine c2 (P := (qRC 1 (tB (vw C h)))) (r := ρ 2 + 2048 * ρ 3) (c := ρ 5) ?_ (by omega) (by omega)
    show (qRC 1 (tB (vw C h))) (ρ 2 + 2048 * ρ 3) (ρ 5)
    exact rc_in (n := ρ 2) (s := ρ 3) (d := (0 : Int)) (K := (0 : Int)) (R := (0 : Int)) (by omega) (by omega) (by omega) (by omega) (by omega) (by omega) (by omega) (by omega) (by omega) (by omega) q (by omega) (by omega) (by omega) (by omega) (by omega)
/-- op1C -/
theorem lem_378_ok (hU : uqG G C) : lem_378.1.2.1 = [] ∧ lemOK (PRd G C D xs) G rgs lem_378 := by
  refine ⟨rfl, fun ρ h ha hT => ?_⟩
  obtain ⟨-, -, hF, hG, hH, hA, hP⟩ := ha
  have f0 : (0 : Int) ≤ ((0) + ((1) * ρ 2 + 0)) := hF _ (List.mem_of_getElem? (i := 0) rfl)
  have f1 : (0 : Int) ≤ ((1200) + ((-1) * ρ 2 + 0)) := hF _ (List.mem_of_getElem? (i := 1) rfl)
  have f2 : (0 : Int) ≤ ((0) + ((1) * ρ 3 + 0)) := hF _ (List.mem_of_getElem? (i := 2) rfl)
  have f3 : (0 : Int) ≤ ((0) + ((1) * ρ 2 + ((-1) * ρ 3 + 0))) := hF _ (List.mem_of_getElem? (i := 3) rfl)
  have g0 : G (ρ 0).toNat = 14 := by
    have q := (hG _ (List.mem_of_getElem? (i := 0) rfl)).2
    rwa [show ev ρ (0, [(0, 1)]) = ρ 0 from ev_v] at q
  have g1 : G (ρ 1).toNat = 17 := by
    have q := (hG _ (List.mem_of_getElem? (i := 1) rfl)).2
    rwa [show ev ρ (0, [(1, 1)]) = ρ 1 from ev_v] at q
  have h1 : (0 : Int) ≤ ρ 2 ∧ ρ 2 ≤ 1200 := hf_rg hT (hH _ (List.mem_of_getElem? (i := 1) rfl)) ev_v g1 rfl rfl rfl ev_v
  have h2 : (0 : Int) ≤ ρ 3 ∧ ρ 3 ≤ 1200 := hf_rg hT (hH _ (List.mem_of_getElem? (i := 2) rfl)) ev_v g1 rfl rfl rfl ev_v
  have p0 : (qRC 1 (tB (vw C h))) (ρ 2 + 2048 * ρ 3) (ρ 4) := c2 (P := (qRC 1 (tB (vw C h)))) (show (qRC 1 (tB (vw C h))) (((0) + ((1) * ρ 2 + ((2048) * ρ 3 + 0)))) (((0) + ((1) * ρ 4 + 0))) from hP _ (List.mem_of_getElem? (i := 0) rfl)) (by omega) (by omega)
  have hc0 := p0.1
  have hR := rc_el (n := ρ 2) (s := ρ 3) (d := (0 : Int)) (K := (0 : Int)) (R := (0 : Int)) p0 (by omega) (by omega) (by omega) (by omega) (by omega) (by omega) (by omega) (by omega) (by omega) (by omega)
  refine ⟨_, List.mem_cons_self, ρ, fun _ _ => rfl, fun q hq => absurd hq List.not_mem_nil, trivial, fun f hf => ?_, fun q hq => absurd hq List.not_mem_nil, fun q hq => absurd hq List.not_mem_nil, fun q hq => absurd hq List.not_mem_nil, fun q hq => ?_⟩
  · exact absurd hf List.not_mem_nil
  · simp only [List.mem_cons, List.not_mem_nil, or_false] at hq
    subst hq
    show q163 (tB (vw C h)) (((6871947673600) + ((1) * ρ 2 + ((2048) * ρ 3 + 0))))
    refine c2 (P := (fun r (_ : Int) => q163 (tB (vw C h)) r)) (c := 0) (c' := 0) (r := ρ 2 + 2048 * ρ 3 + 6871947673600) ?_ (by omega) rfl
    show q163 (tB (vw C h)) (ρ 2 + 2048 * ρ 3 + 6871947673600)
    exact o163 (n := ρ 2) (s := ρ 3) (lo := 0) (hi := 99) (by omega) (by omega) (by omega) (by omega) (by omega) (by omega) (by omega) (fn_1 hR)
/-- st1C -/
theorem lem_379_ok (hU : uqG G C) : lem_379.1.2.1 = [] ∧ lemOK (PRd G C D xs) G rgs lem_379 := by
  refine ⟨rfl, fun ρ h ha hT => ?_⟩
  obtain ⟨-, -, hF, hG, hH, hA, hP⟩ := ha
  have f0 : (0 : Int) ≤ ((0) + ((1) * ρ 2 + 0)) := hF _ (List.mem_of_getElem? (i := 0) rfl)
  have f1 : (0 : Int) ≤ ((1200) + ((-1) * ρ 2 + 0)) := hF _ (List.mem_of_getElem? (i := 1) rfl)
  have f2 : (0 : Int) ≤ ((0) + ((1) * ρ 3 + 0)) := hF _ (List.mem_of_getElem? (i := 2) rfl)
  have f3 : (0 : Int) ≤ ((0) + ((1) * ρ 2 + ((-1) * ρ 3 + 0))) := hF _ (List.mem_of_getElem? (i := 3) rfl)
  have f4 : (0 : Int) ≤ ((0) + ((1) * ρ 4 + 0)) := hF _ (List.mem_of_getElem? (i := 4) rfl)
  have f5 : (0 : Int) ≤ ((0) + ((1) * ρ 2 + ((-1) * ρ 4 + 0))) := hF _ (List.mem_of_getElem? (i := 5) rfl)
  have f6 : (0 : Int) ≤ ((0) + ((1) * ρ 5 + 0)) := hF _ (List.mem_of_getElem? (i := 6) rfl)
  have f7 : (0 : Int) ≤ ((99) + ((-1) * ρ 5 + 0)) := hF _ (List.mem_of_getElem? (i := 7) rfl)
  have g0 : G (ρ 0).toNat = 14 := by
    have q := (hG _ (List.mem_of_getElem? (i := 0) rfl)).2
    rwa [show ev ρ (0, [(0, 1)]) = ρ 0 from ev_v] at q
  have g1 : G (ρ 1).toNat = 17 := by
    have q := (hG _ (List.mem_of_getElem? (i := 1) rfl)).2
    rwa [show ev ρ (0, [(1, 1)]) = ρ 1 from ev_v] at q
  have h1 : (0 : Int) ≤ ρ 2 ∧ ρ 2 ≤ 1200 := hf_rg hT (hH _ (List.mem_of_getElem? (i := 1) rfl)) ev_v g1 rfl rfl rfl ev_v
  have h2 : (0 : Int) ≤ ρ 3 ∧ ρ 3 ≤ 1200 := hf_rg hT (hH _ (List.mem_of_getElem? (i := 2) rfl)) ev_v g1 rfl rfl rfl ev_v
  have p0 : q158 (tB (vw C h)) (ρ 2 + 2048 * ρ 3) (ρ 4) := c2 (P := q158 (tB (vw C h))) (show q158 (tB (vw C h)) (((0) + ((1) * ρ 2 + ((2048) * ρ 3 + 0)))) (((0) + ((1) * ρ 4 + 0))) from hP _ (List.mem_of_getElem? (i := 0) rfl)) (by omega) (by omega)
  have p1 : q164 (tB (vw C h)) (ρ 2 + 2048 * ρ 4) (ρ 5) := c2 (P := q164 (tB (vw C h))) (show q164 (tB (vw C h)) (((0) + ((1) * ρ 2 + ((2048) * ρ 4 + 0)))) (((0) + ((1) * ρ 5 + 0))) from hP _ (List.mem_of_getElem? (i := 1) rfl)) (by omega) (by omega)
  have p2 : (qRC 1 (tB (vw C h))) (ρ 2 + 2048 * ρ 4) (ρ 6) := c2 (P := (qRC 1 (tB (vw C h)))) (show (qRC 1 (tB (vw C h))) (((0) + ((1) * ρ 2 + ((2048) * ρ 4 + 0)))) (((0) + ((1) * ρ 6 + 0))) from hP _ (List.mem_of_getElem? (i := 2) rfl)) (by omega) (by omega)
  obtain ⟨hkd, nv⟩ := k164 (n := ρ 2) (s := ρ 4) (by omega) (by omega) (by omega) (by omega) (by omega) p1
  have nx := k158 (n := ρ 2) (s := ρ 4) (t := ρ 3) (by omega) (by omega) (by omega) (by omega) (by omega) (by omega) p0
  have ng := nx_gt (B := (tB (vw C h))) (n := (ρ 2).toNat) (s := (ρ 4).toNat) (by omega)
  have hc0 := p2.1
  have hR := rc_el (n := ρ 2) (s := ρ 4) (d := (0 : Int)) (K := (0 : Int)) (R := (0 : Int)) p2 (by omega) (by omega) (by omega) (by omega) (by omega) (by omega) (by omega) (by omega) (by omega) (by omega)
  have q := sn_1 hR hkd (by omega) (by omega)
  refine ⟨_, List.mem_cons_self, ρ, fun _ _ => rfl, fun q hq => absurd hq List.not_mem_nil, trivial, fun f hf => ?_, fun q hq => absurd hq List.not_mem_nil, fun q hq => absurd hq List.not_mem_nil, fun q hq => absurd hq List.not_mem_nil, fun q hq => ?_⟩
  · simp only [List.mem_cons, List.not_mem_nil, or_false] at hf
    subst hf
    show (0 : Int) ≤ ((-1) + ((1) * ρ 3 + ((-1) * ρ 4 + 0)))
    omega
  · simp only [List.mem_cons, List.not_mem_nil, or_false] at hq
    subst hq
    show (qRC 2 (tB (vw C h))) (((0) + ((1) * ρ 2 + ((2048) * ρ 3 + 0)))) (((0) + ((1) * ρ 6 + 0)))
    refine c2 (P := (qRC 2 (tB (vw C h)))) (r := ρ 2 + 2048 * ρ 3) (c := ρ 6) ?_ (by omega) (by omega)
    show (qRC 2 (tB (vw C h))) (ρ 2 + 2048 * ρ 3) (ρ 6)
    exact rc_in (n := ρ 2) (s := ρ 3) (d := (0 : Int)) (K := (0 : Int)) (R := (0 : Int)) (by omega) (by omega) (by omega) (by omega) (by omega) (by omega) (by omega) (by omega) (by omega) (by omega) q (by omega) (by omega) (by omega) (by omega) (by omega)
/-- op2C -/
theorem lem_380_ok (hU : uqG G C) : lem_380.1.2.1 = [] ∧ lemOK (PRd G C D xs) G rgs lem_380 := by
  refine ⟨rfl, fun ρ h ha hT => ?_⟩
  obtain ⟨-, -, hF, hG, hH, hA, hP⟩ := ha
  have f0 : (0 : Int) ≤ ((0) + ((1) * ρ 2 + 0)) := hF _ (List.mem_of_getElem? (i := 0) rfl)
  have f1 : (0 : Int) ≤ ((1200) + ((-1) * ρ 2 + 0)) := hF _ (List.mem_of_getElem? (i := 1) rfl)
  have f2 : (0 : Int) ≤ ((0) + ((1) * ρ 3 + 0)) := hF _ (List.mem_of_getElem? (i := 2) rfl)
  have f3 : (0 : Int) ≤ ((0) + ((1) * ρ 2 + ((-1) * ρ 3 + 0))) := hF _ (List.mem_of_getElem? (i := 3) rfl)
  have g0 : G (ρ 0).toNat = 14 := by
    have q := (hG _ (List.mem_of_getElem? (i := 0) rfl)).2
    rwa [show ev ρ (0, [(0, 1)]) = ρ 0 from ev_v] at q
  have g1 : G (ρ 1).toNat = 17 := by
    have q := (hG _ (List.mem_of_getElem? (i := 1) rfl)).2
    rwa [show ev ρ (0, [(1, 1)]) = ρ 1 from ev_v] at q
  have h1 : (0 : Int) ≤ ρ 2 ∧ ρ 2 ≤ 1200 := hf_rg hT (hH _ (List.mem_of_getElem? (i := 1) rfl)) ev_v g1 rfl rfl rfl ev_v
  have h2 : (0 : Int) ≤ ρ 3 ∧ ρ 3 ≤ 1200 := hf_rg hT (hH _ (List.mem_of_getElem? (i := 2) rfl)) ev_v g1 rfl rfl rfl ev_v
  have p0 : (qRC 2 (tB (vw C h))) (ρ 2 + 2048 * ρ 3) (ρ 4) := c2 (P := (qRC 2 (tB (vw C h)))) (show (qRC 2 (tB (vw C h))) (((0) + ((1) * ρ 2 + ((2048) * ρ 3 + 0)))) (((0) + ((1) * ρ 4 + 0))) from hP _ (List.mem_of_getElem? (i := 0) rfl)) (by omega) (by omega)
  have hc0 := p0.1
  have hR := rc_el (n := ρ 2) (s := ρ 3) (d := (0 : Int)) (K := (0 : Int)) (R := (0 : Int)) p0 (by omega) (by omega) (by omega) (by omega) (by omega) (by omega) (by omega) (by omega) (by omega) (by omega)
  refine ⟨_, List.mem_cons_self, ρ, fun _ _ => rfl, fun q hq => absurd hq List.not_mem_nil, trivial, fun f hf => ?_, fun q hq => absurd hq List.not_mem_nil, fun q hq => absurd hq List.not_mem_nil, fun q hq => absurd hq List.not_mem_nil, fun q hq => ?_⟩
  · exact absurd hf List.not_mem_nil
  · simp only [List.mem_cons, List.not_mem_nil, or_false] at hq
    subst hq
    show q163 (tB (vw C h)) (((6871947673600) + ((1) * ρ 2 + ((2048) * ρ 3 + 0))))
    refine c2 (P := (fun r (_ : Int) => q163 (tB (vw C h)) r)) (c := 0) (c' := 0) (r := ρ 2 + 2048 * ρ 3 + 6871947673600) ?_ (by omega) rfl
    show q163 (tB (vw C h)) (ρ 2 + 2048 * ρ 3 + 6871947673600)
    exact o163 (n := ρ 2) (s := ρ 3) (lo := 0) (hi := 99) (by omega) (by omega) (by omega) (by omega) (by omega) (by omega) (by omega) (fn_2 hR)
/-- st2C -/
theorem lem_381_ok (hU : uqG G C) : lem_381.1.2.1 = [] ∧ lemOK (PRd G C D xs) G rgs lem_381 := by
  refine ⟨rfl, fun ρ h ha hT => ?_⟩
  obtain ⟨-, -, hF, hG, hH, hA, hP⟩ := ha
  have f0 : (0 : Int) ≤ ((0) + ((1) * ρ 2 + 0)) := hF _ (List.mem_of_getElem? (i := 0) rfl)
  have f1 : (0 : Int) ≤ ((1200) + ((-1) * ρ 2 + 0)) := hF _ (List.mem_of_getElem? (i := 1) rfl)
  have f2 : (0 : Int) ≤ ((0) + ((1) * ρ 3 + 0)) := hF _ (List.mem_of_getElem? (i := 2) rfl)
  have f3 : (0 : Int) ≤ ((0) + ((1) * ρ 2 + ((-1) * ρ 3 + 0))) := hF _ (List.mem_of_getElem? (i := 3) rfl)
  have f4 : (0 : Int) ≤ ((0) + ((1) * ρ 4 + 0)) := hF _ (List.mem_of_getElem? (i := 4) rfl)
  have f5 : (0 : Int) ≤ ((0) + ((1) * ρ 2 + ((-1) * ρ 4 + 0))) := hF _ (List.mem_of_getElem? (i := 5) rfl)
  have f6 : (0 : Int) ≤ ((0) + ((1) * ρ 5 + 0)) := hF _ (List.mem_of_getElem? (i := 6) rfl)
  have f7 : (0 : Int) ≤ ((99) + ((-1) * ρ 5 + 0)) := hF _ (List.mem_of_getElem? (i := 7) rfl)
  have g0 : G (ρ 0).toNat = 14 := by
    have q := (hG _ (List.mem_of_getElem? (i := 0) rfl)).2
    rwa [show ev ρ (0, [(0, 1)]) = ρ 0 from ev_v] at q
  have g1 : G (ρ 1).toNat = 17 := by
    have q := (hG _ (List.mem_of_getElem? (i := 1) rfl)).2
    rwa [show ev ρ (0, [(1, 1)]) = ρ 1 from ev_v] at q
  have h1 : (0 : Int) ≤ ρ 2 ∧ ρ 2 ≤ 1200 := hf_rg hT (hH _ (List.mem_of_getElem? (i := 1) rfl)) ev_v g1 rfl rfl rfl ev_v
  have h2 : (0 : Int) ≤ ρ 3 ∧ ρ 3 ≤ 1200 := hf_rg hT (hH _ (List.mem_of_getElem? (i := 2) rfl)) ev_v g1 rfl rfl rfl ev_v
  have p0 : q158 (tB (vw C h)) (ρ 2 + 2048 * ρ 3) (ρ 4) := c2 (P := q158 (tB (vw C h))) (show q158 (tB (vw C h)) (((0) + ((1) * ρ 2 + ((2048) * ρ 3 + 0)))) (((0) + ((1) * ρ 4 + 0))) from hP _ (List.mem_of_getElem? (i := 0) rfl)) (by omega) (by omega)
  have p1 : q164 (tB (vw C h)) (ρ 2 + 2048 * ρ 4) (ρ 5) := c2 (P := q164 (tB (vw C h))) (show q164 (tB (vw C h)) (((0) + ((1) * ρ 2 + ((2048) * ρ 4 + 0)))) (((0) + ((1) * ρ 5 + 0))) from hP _ (List.mem_of_getElem? (i := 1) rfl)) (by omega) (by omega)
  have p2 : (qRC 2 (tB (vw C h))) (ρ 2 + 2048 * ρ 4) (ρ 6) := c2 (P := (qRC 2 (tB (vw C h)))) (show (qRC 2 (tB (vw C h))) (((0) + ((1) * ρ 2 + ((2048) * ρ 4 + 0)))) (((0) + ((1) * ρ 6 + 0))) from hP _ (List.mem_of_getElem? (i := 2) rfl)) (by omega) (by omega)
  obtain ⟨hkd, nv⟩ := k164 (n := ρ 2) (s := ρ 4) (by omega) (by omega) (by omega) (by omega) (by omega) p1
  have nx := k158 (n := ρ 2) (s := ρ 4) (t := ρ 3) (by omega) (by omega) (by omega) (by omega) (by omega) (by omega) p0
  have ng := nx_gt (B := (tB (vw C h))) (n := (ρ 2).toNat) (s := (ρ 4).toNat) (by omega)
  have hc0 := p2.1
  have hR := rc_el (n := ρ 2) (s := ρ 4) (d := (0 : Int)) (K := (0 : Int)) (R := (0 : Int)) p2 (by omega) (by omega) (by omega) (by omega) (by omega) (by omega) (by omega) (by omega) (by omega) (by omega)
  have q := sn_2 hR hkd (by omega) (by omega)
  refine ⟨_, List.mem_cons_self, ρ, fun _ _ => rfl, fun q hq => absurd hq List.not_mem_nil, trivial, fun f hf => ?_, fun q hq => absurd hq List.not_mem_nil, fun q hq => absurd hq List.not_mem_nil, fun q hq => absurd hq List.not_mem_nil, fun q hq => ?_⟩
  · simp only [List.mem_cons, List.not_mem_nil, or_false] at hf
    subst hf
    show (0 : Int) ≤ ((-1) + ((1) * ρ 3 + ((-1) * ρ 4 + 0)))
    omega
  · simp only [List.mem_cons, List.not_mem_nil, or_false] at hq
    subst hq
    show (qRC 3 (tB (vw C h))) (((0) + ((1) * ρ 2 + ((2048) * ρ 3 + 0)))) (((0) + ((1) * ρ 6 + 0)))
    refine c2 (P := (qRC 3 (tB (vw C h)))) (r := ρ 2 + 2048 * ρ 3) (c := ρ 6) ?_ (by omega) (by omega)
    show (qRC 3 (tB (vw C h))) (ρ 2 + 2048 * ρ 3) (ρ 6)
    exact rc_in (n := ρ 2) (s := ρ 3) (d := (0 : Int)) (K := (0 : Int)) (R := (0 : Int)) (by omega) (by omega) (by omega) (by omega) (by omega) (by omega) (by omega) (by omega) (by omega) (by omega) q (by omega) (by omega) (by omega) (by omega) (by omega)
/-- op3C -/
theorem lem_382_ok (hU : uqG G C) : lem_382.1.2.1 = [] ∧ lemOK (PRd G C D xs) G rgs lem_382 := by
  refine ⟨rfl, fun ρ h ha hT => ?_⟩
  obtain ⟨-, -, hF, hG, hH, hA, hP⟩ := ha
  have f0 : (0 : Int) ≤ ((0) + ((1) * ρ 2 + 0)) := hF _ (List.mem_of_getElem? (i := 0) rfl)
  have f1 : (0 : Int) ≤ ((1200) + ((-1) * ρ 2 + 0)) := hF _ (List.mem_of_getElem? (i := 1) rfl)
  have f2 : (0 : Int) ≤ ((0) + ((1) * ρ 3 + 0)) := hF _ (List.mem_of_getElem? (i := 2) rfl)
  have f3 : (0 : Int) ≤ ((0) + ((1) * ρ 2 + ((-1) * ρ 3 + 0))) := hF _ (List.mem_of_getElem? (i := 3) rfl)
  have g0 : G (ρ 0).toNat = 14 := by
    have q := (hG _ (List.mem_of_getElem? (i := 0) rfl)).2
    rwa [show ev ρ (0, [(0, 1)]) = ρ 0 from ev_v] at q
  have g1 : G (ρ 1).toNat = 17 := by
    have q := (hG _ (List.mem_of_getElem? (i := 1) rfl)).2
    rwa [show ev ρ (0, [(1, 1)]) = ρ 1 from ev_v] at q
  have h1 : (0 : Int) ≤ ρ 2 ∧ ρ 2 ≤ 1200 := hf_rg hT (hH _ (List.mem_of_getElem? (i := 1) rfl)) ev_v g1 rfl rfl rfl ev_v
  have h2 : (0 : Int) ≤ ρ 3 ∧ ρ 3 ≤ 1200 := hf_rg hT (hH _ (List.mem_of_getElem? (i := 2) rfl)) ev_v g1 rfl rfl rfl ev_v
  have p0 : (qRC 3 (tB (vw C h))) (ρ 2 + 2048 * ρ 3) (ρ 4) := c2 (P := (qRC 3 (tB (vw C h)))) (show (qRC 3 (tB (vw C h))) (((0) + ((1) * ρ 2 + ((2048) * ρ 3 + 0)))) (((0) + ((1) * ρ 4 + 0))) from hP _ (List.mem_of_getElem? (i := 0) rfl)) (by omega) (by omega)
  have hc0 := p0.1
  have hR := rc_el (n := ρ 2) (s := ρ 3) (d := (0 : Int)) (K := (0 : Int)) (R := (0 : Int)) p0 (by omega) (by omega) (by omega) (by omega) (by omega) (by omega) (by omega) (by omega) (by omega) (by omega)
  refine ⟨_, List.mem_cons_self, ρ, fun _ _ => rfl, fun q hq => absurd hq List.not_mem_nil, trivial, fun f hf => ?_, fun q hq => absurd hq List.not_mem_nil, fun q hq => absurd hq List.not_mem_nil, fun q hq => absurd hq List.not_mem_nil, fun q hq => ?_⟩
  · exact absurd hf List.not_mem_nil
  · simp only [List.mem_cons, List.not_mem_nil, or_false] at hq
    subst hq
    show q165 (tB (vw C h)) (((4194304) + ((1) * ρ 2 + ((2048) * ρ 3 + 0))))
    refine c2 (P := (fun r (_ : Int) => q165 (tB (vw C h)) r)) (c := 0) (c' := 0) (r := ρ 2 + 2048 * ρ 3 + 4194304) ?_ (by omega) rfl
    show q165 (tB (vw C h)) (ρ 2 + 2048 * ρ 3 + 4194304)
    exact o165 (n := ρ 2) (s := ρ 3) (w := 1) (by omega) (by omega) (by omega) (by omega) (by omega) (by omega) (fun hw => fw_3 hR hw)
/-- st3C -/
theorem lem_383_ok (hU : uqG G C) : lem_383.1.2.1 = [] ∧ lemOK (PRd G C D xs) G rgs lem_383 := by
  refine ⟨rfl, fun ρ h ha hT => ?_⟩
  obtain ⟨-, -, hF, hG, hH, hA, hP⟩ := ha
  have f0 : (0 : Int) ≤ ((0) + ((1) * ρ 2 + 0)) := hF _ (List.mem_of_getElem? (i := 0) rfl)
  have f1 : (0 : Int) ≤ ((1200) + ((-1) * ρ 2 + 0)) := hF _ (List.mem_of_getElem? (i := 1) rfl)
  have f2 : (0 : Int) ≤ ((0) + ((1) * ρ 3 + 0)) := hF _ (List.mem_of_getElem? (i := 2) rfl)
  have f3 : (0 : Int) ≤ ((0) + ((1) * ρ 2 + ((-1) * ρ 3 + 0))) := hF _ (List.mem_of_getElem? (i := 3) rfl)
  have f4 : (0 : Int) ≤ ((0) + ((1) * ρ 4 + 0)) := hF _ (List.mem_of_getElem? (i := 4) rfl)
  have f5 : (0 : Int) ≤ ((0) + ((1) * ρ 2 + ((-1) * ρ 4 + 0))) := hF _ (List.mem_of_getElem? (i := 5) rfl)
  have g0 : G (ρ 0).toNat = 14 := by
    have q := (hG _ (List.mem_of_getElem? (i := 0) rfl)).2
    rwa [show ev ρ (0, [(0, 1)]) = ρ 0 from ev_v] at q
  have g1 : G (ρ 1).toNat = 17 := by
    have q := (hG _ (List.mem_of_getElem? (i := 1) rfl)).2
    rwa [show ev ρ (0, [(1, 1)]) = ρ 1 from ev_v] at q
  have h1 : (0 : Int) ≤ ρ 2 ∧ ρ 2 ≤ 1200 := hf_rg hT (hH _ (List.mem_of_getElem? (i := 1) rfl)) ev_v g1 rfl rfl rfl ev_v
  have h2 : (0 : Int) ≤ ρ 3 ∧ ρ 3 ≤ 1200 := hf_rg hT (hH _ (List.mem_of_getElem? (i := 2) rfl)) ev_v g1 rfl rfl rfl ev_v
  have p0 : q158 (tB (vw C h)) (ρ 2 + 2048 * ρ 3) (ρ 4) := c2 (P := q158 (tB (vw C h))) (show q158 (tB (vw C h)) (((0) + ((1) * ρ 2 + ((2048) * ρ 3 + 0)))) (((0) + ((1) * ρ 4 + 0))) from hP _ (List.mem_of_getElem? (i := 0) rfl)) (by omega) (by omega)
  have p1 : q159 (tB (vw C h)) (ρ 2 + 2048 * ρ 4 + 4194304) ((1 : Int)) := c2 (P := q159 (tB (vw C h))) (show q159 (tB (vw C h)) (((4194304) + ((1) * ρ 2 + ((2048) * ρ 4 + 0)))) (((1) + 0)) from hP _ (List.mem_of_getElem? (i := 1) rfl)) (by omega) (by omega)
  have p2 : (qRC 3 (tB (vw C h))) (ρ 2 + 2048 * ρ 4) (ρ 5) := c2 (P := (qRC 3 (tB (vw C h)))) (show (qRC 3 (tB (vw C h))) (((0) + ((1) * ρ 2 + ((2048) * ρ 4 + 0)))) (((0) + ((1) * ρ 5 + 0))) from hP _ (List.mem_of_getElem? (i := 2) rfl)) (by omega) (by omega)
  have iw1 : tIsB (tB (vw C h)) (ρ 2).toNat (ρ 4).toNat (wd 1) = true := b01_1 (k159 (n := ρ 2) (s := ρ 4) (w := 1) (by omega) (by omega) (by omega) (by omega) (by omega) (by omega) p1)
  have hkd := (is_el.mp iw1).1
  have nx := k158 (n := ρ 2) (s := ρ 4) (t := ρ 3) (by omega) (by omega) (by omega) (by omega) (by omega) (by omega) p0
  have ng := nx_gt (B := (tB (vw C h))) (n := (ρ 2).toNat) (s := (ρ 4).toNat) (by omega)
  have hc0 := p2.1
  have hR := rc_el (n := ρ 2) (s := ρ 4) (d := (0 : Int)) (K := (0 : Int)) (R := (0 : Int)) p2 (by omega) (by omega) (by omega) (by omega) (by omega) (by omega) (by omega) (by omega) (by omega) (by omega)
  have q := sw_3 hR iw1
  refine ⟨_, List.mem_cons_self, ρ, fun _ _ => rfl, fun q hq => absurd hq List.not_mem_nil, trivial, fun f hf => ?_, fun q hq => absurd hq List.not_mem_nil, fun q hq => absurd hq List.not_mem_nil, fun q hq => absurd hq List.not_mem_nil, fun q hq => ?_⟩
  · simp only [List.mem_cons, List.not_mem_nil, or_false] at hf
    subst hf
    show (0 : Int) ≤ ((-1) + ((1) * ρ 3 + ((-1) * ρ 4 + 0)))
    omega
  · simp only [List.mem_cons, List.not_mem_nil, or_false] at hq
    subst hq
    show (qRC 4 (tB (vw C h))) (((0) + ((1) * ρ 2 + ((2048) * ρ 3 + 0)))) (((0) + ((1) * ρ 5 + 0)))
    refine c2 (P := (qRC 4 (tB (vw C h)))) (r := ρ 2 + 2048 * ρ 3) (c := ρ 5) ?_ (by omega) (by omega)
    show (qRC 4 (tB (vw C h))) (ρ 2 + 2048 * ρ 3) (ρ 5)
    exact rc_in (n := ρ 2) (s := ρ 3) (d := (0 : Int)) (K := (0 : Int)) (R := (0 : Int)) (by omega) (by omega) (by omega) (by omega) (by omega) (by omega) (by omega) (by omega) (by omega) (by omega) q (by omega) (by omega) (by omega) (by omega) (by omega)
/-- op4C -/
theorem lem_384_ok (hU : uqG G C) : lem_384.1.2.1 = [] ∧ lemOK (PRd G C D xs) G rgs lem_384 := by
  refine ⟨rfl, fun ρ h ha hT => ?_⟩
  obtain ⟨-, -, hF, hG, hH, hA, hP⟩ := ha
  have f0 : (0 : Int) ≤ ((0) + ((1) * ρ 2 + 0)) := hF _ (List.mem_of_getElem? (i := 0) rfl)
  have f1 : (0 : Int) ≤ ((1200) + ((-1) * ρ 2 + 0)) := hF _ (List.mem_of_getElem? (i := 1) rfl)
  have f2 : (0 : Int) ≤ ((0) + ((1) * ρ 3 + 0)) := hF _ (List.mem_of_getElem? (i := 2) rfl)
  have f3 : (0 : Int) ≤ ((0) + ((1) * ρ 2 + ((-1) * ρ 3 + 0))) := hF _ (List.mem_of_getElem? (i := 3) rfl)
  have g0 : G (ρ 0).toNat = 14 := by
    have q := (hG _ (List.mem_of_getElem? (i := 0) rfl)).2
    rwa [show ev ρ (0, [(0, 1)]) = ρ 0 from ev_v] at q
  have g1 : G (ρ 1).toNat = 17 := by
    have q := (hG _ (List.mem_of_getElem? (i := 1) rfl)).2
    rwa [show ev ρ (0, [(1, 1)]) = ρ 1 from ev_v] at q
  have h1 : (0 : Int) ≤ ρ 2 ∧ ρ 2 ≤ 1200 := hf_rg hT (hH _ (List.mem_of_getElem? (i := 1) rfl)) ev_v g1 rfl rfl rfl ev_v
  have h2 : (0 : Int) ≤ ρ 3 ∧ ρ 3 ≤ 1200 := hf_rg hT (hH _ (List.mem_of_getElem? (i := 2) rfl)) ev_v g1 rfl rfl rfl ev_v
  have p0 : (qRC 4 (tB (vw C h))) (ρ 2 + 2048 * ρ 3) (ρ 4) := c2 (P := (qRC 4 (tB (vw C h)))) (show (qRC 4 (tB (vw C h))) (((0) + ((1) * ρ 2 + ((2048) * ρ 3 + 0)))) (((0) + ((1) * ρ 4 + 0))) from hP _ (List.mem_of_getElem? (i := 0) rfl)) (by omega) (by omega)
  have hc0 := p0.1
  have hR := rc_el (n := ρ 2) (s := ρ 3) (d := (0 : Int)) (K := (0 : Int)) (R := (0 : Int)) p0 (by omega) (by omega) (by omega) (by omega) (by omega) (by omega) (by omega) (by omega) (by omega) (by omega)
  refine ⟨_, List.mem_cons_self, ρ, fun _ _ => rfl, fun q hq => absurd hq List.not_mem_nil, trivial, fun f hf => ?_, fun q hq => absurd hq List.not_mem_nil, fun q hq => absurd hq List.not_mem_nil, fun q hq => absurd hq List.not_mem_nil, fun q hq => ?_⟩
  · exact absurd hf List.not_mem_nil
  · simp only [List.mem_cons, List.not_mem_nil, or_false] at hq
    subst hq
    show q163 (tB (vw C h)) (((68719480930304) + ((1) * ρ 2 + ((2048) * ρ 3 + 0))))
    refine c2 (P := (fun r (_ : Int) => q163 (tB (vw C h)) r)) (c := 0) (c' := 0) (r := ρ 2 + 2048 * ρ 3 + 68719480930304) ?_ (by omega) rfl
    show q163 (tB (vw C h)) (ρ 2 + 2048 * ρ 3 + 68719480930304)
    exact o163 (n := ρ 2) (s := ρ 3) (lo := 1) (hi := 999) (by omega) (by omega) (by omega) (by omega) (by omega) (by omega) (by omega) (fn_4 hR)
/-- st4C -/
theorem lem_385_ok (hU : uqG G C) : lem_385.1.2.1 = [] ∧ lemOK (PRd G C D xs) G rgs lem_385 := by
  refine ⟨rfl, fun ρ h ha hT => ?_⟩
  obtain ⟨-, -, hF, hG, hH, hA, hP⟩ := ha
  have f0 : (0 : Int) ≤ ((0) + ((1) * ρ 2 + 0)) := hF _ (List.mem_of_getElem? (i := 0) rfl)
  have f1 : (0 : Int) ≤ ((1200) + ((-1) * ρ 2 + 0)) := hF _ (List.mem_of_getElem? (i := 1) rfl)
  have f2 : (0 : Int) ≤ ((0) + ((1) * ρ 3 + 0)) := hF _ (List.mem_of_getElem? (i := 2) rfl)
  have f3 : (0 : Int) ≤ ((0) + ((1) * ρ 2 + ((-1) * ρ 3 + 0))) := hF _ (List.mem_of_getElem? (i := 3) rfl)
  have f4 : (0 : Int) ≤ ((0) + ((1) * ρ 4 + 0)) := hF _ (List.mem_of_getElem? (i := 4) rfl)
  have f5 : (0 : Int) ≤ ((0) + ((1) * ρ 2 + ((-1) * ρ 4 + 0))) := hF _ (List.mem_of_getElem? (i := 5) rfl)
  have f6 : (0 : Int) ≤ ((-1) + ((1) * ρ 5 + 0)) := hF _ (List.mem_of_getElem? (i := 6) rfl)
  have f7 : (0 : Int) ≤ ((999) + ((-1) * ρ 5 + 0)) := hF _ (List.mem_of_getElem? (i := 7) rfl)
  have g0 : G (ρ 0).toNat = 14 := by
    have q := (hG _ (List.mem_of_getElem? (i := 0) rfl)).2
    rwa [show ev ρ (0, [(0, 1)]) = ρ 0 from ev_v] at q
  have g1 : G (ρ 1).toNat = 17 := by
    have q := (hG _ (List.mem_of_getElem? (i := 1) rfl)).2
    rwa [show ev ρ (0, [(1, 1)]) = ρ 1 from ev_v] at q
  have h1 : (0 : Int) ≤ ρ 2 ∧ ρ 2 ≤ 1200 := hf_rg hT (hH _ (List.mem_of_getElem? (i := 1) rfl)) ev_v g1 rfl rfl rfl ev_v
  have h2 : (0 : Int) ≤ ρ 3 ∧ ρ 3 ≤ 1200 := hf_rg hT (hH _ (List.mem_of_getElem? (i := 2) rfl)) ev_v g1 rfl rfl rfl ev_v
  have p0 : q158 (tB (vw C h)) (ρ 2 + 2048 * ρ 3) (ρ 4) := c2 (P := q158 (tB (vw C h))) (show q158 (tB (vw C h)) (((0) + ((1) * ρ 2 + ((2048) * ρ 3 + 0)))) (((0) + ((1) * ρ 4 + 0))) from hP _ (List.mem_of_getElem? (i := 0) rfl)) (by omega) (by omega)
  have p1 : q164 (tB (vw C h)) (ρ 2 + 2048 * ρ 4) (ρ 5) := c2 (P := q164 (tB (vw C h))) (show q164 (tB (vw C h)) (((0) + ((1) * ρ 2 + ((2048) * ρ 4 + 0)))) (((0) + ((1) * ρ 5 + 0))) from hP _ (List.mem_of_getElem? (i := 1) rfl)) (by omega) (by omega)
  have p2 : (qRC 4 (tB (vw C h))) (ρ 2 + 2048 * ρ 4) (ρ 6) := c2 (P := (qRC 4 (tB (vw C h)))) (show (qRC 4 (tB (vw C h))) (((0) + ((1) * ρ 2 + ((2048) * ρ 4 + 0)))) (((0) + ((1) * ρ 6 + 0))) from hP _ (List.mem_of_getElem? (i := 2) rfl)) (by omega) (by omega)
  obtain ⟨hkd, nv⟩ := k164 (n := ρ 2) (s := ρ 4) (by omega) (by omega) (by omega) (by omega) (by omega) p1
  have nx := k158 (n := ρ 2) (s := ρ 4) (t := ρ 3) (by omega) (by omega) (by omega) (by omega) (by omega) (by omega) p0
  have ng := nx_gt (B := (tB (vw C h))) (n := (ρ 2).toNat) (s := (ρ 4).toNat) (by omega)
  have hc0 := p2.1
  have hR := rc_el (n := ρ 2) (s := ρ 4) (d := (0 : Int)) (K := (0 : Int)) (R := (0 : Int)) p2 (by omega) (by omega) (by omega) (by omega) (by omega) (by omega) (by omega) (by omega) (by omega) (by omega)
  have q := sn_4 hR hkd (by omega) (by omega)
  obtain ⟨σ, r1, r2a⟩ : ∃ σ : Va, (∀ i, i < 7 → σ i = ρ i) ∧ σ 7 = ((setC (ρ 6).toNat 2 (ρ 5).toNat : Nat) : Int) := ⟨fun i => if i = 7 then ((setC (ρ 6).toNat 2 (ρ 5).toNat : Nat) : Int) else ρ i, fun i hi => by dsimp only; rw [if_neg (by omega)], by dsimp only; rw [if_pos rfl]⟩
  have s0 := r1 0 (by omega)
  have s1 := r1 1 (by omega)
  have s2 := r1 2 (by omega)
  have s3 := r1 3 (by omega)
  have s4 := r1 4 (by omega)
  have s5 := r1 5 (by omega)
  have s6 := r1 6 (by omega)
  refine ⟨_, List.mem_cons_self, σ, r1, fun q hq => absurd hq List.not_mem_nil, trivial, fun f hf => ?_, fun q hq => absurd hq List.not_mem_nil, fun q hq => absurd hq List.not_mem_nil, fun q hq => absurd hq List.not_mem_nil, fun q hq => ?_⟩
  · simp only [List.mem_cons, List.not_mem_nil, or_false] at hf
    subst hf
    show (0 : Int) ≤ ((-1) + ((1) * σ 3 + ((-1) * σ 4 + 0)))
    omega
  · simp only [List.mem_cons, List.not_mem_nil, or_false] at hq
    rcases hq with rfl | rfl
    · show (qRC 5 (tB (vw C h))) (((0) + ((1) * σ 2 + ((2048) * σ 3 + 0)))) (((0) + ((1) * σ 7 + 0)))
      refine c2 (P := (qRC 5 (tB (vw C h)))) (r := ρ 2 + 2048 * ρ 3) (c := ((setC (ρ 6).toNat 2 (ρ 5).toNat : Nat) : Int)) ?_ (by omega) (by omega)
      show (qRC 5 (tB (vw C h))) (ρ 2 + 2048 * ρ 3) (((setC (ρ 6).toNat 2 (ρ 5).toNat : Nat) : Int))
      exact rc_in (n := ρ 2) (s := ρ 3) (d := (0 : Int)) (K := (0 : Int)) (R := (0 : Int)) (by omega) (by omega) (by omega) (by omega) (by omega) (by omega) (by omega) (by omega) (by omega) (by omega) q (by omega) (by omega) (by omega) (by omega) (by rw [nv])
    · show qSet (((131072) + ((1) * σ 5 + ((16777216) * σ 6 + 0)))) (((0) + ((1) * σ 7 + 0)))
      refine c2 (P := qSet) (r := ρ 5 + 16777216 * ρ 6 + 131072) (c := ((setC (ρ 6).toNat 2 (ρ 5).toNat : Nat) : Int)) ?_ (by omega) (by omega)
      show qSet (ρ 5 + 16777216 * ρ 6 + 131072) (((setC (ρ 6).toNat 2 (ρ 5).toNat : Nat) : Int))
      exact oSet (V := ρ 6) (v := ρ 5) (k := 2) (by omega) (by decide) (by omega) (by omega) rfl
/-- op5C -/
theorem lem_386_ok (hU : uqG G C) : lem_386.1.2.1 = [] ∧ lemOK (PRd G C D xs) G rgs lem_386 := by
  refine ⟨rfl, fun ρ h ha hT => ?_⟩
  obtain ⟨-, -, hF, hG, hH, hA, hP⟩ := ha
  have f0 : (0 : Int) ≤ ((0) + ((1) * ρ 2 + 0)) := hF _ (List.mem_of_getElem? (i := 0) rfl)
  have f1 : (0 : Int) ≤ ((1200) + ((-1) * ρ 2 + 0)) := hF _ (List.mem_of_getElem? (i := 1) rfl)
  have f2 : (0 : Int) ≤ ((0) + ((1) * ρ 3 + 0)) := hF _ (List.mem_of_getElem? (i := 2) rfl)
  have f3 : (0 : Int) ≤ ((0) + ((1) * ρ 2 + ((-1) * ρ 3 + 0))) := hF _ (List.mem_of_getElem? (i := 3) rfl)
  have g0 : G (ρ 0).toNat = 14 := by
    have q := (hG _ (List.mem_of_getElem? (i := 0) rfl)).2
    rwa [show ev ρ (0, [(0, 1)]) = ρ 0 from ev_v] at q
  have g1 : G (ρ 1).toNat = 17 := by
    have q := (hG _ (List.mem_of_getElem? (i := 1) rfl)).2
    rwa [show ev ρ (0, [(1, 1)]) = ρ 1 from ev_v] at q
  have h1 : (0 : Int) ≤ ρ 2 ∧ ρ 2 ≤ 1200 := hf_rg hT (hH _ (List.mem_of_getElem? (i := 1) rfl)) ev_v g1 rfl rfl rfl ev_v
  have h2 : (0 : Int) ≤ ρ 3 ∧ ρ 3 ≤ 1200 := hf_rg hT (hH _ (List.mem_of_getElem? (i := 2) rfl)) ev_v g1 rfl rfl rfl ev_v
  have p0 : (qRC 5 (tB (vw C h))) (ρ 2 + 2048 * ρ 3) (ρ 4) := c2 (P := (qRC 5 (tB (vw C h)))) (show (qRC 5 (tB (vw C h))) (((0) + ((1) * ρ 2 + ((2048) * ρ 3 + 0)))) (((0) + ((1) * ρ 4 + 0))) from hP _ (List.mem_of_getElem? (i := 0) rfl)) (by omega) (by omega)
  have hc0 := p0.1
  have hR := rc_el (n := ρ 2) (s := ρ 3) (d := (0 : Int)) (K := (0 : Int)) (R := (0 : Int)) p0 (by omega) (by omega) (by omega) (by omega) (by omega) (by omega) (by omega) (by omega) (by omega) (by omega)
  refine ⟨_, List.mem_cons_self, ρ, fun _ _ => rfl, fun q hq => absurd hq List.not_mem_nil, trivial, fun f hf => ?_, fun q hq => absurd hq List.not_mem_nil, fun q hq => absurd hq List.not_mem_nil, fun q hq => absurd hq List.not_mem_nil, fun q hq => ?_⟩
  · exact absurd hf List.not_mem_nil
  · simp only [List.mem_cons, List.not_mem_nil, or_false] at hq
    subst hq
    show q165 (tB (vw C h)) (((8388608) + ((1) * ρ 2 + ((2048) * ρ 3 + 0))))
    refine c2 (P := (fun r (_ : Int) => q165 (tB (vw C h)) r)) (c := 0) (c' := 0) (r := ρ 2 + 2048 * ρ 3 + 8388608) ?_ (by omega) rfl
    show q165 (tB (vw C h)) (ρ 2 + 2048 * ρ 3 + 8388608)
    exact o165 (n := ρ 2) (s := ρ 3) (w := 2) (by omega) (by omega) (by omega) (by omega) (by omega) (by omega) (fun hw => fw_5 hR hw)
/-- st5C -/
theorem lem_387_ok (hU : uqG G C) : lem_387.1.2.1 = [] ∧ lemOK (PRd G C D xs) G rgs lem_387 := by
  refine ⟨rfl, fun ρ h ha hT => ?_⟩
  obtain ⟨-, -, hF, hG, hH, hA, hP⟩ := ha
  have f0 : (0 : Int) ≤ ((0) + ((1) * ρ 2 + 0)) := hF _ (List.mem_of_getElem? (i := 0) rfl)
  have f1 : (0 : Int) ≤ ((1200) + ((-1) * ρ 2 + 0)) := hF _ (List.mem_of_getElem? (i := 1) rfl)
  have f2 : (0 : Int) ≤ ((0) + ((1) * ρ 3 + 0)) := hF _ (List.mem_of_getElem? (i := 2) rfl)
  have f3 : (0 : Int) ≤ ((0) + ((1) * ρ 2 + ((-1) * ρ 3 + 0))) := hF _ (List.mem_of_getElem? (i := 3) rfl)
  have f4 : (0 : Int) ≤ ((0) + ((1) * ρ 4 + 0)) := hF _ (List.mem_of_getElem? (i := 4) rfl)
  have f5 : (0 : Int) ≤ ((0) + ((1) * ρ 2 + ((-1) * ρ 4 + 0))) := hF _ (List.mem_of_getElem? (i := 5) rfl)
  have g0 : G (ρ 0).toNat = 14 := by
    have q := (hG _ (List.mem_of_getElem? (i := 0) rfl)).2
    rwa [show ev ρ (0, [(0, 1)]) = ρ 0 from ev_v] at q
  have g1 : G (ρ 1).toNat = 17 := by
    have q := (hG _ (List.mem_of_getElem? (i := 1) rfl)).2
    rwa [show ev ρ (0, [(1, 1)]) = ρ 1 from ev_v] at q
  have h1 : (0 : Int) ≤ ρ 2 ∧ ρ 2 ≤ 1200 := hf_rg hT (hH _ (List.mem_of_getElem? (i := 1) rfl)) ev_v g1 rfl rfl rfl ev_v
  have h2 : (0 : Int) ≤ ρ 3 ∧ ρ 3 ≤ 1200 := hf_rg hT (hH _ (List.mem_of_getElem? (i := 2) rfl)) ev_v g1 rfl rfl rfl ev_v
  have p0 : q158 (tB (vw C h)) (ρ 2 + 2048 * ρ 3) (ρ 4) := c2 (P := q158 (tB (vw C h))) (show q158 (tB (vw C h)) (((0) + ((1) * ρ 2 + ((2048) * ρ 3 + 0)))) (((0) + ((1) * ρ 4 + 0))) from hP _ (List.mem_of_getElem? (i := 0) rfl)) (by omega) (by omega)
  have p1 : q159 (tB (vw C h)) (ρ 2 + 2048 * ρ 4 + 8388608) ((1 : Int)) := c2 (P := q159 (tB (vw C h))) (show q159 (tB (vw C h)) (((8388608) + ((1) * ρ 2 + ((2048) * ρ 4 + 0)))) (((1) + 0)) from hP _ (List.mem_of_getElem? (i := 1) rfl)) (by omega) (by omega)
  have p2 : (qRC 5 (tB (vw C h))) (ρ 2 + 2048 * ρ 4) (ρ 5) := c2 (P := (qRC 5 (tB (vw C h)))) (show (qRC 5 (tB (vw C h))) (((0) + ((1) * ρ 2 + ((2048) * ρ 4 + 0)))) (((0) + ((1) * ρ 5 + 0))) from hP _ (List.mem_of_getElem? (i := 2) rfl)) (by omega) (by omega)
  have iw2 : tIsB (tB (vw C h)) (ρ 2).toNat (ρ 4).toNat (wd 2) = true := b01_1 (k159 (n := ρ 2) (s := ρ 4) (w := 2) (by omega) (by omega) (by omega) (by omega) (by omega) (by omega) p1)
  have hkd := (is_el.mp iw2).1
  have nx := k158 (n := ρ 2) (s := ρ 4) (t := ρ 3) (by omega) (by omega) (by omega) (by omega) (by omega) (by omega) p0
  have ng := nx_gt (B := (tB (vw C h))) (n := (ρ 2).toNat) (s := (ρ 4).toNat) (by omega)
  have hc0 := p2.1
  have hR := rc_el (n := ρ 2) (s := ρ 4) (d := (0 : Int)) (K := (0 : Int)) (R := (0 : Int)) p2 (by omega) (by omega) (by omega) (by omega) (by omega) (by omega) (by omega) (by omega) (by omega) (by omega)
  have q := sw_5 hR iw2
  refine ⟨_, List.mem_cons_self, ρ, fun _ _ => rfl, fun q hq => absurd hq List.not_mem_nil, trivial, fun f hf => ?_, fun q hq => absurd hq List.not_mem_nil, fun q hq => absurd hq List.not_mem_nil, fun q hq => absurd hq List.not_mem_nil, fun q hq => ?_⟩
  · simp only [List.mem_cons, List.not_mem_nil, or_false] at hf
    subst hf
    show (0 : Int) ≤ ((-1) + ((1) * ρ 3 + ((-1) * ρ 4 + 0)))
    omega
  · simp only [List.mem_cons, List.not_mem_nil, or_false] at hq
    subst hq
    show (qRC 6 (tB (vw C h))) (((0) + ((1) * ρ 2 + ((2048) * ρ 3 + 0)))) (((0) + ((1) * ρ 5 + 0)))
    refine c2 (P := (qRC 6 (tB (vw C h)))) (r := ρ 2 + 2048 * ρ 3) (c := ρ 5) ?_ (by omega) (by omega)
    show (qRC 6 (tB (vw C h))) (ρ 2 + 2048 * ρ 3) (ρ 5)
    exact rc_in (n := ρ 2) (s := ρ 3) (d := (0 : Int)) (K := (0 : Int)) (R := (0 : Int)) (by omega) (by omega) (by omega) (by omega) (by omega) (by omega) (by omega) (by omega) (by omega) (by omega) q (by omega) (by omega) (by omega) (by omega) (by omega)
/-- op6C -/
theorem lem_388_ok (hU : uqG G C) : lem_388.1.2.1 = [] ∧ lemOK (PRd G C D xs) G rgs lem_388 := by
  refine ⟨rfl, fun ρ h ha hT => ?_⟩
  obtain ⟨-, -, hF, hG, hH, hA, hP⟩ := ha
  have f0 : (0 : Int) ≤ ((0) + ((1) * ρ 2 + 0)) := hF _ (List.mem_of_getElem? (i := 0) rfl)
  have f1 : (0 : Int) ≤ ((1200) + ((-1) * ρ 2 + 0)) := hF _ (List.mem_of_getElem? (i := 1) rfl)
  have f2 : (0 : Int) ≤ ((0) + ((1) * ρ 3 + 0)) := hF _ (List.mem_of_getElem? (i := 2) rfl)
  have f3 : (0 : Int) ≤ ((0) + ((1) * ρ 2 + ((-1) * ρ 3 + 0))) := hF _ (List.mem_of_getElem? (i := 3) rfl)
  have g0 : G (ρ 0).toNat = 14 := by
    have q := (hG _ (List.mem_of_getElem? (i := 0) rfl)).2
    rwa [show ev ρ (0, [(0, 1)]) = ρ 0 from ev_v] at q
  have g1 : G (ρ 1).toNat = 17 := by
    have q := (hG _ (List.mem_of_getElem? (i := 1) rfl)).2
    rwa [show ev ρ (0, [(1, 1)]) = ρ 1 from ev_v] at q
  have h1 : (0 : Int) ≤ ρ 2 ∧ ρ 2 ≤ 1200 := hf_rg hT (hH _ (List.mem_of_getElem? (i := 1) rfl)) ev_v g1 rfl rfl rfl ev_v
  have h2 : (0 : Int) ≤ ρ 3 ∧ ρ 3 ≤ 1200 := hf_rg hT (hH _ (List.mem_of_getElem? (i := 2) rfl)) ev_v g1 rfl rfl rfl ev_v
  have p0 : (qRC 6 (tB (vw C h))) (ρ 2 + 2048 * ρ 3) (ρ 4) := c2 (P := (qRC 6 (tB (vw C h)))) (show (qRC 6 (tB (vw C h))) (((0) + ((1) * ρ 2 + ((2048) * ρ 3 + 0)))) (((0) + ((1) * ρ 4 + 0))) from hP _ (List.mem_of_getElem? (i := 0) rfl)) (by omega) (by omega)
  have hc0 := p0.1
  have hR := rc_el (n := ρ 2) (s := ρ 3) (d := (0 : Int)) (K := (0 : Int)) (R := (0 : Int)) p0 (by omega) (by omega) (by omega) (by omega) (by omega) (by omega) (by omega) (by omega) (by omega) (by omega)
  refine ⟨_, List.mem_cons_self, ρ, fun _ _ => rfl, fun q hq => absurd hq List.not_mem_nil, trivial, fun f hf => ?_, fun q hq => absurd hq List.not_mem_nil, fun q hq => absurd hq List.not_mem_nil, fun q hq => absurd hq List.not_mem_nil, fun q hq => ?_⟩
  · exact absurd hf List.not_mem_nil
  · simp only [List.mem_cons, List.not_mem_nil, or_false] at hq
    subst hq
    show q163 (tB (vw C h)) (((687194767360000) + ((1) * ρ 2 + ((2048) * ρ 3 + 0))))
    refine c2 (P := (fun r (_ : Int) => q163 (tB (vw C h)) r)) (c := 0) (c' := 0) (r := ρ 2 + 2048 * ρ 3 + 687194767360000) ?_ (by omega) rfl
    show q163 (tB (vw C h)) (ρ 2 + 2048 * ρ 3 + 687194767360000)
    exact o163 (n := ρ 2) (s := ρ 3) (lo := 0) (hi := 9999) (by omega) (by omega) (by omega) (by omega) (by omega) (by omega) (by omega) (fn_6 hR)
/-- st6C -/
theorem lem_389_ok (hU : uqG G C) : lem_389.1.2.1 = [] ∧ lemOK (PRd G C D xs) G rgs lem_389 := by
  refine ⟨rfl, fun ρ h ha hT => ?_⟩
  obtain ⟨-, -, hF, hG, hH, hA, hP⟩ := ha
  have f0 : (0 : Int) ≤ ((0) + ((1) * ρ 2 + 0)) := hF _ (List.mem_of_getElem? (i := 0) rfl)
  have f1 : (0 : Int) ≤ ((1200) + ((-1) * ρ 2 + 0)) := hF _ (List.mem_of_getElem? (i := 1) rfl)
  have f2 : (0 : Int) ≤ ((0) + ((1) * ρ 3 + 0)) := hF _ (List.mem_of_getElem? (i := 2) rfl)
  have f3 : (0 : Int) ≤ ((0) + ((1) * ρ 2 + ((-1) * ρ 3 + 0))) := hF _ (List.mem_of_getElem? (i := 3) rfl)
  have f4 : (0 : Int) ≤ ((0) + ((1) * ρ 4 + 0)) := hF _ (List.mem_of_getElem? (i := 4) rfl)
  have f5 : (0 : Int) ≤ ((0) + ((1) * ρ 2 + ((-1) * ρ 4 + 0))) := hF _ (List.mem_of_getElem? (i := 5) rfl)
  have f6 : (0 : Int) ≤ ((0) + ((1) * ρ 5 + 0)) := hF _ (List.mem_of_getElem? (i := 6) rfl)
  have f7 : (0 : Int) ≤ ((9999) + ((-1) * ρ 5 + 0)) := hF _ (List.mem_of_getElem? (i := 7) rfl)
  have g0 : G (ρ 0).toNat = 14 := by
    have q := (hG _ (List.mem_of_getElem? (i := 0) rfl)).2
    rwa [show ev ρ (0, [(0, 1)]) = ρ 0 from ev_v] at q
  have g1 : G (ρ 1).toNat = 17 := by
    have q := (hG _ (List.mem_of_getElem? (i := 1) rfl)).2
    rwa [show ev ρ (0, [(1, 1)]) = ρ 1 from ev_v] at q
  have h1 : (0 : Int) ≤ ρ 2 ∧ ρ 2 ≤ 1200 := hf_rg hT (hH _ (List.mem_of_getElem? (i := 1) rfl)) ev_v g1 rfl rfl rfl ev_v
  have h2 : (0 : Int) ≤ ρ 3 ∧ ρ 3 ≤ 1200 := hf_rg hT (hH _ (List.mem_of_getElem? (i := 2) rfl)) ev_v g1 rfl rfl rfl ev_v
  have p0 : q158 (tB (vw C h)) (ρ 2 + 2048 * ρ 3) (ρ 4) := c2 (P := q158 (tB (vw C h))) (show q158 (tB (vw C h)) (((0) + ((1) * ρ 2 + ((2048) * ρ 3 + 0)))) (((0) + ((1) * ρ 4 + 0))) from hP _ (List.mem_of_getElem? (i := 0) rfl)) (by omega) (by omega)
  have p1 : q164 (tB (vw C h)) (ρ 2 + 2048 * ρ 4) (ρ 5) := c2 (P := q164 (tB (vw C h))) (show q164 (tB (vw C h)) (((0) + ((1) * ρ 2 + ((2048) * ρ 4 + 0)))) (((0) + ((1) * ρ 5 + 0))) from hP _ (List.mem_of_getElem? (i := 1) rfl)) (by omega) (by omega)
  have p2 : (qRC 6 (tB (vw C h))) (ρ 2 + 2048 * ρ 4) (ρ 6) := c2 (P := (qRC 6 (tB (vw C h)))) (show (qRC 6 (tB (vw C h))) (((0) + ((1) * ρ 2 + ((2048) * ρ 4 + 0)))) (((0) + ((1) * ρ 6 + 0))) from hP _ (List.mem_of_getElem? (i := 2) rfl)) (by omega) (by omega)
  obtain ⟨hkd, nv⟩ := k164 (n := ρ 2) (s := ρ 4) (by omega) (by omega) (by omega) (by omega) (by omega) p1
  have nx := k158 (n := ρ 2) (s := ρ 4) (t := ρ 3) (by omega) (by omega) (by omega) (by omega) (by omega) (by omega) p0
  have ng := nx_gt (B := (tB (vw C h))) (n := (ρ 2).toNat) (s := (ρ 4).toNat) (by omega)
  have hc0 := p2.1
  have hR := rc_el (n := ρ 2) (s := ρ 4) (d := (0 : Int)) (K := (0 : Int)) (R := (0 : Int)) p2 (by omega) (by omega) (by omega) (by omega) (by omega) (by omega) (by omega) (by omega) (by omega) (by omega)
  have q := sn_6 hR hkd (by omega) (by omega)
  refine ⟨_, List.mem_cons_self, ρ, fun _ _ => rfl, fun q hq => absurd hq List.not_mem_nil, trivial, fun f hf => ?_, fun q hq => absurd hq List.not_mem_nil, fun q hq => absurd hq List.not_mem_nil, fun q hq => absurd hq List.not_mem_nil, fun q hq => ?_⟩
  · simp only [List.mem_cons, List.not_mem_nil, or_false] at hf
    subst hf
    show (0 : Int) ≤ ((-1) + ((1) * ρ 3 + ((-1) * ρ 4 + 0)))
    omega
  · simp only [List.mem_cons, List.not_mem_nil, or_false] at hq
    subst hq
    show (qRC 7 (tB (vw C h))) (((0) + ((1) * ρ 2 + ((2048) * ρ 3 + 0)))) (((0) + ((1) * ρ 6 + 0)))
    refine c2 (P := (qRC 7 (tB (vw C h)))) (r := ρ 2 + 2048 * ρ 3) (c := ρ 6) ?_ (by omega) (by omega)
    show (qRC 7 (tB (vw C h))) (ρ 2 + 2048 * ρ 3) (ρ 6)
    exact rc_in (n := ρ 2) (s := ρ 3) (d := (0 : Int)) (K := (0 : Int)) (R := (0 : Int)) (by omega) (by omega) (by omega) (by omega) (by omega) (by omega) (by omega) (by omega) (by omega) (by omega) q (by omega) (by omega) (by omega) (by omega) (by omega)
/-- op7C -/
theorem lem_390_ok (hU : uqG G C) : lem_390.1.2.1 = [] ∧ lemOK (PRd G C D xs) G rgs lem_390 := by
  refine ⟨rfl, fun ρ h ha hT => ?_⟩
  obtain ⟨-, -, hF, hG, hH, hA, hP⟩ := ha
  have f0 : (0 : Int) ≤ ((0) + ((1) * ρ 2 + 0)) := hF _ (List.mem_of_getElem? (i := 0) rfl)
  have f1 : (0 : Int) ≤ ((1200) + ((-1) * ρ 2 + 0)) := hF _ (List.mem_of_getElem? (i := 1) rfl)
  have f2 : (0 : Int) ≤ ((0) + ((1) * ρ 3 + 0)) := hF _ (List.mem_of_getElem? (i := 2) rfl)
  have f3 : (0 : Int) ≤ ((0) + ((1) * ρ 2 + ((-1) * ρ 3 + 0))) := hF _ (List.mem_of_getElem? (i := 3) rfl)
  have g0 : G (ρ 0).toNat = 14 := by
    have q := (hG _ (List.mem_of_getElem? (i := 0) rfl)).2
    rwa [show ev ρ (0, [(0, 1)]) = ρ 0 from ev_v] at q
  have g1 : G (ρ 1).toNat = 17 := by
    have q := (hG _ (List.mem_of_getElem? (i := 1) rfl)).2
    rwa [show ev ρ (0, [(1, 1)]) = ρ 1 from ev_v] at q
  have h1 : (0 : Int) ≤ ρ 2 ∧ ρ 2 ≤ 1200 := hf_rg hT (hH _ (List.mem_of_getElem? (i := 1) rfl)) ev_v g1 rfl rfl rfl ev_v
  have h2 : (0 : Int) ≤ ρ 3 ∧ ρ 3 ≤ 1200 := hf_rg hT (hH _ (List.mem_of_getElem? (i := 2) rfl)) ev_v g1 rfl rfl rfl ev_v
  have p0 : (qRC 7 (tB (vw C h))) (ρ 2 + 2048 * ρ 3) (ρ 4) := c2 (P := (qRC 7 (tB (vw C h)))) (show (qRC 7 (tB (vw C h))) (((0) + ((1) * ρ 2 + ((2048) * ρ 3 + 0)))) (((0) + ((1) * ρ 4 + 0))) from hP _ (List.mem_of_getElem? (i := 0) rfl)) (by omega) (by omega)
  have hc0 := p0.1
  have hR := rc_el (n := ρ 2) (s := ρ 3) (d := (0 : Int)) (K := (0 : Int)) (R := (0 : Int)) p0 (by omega) (by omega) (by omega) (by omega) (by omega) (by omega) (by omega) (by omega) (by omega) (by omega)
  refine ⟨_, List.mem_cons_self, ρ, fun _ _ => rfl, fun q hq => absurd hq List.not_mem_nil, trivial, fun f hf => ?_, fun q hq => absurd hq List.not_mem_nil, fun q hq => absurd hq List.not_mem_nil, fun q hq => absurd hq List.not_mem_nil, fun q hq => ?_⟩
  · exact absurd hf List.not_mem_nil
  · simp only [List.mem_cons, List.not_mem_nil, or_false] at hq
    subst hq
    show q165 (tB (vw C h)) (((12582912) + ((1) * ρ 2 + ((2048) * ρ 3 + 0))))
    refine c2 (P := (fun r (_ : Int) => q165 (tB (vw C h)) r)) (c := 0) (c' := 0) (r := ρ 2 + 2048 * ρ 3 + 12582912) ?_ (by omega) rfl
    show q165 (tB (vw C h)) (ρ 2 + 2048 * ρ 3 + 12582912)
    exact o165 (n := ρ 2) (s := ρ 3) (w := 3) (by omega) (by omega) (by omega) (by omega) (by omega) (by omega) (fun hw => fw_7 hR hw)
/-- st7C -/
theorem lem_391_ok (hU : uqG G C) : lem_391.1.2.1 = [] ∧ lemOK (PRd G C D xs) G rgs lem_391 := by
  refine ⟨rfl, fun ρ h ha hT => ?_⟩
  obtain ⟨-, -, hF, hG, hH, hA, hP⟩ := ha
  have f0 : (0 : Int) ≤ ((0) + ((1) * ρ 2 + 0)) := hF _ (List.mem_of_getElem? (i := 0) rfl)
  have f1 : (0 : Int) ≤ ((1200) + ((-1) * ρ 2 + 0)) := hF _ (List.mem_of_getElem? (i := 1) rfl)
  have f2 : (0 : Int) ≤ ((0) + ((1) * ρ 3 + 0)) := hF _ (List.mem_of_getElem? (i := 2) rfl)
  have f3 : (0 : Int) ≤ ((0) + ((1) * ρ 2 + ((-1) * ρ 3 + 0))) := hF _ (List.mem_of_getElem? (i := 3) rfl)
  have f4 : (0 : Int) ≤ ((0) + ((1) * ρ 4 + 0)) := hF _ (List.mem_of_getElem? (i := 4) rfl)
  have f5 : (0 : Int) ≤ ((0) + ((1) * ρ 2 + ((-1) * ρ 4 + 0))) := hF _ (List.mem_of_getElem? (i := 5) rfl)
  have g0 : G (ρ 0).toNat = 14 := by
    have q := (hG _ (List.mem_of_getElem? (i := 0) rfl)).2
    rwa [show ev ρ (0, [(0, 1)]) = ρ 0 from ev_v] at q
  have g1 : G (ρ 1).toNat = 17 := by
    have q := (hG _ (List.mem_of_getElem? (i := 1) rfl)).2
    rwa [show ev ρ (0, [(1, 1)]) = ρ 1 from ev_v] at q
  have h1 : (0 : Int) ≤ ρ 2 ∧ ρ 2 ≤ 1200 := hf_rg hT (hH _ (List.mem_of_getElem? (i := 1) rfl)) ev_v g1 rfl rfl rfl ev_v
  have h2 : (0 : Int) ≤ ρ 3 ∧ ρ 3 ≤ 1200 := hf_rg hT (hH _ (List.mem_of_getElem? (i := 2) rfl)) ev_v g1 rfl rfl rfl ev_v
  have p0 : q158 (tB (vw C h)) (ρ 2 + 2048 * ρ 3) (ρ 4) := c2 (P := q158 (tB (vw C h))) (show q158 (tB (vw C h)) (((0) + ((1) * ρ 2 + ((2048) * ρ 3 + 0)))) (((0) + ((1) * ρ 4 + 0))) from hP _ (List.mem_of_getElem? (i := 0) rfl)) (by omega) (by omega)
  have p1 : q159 (tB (vw C h)) (ρ 2 + 2048 * ρ 4 + 12582912) ((1 : Int)) := c2 (P := q159 (tB (vw C h))) (show q159 (tB (vw C h)) (((12582912) + ((1) * ρ 2 + ((2048) * ρ 4 + 0)))) (((1) + 0)) from hP _ (List.mem_of_getElem? (i := 1) rfl)) (by omega) (by omega)
  have p2 : (qRC 7 (tB (vw C h))) (ρ 2 + 2048 * ρ 4) (ρ 5) := c2 (P := (qRC 7 (tB (vw C h)))) (show (qRC 7 (tB (vw C h))) (((0) + ((1) * ρ 2 + ((2048) * ρ 4 + 0)))) (((0) + ((1) * ρ 5 + 0))) from hP _ (List.mem_of_getElem? (i := 2) rfl)) (by omega) (by omega)
  have iw3 : tIsB (tB (vw C h)) (ρ 2).toNat (ρ 4).toNat (wd 3) = true := b01_1 (k159 (n := ρ 2) (s := ρ 4) (w := 3) (by omega) (by omega) (by omega) (by omega) (by omega) (by omega) p1)
  have hkd := (is_el.mp iw3).1
  have nx := k158 (n := ρ 2) (s := ρ 4) (t := ρ 3) (by omega) (by omega) (by omega) (by omega) (by omega) (by omega) p0
  have ng := nx_gt (B := (tB (vw C h))) (n := (ρ 2).toNat) (s := (ρ 4).toNat) (by omega)
  have hc0 := p2.1
  have hR := rc_el (n := ρ 2) (s := ρ 4) (d := (0 : Int)) (K := (0 : Int)) (R := (0 : Int)) p2 (by omega) (by omega) (by omega) (by omega) (by omega) (by omega) (by omega) (by omega) (by omega) (by omega)
  have q := sw_7 hR iw3
  refine ⟨_, List.mem_cons_self, ρ, fun _ _ => rfl, fun q hq => absurd hq List.not_mem_nil, trivial, fun f hf => ?_, fun q hq => absurd hq List.not_mem_nil, fun q hq => absurd hq List.not_mem_nil, fun q hq => absurd hq List.not_mem_nil, fun q hq => ?_⟩
  · simp only [List.mem_cons, List.not_mem_nil, or_false] at hf
    subst hf
    show (0 : Int) ≤ ((-1) + ((1) * ρ 3 + ((-1) * ρ 4 + 0)))
    omega
  · simp only [List.mem_cons, List.not_mem_nil, or_false] at hq
    subst hq
    show (qRC 8 (tB (vw C h))) (((0) + ((1) * ρ 2 + ((2048) * ρ 3 + 0)))) (((0) + ((1) * ρ 5 + 0)))
    refine c2 (P := (qRC 8 (tB (vw C h)))) (r := ρ 2 + 2048 * ρ 3) (c := ρ 5) ?_ (by omega) (by omega)
    show (qRC 8 (tB (vw C h))) (ρ 2 + 2048 * ρ 3) (ρ 5)
    exact rc_in (n := ρ 2) (s := ρ 3) (d := (0 : Int)) (K := (0 : Int)) (R := (0 : Int)) (by omega) (by omega) (by omega) (by omega) (by omega) (by omega) (by omega) (by omega) (by omega) (by omega) q (by omega) (by omega) (by omega) (by omega) (by omega)
/-- op8C -/
theorem lem_392_ok (hU : uqG G C) : lem_392.1.2.1 = [] ∧ lemOK (PRd G C D xs) G rgs lem_392 := by
  refine ⟨rfl, fun ρ h ha hT => ?_⟩
  obtain ⟨-, -, hF, hG, hH, hA, hP⟩ := ha
  have f0 : (0 : Int) ≤ ((0) + ((1) * ρ 2 + 0)) := hF _ (List.mem_of_getElem? (i := 0) rfl)
  have f1 : (0 : Int) ≤ ((1200) + ((-1) * ρ 2 + 0)) := hF _ (List.mem_of_getElem? (i := 1) rfl)
  have f2 : (0 : Int) ≤ ((0) + ((1) * ρ 3 + 0)) := hF _ (List.mem_of_getElem? (i := 2) rfl)
  have f3 : (0 : Int) ≤ ((0) + ((1) * ρ 2 + ((-1) * ρ 3 + 0))) := hF _ (List.mem_of_getElem? (i := 3) rfl)
  have g0 : G (ρ 0).toNat = 14 := by
    have q := (hG _ (List.mem_of_getElem? (i := 0) rfl)).2
    rwa [show ev ρ (0, [(0, 1)]) = ρ 0 from ev_v] at q
  have g1 : G (ρ 1).toNat = 17 := by
    have q := (hG _ (List.mem_of_getElem? (i := 1) rfl)).2
    rwa [show ev ρ (0, [(1, 1)]) = ρ 1 from ev_v] at q
  have h1 : (0 : Int) ≤ ρ 2 ∧ ρ 2 ≤ 1200 := hf_rg hT (hH _ (List.mem_of_getElem? (i := 1) rfl)) ev_v g1 rfl rfl rfl ev_v
  have h2 : (0 : Int) ≤ ρ 3 ∧ ρ 3 ≤ 1200 := hf_rg hT (hH _ (List.mem_of_getElem? (i := 2) rfl)) ev_v g1 rfl rfl rfl ev_v
  have p0 : (qRC 8 (tB (vw C h))) (ρ 2 + 2048 * ρ 3) (ρ 4) := c2 (P := (qRC 8 (tB (vw C h)))) (show (qRC 8 (tB (vw C h))) (((0) + ((1) * ρ 2 + ((2048) * ρ 3 + 0)))) (((0) + ((1) * ρ 4 + 0))) from hP _ (List.mem_of_getElem? (i := 0) rfl)) (by omega) (by omega)
  have hc0 := p0.1
  have hR := rc_el (n := ρ 2) (s := ρ 3) (d := (0 : Int)) (K := (0 : Int)) (R := (0 : Int)) p0 (by omega) (by omega) (by omega) (by omega) (by omega) (by omega) (by omega) (by omega) (by omega) (by omega)
  refine ⟨_, List.mem_cons_self, ρ, fun _ _ => rfl, fun q hq => absurd hq List.not_mem_nil, trivial, fun f hf => ?_, fun q hq => absurd hq List.not_mem_nil, fun q hq => absurd hq List.not_mem_nil, fun q hq => absurd hq List.not_mem_nil, fun q hq => ?_⟩
  · exact absurd hf List.not_mem_nil
  · simp only [List.mem_cons, List.not_mem_nil, or_false] at hq
    subst hq
    show q163 (tB (vw C h)) (((6871947673600) + ((1) * ρ 2 + ((2048) * ρ 3 + 0))))
    refine c2 (P := (fun r (_ : Int) => q163 (tB (vw C h)) r)) (c := 0) (c' := 0) (r := ρ 2 + 2048 * ρ 3 + 6871947673600) ?_ (by omega) rfl
    show q163 (tB (vw C h)) (ρ 2 + 2048 * ρ 3 + 6871947673600)
    exact o163 (n := ρ 2) (s := ρ 3) (lo := 0) (hi := 99) (by omega) (by omega) (by omega) (by omega) (by omega) (by omega) (by omega) (fn_8 hR)
/-- st8C -/
theorem lem_393_ok (hU : uqG G C) : lem_393.1.2.1 = [] ∧ lemOK (PRd G C D xs) G rgs lem_393 := by
  refine ⟨rfl, fun ρ h ha hT => ?_⟩
  obtain ⟨-, -, hF, hG, hH, hA, hP⟩ := ha
  have f0 : (0 : Int) ≤ ((0) + ((1) * ρ 2 + 0)) := hF _ (List.mem_of_getElem? (i := 0) rfl)
  have f1 : (0 : Int) ≤ ((1200) + ((-1) * ρ 2 + 0)) := hF _ (List.mem_of_getElem? (i := 1) rfl)
  have f2 : (0 : Int) ≤ ((0) + ((1) * ρ 3 + 0)) := hF _ (List.mem_of_getElem? (i := 2) rfl)
  have f3 : (0 : Int) ≤ ((0) + ((1) * ρ 2 + ((-1) * ρ 3 + 0))) := hF _ (List.mem_of_getElem? (i := 3) rfl)
  have f4 : (0 : Int) ≤ ((0) + ((1) * ρ 4 + 0)) := hF _ (List.mem_of_getElem? (i := 4) rfl)
  have f5 : (0 : Int) ≤ ((0) + ((1) * ρ 2 + ((-1) * ρ 4 + 0))) := hF _ (List.mem_of_getElem? (i := 5) rfl)
  have f6 : (0 : Int) ≤ ((0) + ((1) * ρ 5 + 0)) := hF _ (List.mem_of_getElem? (i := 6) rfl)
  have f7 : (0 : Int) ≤ ((99) + ((-1) * ρ 5 + 0)) := hF _ (List.mem_of_getElem? (i := 7) rfl)
  have g0 : G (ρ 0).toNat = 14 := by
    have q := (hG _ (List.mem_of_getElem? (i := 0) rfl)).2
    rwa [show ev ρ (0, [(0, 1)]) = ρ 0 from ev_v] at q
  have g1 : G (ρ 1).toNat = 17 := by
    have q := (hG _ (List.mem_of_getElem? (i := 1) rfl)).2
    rwa [show ev ρ (0, [(1, 1)]) = ρ 1 from ev_v] at q
  have h1 : (0 : Int) ≤ ρ 2 ∧ ρ 2 ≤ 1200 := hf_rg hT (hH _ (List.mem_of_getElem? (i := 1) rfl)) ev_v g1 rfl rfl rfl ev_v
  have h2 : (0 : Int) ≤ ρ 3 ∧ ρ 3 ≤ 1200 := hf_rg hT (hH _ (List.mem_of_getElem? (i := 2) rfl)) ev_v g1 rfl rfl rfl ev_v
  have p0 : q158 (tB (vw C h)) (ρ 2 + 2048 * ρ 3) (ρ 4) := c2 (P := q158 (tB (vw C h))) (show q158 (tB (vw C h)) (((0) + ((1) * ρ 2 + ((2048) * ρ 3 + 0)))) (((0) + ((1) * ρ 4 + 0))) from hP _ (List.mem_of_getElem? (i := 0) rfl)) (by omega) (by omega)
  have p1 : q164 (tB (vw C h)) (ρ 2 + 2048 * ρ 4) (ρ 5) := c2 (P := q164 (tB (vw C h))) (show q164 (tB (vw C h)) (((0) + ((1) * ρ 2 + ((2048) * ρ 4 + 0)))) (((0) + ((1) * ρ 5 + 0))) from hP _ (List.mem_of_getElem? (i := 1) rfl)) (by omega) (by omega)
  have p2 : (qRC 8 (tB (vw C h))) (ρ 2 + 2048 * ρ 4) (ρ 6) := c2 (P := (qRC 8 (tB (vw C h)))) (show (qRC 8 (tB (vw C h))) (((0) + ((1) * ρ 2 + ((2048) * ρ 4 + 0)))) (((0) + ((1) * ρ 6 + 0))) from hP _ (List.mem_of_getElem? (i := 2) rfl)) (by omega) (by omega)
  obtain ⟨hkd, nv⟩ := k164 (n := ρ 2) (s := ρ 4) (by omega) (by omega) (by omega) (by omega) (by omega) p1
  have nx := k158 (n := ρ 2) (s := ρ 4) (t := ρ 3) (by omega) (by omega) (by omega) (by omega) (by omega) (by omega) p0
  have ng := nx_gt (B := (tB (vw C h))) (n := (ρ 2).toNat) (s := (ρ 4).toNat) (by omega)
  have hc0 := p2.1
  have hR := rc_el (n := ρ 2) (s := ρ 4) (d := (0 : Int)) (K := (0 : Int)) (R := (0 : Int)) p2 (by omega) (by omega) (by omega) (by omega) (by omega) (by omega) (by omega) (by omega) (by omega) (by omega)
  have q := sn_8 hR hkd (by omega) (by omega)
  refine ⟨_, List.mem_cons_self, ρ, fun _ _ => rfl, fun q hq => absurd hq List.not_mem_nil, trivial, fun f hf => ?_, fun q hq => absurd hq List.not_mem_nil, fun q hq => absurd hq List.not_mem_nil, fun q hq => absurd hq List.not_mem_nil, fun q hq => ?_⟩
  · simp only [List.mem_cons, List.not_mem_nil, or_false] at hf
    subst hf
    show (0 : Int) ≤ ((-1) + ((1) * ρ 3 + ((-1) * ρ 4 + 0)))
    omega
  · simp only [List.mem_cons, List.not_mem_nil, or_false] at hq
    subst hq
    show (qRC 9 (tB (vw C h))) (((0) + ((1) * ρ 2 + ((2048) * ρ 3 + 0)))) (((0) + ((1) * ρ 6 + 0)))
    refine c2 (P := (qRC 9 (tB (vw C h)))) (r := ρ 2 + 2048 * ρ 3) (c := ρ 6) ?_ (by omega) (by omega)
    show (qRC 9 (tB (vw C h))) (ρ 2 + 2048 * ρ 3) (ρ 6)
    exact rc_in (n := ρ 2) (s := ρ 3) (d := (0 : Int)) (K := (0 : Int)) (R := (0 : Int)) (by omega) (by omega) (by omega) (by omega) (by omega) (by omega) (by omega) (by omega) (by omega) (by omega) q (by omega) (by omega) (by omega) (by omega) (by omega)
/-- op9C -/
theorem lem_394_ok (hU : uqG G C) : lem_394.1.2.1 = [] ∧ lemOK (PRd G C D xs) G rgs lem_394 := by
  refine ⟨rfl, fun ρ h ha hT => ?_⟩
  obtain ⟨-, -, hF, hG, hH, hA, hP⟩ := ha
  have f0 : (0 : Int) ≤ ((0) + ((1) * ρ 2 + 0)) := hF _ (List.mem_of_getElem? (i := 0) rfl)
  have f1 : (0 : Int) ≤ ((1200) + ((-1) * ρ 2 + 0)) := hF _ (List.mem_of_getElem? (i := 1) rfl)
  have f2 : (0 : Int) ≤ ((0) + ((1) * ρ 3 + 0)) := hF _ (List.mem_of_getElem? (i := 2) rfl)
  have f3 : (0 : Int) ≤ ((0) + ((1) * ρ 2 + ((-1) * ρ 3 + 0))) := hF _ (List.mem_of_getElem? (i := 3) rfl)
  have g0 : G (ρ 0).toNat = 14 := by
    have q := (hG _ (List.mem_of_getElem? (i := 0) rfl)).2
    rwa [show ev ρ (0, [(0, 1)]) = ρ 0 from ev_v] at q
  have g1 : G (ρ 1).toNat = 17 := by
    have q := (hG _ (List.mem_of_getElem? (i := 1) rfl)).2
    rwa [show ev ρ (0, [(1, 1)]) = ρ 1 from ev_v] at q
  have h1 : (0 : Int) ≤ ρ 2 ∧ ρ 2 ≤ 1200 := hf_rg hT (hH _ (List.mem_of_getElem? (i := 1) rfl)) ev_v g1 rfl rfl rfl ev_v
  have h2 : (0 : Int) ≤ ρ 3 ∧ ρ 3 ≤ 1200 := hf_rg hT (hH _ (List.mem_of_getElem? (i := 2) rfl)) ev_v g1 rfl rfl rfl ev_v
  have p0 : (qRC 9 (tB (vw C h))) (ρ 2 + 2048 * ρ 3) (ρ 4) := c2 (P := (qRC 9 (tB (vw C h)))) (show (qRC 9 (tB (vw C h))) (((0) + ((1) * ρ 2 + ((2048) * ρ 3 + 0)))) (((0) + ((1) * ρ 4 + 0))) from hP _ (List.mem_of_getElem? (i := 0) rfl)) (by omega) (by omega)
  have hc0 := p0.1
  have hR := rc_el (n := ρ 2) (s := ρ 3) (d := (0 : Int)) (K := (0 : Int)) (R := (0 : Int)) p0 (by omega) (by omega) (by omega) (by omega) (by omega) (by omega) (by omega) (by omega) (by omega) (by omega)
  refine ⟨_, List.mem_cons_self, ρ, fun _ _ => rfl, fun q hq => absurd hq List.not_mem_nil, trivial, fun f hf => ?_, fun q hq => absurd hq List.not_mem_nil, fun q hq => absurd hq List.not_mem_nil, fun q hq => absurd hq List.not_mem_nil, fun q hq => ?_⟩
  · exact absurd hf List.not_mem_nil
  · simp only [List.mem_cons, List.not_mem_nil, or_false] at hq
    subst hq
    show q165 (tB (vw C h)) (((16777216) + ((1) * ρ 2 + ((2048) * ρ 3 + 0))))
    refine c2 (P := (fun r (_ : Int) => q165 (tB (vw C h)) r)) (c := 0) (c' := 0) (r := ρ 2 + 2048 * ρ 3 + 16777216) ?_ (by omega) rfl
    show q165 (tB (vw C h)) (ρ 2 + 2048 * ρ 3 + 16777216)
    exact o165 (n := ρ 2) (s := ρ 3) (w := 4) (by omega) (by omega) (by omega) (by omega) (by omega) (by omega) (fun hw => fw_9 hR hw)
/-- st9C -/
theorem lem_395_ok (hU : uqG G C) : lem_395.1.2.1 = [] ∧ lemOK (PRd G C D xs) G rgs lem_395 := by
  refine ⟨rfl, fun ρ h ha hT => ?_⟩
  obtain ⟨-, -, hF, hG, hH, hA, hP⟩ := ha
  have f0 : (0 : Int) ≤ ((0) + ((1) * ρ 2 + 0)) := hF _ (List.mem_of_getElem? (i := 0) rfl)
  have f1 : (0 : Int) ≤ ((1200) + ((-1) * ρ 2 + 0)) := hF _ (List.mem_of_getElem? (i := 1) rfl)
  have f2 : (0 : Int) ≤ ((0) + ((1) * ρ 3 + 0)) := hF _ (List.mem_of_getElem? (i := 2) rfl)
  have f3 : (0 : Int) ≤ ((0) + ((1) * ρ 2 + ((-1) * ρ 3 + 0))) := hF _ (List.mem_of_getElem? (i := 3) rfl)
  have f4 : (0 : Int) ≤ ((0) + ((1) * ρ 4 + 0)) := hF _ (List.mem_of_getElem? (i := 4) rfl)
  have f5 : (0 : Int) ≤ ((0) + ((1) * ρ 2 + ((-1) * ρ 4 + 0))) := hF _ (List.mem_of_getElem? (i := 5) rfl)
  have g0 : G (ρ 0).toNat = 14 := by
    have q := (hG _ (List.mem_of_getElem? (i := 0) rfl)).2
    rwa [show ev ρ (0, [(0, 1)]) = ρ 0 from ev_v] at q
  have g1 : G (ρ 1).toNat = 17 := by
    have q := (hG _ (List.mem_of_getElem? (i := 1) rfl)).2
    rwa [show ev ρ (0, [(1, 1)]) = ρ 1 from ev_v] at q
  have h1 : (0 : Int) ≤ ρ 2 ∧ ρ 2 ≤ 1200 := hf_rg hT (hH _ (List.mem_of_getElem? (i := 1) rfl)) ev_v g1 rfl rfl rfl ev_v
  have h2 : (0 : Int) ≤ ρ 3 ∧ ρ 3 ≤ 1200 := hf_rg hT (hH _ (List.mem_of_getElem? (i := 2) rfl)) ev_v g1 rfl rfl rfl ev_v
  have p0 : q158 (tB (vw C h)) (ρ 2 + 2048 * ρ 3) (ρ 4) := c2 (P := q158 (tB (vw C h))) (show q158 (tB (vw C h)) (((0) + ((1) * ρ 2 + ((2048) * ρ 3 + 0)))) (((0) + ((1) * ρ 4 + 0))) from hP _ (List.mem_of_getElem? (i := 0) rfl)) (by omega) (by omega)
  have p1 : q159 (tB (vw C h)) (ρ 2 + 2048 * ρ 4 + 16777216) ((1 : Int)) := c2 (P := q159 (tB (vw C h))) (show q159 (tB (vw C h)) (((16777216) + ((1) * ρ 2 + ((2048) * ρ 4 + 0)))) (((1) + 0)) from hP _ (List.mem_of_getElem? (i := 1) rfl)) (by omega) (by omega)
  have p2 : (qRC 9 (tB (vw C h))) (ρ 2 + 2048 * ρ 4) (ρ 5) := c2 (P := (qRC 9 (tB (vw C h)))) (show (qRC 9 (tB (vw C h))) (((0) + ((1) * ρ 2 + ((2048) * ρ 4 + 0)))) (((0) + ((1) * ρ 5 + 0))) from hP _ (List.mem_of_getElem? (i := 2) rfl)) (by omega) (by omega)
  have iw4 : tIsB (tB (vw C h)) (ρ 2).toNat (ρ 4).toNat (wd 4) = true := b01_1 (k159 (n := ρ 2) (s := ρ 4) (w := 4) (by omega) (by omega) (by omega) (by omega) (by omega) (by omega) p1)
  have hkd := (is_el.mp iw4).1
  have nx := k158 (n := ρ 2) (s := ρ 4) (t := ρ 3) (by omega) (by omega) (by omega) (by omega) (by omega) (by omega) p0
  have ng := nx_gt (B := (tB (vw C h))) (n := (ρ 2).toNat) (s := (ρ 4).toNat) (by omega)
  have hc0 := p2.1
  have hR := rc_el (n := ρ 2) (s := ρ 4) (d := (0 : Int)) (K := (0 : Int)) (R := (0 : Int)) p2 (by omega) (by omega) (by omega) (by omega) (by omega) (by omega) (by omega) (by omega) (by omega) (by omega)
  have q := sw_9 hR iw4
  refine ⟨_, List.mem_cons_self, ρ, fun _ _ => rfl, fun q hq => absurd hq List.not_mem_nil, trivial, fun f hf => ?_, fun q hq => absurd hq List.not_mem_nil, fun q hq => absurd hq List.not_mem_nil, fun q hq => absurd hq List.not_mem_nil, fun q hq => ?_⟩
  · simp only [List.mem_cons, List.not_mem_nil, or_false] at hf
    subst hf
    show (0 : Int) ≤ ((-1) + ((1) * ρ 3 + ((-1) * ρ 4 + 0)))
    omega
  · simp only [List.mem_cons, List.not_mem_nil, or_false] at hq
    subst hq
    show (qRC 10 (tB (vw C h))) (((0) + ((1) * ρ 2 + ((2048) * ρ 3 + 0)))) (((0) + ((1) * ρ 5 + 0)))
    refine c2 (P := (qRC 10 (tB (vw C h)))) (r := ρ 2 + 2048 * ρ 3) (c := ρ 5) ?_ (by omega) (by omega)
    show (qRC 10 (tB (vw C h))) (ρ 2 + 2048 * ρ 3) (ρ 5)
    exact rc_in (n := ρ 2) (s := ρ 3) (d := (0 : Int)) (K := (0 : Int)) (R := (0 : Int)) (by omega) (by omega) (by omega) (by omega) (by omega) (by omega) (by omega) (by omega) (by omega) (by omega) q (by omega) (by omega) (by omega) (by omega) (by omega)
/-- op10C -/
theorem lem_396_ok (hU : uqG G C) : lem_396.1.2.1 = [] ∧ lemOK (PRd G C D xs) G rgs lem_396 := by
  refine ⟨rfl, fun ρ h ha hT => ?_⟩
  obtain ⟨-, -, hF, hG, hH, hA, hP⟩ := ha
  have f0 : (0 : Int) ≤ ((0) + ((1) * ρ 2 + 0)) := hF _ (List.mem_of_getElem? (i := 0) rfl)
  have f1 : (0 : Int) ≤ ((1200) + ((-1) * ρ 2 + 0)) := hF _ (List.mem_of_getElem? (i := 1) rfl)
  have f2 : (0 : Int) ≤ ((0) + ((1) * ρ 3 + 0)) := hF _ (List.mem_of_getElem? (i := 2) rfl)
  have f3 : (0 : Int) ≤ ((0) + ((1) * ρ 2 + ((-1) * ρ 3 + 0))) := hF _ (List.mem_of_getElem? (i := 3) rfl)
  have g0 : G (ρ 0).toNat = 14 := by
    have q := (hG _ (List.mem_of_getElem? (i := 0) rfl)).2
    rwa [show ev ρ (0, [(0, 1)]) = ρ 0 from ev_v] at q
  have g1 : G (ρ 1).toNat = 17 := by
    have q := (hG _ (List.mem_of_getElem? (i := 1) rfl)).2
    rwa [show ev ρ (0, [(1, 1)]) = ρ 1 from ev_v] at q
  have h1 : (0 : Int) ≤ ρ 2 ∧ ρ 2 ≤ 1200 := hf_rg hT (hH _ (List.mem_of_getElem? (i := 1) rfl)) ev_v g1 rfl rfl rfl ev_v
  have h2 : (0 : Int) ≤ ρ 3 ∧ ρ 3 ≤ 1200 := hf_rg hT (hH _ (List.mem_of_getElem? (i := 2) rfl)) ev_v g1 rfl rfl rfl ev_v
  have p0 : (qRC 10 (tB (vw C h))) (ρ 2 + 2048 * ρ 3) (ρ 4) := c2 (P := (qRC 10 (tB (vw C h)))) (show (qRC 10 (tB (vw C h))) (((0) + ((1) * ρ 2 + ((2048) * ρ 3 + 0)))) (((0) + ((1) * ρ 4 + 0))) from hP _ (List.mem_of_getElem? (i := 0) rfl)) (by omega) (by omega)
  have hc0 := p0.1
  have hR := rc_el (n := ρ 2) (s := ρ 3) (d := (0 : Int)) (K := (0 : Int)) (R := (0 : Int)) p0 (by omega) (by omega) (by omega) (by omega) (by omega) (by omega) (by omega) (by omega) (by omega) (by omega)
  refine ⟨_, List.mem_cons_self, ρ, fun _ _ => rfl, fun q hq => absurd hq List.not_mem_nil, trivial, fun f hf => ?_, fun q hq => absurd hq List.not_mem_nil, fun q hq => absurd hq List.not_mem_nil, fun q hq => absurd hq List.not_mem_nil, fun q hq => ?_⟩
  · exact absurd hf List.not_mem_nil
  · simp only [List.mem_cons, List.not_mem_nil, or_false] at hq
    subst hq
    show q163 (tB (vw C h)) (((6940667150336) + ((1) * ρ 2 + ((2048) * ρ 3 + 0))))
    refine c2 (P := (fun r (_ : Int) => q163 (tB (vw C h)) r)) (c := 0) (c' := 0) (r := ρ 2 + 2048 * ρ 3 + 6940667150336) ?_ (by omega) rfl
    show q163 (tB (vw C h)) (ρ 2 + 2048 * ρ 3 + 6940667150336)
    exact o163 (n := ρ 2) (s := ρ 3) (lo := 0) (hi := 100) (by omega) (by omega) (by omega) (by omega) (by omega) (by omega) (by omega) (fn_10 hR)
/-- st10C -/
theorem lem_397_ok (hU : uqG G C) : lem_397.1.2.1 = [] ∧ lemOK (PRd G C D xs) G rgs lem_397 := by
  refine ⟨rfl, fun ρ h ha hT => ?_⟩
  obtain ⟨-, -, hF, hG, hH, hA, hP⟩ := ha
  have f0 : (0 : Int) ≤ ((0) + ((1) * ρ 2 + 0)) := hF _ (List.mem_of_getElem? (i := 0) rfl)
  have f1 : (0 : Int) ≤ ((1200) + ((-1) * ρ 2 + 0)) := hF _ (List.mem_of_getElem? (i := 1) rfl)
  have f2 : (0 : Int) ≤ ((0) + ((1) * ρ 3 + 0)) := hF _ (List.mem_of_getElem? (i := 2) rfl)
  have f3 : (0 : Int) ≤ ((0) + ((1) * ρ 2 + ((-1) * ρ 3 + 0))) := hF _ (List.mem_of_getElem? (i := 3) rfl)
  have f4 : (0 : Int) ≤ ((0) + ((1) * ρ 4 + 0)) := hF _ (List.mem_of_getElem? (i := 4) rfl)
  have f5 : (0 : Int) ≤ ((0) + ((1) * ρ 2 + ((-1) * ρ 4 + 0))) := hF _ (List.mem_of_getElem? (i := 5) rfl)
  have f6 : (0 : Int) ≤ ((0) + ((1) * ρ 5 + 0)) := hF _ (List.mem_of_getElem? (i := 6) rfl)
  have f7 : (0 : Int) ≤ ((100) + ((-1) * ρ 5 + 0)) := hF _ (List.mem_of_getElem? (i := 7) rfl)
  have g0 : G (ρ 0).toNat = 14 := by
    have q := (hG _ (List.mem_of_getElem? (i := 0) rfl)).2
    rwa [show ev ρ (0, [(0, 1)]) = ρ 0 from ev_v] at q
  have g1 : G (ρ 1).toNat = 17 := by
    have q := (hG _ (List.mem_of_getElem? (i := 1) rfl)).2
    rwa [show ev ρ (0, [(1, 1)]) = ρ 1 from ev_v] at q
  have h1 : (0 : Int) ≤ ρ 2 ∧ ρ 2 ≤ 1200 := hf_rg hT (hH _ (List.mem_of_getElem? (i := 1) rfl)) ev_v g1 rfl rfl rfl ev_v
  have h2 : (0 : Int) ≤ ρ 3 ∧ ρ 3 ≤ 1200 := hf_rg hT (hH _ (List.mem_of_getElem? (i := 2) rfl)) ev_v g1 rfl rfl rfl ev_v
  have p0 : q158 (tB (vw C h)) (ρ 2 + 2048 * ρ 3) (ρ 4) := c2 (P := q158 (tB (vw C h))) (show q158 (tB (vw C h)) (((0) + ((1) * ρ 2 + ((2048) * ρ 3 + 0)))) (((0) + ((1) * ρ 4 + 0))) from hP _ (List.mem_of_getElem? (i := 0) rfl)) (by omega) (by omega)
  have p1 : q164 (tB (vw C h)) (ρ 2 + 2048 * ρ 4) (ρ 5) := c2 (P := q164 (tB (vw C h))) (show q164 (tB (vw C h)) (((0) + ((1) * ρ 2 + ((2048) * ρ 4 + 0)))) (((0) + ((1) * ρ 5 + 0))) from hP _ (List.mem_of_getElem? (i := 1) rfl)) (by omega) (by omega)
  have p2 : (qRC 10 (tB (vw C h))) (ρ 2 + 2048 * ρ 4) (ρ 6) := c2 (P := (qRC 10 (tB (vw C h)))) (show (qRC 10 (tB (vw C h))) (((0) + ((1) * ρ 2 + ((2048) * ρ 4 + 0)))) (((0) + ((1) * ρ 6 + 0))) from hP _ (List.mem_of_getElem? (i := 2) rfl)) (by omega) (by omega)
  obtain ⟨hkd, nv⟩ := k164 (n := ρ 2) (s := ρ 4) (by omega) (by omega) (by omega) (by omega) (by omega) p1
  have nx := k158 (n := ρ 2) (s := ρ 4) (t := ρ 3) (by omega) (by omega) (by omega) (by omega) (by omega) (by omega) p0
  have ng := nx_gt (B := (tB (vw C h))) (n := (ρ 2).toNat) (s := (ρ 4).toNat) (by omega)
  have hc0 := p2.1
  have hR := rc_el (n := ρ 2) (s := ρ 4) (d := (0 : Int)) (K := (0 : Int)) (R := (0 : Int)) p2 (by omega) (by omega) (by omega) (by omega) (by omega) (by omega) (by omega) (by omega) (by omega) (by omega)
  have q := sn_10 hR hkd (by omega) (by omega)
  refine ⟨_, List.mem_cons_self, ρ, fun _ _ => rfl, fun q hq => absurd hq List.not_mem_nil, trivial, fun f hf => ?_, fun q hq => absurd hq List.not_mem_nil, fun q hq => absurd hq List.not_mem_nil, fun q hq => absurd hq List.not_mem_nil, fun q hq => ?_⟩
  · simp only [List.mem_cons, List.not_mem_nil, or_false] at hf
    subst hf
    show (0 : Int) ≤ ((-1) + ((1) * ρ 3 + ((-1) * ρ 4 + 0)))
    omega
  · simp only [List.mem_cons, List.not_mem_nil, or_false] at hq
    subst hq
    show (qRC 11 (tB (vw C h))) (((0) + ((1) * ρ 2 + ((2048) * ρ 3 + 0)))) (((0) + ((1) * ρ 6 + 0)))
    refine c2 (P := (qRC 11 (tB (vw C h)))) (r := ρ 2 + 2048 * ρ 3) (c := ρ 6) ?_ (by omega) (by omega)
    show (qRC 11 (tB (vw C h))) (ρ 2 + 2048 * ρ 3) (ρ 6)
    exact rc_in (n := ρ 2) (s := ρ 3) (d := (0 : Int)) (K := (0 : Int)) (R := (0 : Int)) (by omega) (by omega) (by omega) (by omega) (by omega) (by omega) (by omega) (by omega) (by omega) (by omega) q (by omega) (by omega) (by omega) (by omega) (by omega)
/-- op11C -/
theorem lem_398_ok (hU : uqG G C) : lem_398.1.2.1 = [] ∧ lemOK (PRd G C D xs) G rgs lem_398 := by
  refine ⟨rfl, fun ρ h ha hT => ?_⟩
  obtain ⟨-, -, hF, hG, hH, hA, hP⟩ := ha
  have f0 : (0 : Int) ≤ ((0) + ((1) * ρ 2 + 0)) := hF _ (List.mem_of_getElem? (i := 0) rfl)
  have f1 : (0 : Int) ≤ ((1200) + ((-1) * ρ 2 + 0)) := hF _ (List.mem_of_getElem? (i := 1) rfl)
  have f2 : (0 : Int) ≤ ((0) + ((1) * ρ 3 + 0)) := hF _ (List.mem_of_getElem? (i := 2) rfl)
  have f3 : (0 : Int) ≤ ((0) + ((1) * ρ 2 + ((-1) * ρ 3 + 0))) := hF _ (List.mem_of_getElem? (i := 3) rfl)
  have g0 : G (ρ 0).toNat = 14 := by
    have q := (hG _ (List.mem_of_getElem? (i := 0) rfl)).2
    rwa [show ev ρ (0, [(0, 1)]) = ρ 0 from ev_v] at q
  have g1 : G (ρ 1).toNat = 17 := by
    have q := (hG _ (List.mem_of_getElem? (i := 1) rfl)).2
    rwa [show ev ρ (0, [(1, 1)]) = ρ 1 from ev_v] at q
  have h1 : (0 : Int) ≤ ρ 2 ∧ ρ 2 ≤ 1200 := hf_rg hT (hH _ (List.mem_of_getElem? (i := 1) rfl)) ev_v g1 rfl rfl rfl ev_v
  have h2 : (0 : Int) ≤ ρ 3 ∧ ρ 3 ≤ 1200 := hf_rg hT (hH _ (List.mem_of_getElem? (i := 2) rfl)) ev_v g1 rfl rfl rfl ev_v
  have p0 : (qRC 11 (tB (vw C h))) (ρ 2 + 2048 * ρ 3) (ρ 4) := c2 (P := (qRC 11 (tB (vw C h)))) (show (qRC 11 (tB (vw C h))) (((0) + ((1) * ρ 2 + ((2048) * ρ 3 + 0)))) (((0) + ((1) * ρ 4 + 0))) from hP _ (List.mem_of_getElem? (i := 0) rfl)) (by omega) (by omega)
  have hc0 := p0.1
  have hR := rc_el (n := ρ 2) (s := ρ 3) (d := (0 : Int)) (K := (0 : Int)) (R := (0 : Int)) p0 (by omega) (by omega) (by omega) (by omega) (by omega) (by omega) (by omega) (by omega) (by omega) (by omega)
  refine ⟨_, List.mem_cons_self, ρ, fun _ _ => rfl, fun q hq => absurd hq List.not_mem_nil, trivial, fun f hf => ?_, fun q hq => absurd hq List.not_mem_nil, fun q hq => absurd hq List.not_mem_nil, fun q hq => absurd hq List.not_mem_nil, fun q hq => ?_⟩
  · exact absurd hf List.not_mem_nil
  · simp only [List.mem_cons, List.not_mem_nil, or_false] at hq
    subst hq
    show q165 (tB (vw C h)) (((20971520) + ((1) * ρ 2 + ((2048) * ρ 3 + 0))))
    refine c2 (P := (fun r (_ : Int) => q165 (tB (vw C h)) r)) (c := 0) (c' := 0) (r := ρ 2 + 2048 * ρ 3 + 20971520) ?_ (by omega) rfl
    show q165 (tB (vw C h)) (ρ 2 + 2048 * ρ 3 + 20971520)
    exact o165 (n := ρ 2) (s := ρ 3) (w := 5) (by omega) (by omega) (by omega) (by omega) (by omega) (by omega) (fun hw => fw_11 hR hw)
/-- st11C -/
theorem lem_399_ok (hU : uqG G C) : lem_399.1.2.1 = [] ∧ lemOK (PRd G C D xs) G rgs lem_399 := by
  refine ⟨rfl, fun ρ h ha hT => ?_⟩
  obtain ⟨-, -, hF, hG, hH, hA, hP⟩ := ha
  have f0 : (0 : Int) ≤ ((0) + ((1) * ρ 2 + 0)) := hF _ (List.mem_of_getElem? (i := 0) rfl)
  have f1 : (0 : Int) ≤ ((1200) + ((-1) * ρ 2 + 0)) := hF _ (List.mem_of_getElem? (i := 1) rfl)
  have f2 : (0 : Int) ≤ ((0) + ((1) * ρ 3 + 0)) := hF _ (List.mem_of_getElem? (i := 2) rfl)
  have f3 : (0 : Int) ≤ ((0) + ((1) * ρ 2 + ((-1) * ρ 3 + 0))) := hF _ (List.mem_of_getElem? (i := 3) rfl)
  have f4 : (0 : Int) ≤ ((0) + ((1) * ρ 4 + 0)) := hF _ (List.mem_of_getElem? (i := 4) rfl)
  have f5 : (0 : Int) ≤ ((0) + ((1) * ρ 2 + ((-1) * ρ 4 + 0))) := hF _ (List.mem_of_getElem? (i := 5) rfl)
  have g0 : G (ρ 0).toNat = 14 := by
    have q := (hG _ (List.mem_of_getElem? (i := 0) rfl)).2
    rwa [show ev ρ (0, [(0, 1)]) = ρ 0 from ev_v] at q
  have g1 : G (ρ 1).toNat = 17 := by
    have q := (hG _ (List.mem_of_getElem? (i := 1) rfl)).2
    rwa [show ev ρ (0, [(1, 1)]) = ρ 1 from ev_v] at q
  have h1 : (0 : Int) ≤ ρ 2 ∧ ρ 2 ≤ 1200 := hf_rg hT (hH _ (List.mem_of_getElem? (i := 1) rfl)) ev_v g1 rfl rfl rfl ev_v
  have h2 : (0 : Int) ≤ ρ 3 ∧ ρ 3 ≤ 1200 := hf_rg hT (hH _ (List.mem_of_getElem? (i := 2) rfl)) ev_v g1 rfl rfl rfl ev_v
  have p0 : q158 (tB (vw C h)) (ρ 2 + 2048 * ρ 3) (ρ 4) := c2 (P := q158 (tB (vw C h))) (show q158 (tB (vw C h)) (((0) + ((1) * ρ 2 + ((2048) * ρ 3 + 0)))) (((0) + ((1) * ρ 4 + 0))) from hP _ (List.mem_of_getElem? (i := 0) rfl)) (by omega) (by omega)
  have p1 : q159 (tB (vw C h)) (ρ 2 + 2048 * ρ 4 + 20971520) ((1 : Int)) := c2 (P := q159 (tB (vw C h))) (show q159 (tB (vw C h)) (((20971520) + ((1) * ρ 2 + ((2048) * ρ 4 + 0)))) (((1) + 0)) from hP _ (List.mem_of_getElem? (i := 1) rfl)) (by omega) (by omega)
  have p2 : (qRC 11 (tB (vw C h))) (ρ 2 + 2048 * ρ 4) (ρ 5) := c2 (P := (qRC 11 (tB (vw C h)))) (show (qRC 11 (tB (vw C h))) (((0) + ((1) * ρ 2 + ((2048) * ρ 4 + 0)))) (((0) + ((1) * ρ 5 + 0))) from hP _ (List.mem_of_getElem? (i := 2) rfl)) (by omega) (by omega)
  have iw5 : tIsB (tB (vw C h)) (ρ 2).toNat (ρ 4).toNat (wd 5) = true := b01_1 (k159 (n := ρ 2) (s := ρ 4) (w := 5) (by omega) (by omega) (by omega) (by omega) (by omega) (by omega) p1)
  have hkd := (is_el.mp iw5).1
  have nx := k158 (n := ρ 2) (s := ρ 4) (t := ρ 3) (by omega) (by omega) (by omega) (by omega) (by omega) (by omega) p0
  have ng := nx_gt (B := (tB (vw C h))) (n := (ρ 2).toNat) (s := (ρ 4).toNat) (by omega)
  have hc0 := p2.1
  have hR := rc_el (n := ρ 2) (s := ρ 4) (d := (0 : Int)) (K := (0 : Int)) (R := (0 : Int)) p2 (by omega) (by omega) (by omega) (by omega) (by omega) (by omega) (by omega) (by omega) (by omega) (by omega)
  have q := sw_11 hR iw5
  refine ⟨_, List.mem_cons_self, ρ, fun _ _ => rfl, fun q hq => absurd hq List.not_mem_nil, trivial, fun f hf => ?_, fun q hq => absurd hq List.not_mem_nil, fun q hq => absurd hq List.not_mem_nil, fun q hq => absurd hq List.not_mem_nil, fun q hq => ?_⟩
  · simp only [List.mem_cons, List.not_mem_nil, or_false] at hf
    subst hf
    show (0 : Int) ≤ ((-1) + ((1) * ρ 3 + ((-1) * ρ 4 + 0)))
    omega
  · simp only [List.mem_cons, List.not_mem_nil, or_false] at hq
    subst hq
    show (qRC 12 (tB (vw C h))) (((0) + ((1) * ρ 2 + ((2048) * ρ 3 + 0)))) (((0) + ((1) * ρ 5 + 0)))
    refine c2 (P := (qRC 12 (tB (vw C h)))) (r := ρ 2 + 2048 * ρ 3) (c := ρ 5) ?_ (by omega) (by omega)
    show (qRC 12 (tB (vw C h))) (ρ 2 + 2048 * ρ 3) (ρ 5)
    exact rc_in (n := ρ 2) (s := ρ 3) (d := (0 : Int)) (K := (0 : Int)) (R := (0 : Int)) (by omega) (by omega) (by omega) (by omega) (by omega) (by omega) (by omega) (by omega) (by omega) (by omega) q (by omega) (by omega) (by omega) (by omega) (by omega)
/-- op12C -/
theorem lem_400_ok (hU : uqG G C) : lem_400.1.2.1 = [] ∧ lemOK (PRd G C D xs) G rgs lem_400 := by
  refine ⟨rfl, fun ρ h ha hT => ?_⟩
  obtain ⟨-, -, hF, hG, hH, hA, hP⟩ := ha
  have f0 : (0 : Int) ≤ ((0) + ((1) * ρ 2 + 0)) := hF _ (List.mem_of_getElem? (i := 0) rfl)
  have f1 : (0 : Int) ≤ ((1200) + ((-1) * ρ 2 + 0)) := hF _ (List.mem_of_getElem? (i := 1) rfl)
  have f2 : (0 : Int) ≤ ((0) + ((1) * ρ 3 + 0)) := hF _ (List.mem_of_getElem? (i := 2) rfl)
  have f3 : (0 : Int) ≤ ((0) + ((1) * ρ 2 + ((-1) * ρ 3 + 0))) := hF _ (List.mem_of_getElem? (i := 3) rfl)
  have g0 : G (ρ 0).toNat = 14 := by
    have q := (hG _ (List.mem_of_getElem? (i := 0) rfl)).2
    rwa [show ev ρ (0, [(0, 1)]) = ρ 0 from ev_v] at q
  have g1 : G (ρ 1).toNat = 17 := by
    have q := (hG _ (List.mem_of_getElem? (i := 1) rfl)).2
    rwa [show ev ρ (0, [(1, 1)]) = ρ 1 from ev_v] at q
  have h1 : (0 : Int) ≤ ρ 2 ∧ ρ 2 ≤ 1200 := hf_rg hT (hH _ (List.mem_of_getElem? (i := 1) rfl)) ev_v g1 rfl rfl rfl ev_v
  have h2 : (0 : Int) ≤ ρ 3 ∧ ρ 3 ≤ 1200 := hf_rg hT (hH _ (List.mem_of_getElem? (i := 2) rfl)) ev_v g1 rfl rfl rfl ev_v
  have p0 : (qRC 12 (tB (vw C h))) (ρ 2 + 2048 * ρ 3) (ρ 4) := c2 (P := (qRC 12 (tB (vw C h)))) (show (qRC 12 (tB (vw C h))) (((0) + ((1) * ρ 2 + ((2048) * ρ 3 + 0)))) (((0) + ((1) * ρ 4 + 0))) from hP _ (List.mem_of_getElem? (i := 0) rfl)) (by omega) (by omega)
  have hc0 := p0.1
  have hR := rc_el (n := ρ 2) (s := ρ 3) (d := (0 : Int)) (K := (0 : Int)) (R := (0 : Int)) p0 (by omega) (by omega) (by omega) (by omega) (by omega) (by omega) (by omega) (by omega) (by omega) (by omega)
  refine ⟨_, List.mem_cons_self, ρ, fun _ _ => rfl, fun q hq => absurd hq List.not_mem_nil, trivial, fun f hf => ?_, fun q hq => absurd hq List.not_mem_nil, fun q hq => absurd hq List.not_mem_nil, fun q hq => absurd hq List.not_mem_nil, fun q hq => ?_⟩
  · exact absurd hf List.not_mem_nil
  · simp only [List.mem_cons, List.not_mem_nil, or_false] at hq
    subst hq
    show q163 (tB (vw C h)) (((6940667150336) + ((1) * ρ 2 + ((2048) * ρ 3 + 0))))
    refine c2 (P := (fun r (_ : Int) => q163 (tB (vw C h)) r)) (c := 0) (c' := 0) (r := ρ 2 + 2048 * ρ 3 + 6940667150336) ?_ (by omega) rfl
    show q163 (tB (vw C h)) (ρ 2 + 2048 * ρ 3 + 6940667150336)
    exact o163 (n := ρ 2) (s := ρ 3) (lo := 0) (hi := 100) (by omega) (by omega) (by omega) (by omega) (by omega) (by omega) (by omega) (fn_12 hR)
/-- st12C -/
theorem lem_401_ok (hU : uqG G C) : lem_401.1.2.1 = [] ∧ lemOK (PRd G C D xs) G rgs lem_401 := by
  refine ⟨rfl, fun ρ h ha hT => ?_⟩
  obtain ⟨-, -, hF, hG, hH, hA, hP⟩ := ha
  have f0 : (0 : Int) ≤ ((0) + ((1) * ρ 2 + 0)) := hF _ (List.mem_of_getElem? (i := 0) rfl)
  have f1 : (0 : Int) ≤ ((1200) + ((-1) * ρ 2 + 0)) := hF _ (List.mem_of_getElem? (i := 1) rfl)
  have f2 : (0 : Int) ≤ ((0) + ((1) * ρ 3 + 0)) := hF _ (List.mem_of_getElem? (i := 2) rfl)
  have f3 : (0 : Int) ≤ ((0) + ((1) * ρ 2 + ((-1) * ρ 3 + 0))) := hF _ (List.mem_of_getElem? (i := 3) rfl)
  have f4 : (0 : Int) ≤ ((0) + ((1) * ρ 4 + 0)) := hF _ (List.mem_of_getElem? (i := 4) rfl)
  have f5 : (0 : Int) ≤ ((0) + ((1) * ρ 2 + ((-1) * ρ 4 + 0))) := hF _ (List.mem_of_getElem? (i := 5) rfl)
  have f6 : (0 : Int) ≤ ((0) + ((1) * ρ 5 + 0)) := hF _ (List.mem_of_getElem? (i := 6) rfl)
  have f7 : (0 : Int) ≤ ((100) + ((-1) * ρ 5 + 0)) := hF _ (List.mem_of_getElem? (i := 7) rfl)
  have g0 : G (ρ 0).toNat = 14 := by
    have q := (hG _ (List.mem_of_getElem? (i := 0) rfl)).2
    rwa [show ev ρ (0, [(0, 1)]) = ρ 0 from ev_v] at q
  have g1 : G (ρ 1).toNat = 17 := by
    have q := (hG _ (List.mem_of_getElem? (i := 1) rfl)).2
    rwa [show ev ρ (0, [(1, 1)]) = ρ 1 from ev_v] at q
  have h1 : (0 : Int) ≤ ρ 2 ∧ ρ 2 ≤ 1200 := hf_rg hT (hH _ (List.mem_of_getElem? (i := 1) rfl)) ev_v g1 rfl rfl rfl ev_v
  have h2 : (0 : Int) ≤ ρ 3 ∧ ρ 3 ≤ 1200 := hf_rg hT (hH _ (List.mem_of_getElem? (i := 2) rfl)) ev_v g1 rfl rfl rfl ev_v
  have p0 : q158 (tB (vw C h)) (ρ 2 + 2048 * ρ 3) (ρ 4) := c2 (P := q158 (tB (vw C h))) (show q158 (tB (vw C h)) (((0) + ((1) * ρ 2 + ((2048) * ρ 3 + 0)))) (((0) + ((1) * ρ 4 + 0))) from hP _ (List.mem_of_getElem? (i := 0) rfl)) (by omega) (by omega)
  have p1 : q164 (tB (vw C h)) (ρ 2 + 2048 * ρ 4) (ρ 5) := c2 (P := q164 (tB (vw C h))) (show q164 (tB (vw C h)) (((0) + ((1) * ρ 2 + ((2048) * ρ 4 + 0)))) (((0) + ((1) * ρ 5 + 0))) from hP _ (List.mem_of_getElem? (i := 1) rfl)) (by omega) (by omega)
  have p2 : (qRC 12 (tB (vw C h))) (ρ 2 + 2048 * ρ 4) (ρ 6) := c2 (P := (qRC 12 (tB (vw C h)))) (show (qRC 12 (tB (vw C h))) (((0) + ((1) * ρ 2 + ((2048) * ρ 4 + 0)))) (((0) + ((1) * ρ 6 + 0))) from hP _ (List.mem_of_getElem? (i := 2) rfl)) (by omega) (by omega)
  obtain ⟨hkd, nv⟩ := k164 (n := ρ 2) (s := ρ 4) (by omega) (by omega) (by omega) (by omega) (by omega) p1
  have nx := k158 (n := ρ 2) (s := ρ 4) (t := ρ 3) (by omega) (by omega) (by omega) (by omega) (by omega) (by omega) p0
  have ng := nx_gt (B := (tB (vw C h))) (n := (ρ 2).toNat) (s := (ρ 4).toNat) (by omega)
  have hc0 := p2.1
  have hR := rc_el (n := ρ 2) (s := ρ 4) (d := (0 : Int)) (K := (0 : Int)) (R := (0 : Int)) p2 (by omega) (by omega) (by omega) (by omega) (by omega) (by omega) (by omega) (by omega) (by omega) (by omega)
  have q := sn_12 hR hkd (by omega) (by omega)
  obtain ⟨σ, r1, r2a⟩ : ∃ σ : Va, (∀ i, i < 7 → σ i = ρ i) ∧ σ 7 = ((setC (ρ 6).toNat 1 (ρ 5).toNat : Nat) : Int) := ⟨fun i => if i = 7 then ((setC (ρ 6).toNat 1 (ρ 5).toNat : Nat) : Int) else ρ i, fun i hi => by dsimp only; rw [if_neg (by omega)], by dsimp only; rw [if_pos rfl]⟩
  have s0 := r1 0 (by omega)
  have s1 := r1 1 (by omega)
  have s2 := r1 2 (by omega)
  have s3 := r1 3 (by omega)
  have s4 := r1 4 (by omega)
  have s5 := r1 5 (by omega)
  have s6 := r1 6 (by omega)
  refine ⟨_, List.mem_cons_self, σ, r1, fun q hq => absurd hq List.not_mem_nil, trivial, fun f hf => ?_, fun q hq => absurd hq List.not_mem_nil, fun q hq => absurd hq List.not_mem_nil, fun q hq => absurd hq List.not_mem_nil, fun q hq => ?_⟩
  · simp only [List.mem_cons, List.not_mem_nil, or_false] at hf
    subst hf
    show (0 : Int) ≤ ((-1) + ((1) * σ 3 + ((-1) * σ 4 + 0)))
    omega
  · simp only [List.mem_cons, List.not_mem_nil, or_false] at hq
    rcases hq with rfl | rfl
    · show (qRC 13 (tB (vw C h))) (((0) + ((1) * σ 2 + ((2048) * σ 3 + 0)))) (((0) + ((1) * σ 7 + 0)))
      refine c2 (P := (qRC 13 (tB (vw C h)))) (r := ρ 2 + 2048 * ρ 3) (c := ((setC (ρ 6).toNat 1 (ρ 5).toNat : Nat) : Int)) ?_ (by omega) (by omega)
      show (qRC 13 (tB (vw C h))) (ρ 2 + 2048 * ρ 3) (((setC (ρ 6).toNat 1 (ρ 5).toNat : Nat) : Int))
      exact rc_in (n := ρ 2) (s := ρ 3) (d := (0 : Int)) (K := (0 : Int)) (R := (0 : Int)) (by omega) (by omega) (by omega) (by omega) (by omega) (by omega) (by omega) (by omega) (by omega) (by omega) q (by omega) (by omega) (by omega) (by omega) (by rw [nv])
    · show qSet (((65536) + ((1) * σ 5 + ((16777216) * σ 6 + 0)))) (((0) + ((1) * σ 7 + 0)))
      refine c2 (P := qSet) (r := ρ 5 + 16777216 * ρ 6 + 65536) (c := ((setC (ρ 6).toNat 1 (ρ 5).toNat : Nat) : Int)) ?_ (by omega) (by omega)
      show qSet (ρ 5 + 16777216 * ρ 6 + 65536) (((setC (ρ 6).toNat 1 (ρ 5).toNat : Nat) : Int))
      exact oSet (V := ρ 6) (v := ρ 5) (k := 1) (by omega) (by decide) (by omega) (by omega) rfl
/-- op13C -/
theorem lem_402_ok (hU : uqG G C) : lem_402.1.2.1 = [] ∧ lemOK (PRd G C D xs) G rgs lem_402 := by
  refine ⟨rfl, fun ρ h ha hT => ?_⟩
  obtain ⟨-, -, hF, hG, hH, hA, hP⟩ := ha
  have f0 : (0 : Int) ≤ ((0) + ((1) * ρ 2 + 0)) := hF _ (List.mem_of_getElem? (i := 0) rfl)
  have f1 : (0 : Int) ≤ ((1200) + ((-1) * ρ 2 + 0)) := hF _ (List.mem_of_getElem? (i := 1) rfl)
  have f2 : (0 : Int) ≤ ((0) + ((1) * ρ 3 + 0)) := hF _ (List.mem_of_getElem? (i := 2) rfl)
  have f3 : (0 : Int) ≤ ((0) + ((1) * ρ 2 + ((-1) * ρ 3 + 0))) := hF _ (List.mem_of_getElem? (i := 3) rfl)
  have g0 : G (ρ 0).toNat = 14 := by
    have q := (hG _ (List.mem_of_getElem? (i := 0) rfl)).2
    rwa [show ev ρ (0, [(0, 1)]) = ρ 0 from ev_v] at q
  have g1 : G (ρ 1).toNat = 17 := by
    have q := (hG _ (List.mem_of_getElem? (i := 1) rfl)).2
    rwa [show ev ρ (0, [(1, 1)]) = ρ 1 from ev_v] at q
  have h1 : (0 : Int) ≤ ρ 2 ∧ ρ 2 ≤ 1200 := hf_rg hT (hH _ (List.mem_of_getElem? (i := 1) rfl)) ev_v g1 rfl rfl rfl ev_v
  have h2 : (0 : Int) ≤ ρ 3 ∧ ρ 3 ≤ 1200 := hf_rg hT (hH _ (List.mem_of_getElem? (i := 2) rfl)) ev_v g1 rfl rfl rfl ev_v
  have p0 : (qRC 13 (tB (vw C h))) (ρ 2 + 2048 * ρ 3) (ρ 4) := c2 (P := (qRC 13 (tB (vw C h)))) (show (qRC 13 (tB (vw C h))) (((0) + ((1) * ρ 2 + ((2048) * ρ 3 + 0)))) (((0) + ((1) * ρ 4 + 0))) from hP _ (List.mem_of_getElem? (i := 0) rfl)) (by omega) (by omega)
  have hc0 := p0.1
  have hR := rc_el (n := ρ 2) (s := ρ 3) (d := (0 : Int)) (K := (0 : Int)) (R := (0 : Int)) p0 (by omega) (by omega) (by omega) (by omega) (by omega) (by omega) (by omega) (by omega) (by omega) (by omega)
  refine ⟨_, List.mem_cons_self, ρ, fun _ _ => rfl, fun q hq => absurd hq List.not_mem_nil, trivial, fun f hf => ?_, fun q hq => absurd hq List.not_mem_nil, fun q hq => absurd hq List.not_mem_nil, fun q hq => absurd hq List.not_mem_nil, fun q hq => ?_⟩
  · exact absurd hf List.not_mem_nil
  · simp only [List.mem_cons, List.not_mem_nil, or_false] at hq
    subst hq
    show q165 (tB (vw C h)) (((25165824) + ((1) * ρ 2 + ((2048) * ρ 3 + 0))))
    refine c2 (P := (fun r (_ : Int) => q165 (tB (vw C h)) r)) (c := 0) (c' := 0) (r := ρ 2 + 2048 * ρ 3 + 25165824) ?_ (by omega) rfl
    show q165 (tB (vw C h)) (ρ 2 + 2048 * ρ 3 + 25165824)
    exact o165 (n := ρ 2) (s := ρ 3) (w := 6) (by omega) (by omega) (by omega) (by omega) (by omega) (by omega) (fun hw => fw_13 hR hw)
/-- st13C -/
theorem lem_403_ok (hU : uqG G C) : lem_403.1.2.1 = [] ∧ lemOK (PRd G C D xs) G rgs lem_403 := by
  refine ⟨rfl, fun ρ h ha hT => ?_⟩
  obtain ⟨-, -, hF, hG, hH, hA, hP⟩ := ha
  have f0 : (0 : Int) ≤ ((0) + ((1) * ρ 2 + 0)) := hF _ (List.mem_of_getElem? (i := 0) rfl)
  have f1 : (0 : Int) ≤ ((1200) + ((-1) * ρ 2 + 0)) := hF _ (List.mem_of_getElem? (i := 1) rfl)
  have f2 : (0 : Int) ≤ ((0) + ((1) * ρ 3 + 0)) := hF _ (List.mem_of_getElem? (i := 2) rfl)
  have f3 : (0 : Int) ≤ ((0) + ((1) * ρ 2 + ((-1) * ρ 3 + 0))) := hF _ (List.mem_of_getElem? (i := 3) rfl)
  have f4 : (0 : Int) ≤ ((0) + ((1) * ρ 4 + 0)) := hF _ (List.mem_of_getElem? (i := 4) rfl)
  have f5 : (0 : Int) ≤ ((0) + ((1) * ρ 2 + ((-1) * ρ 4 + 0))) := hF _ (List.mem_of_getElem? (i := 5) rfl)
  have g0 : G (ρ 0).toNat = 14 := by
    have q := (hG _ (List.mem_of_getElem? (i := 0) rfl)).2
    rwa [show ev ρ (0, [(0, 1)]) = ρ 0 from ev_v] at q
  have g1 : G (ρ 1).toNat = 17 := by
    have q := (hG _ (List.mem_of_getElem? (i := 1) rfl)).2
    rwa [show ev ρ (0, [(1, 1)]) = ρ 1 from ev_v] at q
  have h1 : (0 : Int) ≤ ρ 2 ∧ ρ 2 ≤ 1200 := hf_rg hT (hH _ (List.mem_of_getElem? (i := 1) rfl)) ev_v g1 rfl rfl rfl ev_v
  have h2 : (0 : Int) ≤ ρ 3 ∧ ρ 3 ≤ 1200 := hf_rg hT (hH _ (List.mem_of_getElem? (i := 2) rfl)) ev_v g1 rfl rfl rfl ev_v
  have p0 : q158 (tB (vw C h)) (ρ 2 + 2048 * ρ 3) (ρ 4) := c2 (P := q158 (tB (vw C h))) (show q158 (tB (vw C h)) (((0) + ((1) * ρ 2 + ((2048) * ρ 3 + 0)))) (((0) + ((1) * ρ 4 + 0))) from hP _ (List.mem_of_getElem? (i := 0) rfl)) (by omega) (by omega)
  have p1 : q159 (tB (vw C h)) (ρ 2 + 2048 * ρ 4 + 25165824) ((1 : Int)) := c2 (P := q159 (tB (vw C h))) (show q159 (tB (vw C h)) (((25165824) + ((1) * ρ 2 + ((2048) * ρ 4 + 0)))) (((1) + 0)) from hP _ (List.mem_of_getElem? (i := 1) rfl)) (by omega) (by omega)
  have p2 : (qRC 13 (tB (vw C h))) (ρ 2 + 2048 * ρ 4) (ρ 5) := c2 (P := (qRC 13 (tB (vw C h)))) (show (qRC 13 (tB (vw C h))) (((0) + ((1) * ρ 2 + ((2048) * ρ 4 + 0)))) (((0) + ((1) * ρ 5 + 0))) from hP _ (List.mem_of_getElem? (i := 2) rfl)) (by omega) (by omega)
  have iw6 : tIsB (tB (vw C h)) (ρ 2).toNat (ρ 4).toNat (wd 6) = true := b01_1 (k159 (n := ρ 2) (s := ρ 4) (w := 6) (by omega) (by omega) (by omega) (by omega) (by omega) (by omega) p1)
  have hkd := (is_el.mp iw6).1
  have nx := k158 (n := ρ 2) (s := ρ 4) (t := ρ 3) (by omega) (by omega) (by omega) (by omega) (by omega) (by omega) p0
  have ng := nx_gt (B := (tB (vw C h))) (n := (ρ 2).toNat) (s := (ρ 4).toNat) (by omega)
  have hc0 := p2.1
  have hR := rc_el (n := ρ 2) (s := ρ 4) (d := (0 : Int)) (K := (0 : Int)) (R := (0 : Int)) p2 (by omega) (by omega) (by omega) (by omega) (by omega) (by omega) (by omega) (by omega) (by omega) (by omega)
  have q := sw_13 hR iw6
  refine ⟨_, List.mem_cons_self, ρ, fun _ _ => rfl, fun q hq => absurd hq List.not_mem_nil, trivial, fun f hf => ?_, fun q hq => absurd hq List.not_mem_nil, fun q hq => absurd hq List.not_mem_nil, fun q hq => absurd hq List.not_mem_nil, fun q hq => ?_⟩
  · simp only [List.mem_cons, List.not_mem_nil, or_false] at hf
    subst hf
    show (0 : Int) ≤ ((-1) + ((1) * ρ 3 + ((-1) * ρ 4 + 0)))
    omega
  · simp only [List.mem_cons, List.not_mem_nil, or_false] at hq
    subst hq
    show (qRC 14 (tB (vw C h))) (((0) + ((1) * ρ 2 + ((2048) * ρ 3 + 0)))) (((0) + ((1) * ρ 5 + 0)))
    refine c2 (P := (qRC 14 (tB (vw C h)))) (r := ρ 2 + 2048 * ρ 3) (c := ρ 5) ?_ (by omega) (by omega)
    show (qRC 14 (tB (vw C h))) (ρ 2 + 2048 * ρ 3) (ρ 5)
    exact rc_in (n := ρ 2) (s := ρ 3) (d := (0 : Int)) (K := (0 : Int)) (R := (0 : Int)) (by omega) (by omega) (by omega) (by omega) (by omega) (by omega) (by omega) (by omega) (by omega) (by omega) q (by omega) (by omega) (by omega) (by omega) (by omega)
/-- op14C -/
theorem lem_404_ok (hU : uqG G C) : lem_404.1.2.1 = [] ∧ lemOK (PRd G C D xs) G rgs lem_404 := by
  refine ⟨rfl, fun ρ h ha hT => ?_⟩
  obtain ⟨-, -, hF, hG, hH, hA, hP⟩ := ha
  have f0 : (0 : Int) ≤ ((0) + ((1) * ρ 2 + 0)) := hF _ (List.mem_of_getElem? (i := 0) rfl)
  have f1 : (0 : Int) ≤ ((1200) + ((-1) * ρ 2 + 0)) := hF _ (List.mem_of_getElem? (i := 1) rfl)
  have f2 : (0 : Int) ≤ ((0) + ((1) * ρ 3 + 0)) := hF _ (List.mem_of_getElem? (i := 2) rfl)
  have f3 : (0 : Int) ≤ ((0) + ((1) * ρ 2 + ((-1) * ρ 3 + 0))) := hF _ (List.mem_of_getElem? (i := 3) rfl)
  have g0 : G (ρ 0).toNat = 14 := by
    have q := (hG _ (List.mem_of_getElem? (i := 0) rfl)).2
    rwa [show ev ρ (0, [(0, 1)]) = ρ 0 from ev_v] at q
  have g1 : G (ρ 1).toNat = 17 := by
    have q := (hG _ (List.mem_of_getElem? (i := 1) rfl)).2
    rwa [show ev ρ (0, [(1, 1)]) = ρ 1 from ev_v] at q
  have h1 : (0 : Int) ≤ ρ 2 ∧ ρ 2 ≤ 1200 := hf_rg hT (hH _ (List.mem_of_getElem? (i := 1) rfl)) ev_v g1 rfl rfl rfl ev_v
  have h2 : (0 : Int) ≤ ρ 3 ∧ ρ 3 ≤ 1200 := hf_rg hT (hH _ (List.mem_of_getElem? (i := 2) rfl)) ev_v g1 rfl rfl rfl ev_v
  have p0 : (qRC 14 (tB (vw C h))) (ρ 2 + 2048 * ρ 3) (ρ 4) := c2 (P := (qRC 14 (tB (vw C h)))) (show (qRC 14 (tB (vw C h))) (((0) + ((1) * ρ 2 + ((2048) * ρ 3 + 0)))) (((0) + ((1) * ρ 4 + 0))) from hP _ (List.mem_of_getElem? (i := 0) rfl)) (by omega) (by omega)
  have hc0 := p0.1
  have hR := rc_el (n := ρ 2) (s := ρ 3) (d := (0 : Int)) (K := (0 : Int)) (R := (0 : Int)) p0 (by omega) (by omega) (by omega) (by omega) (by omega) (by omega) (by omega) (by omega) (by omega) (by omega)
  refine ⟨_, List.mem_cons_self, ρ, fun _ _ => rfl, fun q hq => absurd hq List.not_mem_nil, trivial, fun f hf => ?_, fun q hq => absurd hq List.not_mem_nil, fun q hq => absurd hq List.not_mem_nil, fun q hq => absurd hq List.not_mem_nil, fun q hq => ?_⟩
  · exact absurd hf List.not_mem_nil
  · simp only [List.mem_cons, List.not_mem_nil, or_false] at hq
    subst hq
    show q163 (tB (vw C h)) (((2130307973120) + ((1) * ρ 2 + ((2048) * ρ 3 + 0))))
    refine c2 (P := (fun r (_ : Int) => q163 (tB (vw C h)) r)) (c := 0) (c' := 0) (r := ρ 2 + 2048 * ρ 3 + 2130307973120) ?_ (by omega) rfl
    show q163 (tB (vw C h)) (ρ 2 + 2048 * ρ 3 + 2130307973120)
    exact o163 (n := ρ 2) (s := ρ 3) (lo := 1) (hi := 30) (by omega) (by omega) (by omega) (by omega) (by omega) (by omega) (by omega) (fn_14 hR)
/-- st14C -/
theorem lem_405_ok (hU : uqG G C) : lem_405.1.2.1 = [] ∧ lemOK (PRd G C D xs) G rgs lem_405 := by
  refine ⟨rfl, fun ρ h ha hT => ?_⟩
  obtain ⟨-, -, hF, hG, hH, hA, hP⟩ := ha
  have f0 : (0 : Int) ≤ ((0) + ((1) * ρ 2 + 0)) := hF _ (List.mem_of_getElem? (i := 0) rfl)
  have f1 : (0 : Int) ≤ ((1200) + ((-1) * ρ 2 + 0)) := hF _ (List.mem_of_getElem? (i := 1) rfl)
  have f2 : (0 : Int) ≤ ((0) + ((1) * ρ 3 + 0)) := hF _ (List.mem_of_getElem? (i := 2) rfl)
  have f3 : (0 : Int) ≤ ((0) + ((1) * ρ 2 + ((-1) * ρ 3 + 0))) := hF _ (List.mem_of_getElem? (i := 3) rfl)
  have f4 : (0 : Int) ≤ ((0) + ((1) * ρ 4 + 0)) := hF _ (List.mem_of_getElem? (i := 4) rfl)
  have f5 : (0 : Int) ≤ ((0) + ((1) * ρ 2 + ((-1) * ρ 4 + 0))) := hF _ (List.mem_of_getElem? (i := 5) rfl)
  have f6 : (0 : Int) ≤ ((-1) + ((1) * ρ 5 + 0)) := hF _ (List.mem_of_getElem? (i := 6) rfl)
  have f7 : (0 : Int) ≤ ((30) + ((-1) * ρ 5 + 0)) := hF _ (List.mem_of_getElem? (i := 7) rfl)
  have g0 : G (ρ 0).toNat = 14 := by
    have q := (hG _ (List.mem_of_getElem? (i := 0) rfl)).2
    rwa [show ev ρ (0, [(0, 1)]) = ρ 0 from ev_v] at q
  have g1 : G (ρ 1).toNat = 17 := by
    have q := (hG _ (List.mem_of_getElem? (i := 1) rfl)).2
    rwa [show ev ρ (0, [(1, 1)]) = ρ 1 from ev_v] at q
  have h1 : (0 : Int) ≤ ρ 2 ∧ ρ 2 ≤ 1200 := hf_rg hT (hH _ (List.mem_of_getElem? (i := 1) rfl)) ev_v g1 rfl rfl rfl ev_v
  have h2 : (0 : Int) ≤ ρ 3 ∧ ρ 3 ≤ 1200 := hf_rg hT (hH _ (List.mem_of_getElem? (i := 2) rfl)) ev_v g1 rfl rfl rfl ev_v
  have p0 : q158 (tB (vw C h)) (ρ 2 + 2048 * ρ 3) (ρ 4) := c2 (P := q158 (tB (vw C h))) (show q158 (tB (vw C h)) (((0) + ((1) * ρ 2 + ((2048) * ρ 3 + 0)))) (((0) + ((1) * ρ 4 + 0))) from hP _ (List.mem_of_getElem? (i := 0) rfl)) (by omega) (by omega)
  have p1 : q164 (tB (vw C h)) (ρ 2 + 2048 * ρ 4) (ρ 5) := c2 (P := q164 (tB (vw C h))) (show q164 (tB (vw C h)) (((0) + ((1) * ρ 2 + ((2048) * ρ 4 + 0)))) (((0) + ((1) * ρ 5 + 0))) from hP _ (List.mem_of_getElem? (i := 1) rfl)) (by omega) (by omega)
  have p2 : (qRC 14 (tB (vw C h))) (ρ 2 + 2048 * ρ 4) (ρ 6) := c2 (P := (qRC 14 (tB (vw C h)))) (show (qRC 14 (tB (vw C h))) (((0) + ((1) * ρ 2 + ((2048) * ρ 4 + 0)))) (((0) + ((1) * ρ 6 + 0))) from hP _ (List.mem_of_getElem? (i := 2) rfl)) (by omega) (by omega)
  obtain ⟨hkd, nv⟩ := k164 (n := ρ 2) (s := ρ 4) (by omega) (by omega) (by omega) (by omega) (by omega) p1
  have nx := k158 (n := ρ 2) (s := ρ 4) (t := ρ 3) (by omega) (by omega) (by omega) (by omega) (by omega) (by omega) p0
  have ng := nx_gt (B := (tB (vw C h))) (n := (ρ 2).toNat) (s := (ρ 4).toNat) (by omega)
  have hc0 := p2.1
  have hR := rc_el (n := ρ 2) (s := ρ 4) (d := (0 : Int)) (K := (0 : Int)) (R := (0 : Int)) p2 (by omega) (by omega) (by omega) (by omega) (by omega) (by omega) (by omega) (by omega) (by omega) (by omega)
  have q := sn_14 hR hkd (by omega) (by omega)
  refine ⟨_, List.mem_cons_self, ρ, fun _ _ => rfl, fun q hq => absurd hq List.not_mem_nil, trivial, fun f hf => ?_, fun q hq => absurd hq List.not_mem_nil, fun q hq => absurd hq List.not_mem_nil, fun q hq => absurd hq List.not_mem_nil, fun q hq => ?_⟩
  · simp only [List.mem_cons, List.not_mem_nil, or_false] at hf
    subst hf
    show (0 : Int) ≤ ((-1) + ((1) * ρ 3 + ((-1) * ρ 4 + 0)))
    omega
  · simp only [List.mem_cons, List.not_mem_nil, or_false] at hq
    subst hq
    show (qRC 15 (tB (vw C h))) (((0) + ((1) * ρ 2 + ((2048) * ρ 3 + 0)))) (((0) + ((1) * ρ 6 + 0)))
    refine c2 (P := (qRC 15 (tB (vw C h)))) (r := ρ 2 + 2048 * ρ 3) (c := ρ 6) ?_ (by omega) (by omega)
    show (qRC 15 (tB (vw C h))) (ρ 2 + 2048 * ρ 3) (ρ 6)
    exact rc_in (n := ρ 2) (s := ρ 3) (d := (0 : Int)) (K := (0 : Int)) (R := (0 : Int)) (by omega) (by omega) (by omega) (by omega) (by omega) (by omega) (by omega) (by omega) (by omega) (by omega) q (by omega) (by omega) (by omega) (by omega) (by omega)
/-- op17C -/
theorem lem_406_ok (hU : uqG G C) : lem_406.1.2.1 = [] ∧ lemOK (PRd G C D xs) G rgs lem_406 := by
  refine ⟨rfl, fun ρ h ha hT => ?_⟩
  obtain ⟨-, -, hF, hG, hH, hA, hP⟩ := ha
  have f0 : (0 : Int) ≤ ((0) + ((1) * ρ 2 + 0)) := hF _ (List.mem_of_getElem? (i := 0) rfl)
  have f1 : (0 : Int) ≤ ((1200) + ((-1) * ρ 2 + 0)) := hF _ (List.mem_of_getElem? (i := 1) rfl)
  have f2 : (0 : Int) ≤ ((0) + ((1) * ρ 3 + 0)) := hF _ (List.mem_of_getElem? (i := 2) rfl)
  have f3 : (0 : Int) ≤ ((0) + ((1) * ρ 2 + ((-1) * ρ 3 + 0))) := hF _ (List.mem_of_getElem? (i := 3) rfl)
  have f4 : (0 : Int) ≤ ((0) + ((1) * ρ 5 + 0)) := hF _ (List.mem_of_getElem? (i := 4) rfl)
  have f5 : (0 : Int) ≤ ((6) + ((-1) * ρ 5 + 0)) := hF _ (List.mem_of_getElem? (i := 5) rfl)
  have f6 : (0 : Int) ≤ ((0) + ((1) * ρ 7 + 0)) := hF _ (List.mem_of_getElem? (i := 6) rfl)
  have f7 : (0 : Int) ≤ ((8) + ((-1) * ρ 7 + 0)) := hF _ (List.mem_of_getElem? (i := 7) rfl)
  have f8 : (0 : Int) ≤ ((0) + ((1) * ρ 10 + 0)) := hF _ (List.mem_of_getElem? (i := 8) rfl)
  have f9 : (0 : Int) ≤ ((5) + ((-1) * ρ 10 + 0)) := hF _ (List.mem_of_getElem? (i := 9) rfl)
  have f10 : (0 : Int) ≤ ((0) + ((1) * ρ 9 + 0)) := hF _ (List.mem_of_getElem? (i := 10) rfl)
  have f11 : (0 : Int) ≤ ((4) + ((-1) * ρ 9 + 0)) := hF _ (List.mem_of_getElem? (i := 11) rfl)
  have g0 : G (ρ 0).toNat = 14 := by
    have q := (hG _ (List.mem_of_getElem? (i := 0) rfl)).2
    rwa [show ev ρ (0, [(0, 1)]) = ρ 0 from ev_v] at q
  have g1 : G (ρ 1).toNat = 17 := by
    have q := (hG _ (List.mem_of_getElem? (i := 1) rfl)).2
    rwa [show ev ρ (0, [(1, 1)]) = ρ 1 from ev_v] at q
  have g2 : G (ρ 4).toNat = 11 := by
    have q := (hG _ (List.mem_of_getElem? (i := 2) rfl)).2
    rwa [show ev ρ (0, [(4, 1)]) = ρ 4 from ev_v] at q
  have g3 : G (ρ 6).toNat = 20 := by
    have q := (hG _ (List.mem_of_getElem? (i := 3) rfl)).2
    rwa [show ev ρ (0, [(6, 1)]) = ρ 6 from ev_v] at q
  have g4 : G (ρ 8).toNat = 16 := by
    have q := (hG _ (List.mem_of_getElem? (i := 4) rfl)).2
    rwa [show ev ρ (0, [(8, 1)]) = ρ 8 from ev_v] at q
  have h1 : (0 : Int) ≤ ρ 2 ∧ ρ 2 ≤ 1200 := hf_rg hT (hH _ (List.mem_of_getElem? (i := 1) rfl)) ev_v g1 rfl rfl rfl ev_v
  have h2 : (0 : Int) ≤ ρ 3 ∧ ρ 3 ≤ 1200 := hf_rg hT (hH _ (List.mem_of_getElem? (i := 2) rfl)) ev_v g1 rfl rfl rfl ev_v
  have h4 : (0 : Int) ≤ ρ 5 ∧ ρ 5 ≤ 6 := hf_rg hT (hH _ (List.mem_of_getElem? (i := 4) rfl)) ev_v g2 rfl rfl rfl ev_v
  have h6 : (0 : Int) ≤ ρ 7 ∧ ρ 7 ≤ 8 := hf_rg hT (hH _ (List.mem_of_getElem? (i := 6) rfl)) ev_v g3 rfl rfl rfl ev_v
  have h8 : (0 : Int) ≤ ρ 9 ∧ ρ 9 ≤ 4 := hf_rg hT (hH _ (List.mem_of_getElem? (i := 8) rfl)) ev_v g4 rfl rfl rfl ev_v
  have p0 : q176 G h (16 * ρ 6 + ρ 7) (ρ 10) := c2 (P := q176 G h) (show q176 G h (((0) + ((16) * ρ 6 + ((1) * ρ 7 + 0)))) (((0) + ((1) * ρ 10 + 0))) from hP _ (List.mem_of_getElem? (i := 0) rfl)) (by omega) (by omega)
  have p1 : (qRC 17 (tB (vw C h))) (ρ 2 + 2048 * ρ 3 + 4398046511104 * ρ 5 + 35184372088832 * ρ 7 + 4503599627370496 * ρ 9 + 562949953421312 * ρ 10) (ρ 11) := c2 (P := (qRC 17 (tB (vw C h)))) (show (qRC 17 (tB (vw C h))) (((0) + ((1) * ρ 2 + ((2048) * ρ 3 + ((4398046511104) * ρ 5 + ((35184372088832) * ρ 7 + ((4503599627370496) * ρ 9 + ((562949953421312) * ρ 10 + 0)))))))) (((0) + ((1) * ρ 11 + 0))) from hP _ (List.mem_of_getElem? (i := 1) rfl)) (by omega) (by omega)
  have hc0 := p1.1
  have hR := rc_el (n := ρ 2) (s := ρ 3) (d := (0 : Int)) (K := (0 : Int)) (R := (ρ 5 + 8 * ρ 7 + 1024 * ρ 9 + 128 * ρ 10)) p1 (by omega) (by omega) (by omega) (by omega) (by omega) (by omega) (by omega) (by omega) (by omega) (by omega)
  refine ⟨_, List.mem_cons_self, ρ, fun _ _ => rfl, fun q hq => absurd hq List.not_mem_nil, trivial, fun f hf => ?_, fun q hq => absurd hq List.not_mem_nil, fun q hq => absurd hq List.not_mem_nil, fun q hq => absurd hq List.not_mem_nil, fun q hq => ?_⟩
  · exact absurd hf List.not_mem_nil
  · simp only [List.mem_cons, List.not_mem_nil, or_false] at hq
    subst hq
    show q163 (tB (vw C h)) (((68719480930304) + ((1) * ρ 2 + ((2048) * ρ 3 + 0))))
    refine c2 (P := (fun r (_ : Int) => q163 (tB (vw C h)) r)) (c := 0) (c' := 0) (r := ρ 2 + 2048 * ρ 3 + 68719480930304) ?_ (by omega) rfl
    show q163 (tB (vw C h)) (ρ 2 + 2048 * ρ 3 + 68719480930304)
    exact o163 (n := ρ 2) (s := ρ 3) (lo := 1) (hi := 999) (by omega) (by omega) (by omega) (by omega) (by omega) (by omega) (by omega) (fn_17 hR)
/-- st17C -/
theorem lem_407_ok (hU : uqG G C) : lem_407.1.2.1 = [] ∧ lemOK (PRd G C D xs) G rgs lem_407 := by
  refine ⟨rfl, fun ρ h ha hT => ?_⟩
  obtain ⟨-, -, hF, hG, hH, hA, hP⟩ := ha
  have f0 : (0 : Int) ≤ ((0) + ((1) * ρ 2 + 0)) := hF _ (List.mem_of_getElem? (i := 0) rfl)
  have f1 : (0 : Int) ≤ ((1200) + ((-1) * ρ 2 + 0)) := hF _ (List.mem_of_getElem? (i := 1) rfl)
  have f2 : (0 : Int) ≤ ((0) + ((1) * ρ 3 + 0)) := hF _ (List.mem_of_getElem? (i := 2) rfl)
  have f3 : (0 : Int) ≤ ((0) + ((1) * ρ 2 + ((-1) * ρ 3 + 0))) := hF _ (List.mem_of_getElem? (i := 3) rfl)
  have f4 : (0 : Int) ≤ ((0) + ((1) * ρ 11 + 0)) := hF _ (List.mem_of_getElem? (i := 4) rfl)
  have f5 : (0 : Int) ≤ ((0) + ((1) * ρ 2 + ((-1) * ρ 11 + 0))) := hF _ (List.mem_of_getElem? (i := 5) rfl)
  have f6 : (0 : Int) ≤ ((-1) + ((1) * ρ 12 + 0)) := hF _ (List.mem_of_getElem? (i := 6) rfl)
  have f7 : (0 : Int) ≤ ((999) + ((-1) * ρ 12 + 0)) := hF _ (List.mem_of_getElem? (i := 7) rfl)
  have f8 : (0 : Int) ≤ ((0) + ((1) * ρ 5 + 0)) := hF _ (List.mem_of_getElem? (i := 8) rfl)
  have f9 : (0 : Int) ≤ ((6) + ((-1) * ρ 5 + 0)) := hF _ (List.mem_of_getElem? (i := 9) rfl)
  have f10 : (0 : Int) ≤ ((0) + ((1) * ρ 7 + 0)) := hF _ (List.mem_of_getElem? (i := 10) rfl)
  have f11 : (0 : Int) ≤ ((8) + ((-1) * ρ 7 + 0)) := hF _ (List.mem_of_getElem? (i := 11) rfl)
  have f12 : (0 : Int) ≤ ((0) + ((1) * ρ 10 + 0)) := hF _ (List.mem_of_getElem? (i := 12) rfl)
  have f13 : (0 : Int) ≤ ((5) + ((-1) * ρ 10 + 0)) := hF _ (List.mem_of_getElem? (i := 13) rfl)
  have f14 : (0 : Int) ≤ ((0) + ((1) * ρ 9 + 0)) := hF _ (List.mem_of_getElem? (i := 14) rfl)
  have f15 : (0 : Int) ≤ ((4) + ((-1) * ρ 9 + 0)) := hF _ (List.mem_of_getElem? (i := 15) rfl)
  have g0 : G (ρ 0).toNat = 14 := by
    have q := (hG _ (List.mem_of_getElem? (i := 0) rfl)).2
    rwa [show ev ρ (0, [(0, 1)]) = ρ 0 from ev_v] at q
  have g1 : G (ρ 1).toNat = 17 := by
    have q := (hG _ (List.mem_of_getElem? (i := 1) rfl)).2
    rwa [show ev ρ (0, [(1, 1)]) = ρ 1 from ev_v] at q
  have g2 : G (ρ 4).toNat = 11 := by
    have q := (hG _ (List.mem_of_getElem? (i := 2) rfl)).2
    rwa [show ev ρ (0, [(4, 1)]) = ρ 4 from ev_v] at q
  have g3 : G (ρ 6).toNat = 20 := by
    have q := (hG _ (List.mem_of_getElem? (i := 3) rfl)).2
    rwa [show ev ρ (0, [(6, 1)]) = ρ 6 from ev_v] at q
  have g4 : G (ρ 8).toNat = 16 := by
    have q := (hG _ (List.mem_of_getElem? (i := 4) rfl)).2
    rwa [show ev ρ (0, [(8, 1)]) = ρ 8 from ev_v] at q
  have h1 : (0 : Int) ≤ ρ 2 ∧ ρ 2 ≤ 1200 := hf_rg hT (hH _ (List.mem_of_getElem? (i := 1) rfl)) ev_v g1 rfl rfl rfl ev_v
  have h2 : (0 : Int) ≤ ρ 3 ∧ ρ 3 ≤ 1200 := hf_rg hT (hH _ (List.mem_of_getElem? (i := 2) rfl)) ev_v g1 rfl rfl rfl ev_v
  have h4 : (0 : Int) ≤ ρ 5 ∧ ρ 5 ≤ 6 := hf_rg hT (hH _ (List.mem_of_getElem? (i := 4) rfl)) ev_v g2 rfl rfl rfl ev_v
  have h6 : (0 : Int) ≤ ρ 7 ∧ ρ 7 ≤ 8 := hf_rg hT (hH _ (List.mem_of_getElem? (i := 6) rfl)) ev_v g3 rfl rfl rfl ev_v
  have h8 : (0 : Int) ≤ ρ 9 ∧ ρ 9 ≤ 4 := hf_rg hT (hH _ (List.mem_of_getElem? (i := 8) rfl)) ev_v g4 rfl rfl rfl ev_v
  have p0 : q176 G h (16 * ρ 6 + ρ 7) (ρ 10) := c2 (P := q176 G h) (show q176 G h (((0) + ((16) * ρ 6 + ((1) * ρ 7 + 0)))) (((0) + ((1) * ρ 10 + 0))) from hP _ (List.mem_of_getElem? (i := 0) rfl)) (by omega) (by omega)
  have p1 : q158 (tB (vw C h)) (ρ 2 + 2048 * ρ 3) (ρ 11) := c2 (P := q158 (tB (vw C h))) (show q158 (tB (vw C h)) (((0) + ((1) * ρ 2 + ((2048) * ρ 3 + 0)))) (((0) + ((1) * ρ 11 + 0))) from hP _ (List.mem_of_getElem? (i := 1) rfl)) (by omega) (by omega)
  have p2 : q164 (tB (vw C h)) (ρ 2 + 2048 * ρ 11) (ρ 12) := c2 (P := q164 (tB (vw C h))) (show q164 (tB (vw C h)) (((0) + ((1) * ρ 2 + ((2048) * ρ 11 + 0)))) (((0) + ((1) * ρ 12 + 0))) from hP _ (List.mem_of_getElem? (i := 2) rfl)) (by omega) (by omega)
  have p3 : (qRC 17 (tB (vw C h))) (ρ 2 + 4398046511104 * ρ 5 + 35184372088832 * ρ 7 + 4503599627370496 * ρ 9 + 562949953421312 * ρ 10 + 2048 * ρ 11) (ρ 13) := c2 (P := (qRC 17 (tB (vw C h)))) (show (qRC 17 (tB (vw C h))) (((0) + ((1) * ρ 2 + ((4398046511104) * ρ 5 + ((35184372088832) * ρ 7 + ((4503599627370496) * ρ 9 + ((562949953421312) * ρ 10 + ((2048) * ρ 11 + 0)))))))) (((0) + ((1) * ρ 13 + 0))) from hP _ (List.mem_of_getElem? (i := 3) rfl)) (by omega) (by omega)
  obtain ⟨hkd, nv⟩ := k164 (n := ρ 2) (s := ρ 11) (by omega) (by omega) (by omega) (by omega) (by omega) p2
  have nx := k158 (n := ρ 2) (s := ρ 11) (t := ρ 3) (by omega) (by omega) (by omega) (by omega) (by omega) (by omega) p1
  have ng := nx_gt (B := (tB (vw C h))) (n := (ρ 2).toNat) (s := (ρ 11).toNat) (by omega)
  have hc0 := p3.1
  have hR := rc_el (n := ρ 2) (s := ρ 11) (d := (0 : Int)) (K := (0 : Int)) (R := (ρ 5 + 8 * ρ 7 + 1024 * ρ 9 + 128 * ρ 10)) p3 (by omega) (by omega) (by omega) (by omega) (by omega) (by omega) (by omega) (by omega) (by omega) (by omega)
  have q := sn_17 hR hkd (by omega) (by omega)
  refine ⟨_, List.mem_cons_self, ρ, fun _ _ => rfl, fun q hq => absurd hq List.not_mem_nil, trivial, fun f hf => ?_, fun q hq => absurd hq List.not_mem_nil, fun q hq => absurd hq List.not_mem_nil, fun q hq => absurd hq List.not_mem_nil, fun q hq => ?_⟩
  · simp only [List.mem_cons, List.not_mem_nil, or_false] at hf
    subst hf
    show (0 : Int) ≤ ((-1) + ((1) * ρ 3 + ((-1) * ρ 11 + 0)))
    omega
  · simp only [List.mem_cons, List.not_mem_nil, or_false] at hq
    subst hq
    show (qRC 18 (tB (vw C h))) (((0) + ((1) * ρ 2 + ((2048) * ρ 3 + ((4398046511104) * ρ 5 + ((35184372088832) * ρ 7 + ((4503599627370496) * ρ 9 + ((562949953421312) * ρ 10 + 0)))))))) (((0) + ((1) * ρ 13 + 0)))
    refine c2 (P := (qRC 18 (tB (vw C h)))) (r := ρ 2 + 2048 * ρ 3 + 4398046511104 * ρ 5 + 35184372088832 * ρ 7 + 4503599627370496 * ρ 9 + 562949953421312 * ρ 10) (c := ρ 13) ?_ (by omega) (by omega)
    show (qRC 18 (tB (vw C h))) (ρ 2 + 2048 * ρ 3 + 4398046511104 * ρ 5 + 35184372088832 * ρ 7 + 4503599627370496 * ρ 9 + 562949953421312 * ρ 10) (ρ 13)
    exact rc_in (n := ρ 2) (s := ρ 3) (d := (0 : Int)) (K := (0 : Int)) (R := (ρ 5 + 8 * ρ 7 + 1024 * ρ 9 + 128 * ρ 10)) (by omega) (by omega) (by omega) (by omega) (by omega) (by omega) (by omega) (by omega) (by omega) (by omega) q (by omega) (by omega) (by omega) (by omega) (by omega)
/-- op18C -/
theorem lem_408_ok (hU : uqG G C) : lem_408.1.2.1 = [] ∧ lemOK (PRd G C D xs) G rgs lem_408 := by
  refine ⟨rfl, fun ρ h ha hT => ?_⟩
  obtain ⟨-, -, hF, hG, hH, hA, hP⟩ := ha
  have f0 : (0 : Int) ≤ ((0) + ((1) * ρ 2 + 0)) := hF _ (List.mem_of_getElem? (i := 0) rfl)
  have f1 : (0 : Int) ≤ ((1200) + ((-1) * ρ 2 + 0)) := hF _ (List.mem_of_getElem? (i := 1) rfl)
  have f2 : (0 : Int) ≤ ((0) + ((1) * ρ 3 + 0)) := hF _ (List.mem_of_getElem? (i := 2) rfl)
  have f3 : (0 : Int) ≤ ((0) + ((1) * ρ 2 + ((-1) * ρ 3 + 0))) := hF _ (List.mem_of_getElem? (i := 3) rfl)
  have f4 : (0 : Int) ≤ ((0) + ((1) * ρ 5 + 0)) := hF _ (List.mem_of_getElem? (i := 4) rfl)
  have f5 : (0 : Int) ≤ ((6) + ((-1) * ρ 5 + 0)) := hF _ (List.mem_of_getElem? (i := 5) rfl)
  have f6 : (0 : Int) ≤ ((0) + ((1) * ρ 7 + 0)) := hF _ (List.mem_of_getElem? (i := 6) rfl)
  have f7 : (0 : Int) ≤ ((8) + ((-1) * ρ 7 + 0)) := hF _ (List.mem_of_getElem? (i := 7) rfl)
  have f8 : (0 : Int) ≤ ((0) + ((1) * ρ 10 + 0)) := hF _ (List.mem_of_getElem? (i := 8) rfl)
  have f9 : (0 : Int) ≤ ((5) + ((-1) * ρ 10 + 0)) := hF _ (List.mem_of_getElem? (i := 9) rfl)
  have f10 : (0 : Int) ≤ ((0) + ((1) * ρ 9 + 0)) := hF _ (List.mem_of_getElem? (i := 10) rfl)
  have f11 : (0 : Int) ≤ ((4) + ((-1) * ρ 9 + 0)) := hF _ (List.mem_of_getElem? (i := 11) rfl)
  have g0 : G (ρ 0).toNat = 14 := by
    have q := (hG _ (List.mem_of_getElem? (i := 0) rfl)).2
    rwa [show ev ρ (0, [(0, 1)]) = ρ 0 from ev_v] at q
  have g1 : G (ρ 1).toNat = 17 := by
    have q := (hG _ (List.mem_of_getElem? (i := 1) rfl)).2
    rwa [show ev ρ (0, [(1, 1)]) = ρ 1 from ev_v] at q
  have g2 : G (ρ 4).toNat = 11 := by
    have q := (hG _ (List.mem_of_getElem? (i := 2) rfl)).2
    rwa [show ev ρ (0, [(4, 1)]) = ρ 4 from ev_v] at q
  have g3 : G (ρ 6).toNat = 20 := by
    have q := (hG _ (List.mem_of_getElem? (i := 3) rfl)).2
    rwa [show ev ρ (0, [(6, 1)]) = ρ 6 from ev_v] at q
  have g4 : G (ρ 8).toNat = 16 := by
    have q := (hG _ (List.mem_of_getElem? (i := 4) rfl)).2
    rwa [show ev ρ (0, [(8, 1)]) = ρ 8 from ev_v] at q
  have h1 : (0 : Int) ≤ ρ 2 ∧ ρ 2 ≤ 1200 := hf_rg hT (hH _ (List.mem_of_getElem? (i := 1) rfl)) ev_v g1 rfl rfl rfl ev_v
  have h2 : (0 : Int) ≤ ρ 3 ∧ ρ 3 ≤ 1200 := hf_rg hT (hH _ (List.mem_of_getElem? (i := 2) rfl)) ev_v g1 rfl rfl rfl ev_v
  have h4 : (0 : Int) ≤ ρ 5 ∧ ρ 5 ≤ 6 := hf_rg hT (hH _ (List.mem_of_getElem? (i := 4) rfl)) ev_v g2 rfl rfl rfl ev_v
  have h6 : (0 : Int) ≤ ρ 7 ∧ ρ 7 ≤ 8 := hf_rg hT (hH _ (List.mem_of_getElem? (i := 6) rfl)) ev_v g3 rfl rfl rfl ev_v
  have h8 : (0 : Int) ≤ ρ 9 ∧ ρ 9 ≤ 4 := hf_rg hT (hH _ (List.mem_of_getElem? (i := 8) rfl)) ev_v g4 rfl rfl rfl ev_v
  have p0 : q176 G h (16 * ρ 6 + ρ 7) (ρ 10) := c2 (P := q176 G h) (show q176 G h (((0) + ((16) * ρ 6 + ((1) * ρ 7 + 0)))) (((0) + ((1) * ρ 10 + 0))) from hP _ (List.mem_of_getElem? (i := 0) rfl)) (by omega) (by omega)
  have p1 : (qRC 18 (tB (vw C h))) (ρ 2 + 2048 * ρ 3 + 4398046511104 * ρ 5 + 35184372088832 * ρ 7 + 4503599627370496 * ρ 9 + 562949953421312 * ρ 10) (ρ 11) := c2 (P := (qRC 18 (tB (vw C h)))) (show (qRC 18 (tB (vw C h))) (((0) + ((1) * ρ 2 + ((2048) * ρ 3 + ((4398046511104) * ρ 5 + ((35184372088832) * ρ 7 + ((4503599627370496) * ρ 9 + ((562949953421312) * ρ 10 + 0)))))))) (((0) + ((1) * ρ 11 + 0))) from hP _ (List.mem_of_getElem? (i := 1) rfl)) (by omega) (by omega)
  have hc0 := p1.1
  have hR := rc_el (n := ρ 2) (s := ρ 3) (d := (0 : Int)) (K := (0 : Int)) (R := (ρ 5 + 8 * ρ 7 + 1024 * ρ 9 + 128 * ρ 10)) p1 (by omega) (by omega) (by omega) (by omega) (by omega) (by omega) (by omega) (by omega) (by omega) (by omega)
  refine ⟨_, List.mem_cons_self, ρ, fun _ _ => rfl, fun q hq => absurd hq List.not_mem_nil, trivial, fun f hf => ?_, fun q hq => absurd hq List.not_mem_nil, fun q hq => absurd hq List.not_mem_nil, fun q hq => absurd hq List.not_mem_nil, fun q hq => ?_⟩
  · exact absurd hf List.not_mem_nil
  · simp only [List.mem_cons, List.not_mem_nil, or_false] at hq
    subst hq
    show q163 (tB (vw C h)) (((68719476736000) + ((1) * ρ 2 + ((2048) * ρ 3 + 0))))
    refine c2 (P := (fun r (_ : Int) => q163 (tB (vw C h)) r)) (c := 0) (c' := 0) (r := ρ 2 + 2048 * ρ 3 + 68719476736000) ?_ (by omega) rfl
    show q163 (tB (vw C h)) (ρ 2 + 2048 * ρ 3 + 68719476736000)
    exact o163 (n := ρ 2) (s := ρ 3) (lo := 0) (hi := 999) (by omega) (by omega) (by omega) (by omega) (by omega) (by omega) (by omega) (fn_18 hR)
/-- st18C -/
theorem lem_409_ok (hU : uqG G C) : lem_409.1.2.1 = [] ∧ lemOK (PRd G C D xs) G rgs lem_409 := by
  refine ⟨rfl, fun ρ h ha hT => ?_⟩
  obtain ⟨-, -, hF, hG, hH, hA, hP⟩ := ha
  have f0 : (0 : Int) ≤ ((0) + ((1) * ρ 2 + 0)) := hF _ (List.mem_of_getElem? (i := 0) rfl)
  have f1 : (0 : Int) ≤ ((1200) + ((-1) * ρ 2 + 0)) := hF _ (List.mem_of_getElem? (i := 1) rfl)
  have f2 : (0 : Int) ≤ ((0) + ((1) * ρ 3 + 0)) := hF _ (List.mem_of_getElem? (i := 2) rfl)
  have f3 : (0 : Int) ≤ ((0) + ((1) * ρ 2 + ((-1) * ρ 3 + 0))) := hF _ (List.mem_of_getElem? (i := 3) rfl)
  have f4 : (0 : Int) ≤ ((0) + ((1) * ρ 11 + 0)) := hF _ (List.mem_of_getElem? (i := 4) rfl)
  have f5 : (0 : Int) ≤ ((0) + ((1) * ρ 2 + ((-1) * ρ 11 + 0))) := hF _ (List.mem_of_getElem? (i := 5) rfl)
  have f6 : (0 : Int) ≤ ((0) + ((1) * ρ 12 + 0)) := hF _ (List.mem_of_getElem? (i := 6) rfl)
  have f7 : (0 : Int) ≤ ((999) + ((-1) * ρ 12 + 0)) := hF _ (List.mem_of_getElem? (i := 7) rfl)
  have f8 : (0 : Int) ≤ ((0) + ((1) * ρ 5 + 0)) := hF _ (List.mem_of_getElem? (i := 8) rfl)
  have f9 : (0 : Int) ≤ ((6) + ((-1) * ρ 5 + 0)) := hF _ (List.mem_of_getElem? (i := 9) rfl)
  have f10 : (0 : Int) ≤ ((0) + ((1) * ρ 7 + 0)) := hF _ (List.mem_of_getElem? (i := 10) rfl)
  have f11 : (0 : Int) ≤ ((8) + ((-1) * ρ 7 + 0)) := hF _ (List.mem_of_getElem? (i := 11) rfl)
  have f12 : (0 : Int) ≤ ((0) + ((1) * ρ 10 + 0)) := hF _ (List.mem_of_getElem? (i := 12) rfl)
  have f13 : (0 : Int) ≤ ((5) + ((-1) * ρ 10 + 0)) := hF _ (List.mem_of_getElem? (i := 13) rfl)
  have f14 : (0 : Int) ≤ ((0) + ((1) * ρ 9 + 0)) := hF _ (List.mem_of_getElem? (i := 14) rfl)
  have f15 : (0 : Int) ≤ ((4) + ((-1) * ρ 9 + 0)) := hF _ (List.mem_of_getElem? (i := 15) rfl)
  have g0 : G (ρ 0).toNat = 14 := by
    have q := (hG _ (List.mem_of_getElem? (i := 0) rfl)).2
    rwa [show ev ρ (0, [(0, 1)]) = ρ 0 from ev_v] at q
  have g1 : G (ρ 1).toNat = 17 := by
    have q := (hG _ (List.mem_of_getElem? (i := 1) rfl)).2
    rwa [show ev ρ (0, [(1, 1)]) = ρ 1 from ev_v] at q
  have g2 : G (ρ 4).toNat = 11 := by
    have q := (hG _ (List.mem_of_getElem? (i := 2) rfl)).2
    rwa [show ev ρ (0, [(4, 1)]) = ρ 4 from ev_v] at q
  have g3 : G (ρ 6).toNat = 20 := by
    have q := (hG _ (List.mem_of_getElem? (i := 3) rfl)).2
    rwa [show ev ρ (0, [(6, 1)]) = ρ 6 from ev_v] at q
  have g4 : G (ρ 8).toNat = 16 := by
    have q := (hG _ (List.mem_of_getElem? (i := 4) rfl)).2
    rwa [show ev ρ (0, [(8, 1)]) = ρ 8 from ev_v] at q
  have h1 : (0 : Int) ≤ ρ 2 ∧ ρ 2 ≤ 1200 := hf_rg hT (hH _ (List.mem_of_getElem? (i := 1) rfl)) ev_v g1 rfl rfl rfl ev_v
  have h2 : (0 : Int) ≤ ρ 3 ∧ ρ 3 ≤ 1200 := hf_rg hT (hH _ (List.mem_of_getElem? (i := 2) rfl)) ev_v g1 rfl rfl rfl ev_v
  have h4 : (0 : Int) ≤ ρ 5 ∧ ρ 5 ≤ 6 := hf_rg hT (hH _ (List.mem_of_getElem? (i := 4) rfl)) ev_v g2 rfl rfl rfl ev_v
  have h6 : (0 : Int) ≤ ρ 7 ∧ ρ 7 ≤ 8 := hf_rg hT (hH _ (List.mem_of_getElem? (i := 6) rfl)) ev_v g3 rfl rfl rfl ev_v
  have h8 : (0 : Int) ≤ ρ 9 ∧ ρ 9 ≤ 4 := hf_rg hT (hH _ (List.mem_of_getElem? (i := 8) rfl)) ev_v g4 rfl rfl rfl ev_v
  have p0 : q176 G h (16 * ρ 6 + ρ 7) (ρ 10) := c2 (P := q176 G h) (show q176 G h (((0) + ((16) * ρ 6 + ((1) * ρ 7 + 0)))) (((0) + ((1) * ρ 10 + 0))) from hP _ (List.mem_of_getElem? (i := 0) rfl)) (by omega) (by omega)
  have p1 : q158 (tB (vw C h)) (ρ 2 + 2048 * ρ 3) (ρ 11) := c2 (P := q158 (tB (vw C h))) (show q158 (tB (vw C h)) (((0) + ((1) * ρ 2 + ((2048) * ρ 3 + 0)))) (((0) + ((1) * ρ 11 + 0))) from hP _ (List.mem_of_getElem? (i := 1) rfl)) (by omega) (by omega)
  have p2 : q164 (tB (vw C h)) (ρ 2 + 2048 * ρ 11) (ρ 12) := c2 (P := q164 (tB (vw C h))) (show q164 (tB (vw C h)) (((0) + ((1) * ρ 2 + ((2048) * ρ 11 + 0)))) (((0) + ((1) * ρ 12 + 0))) from hP _ (List.mem_of_getElem? (i := 2) rfl)) (by omega) (by omega)
  have p3 : (qRC 18 (tB (vw C h))) (ρ 2 + 4398046511104 * ρ 5 + 35184372088832 * ρ 7 + 4503599627370496 * ρ 9 + 562949953421312 * ρ 10 + 2048 * ρ 11) (ρ 13) := c2 (P := (qRC 18 (tB (vw C h)))) (show (qRC 18 (tB (vw C h))) (((0) + ((1) * ρ 2 + ((4398046511104) * ρ 5 + ((35184372088832) * ρ 7 + ((4503599627370496) * ρ 9 + ((562949953421312) * ρ 10 + ((2048) * ρ 11 + 0)))))))) (((0) + ((1) * ρ 13 + 0))) from hP _ (List.mem_of_getElem? (i := 3) rfl)) (by omega) (by omega)
  obtain ⟨hkd, nv⟩ := k164 (n := ρ 2) (s := ρ 11) (by omega) (by omega) (by omega) (by omega) (by omega) p2
  have nx := k158 (n := ρ 2) (s := ρ 11) (t := ρ 3) (by omega) (by omega) (by omega) (by omega) (by omega) (by omega) p1
  have ng := nx_gt (B := (tB (vw C h))) (n := (ρ 2).toNat) (s := (ρ 11).toNat) (by omega)
  have hc0 := p3.1
  have hR := rc_el (n := ρ 2) (s := ρ 11) (d := (0 : Int)) (K := (0 : Int)) (R := (ρ 5 + 8 * ρ 7 + 1024 * ρ 9 + 128 * ρ 10)) p3 (by omega) (by omega) (by omega) (by omega) (by omega) (by omega) (by omega) (by omega) (by omega) (by omega)
  have q := sn_18 hR hkd (by omega) (by omega)
  refine ⟨_, List.mem_cons_self, ρ, fun _ _ => rfl, fun q hq => absurd hq List.not_mem_nil, trivial, fun f hf => ?_, fun q hq => absurd hq List.not_mem_nil, fun q hq => absurd hq List.not_mem_nil, fun q hq => absurd hq List.not_mem_nil, fun q hq => ?_⟩
  · simp only [List.mem_cons, List.not_mem_nil, or_false] at hf
    subst hf
    show (0 : Int) ≤ ((-1) + ((1) * ρ 3 + ((-1) * ρ 11 + 0)))
    omega
  · simp only [List.mem_cons, List.not_mem_nil, or_false] at hq
    subst hq
    show (qRC 19 (tB (vw C h))) (((0) + ((1) * ρ 2 + ((2048) * ρ 3 + ((4398046511104) * ρ 5 + ((35184372088832) * ρ 7 + ((4503599627370496) * ρ 9 + ((562949953421312) * ρ 10 + 0)))))))) (((0) + ((1) * ρ 13 + 0)))
    refine c2 (P := (qRC 19 (tB (vw C h)))) (r := ρ 2 + 2048 * ρ 3 + 4398046511104 * ρ 5 + 35184372088832 * ρ 7 + 4503599627370496 * ρ 9 + 562949953421312 * ρ 10) (c := ρ 13) ?_ (by omega) (by omega)
    show (qRC 19 (tB (vw C h))) (ρ 2 + 2048 * ρ 3 + 4398046511104 * ρ 5 + 35184372088832 * ρ 7 + 4503599627370496 * ρ 9 + 562949953421312 * ρ 10) (ρ 13)
    exact rc_in (n := ρ 2) (s := ρ 3) (d := (0 : Int)) (K := (0 : Int)) (R := (ρ 5 + 8 * ρ 7 + 1024 * ρ 9 + 128 * ρ 10)) (by omega) (by omega) (by omega) (by omega) (by omega) (by omega) (by omega) (by omega) (by omega) (by omega) q (by omega) (by omega) (by omega) (by omega) (by omega)
/-- op19C -/
theorem lem_410_ok (hU : uqG G C) : lem_410.1.2.1 = [] ∧ lemOK (PRd G C D xs) G rgs lem_410 := by
  refine ⟨rfl, fun ρ h ha hT => ?_⟩
  obtain ⟨-, -, hF, hG, hH, hA, hP⟩ := ha
  have f0 : (0 : Int) ≤ ((0) + ((1) * ρ 2 + 0)) := hF _ (List.mem_of_getElem? (i := 0) rfl)
  have f1 : (0 : Int) ≤ ((1200) + ((-1) * ρ 2 + 0)) := hF _ (List.mem_of_getElem? (i := 1) rfl)
  have f2 : (0 : Int) ≤ ((0) + ((1) * ρ 3 + 0)) := hF _ (List.mem_of_getElem? (i := 2) rfl)
  have f3 : (0 : Int) ≤ ((0) + ((1) * ρ 2 + ((-1) * ρ 3 + 0))) := hF _ (List.mem_of_getElem? (i := 3) rfl)
  have f4 : (0 : Int) ≤ ((0) + ((1) * ρ 5 + 0)) := hF _ (List.mem_of_getElem? (i := 4) rfl)
  have f5 : (0 : Int) ≤ ((6) + ((-1) * ρ 5 + 0)) := hF _ (List.mem_of_getElem? (i := 5) rfl)
  have f6 : (0 : Int) ≤ ((0) + ((1) * ρ 7 + 0)) := hF _ (List.mem_of_getElem? (i := 6) rfl)
  have f7 : (0 : Int) ≤ ((8) + ((-1) * ρ 7 + 0)) := hF _ (List.mem_of_getElem? (i := 7) rfl)
  have f8 : (0 : Int) ≤ ((0) + ((1) * ρ 10 + 0)) := hF _ (List.mem_of_getElem? (i := 8) rfl)
  have f9 : (0 : Int) ≤ ((5) + ((-1) * ρ 10 + 0)) := hF _ (List.mem_of_getElem? (i := 9) rfl)
  have f10 : (0 : Int) ≤ ((0) + ((1) * ρ 9 + 0)) := hF _ (List.mem_of_getElem? (i := 10) rfl)
  have f11 : (0 : Int) ≤ ((4) + ((-1) * ρ 9 + 0)) := hF _ (List.mem_of_getElem? (i := 11) rfl)
  have g0 : G (ρ 0).toNat = 14 := by
    have q := (hG _ (List.mem_of_getElem? (i := 0) rfl)).2
    rwa [show ev ρ (0, [(0, 1)]) = ρ 0 from ev_v] at q
  have g1 : G (ρ 1).toNat = 17 := by
    have q := (hG _ (List.mem_of_getElem? (i := 1) rfl)).2
    rwa [show ev ρ (0, [(1, 1)]) = ρ 1 from ev_v] at q
  have g2 : G (ρ 4).toNat = 11 := by
    have q := (hG _ (List.mem_of_getElem? (i := 2) rfl)).2
    rwa [show ev ρ (0, [(4, 1)]) = ρ 4 from ev_v] at q
  have g3 : G (ρ 6).toNat = 20 := by
    have q := (hG _ (List.mem_of_getElem? (i := 3) rfl)).2
    rwa [show ev ρ (0, [(6, 1)]) = ρ 6 from ev_v] at q
  have g4 : G (ρ 8).toNat = 16 := by
    have q := (hG _ (List.mem_of_getElem? (i := 4) rfl)).2
    rwa [show ev ρ (0, [(8, 1)]) = ρ 8 from ev_v] at q
  have h1 : (0 : Int) ≤ ρ 2 ∧ ρ 2 ≤ 1200 := hf_rg hT (hH _ (List.mem_of_getElem? (i := 1) rfl)) ev_v g1 rfl rfl rfl ev_v
  have h2 : (0 : Int) ≤ ρ 3 ∧ ρ 3 ≤ 1200 := hf_rg hT (hH _ (List.mem_of_getElem? (i := 2) rfl)) ev_v g1 rfl rfl rfl ev_v
  have h4 : (0 : Int) ≤ ρ 5 ∧ ρ 5 ≤ 6 := hf_rg hT (hH _ (List.mem_of_getElem? (i := 4) rfl)) ev_v g2 rfl rfl rfl ev_v
  have h6 : (0 : Int) ≤ ρ 7 ∧ ρ 7 ≤ 8 := hf_rg hT (hH _ (List.mem_of_getElem? (i := 6) rfl)) ev_v g3 rfl rfl rfl ev_v
  have h8 : (0 : Int) ≤ ρ 9 ∧ ρ 9 ≤ 4 := hf_rg hT (hH _ (List.mem_of_getElem? (i := 8) rfl)) ev_v g4 rfl rfl rfl ev_v
  have p0 : q176 G h (16 * ρ 6 + ρ 7) (ρ 10) := c2 (P := q176 G h) (show q176 G h (((0) + ((16) * ρ 6 + ((1) * ρ 7 + 0)))) (((0) + ((1) * ρ 10 + 0))) from hP _ (List.mem_of_getElem? (i := 0) rfl)) (by omega) (by omega)
  have p1 : (qRC 19 (tB (vw C h))) (ρ 2 + 2048 * ρ 3 + 4398046511104 * ρ 5 + 35184372088832 * ρ 7 + 4503599627370496 * ρ 9 + 562949953421312 * ρ 10) (ρ 11) := c2 (P := (qRC 19 (tB (vw C h)))) (show (qRC 19 (tB (vw C h))) (((0) + ((1) * ρ 2 + ((2048) * ρ 3 + ((4398046511104) * ρ 5 + ((35184372088832) * ρ 7 + ((4503599627370496) * ρ 9 + ((562949953421312) * ρ 10 + 0)))))))) (((0) + ((1) * ρ 11 + 0))) from hP _ (List.mem_of_getElem? (i := 1) rfl)) (by omega) (by omega)
  have hc0 := p1.1
  have hR := rc_el (n := ρ 2) (s := ρ 3) (d := (0 : Int)) (K := (0 : Int)) (R := (ρ 5 + 8 * ρ 7 + 1024 * ρ 9 + 128 * ρ 10)) p1 (by omega) (by omega) (by omega) (by omega) (by omega) (by omega) (by omega) (by omega) (by omega) (by omega)
  refine ⟨_, List.mem_cons_self, ρ, fun _ _ => rfl, fun q hq => absurd hq List.not_mem_nil, trivial, fun f hf => ?_, fun q hq => absurd hq List.not_mem_nil, fun q hq => absurd hq List.not_mem_nil, fun q hq => absurd hq List.not_mem_nil, fun q hq => ?_⟩
  · exact absurd hf List.not_mem_nil
  · simp only [List.mem_cons, List.not_mem_nil, or_false] at hq
    subst hq
    show q163 (tB (vw C h)) (((68719476736000) + ((1) * ρ 2 + ((2048) * ρ 3 + 0))))
    refine c2 (P := (fun r (_ : Int) => q163 (tB (vw C h)) r)) (c := 0) (c' := 0) (r := ρ 2 + 2048 * ρ 3 + 68719476736000) ?_ (by omega) rfl
    show q163 (tB (vw C h)) (ρ 2 + 2048 * ρ 3 + 68719476736000)
    exact o163 (n := ρ 2) (s := ρ 3) (lo := 0) (hi := 999) (by omega) (by omega) (by omega) (by omega) (by omega) (by omega) (by omega) (fn_19 hR)
end LMT
