section LMT
variable {G C : Nat → Nat} {h : mH} {D : Nat} {xs : Nat → Int32}
/-- sw0 -/
theorem lem_631_ok (hU : uqG G C) : lem_631.1.2.1 = [] ∧ lemOK (PRd G C D xs) G rgs lem_631 := by
  refine ⟨rfl, fun ρ h ha hT => ?_⟩
  obtain ⟨-, -, hF, hG, hH, hA, hP⟩ := ha
  have g0 : G (ρ 0).toNat = 20 := by
    have q := (hG _ (List.mem_of_getElem? (i := 0) rfl)).2
    rwa [show ev ρ (0, [(0, 1)]) = ρ 0 from ev_v] at q
  have g1 : G (ρ 1).toNat = 20 := by
    have q := (hG _ (List.mem_of_getElem? (i := 1) rfl)).2
    rwa [show ev ρ (0, [(1, 1)]) = ρ 1 from ev_v] at q
  have h0 : (0 : Int) ≤ ρ 2 ∧ ρ 2 ≤ 8 := hf_rg hT (hH _ (List.mem_of_getElem? (i := 0) rfl)) ev_v g1 rfl rfl rfl ev_v
  have p0 : q210 G (ρ 1) (ρ 3) (rfv h) := c2 (P := (fun r c => q210 G r c (rfv h))) (show q210 G (((0) + ((1) * ρ 1 + 0))) (((0) + ((1) * ρ 3 + 0))) (rfv h) from hP _ (List.mem_of_getElem? (i := 0) rfl)) (by omega) (by omega)
  have p1 : q245 (ρ 0) (ρ 1) := c2 (P := q245) (show q245 (((0) + ((1) * ρ 0 + 0))) (((0) + ((1) * ρ 1 + 0))) from hP _ (List.mem_of_getElem? (i := 1) rfl)) (by omega) (by omega)
  have cT : 0 ≤ ρ 0 := by
    have q := (hG _ (List.mem_of_getElem? (i := 0) rfl)).1
    rwa [show ev ρ (0, [(0, 1)]) = ρ 0 from ev_v] at q
  have cX : 0 ≤ ρ 1 := by
    have q := (hG _ (List.mem_of_getElem? (i := 1) rfl)).1
    rwa [show ev ρ (0, [(1, 1)]) = ρ 1 from ev_v] at q
  have y0 : hasI (rfv h (ρ 1).toNat 12) (ρ 2) := ob_i hT (hH _ (List.mem_of_getElem? (i := 0) rfl)) ev_v g1 rfl ev_v
  obtain ⟨r1, r2⟩ := s_sw0 (T := ρ 0) cT y0 p0 p1
  refine ⟨_, List.mem_cons_self, ρ, fun _ _ => rfl, fun q hq => absurd hq List.not_mem_nil, trivial, fun f hf => ?_, fun q hq => absurd hq List.not_mem_nil, fun q hq => absurd hq List.not_mem_nil, fun q hq => absurd hq List.not_mem_nil, fun q hq => ?_⟩
  · simp only [List.mem_cons, List.not_mem_nil, or_false] at hf
    rcases hf with rfl | rfl
    · show (0 : Int) ≤ ((0) + ((-1) * ρ 2 + ((1) * ρ 3 + 0)))
      omega
    · show (0 : Int) ≤ ((0) + ((1) * ρ 2 + ((-1) * ρ 3 + 0)))
      omega
  · simp only [List.mem_cons, List.not_mem_nil, or_false] at hq
    subst hq
    show q247 G (((0) + ((1) * ρ 0 + 0))) (((0) + ((1) * ρ 1 + ((1024) * ρ 3 + 0)))) (rfv h)
    refine c2 (P := (fun r c => q247 G r c (rfv h))) (r := ρ 0) (c := ρ 1 + 1024 * ρ 3) ?_ (by omega) (by omega)
    show q247 G (ρ 0) (ρ 1 + 1024 * ρ 3) (rfv h)
    exact r2
/-- sw1 -/
theorem lem_632_ok (hU : uqG G C) : lem_632.1.2.1 = [] ∧ lemOK (PRd G C D xs) G rgs lem_632 := by
  refine ⟨rfl, fun ρ h ha hT => ?_⟩
  obtain ⟨-, -, hF, hG, hH, hA, hP⟩ := ha
  have f0 : (0 : Int) ≤ ((0) + ((1) * ρ 1 + ((1024) * ρ 2 + ((-1) * ρ 3 + 0)))) := hF _ (List.mem_of_getElem? (i := 0) rfl)
  have f1 : (0 : Int) ≤ ((0) + ((-1) * ρ 1 + ((-1024) * ρ 2 + ((1) * ρ 3 + 0)))) := hF _ (List.mem_of_getElem? (i := 1) rfl)
  have g0 : G (ρ 0).toNat = 20 := by
    have q := (hG _ (List.mem_of_getElem? (i := 0) rfl)).2
    rwa [show ev ρ (0, [(0, 1)]) = ρ 0 from ev_v] at q
  have g1 : G (ρ 1).toNat = 20 := by
    have q := (hG _ (List.mem_of_getElem? (i := 1) rfl)).2
    rwa [show ev ρ (0, [(1, 1)]) = ρ 1 from ev_v] at q
  have h0 : (0 : Int) ≤ ρ 2 ∧ ρ 2 ≤ 8 := hf_rg hT (hH _ (List.mem_of_getElem? (i := 0) rfl)) ev_v g0 rfl rfl rfl ev_v
  have p0 : q247 G (ρ 0) (ρ 3) (rfv h) := c2 (P := (fun r c => q247 G r c (rfv h))) (show q247 G (((0) + ((1) * ρ 0 + 0))) (((0) + ((1) * ρ 3 + 0))) (rfv h) from hP _ (List.mem_of_getElem? (i := 0) rfl)) (by omega) (by omega)
  have cT : 0 ≤ ρ 0 := by
    have q := (hG _ (List.mem_of_getElem? (i := 0) rfl)).1
    rwa [show ev ρ (0, [(0, 1)]) = ρ 0 from ev_v] at q
  have cX : 0 ≤ ρ 1 := by
    have q := (hG _ (List.mem_of_getElem? (i := 1) rfl)).1
    rwa [show ev ρ (0, [(1, 1)]) = ρ 1 from ev_v] at q
  have y0 : hasI (rfv h (ρ 0).toNat 12) (ρ 2) := ob_i hT (hH _ (List.mem_of_getElem? (i := 0) rfl)) ev_v g0 rfl ev_v
  refine ⟨_, List.mem_cons_self, ρ, fun _ _ => rfl, fun q hq => absurd hq List.not_mem_nil, trivial, fun f hf => ?_, fun q hq => absurd hq List.not_mem_nil, fun q hq => absurd hq List.not_mem_nil, fun q hq => absurd hq List.not_mem_nil, fun q hq => ?_⟩
  · exact absurd hf List.not_mem_nil
  · simp only [List.mem_cons, List.not_mem_nil, or_false] at hq
    subst hq
    show q210 G (((0) + ((1) * ρ 1 + 0))) (((0) + ((1) * ρ 2 + 0))) (rfv h)
    refine c2 (P := (fun r c => q210 G r c (rfv h))) (r := ρ 1) (c := ρ 2) ?_ (by omega) (by omega)
    show q210 G (ρ 1) (ρ 2) (rfv h)
    exact s_sw1 cX g1 (by omega) p0
/-- mk211 -/
theorem lem_633_ok (hU : uqG G C) : lem_633.1.2.1 = [] ∧ lemOK (PRd G C D xs) G rgs lem_633 := by
  refine ⟨rfl, fun ρ h ha hT => ?_⟩
  obtain ⟨-, -, hF, hG, hH, hA, hP⟩ := ha
  have g0 : G (ρ 0).toNat = 20 := by
    have q := (hG _ (List.mem_of_getElem? (i := 0) rfl)).2
    rwa [show ev ρ (0, [(0, 1)]) = ρ 0 from ev_v] at q
  have h0 : (0 : Int) ≤ ρ 1 ∧ ρ 1 ≤ 8 := hf_rg hT (hH _ (List.mem_of_getElem? (i := 0) rfl)) ev_v g0 rfl rfl rfl ev_v
  have cT : 0 ≤ ρ 0 := by
    have q := (hG _ (List.mem_of_getElem? (i := 0) rfl)).1
    rwa [show ev ρ (0, [(0, 1)]) = ρ 0 from ev_v] at q
  have y0 : hasI (rfv h (ρ 0).toNat 12) (ρ 1) := ob_i hT (hH _ (List.mem_of_getElem? (i := 0) rfl)) ev_v g0 rfl ev_v
  refine ⟨_, List.mem_cons_self, ρ, fun _ _ => rfl, fun q hq => absurd hq List.not_mem_nil, trivial, fun f hf => ?_, fun q hq => absurd hq List.not_mem_nil, fun q hq => absurd hq List.not_mem_nil, fun q hq => absurd hq List.not_mem_nil, fun q hq => ?_⟩
  · exact absurd hf List.not_mem_nil
  · simp only [List.mem_cons, List.not_mem_nil, or_false] at hq
    subst hq
    show q211 G (((0) + ((1) * ρ 0 + 0))) (((0) + ((1) * ρ 1 + 0))) (rfv h)
    refine c2 (P := (fun r c => q211 G r c (rfv h))) (r := ρ 0) (c := ρ 1) ?_ (by omega) (by omega)
    show q211 G (ρ 0) (ρ 1) (rfv h)
    exact ⟨cT, g0, y0⟩
/-- v211 -/
theorem lem_634_ok (hU : uqG G C) : lem_634.1.2.1 = [] ∧ lemOK (PRd G C D xs) G rgs lem_634 := by
  refine ⟨rfl, fun ρ h ha hT => ?_⟩
  obtain ⟨-, -, hF, hG, hH, hA, hP⟩ := ha
  have g0 : G (ρ 0).toNat = 20 := by
    have q := (hG _ (List.mem_of_getElem? (i := 0) rfl)).2
    rwa [show ev ρ (0, [(0, 1)]) = ρ 0 from ev_v] at q
  have h0 : (0 : Int) ≤ ρ 1 ∧ ρ 1 ≤ 8 := hf_rg hT (hH _ (List.mem_of_getElem? (i := 0) rfl)) ev_v g0 rfl rfl rfl ev_v
  have p0 : q211 G (ρ 0) (ρ 2) (rfv h) := c2 (P := (fun r c => q211 G r c (rfv h))) (show q211 G (((0) + ((1) * ρ 0 + 0))) (((0) + ((1) * ρ 2 + 0))) (rfv h) from hP _ (List.mem_of_getElem? (i := 0) rfl)) (by omega) (by omega)
  have cX : 0 ≤ ρ 0 := by
    have q := (hG _ (List.mem_of_getElem? (i := 0) rfl)).1
    rwa [show ev ρ (0, [(0, 1)]) = ρ 0 from ev_v] at q
  have y0 : hasI (rfv h (ρ 0).toNat 12) (ρ 1) := ob_i hT (hH _ (List.mem_of_getElem? (i := 0) rfl)) ev_v g0 rfl ev_v
  have r := hasI_eq y0 p0.2.2
  refine ⟨_, List.mem_cons_self, ρ, fun _ _ => rfl, fun q hq => absurd hq List.not_mem_nil, trivial, fun f hf => ?_, fun q hq => absurd hq List.not_mem_nil, fun q hq => absurd hq List.not_mem_nil, fun q hq => absurd hq List.not_mem_nil, fun q hq => ?_⟩
  · simp only [List.mem_cons, List.not_mem_nil, or_false] at hf
    rcases hf with rfl | rfl
    · show (0 : Int) ≤ ((0) + ((-1) * ρ 1 + ((1) * ρ 2 + 0)))
      omega
    · show (0 : Int) ≤ ((0) + ((1) * ρ 1 + ((-1) * ρ 2 + 0)))
      omega
  · exact absurd hq List.not_mem_nil
/-- kp240 -/
theorem lem_635_ok (hU : uqG G C) : lem_635.1.2.1 = [] ∧ lemOK (PRd G C D xs) G rgs lem_635 := by
  refine ⟨rfl, fun ρ h ha hT => ?_⟩
  obtain ⟨-, -, hF, hG, hH, hA, hP⟩ := ha
  have f0 : (0 : Int) ≤ ((-1) + ((1) * ρ 2 + 0)) := hF _ (List.mem_of_getElem? (i := 0) rfl)
  have f1 : (0 : Int) ≤ ((6) + ((-1) * ρ 2 + 0)) := hF _ (List.mem_of_getElem? (i := 1) rfl)
  have f2 : (0 : Int) ≤ ((0) + ((1) * ρ 5 + 0)) := hF _ (List.mem_of_getElem? (i := 2) rfl)
  have f3 : (0 : Int) ≤ ((8) + ((-1) * ρ 5 + 0)) := hF _ (List.mem_of_getElem? (i := 3) rfl)
  have f4 : (0 : Int) ≤ ((-16) + ((16) * ρ 2 + ((-1) * ρ 4 + ((1) * ρ 5 + 0)))) := hF _ (List.mem_of_getElem? (i := 4) rfl)
  have f5 : (0 : Int) ≤ ((16) + ((-16) * ρ 2 + ((1) * ρ 4 + ((-1) * ρ 5 + 0)))) := hF _ (List.mem_of_getElem? (i := 5) rfl)
  have g0 : G (ρ 0).toNat = 12 := by
    have q := (hG _ (List.mem_of_getElem? (i := 0) rfl)).2
    rwa [show ev ρ (0, [(0, 1)]) = ρ 0 from ev_v] at q
  have g1 : G (ρ 1).toNat = 116 := by
    have q := (hG _ (List.mem_of_getElem? (i := 1) rfl)).2
    rwa [show ev ρ (0, [(1, 1)]) = ρ 1 from ev_v] at q
  have g2 : G (ρ 3).toNat = 20 := by
    have q := (hG _ (List.mem_of_getElem? (i := 2) rfl)).2
    rwa [show ev ρ (0, [(3, 1)]) = ρ 3 from ev_v] at q
  have h1 : (0 : Int) ≤ ρ 2 ∧ ρ 2 ≤ 6 := hf_rg hT (hH _ (List.mem_of_getElem? (i := 1) rfl)) ev_v g0 rfl rfl rfl ev_v
  have b0 : (0 : Int) ≤ ((-1) + ((1) * ρ 2 + 0)) := b_aA (hA _ (List.mem_of_getElem? (i := 0) rfl))
  have p0 : q206 G := c2 (P := (fun (_ _ : Int) => q206 G)) (r := 0) (r' := 0) (c := 0) (c' := 0) (show q206 G from hP _ (List.mem_of_getElem? (i := 0) rfl)) rfl rfl
  have p1 : q246 G (ρ 3) (ρ 4) (rfv h) (elv h) := c2 (P := (fun r c => q246 G r c (rfv h) (elv h))) (show q246 G (((0) + ((1) * ρ 3 + 0))) (((0) + ((1) * ρ 4 + 0))) (rfv h) (elv h) from hP _ (List.mem_of_getElem? (i := 1) rfl)) (by omega) (by omega)
  have p2 : q211 G (ρ 3) (ρ 5) (rfv h) := c2 (P := (fun r c => q211 G r c (rfv h))) (show q211 G (((0) + ((1) * ρ 3 + 0))) (((0) + ((1) * ρ 5 + 0))) (rfv h) from hP _ (List.mem_of_getElem? (i := 2) rfl)) (by omega) (by omega)
  have cT : 0 ≤ ρ 0 := by
    have q := (hG _ (List.mem_of_getElem? (i := 0) rfl)).1
    rwa [show ev ρ (0, [(0, 1)]) = ρ 0 from ev_v] at q
  have cA : 0 ≤ ρ 1 := by
    have q := (hG _ (List.mem_of_getElem? (i := 1) rfl)).1
    rwa [show ev ρ (0, [(1, 1)]) = ρ 1 from ev_v] at q
  have cC : 0 ≤ ρ 3 := by
    have q := (hG _ (List.mem_of_getElem? (i := 2) rfl)).1
    rwa [show ev ρ (0, [(3, 1)]) = ρ 3 from ev_v] at q
  have y0 : rfv h (ρ 0).toNat 0 = some (.ref (ρ 1).toNat) := ob_v hT (hH _ (List.mem_of_getElem? (i := 0) rfl)) ev_v g0 rfl ev_v
  have y1 : hasI (rfv h (ρ 0).toNat 1) (ρ 2) := ob_i hT (hH _ (List.mem_of_getElem? (i := 1) rfl)) ev_v g0 rfl ev_v
  have z0 : elv h (ρ 1).toNat (ρ 2 + (-1)).toNat = some (.ref (ρ 3).toNat) := ar_v (j := ρ 2 + (-1)) (hA _ (List.mem_of_getElem? (i := 0) rfl)) ev_v (show (ρ 2 + (-1) : Int) = ((-1) + ((1) * ρ 2 + 0)) by omega) ev_v
  refine ⟨_, List.mem_cons_self, ρ, fun _ _ => rfl, fun q hq => absurd hq List.not_mem_nil, trivial, fun f hf => ?_, fun q hq => absurd hq List.not_mem_nil, fun q hq => absurd hq List.not_mem_nil, fun q hq => absurd hq List.not_mem_nil, fun q hq => ?_⟩
  · exact absurd hf List.not_mem_nil
  · simp only [List.mem_cons, List.not_mem_nil, or_false] at hq
    subst hq
    show q240 G (((0) + ((1) * ρ 2 + 0))) (((0) + ((1) * ρ 5 + 0))) (rfv h) (elv h)
    refine c2 (P := (fun r c => q240 G r c (rfv h) (elv h))) (r := ρ 2) (c := ρ 5) ?_ (by omega) (by omega)
    show q240 G (ρ 2) (ρ 5) (rfv h) (elv h)
    exact s_kp (by omega) (by omega) (by omega) (by omega) (by omega) p1 p2
/-- do0 -/
theorem lem_636_ok (hU : uqG G C) : lem_636.1.2.1 = [] ∧ lemOK (PRd G C D xs) G rgs lem_636 := by
  refine ⟨rfl, fun ρ h ha hT => ?_⟩
  obtain ⟨-, -, hF, hG, hH, hA, hP⟩ := ha
  have g0 : G (ρ 0).toNat = 12 := by
    have q := (hG _ (List.mem_of_getElem? (i := 0) rfl)).2
    rwa [show ev ρ (0, [(0, 1)]) = ρ 0 from ev_v] at q
  have g1 : G (ρ 1).toNat = 116 := by
    have q := (hG _ (List.mem_of_getElem? (i := 1) rfl)).2
    rwa [show ev ρ (0, [(1, 1)]) = ρ 1 from ev_v] at q
  have g2 : G (ρ 2).toNat = 20 := by
    have q := (hG _ (List.mem_of_getElem? (i := 2) rfl)).2
    rwa [show ev ρ (0, [(2, 1)]) = ρ 2 from ev_v] at q
  have g3 : G (ρ 3).toNat = 20 := by
    have q := (hG _ (List.mem_of_getElem? (i := 3) rfl)).2
    rwa [show ev ρ (0, [(3, 1)]) = ρ 3 from ev_v] at q
  have g4 : G (ρ 4).toNat = 20 := by
    have q := (hG _ (List.mem_of_getElem? (i := 4) rfl)).2
    rwa [show ev ρ (0, [(4, 1)]) = ρ 4 from ev_v] at q
  have g5 : G (ρ 5).toNat = 20 := by
    have q := (hG _ (List.mem_of_getElem? (i := 5) rfl)).2
    rwa [show ev ρ (0, [(5, 1)]) = ρ 5 from ev_v] at q
  have g6 : G (ρ 6).toNat = 20 := by
    have q := (hG _ (List.mem_of_getElem? (i := 6) rfl)).2
    rwa [show ev ρ (0, [(6, 1)]) = ρ 6 from ev_v] at q
  have g7 : G (ρ 7).toNat = 20 := by
    have q := (hG _ (List.mem_of_getElem? (i := 7) rfl)).2
    rwa [show ev ρ (0, [(7, 1)]) = ρ 7 from ev_v] at q
  have b0 : (0 : Int) ≤ ((0) + 0) := b_aA (hA _ (List.mem_of_getElem? (i := 0) rfl))
  have b1 : (0 : Int) ≤ ((1) + 0) := b_aA (hA _ (List.mem_of_getElem? (i := 1) rfl))
  have b2 : (0 : Int) ≤ ((2) + 0) := b_aA (hA _ (List.mem_of_getElem? (i := 2) rfl))
  have b3 : (0 : Int) ≤ ((3) + 0) := b_aA (hA _ (List.mem_of_getElem? (i := 3) rfl))
  have b4 : (0 : Int) ≤ ((4) + 0) := b_aA (hA _ (List.mem_of_getElem? (i := 4) rfl))
  have b5 : (0 : Int) ≤ ((5) + 0) := b_aA (hA _ (List.mem_of_getElem? (i := 5) rfl))
  have p0 : q206 G := c2 (P := (fun (_ _ : Int) => q206 G)) (r := 0) (r' := 0) (c := 0) (c' := 0) (show q206 G from hP _ (List.mem_of_getElem? (i := 0) rfl)) rfl rfl
  have p1 : q241 G (ρ 8) (elv h) := c2 (P := (fun r (_ : Int) => q241 G r (elv h))) (c := 0) (c' := 0) (show q241 G (((0) + ((1) * ρ 8 + 0))) (elv h) from hP _ (List.mem_of_getElem? (i := 1) rfl)) (by omega) rfl
  have p2 : q240 G ((6 : Int)) (ρ 9) (rfv h) (elv h) := c2 (P := (fun r c => q240 G r c (rfv h) (elv h))) (show q240 G (((6) + 0)) (((0) + ((1) * ρ 9 + 0))) (rfv h) (elv h) from hP _ (List.mem_of_getElem? (i := 2) rfl)) (by omega) (by omega)
  have cT : 0 ≤ ρ 0 := by
    have q := (hG _ (List.mem_of_getElem? (i := 0) rfl)).1
    rwa [show ev ρ (0, [(0, 1)]) = ρ 0 from ev_v] at q
  have cA : 0 ≤ ρ 1 := by
    have q := (hG _ (List.mem_of_getElem? (i := 1) rfl)).1
    rwa [show ev ρ (0, [(1, 1)]) = ρ 1 from ev_v] at q
  have cC0 : 0 ≤ ρ 2 := by
    have q := (hG _ (List.mem_of_getElem? (i := 2) rfl)).1
    rwa [show ev ρ (0, [(2, 1)]) = ρ 2 from ev_v] at q
  have cC1 : 0 ≤ ρ 3 := by
    have q := (hG _ (List.mem_of_getElem? (i := 3) rfl)).1
    rwa [show ev ρ (0, [(3, 1)]) = ρ 3 from ev_v] at q
  have cC2 : 0 ≤ ρ 4 := by
    have q := (hG _ (List.mem_of_getElem? (i := 4) rfl)).1
    rwa [show ev ρ (0, [(4, 1)]) = ρ 4 from ev_v] at q
  have cC3 : 0 ≤ ρ 5 := by
    have q := (hG _ (List.mem_of_getElem? (i := 5) rfl)).1
    rwa [show ev ρ (0, [(5, 1)]) = ρ 5 from ev_v] at q
  have cC4 : 0 ≤ ρ 6 := by
    have q := (hG _ (List.mem_of_getElem? (i := 6) rfl)).1
    rwa [show ev ρ (0, [(6, 1)]) = ρ 6 from ev_v] at q
  have cC5 : 0 ≤ ρ 7 := by
    have q := (hG _ (List.mem_of_getElem? (i := 7) rfl)).1
    rwa [show ev ρ (0, [(7, 1)]) = ρ 7 from ev_v] at q
  have y0 : rfv h (ρ 0).toNat 0 = some (.ref (ρ 1).toNat) := ob_v hT (hH _ (List.mem_of_getElem? (i := 0) rfl)) ev_v g0 rfl ev_v
  have z0 : elv h (ρ 1).toNat 0 = some (.ref (ρ 2).toNat) := ar_v (j := (0 : Int)) (hA _ (List.mem_of_getElem? (i := 0) rfl)) ev_v (show ((0 : Int) : Int) = ((0) + 0) by omega) ev_v
  have z1 : elv h (ρ 1).toNat 1 = some (.ref (ρ 3).toNat) := ar_v (j := (1 : Int)) (hA _ (List.mem_of_getElem? (i := 1) rfl)) ev_v (show ((1 : Int) : Int) = ((1) + 0) by omega) ev_v
  have z2 : elv h (ρ 1).toNat 2 = some (.ref (ρ 4).toNat) := ar_v (j := (2 : Int)) (hA _ (List.mem_of_getElem? (i := 2) rfl)) ev_v (show ((2 : Int) : Int) = ((2) + 0) by omega) ev_v
  have z3 : elv h (ρ 1).toNat 3 = some (.ref (ρ 5).toNat) := ar_v (j := (3 : Int)) (hA _ (List.mem_of_getElem? (i := 3) rfl)) ev_v (show ((3 : Int) : Int) = ((3) + 0) by omega) ev_v
  have z4 : elv h (ρ 1).toNat 4 = some (.ref (ρ 6).toNat) := ar_v (j := (4 : Int)) (hA _ (List.mem_of_getElem? (i := 4) rfl)) ev_v (show ((4 : Int) : Int) = ((4) + 0) by omega) ev_v
  have z5 : elv h (ρ 1).toNat 5 = some (.ref (ρ 7).toNat) := ar_v (j := (5 : Int)) (hA _ (List.mem_of_getElem? (i := 5) rfl)) ev_v (show ((5 : Int) : Int) = ((5) + 0) by omega) ev_v
  obtain ⟨r1, r2⟩ := s_do0 p0 g1 cC0 cC1 cC2 cC3 cC4 cC5 z0 z1 z2 z3 z4 z5 p1 p2
  refine ⟨_, List.mem_cons_self, ρ, fun _ _ => rfl, fun q hq => absurd hq List.not_mem_nil, trivial, fun f hf => ?_, fun q hq => absurd hq List.not_mem_nil, fun q hq => absurd hq List.not_mem_nil, fun q hq => absurd hq List.not_mem_nil, fun q hq => ?_⟩
  · exact absurd hf List.not_mem_nil
  · simp only [List.mem_cons, List.not_mem_nil, or_false] at hq
    rcases hq with rfl | rfl
    · show q243 G (((0) + ((1) * ρ 2 + ((1024) * ρ 3 + ((1048576) * ρ 4 + ((1073741824) * ρ 5 + ((1099511627776) * ρ 6 + ((1125899906842624) * ρ 7 + 0)))))))) (((0) + ((1) * ρ 8 + 0)))
      refine c2 (P := (fun r c => q243 G r c)) (r := ρ 2 + 1024 * ρ 3 + 1048576 * ρ 4 + 1073741824 * ρ 5 + 1099511627776 * ρ 6 + 1125899906842624 * ρ 7) (c := ρ 8) ?_ (by omega) (by omega)
      show q243 G (ρ 2 + 1024 * ρ 3 + 1048576 * ρ 4 + 1073741824 * ρ 5 + 1099511627776 * ρ 6 + 1125899906842624 * ρ 7) (ρ 8)
      refine c2 (P := fun r c => q243 G r c) r1 (by omega) (by omega)
    · show q244 G (((0) + ((1) * ρ 2 + ((1024) * ρ 3 + ((1048576) * ρ 4 + ((1073741824) * ρ 5 + ((1099511627776) * ρ 6 + ((1125899906842624) * ρ 7 + 0)))))))) (((0) + ((1) * ρ 9 + 0))) (rfv h)
      refine c2 (P := (fun r c => q244 G r c (rfv h))) (r := ρ 2 + 1024 * ρ 3 + 1048576 * ρ 4 + 1073741824 * ρ 5 + 1099511627776 * ρ 6 + 1125899906842624 * ρ 7) (c := ρ 9) ?_ (by omega) (by omega)
      show q244 G (ρ 2 + 1024 * ρ 3 + 1048576 * ρ 4 + 1073741824 * ρ 5 + 1099511627776 * ρ 6 + 1125899906842624 * ρ 7) (ρ 9) (rfv h)
      refine c2 (P := fun r c => q244 G r c (rfv h)) r2 (by omega) (by omega)
/-- do1 -/
theorem lem_637_ok (hU : uqG G C) : lem_637.1.2.1 = [] ∧ lemOK (PRd G C D xs) G rgs lem_637 := by
  refine ⟨rfl, fun ρ h ha hT => ?_⟩
  obtain ⟨-, -, hF, hG, hH, hA, hP⟩ := ha
  have f0 : (0 : Int) ≤ ((5) + ((-1) * ρ 2 + 0)) := hF _ (List.mem_of_getElem? (i := 0) rfl)
  have f1 : (0 : Int) ≤ ((-5) + ((1) * ρ 2 + 0)) := hF _ (List.mem_of_getElem? (i := 1) rfl)
  have g0 : G (ρ 0).toNat = 12 := by
    have q := (hG _ (List.mem_of_getElem? (i := 0) rfl)).2
    rwa [show ev ρ (0, [(0, 1)]) = ρ 0 from ev_v] at q
  have g1 : G (ρ 1).toNat = 116 := by
    have q := (hG _ (List.mem_of_getElem? (i := 1) rfl)).2
    rwa [show ev ρ (0, [(1, 1)]) = ρ 1 from ev_v] at q
  have g2 : G (ρ 3).toNat = 20 := by
    have q := (hG _ (List.mem_of_getElem? (i := 2) rfl)).2
    rwa [show ev ρ (0, [(3, 1)]) = ρ 3 from ev_v] at q
  have g3 : G (ρ 4).toNat = 20 := by
    have q := (hG _ (List.mem_of_getElem? (i := 3) rfl)).2
    rwa [show ev ρ (0, [(4, 1)]) = ρ 4 from ev_v] at q
  have g4 : G (ρ 5).toNat = 20 := by
    have q := (hG _ (List.mem_of_getElem? (i := 4) rfl)).2
    rwa [show ev ρ (0, [(5, 1)]) = ρ 5 from ev_v] at q
  have g5 : G (ρ 6).toNat = 20 := by
    have q := (hG _ (List.mem_of_getElem? (i := 5) rfl)).2
    rwa [show ev ρ (0, [(6, 1)]) = ρ 6 from ev_v] at q
  have g6 : G (ρ 7).toNat = 20 := by
    have q := (hG _ (List.mem_of_getElem? (i := 6) rfl)).2
    rwa [show ev ρ (0, [(7, 1)]) = ρ 7 from ev_v] at q
  have g7 : G (ρ 8).toNat = 20 := by
    have q := (hG _ (List.mem_of_getElem? (i := 7) rfl)).2
    rwa [show ev ρ (0, [(8, 1)]) = ρ 8 from ev_v] at q
  have h1 : (0 : Int) ≤ ρ 2 ∧ ρ 2 ≤ 6 := hf_rg hT (hH _ (List.mem_of_getElem? (i := 1) rfl)) ev_v g0 rfl rfl rfl ev_v
  have b0 : (0 : Int) ≤ ((0) + 0) := b_aA (hA _ (List.mem_of_getElem? (i := 0) rfl))
  have b1 : (0 : Int) ≤ ((1) + 0) := b_aA (hA _ (List.mem_of_getElem? (i := 1) rfl))
  have b2 : (0 : Int) ≤ ((2) + 0) := b_aA (hA _ (List.mem_of_getElem? (i := 2) rfl))
  have b3 : (0 : Int) ≤ ((3) + 0) := b_aA (hA _ (List.mem_of_getElem? (i := 3) rfl))
  have b4 : (0 : Int) ≤ ((4) + 0) := b_aA (hA _ (List.mem_of_getElem? (i := 4) rfl))
  have b5 : (0 : Int) ≤ ((5) + 0) := b_aA (hA _ (List.mem_of_getElem? (i := 5) rfl))
  have p0 : q206 G := c2 (P := (fun (_ _ : Int) => q206 G)) (r := 0) (r' := 0) (c := 0) (c' := 0) (show q206 G from hP _ (List.mem_of_getElem? (i := 0) rfl)) rfl rfl
  have p1 : q243 G (1024 * ρ 3 + 1048576 * ρ 4 + 1073741824 * ρ 5 + 1099511627776 * ρ 6 + 1125899906842624 * ρ 7 + ρ 8) (ρ 9) := c2 (P := (fun r c => q243 G r c)) (show q243 G (((0) + ((1024) * ρ 3 + ((1048576) * ρ 4 + ((1073741824) * ρ 5 + ((1099511627776) * ρ 6 + ((1125899906842624) * ρ 7 + ((1) * ρ 8 + 0)))))))) (((0) + ((1) * ρ 9 + 0))) from hP _ (List.mem_of_getElem? (i := 1) rfl)) (by omega) (by omega)
  have p2 : q244 G (1024 * ρ 3 + 1048576 * ρ 4 + 1073741824 * ρ 5 + 1099511627776 * ρ 6 + 1125899906842624 * ρ 7 + ρ 8) (ρ 10) (rfv h) := c2 (P := (fun r c => q244 G r c (rfv h))) (show q244 G (((0) + ((1024) * ρ 3 + ((1048576) * ρ 4 + ((1073741824) * ρ 5 + ((1099511627776) * ρ 6 + ((1125899906842624) * ρ 7 + ((1) * ρ 8 + 0)))))))) (((0) + ((1) * ρ 10 + 0))) (rfv h) from hP _ (List.mem_of_getElem? (i := 2) rfl)) (by omega) (by omega)
  have cT : 0 ≤ ρ 0 := by
    have q := (hG _ (List.mem_of_getElem? (i := 0) rfl)).1
    rwa [show ev ρ (0, [(0, 1)]) = ρ 0 from ev_v] at q
  have cA : 0 ≤ ρ 1 := by
    have q := (hG _ (List.mem_of_getElem? (i := 1) rfl)).1
    rwa [show ev ρ (0, [(1, 1)]) = ρ 1 from ev_v] at q
  have cC0 : 0 ≤ ρ 3 := by
    have q := (hG _ (List.mem_of_getElem? (i := 2) rfl)).1
    rwa [show ev ρ (0, [(3, 1)]) = ρ 3 from ev_v] at q
  have cC1 : 0 ≤ ρ 4 := by
    have q := (hG _ (List.mem_of_getElem? (i := 3) rfl)).1
    rwa [show ev ρ (0, [(4, 1)]) = ρ 4 from ev_v] at q
  have cC2 : 0 ≤ ρ 5 := by
    have q := (hG _ (List.mem_of_getElem? (i := 4) rfl)).1
    rwa [show ev ρ (0, [(5, 1)]) = ρ 5 from ev_v] at q
  have cC3 : 0 ≤ ρ 6 := by
    have q := (hG _ (List.mem_of_getElem? (i := 5) rfl)).1
    rwa [show ev ρ (0, [(6, 1)]) = ρ 6 from ev_v] at q
  have cC4 : 0 ≤ ρ 7 := by
    have q := (hG _ (List.mem_of_getElem? (i := 6) rfl)).1
    rwa [show ev ρ (0, [(7, 1)]) = ρ 7 from ev_v] at q
  have cC5 : 0 ≤ ρ 8 := by
    have q := (hG _ (List.mem_of_getElem? (i := 7) rfl)).1
    rwa [show ev ρ (0, [(8, 1)]) = ρ 8 from ev_v] at q
  have y0 : rfv h (ρ 0).toNat 0 = some (.ref (ρ 1).toNat) := ob_v hT (hH _ (List.mem_of_getElem? (i := 0) rfl)) ev_v g0 rfl ev_v
  have y1 : hasI (rfv h (ρ 0).toNat 1) (ρ 2) := ob_i hT (hH _ (List.mem_of_getElem? (i := 1) rfl)) ev_v g0 rfl ev_v
  have z0 : elv h (ρ 1).toNat 0 = some (.ref (ρ 3).toNat) := ar_v (j := (0 : Int)) (hA _ (List.mem_of_getElem? (i := 0) rfl)) ev_v (show ((0 : Int) : Int) = ((0) + 0) by omega) ev_v
  have z1 : elv h (ρ 1).toNat 1 = some (.ref (ρ 4).toNat) := ar_v (j := (1 : Int)) (hA _ (List.mem_of_getElem? (i := 1) rfl)) ev_v (show ((1 : Int) : Int) = ((1) + 0) by omega) ev_v
  have z2 : elv h (ρ 1).toNat 2 = some (.ref (ρ 5).toNat) := ar_v (j := (2 : Int)) (hA _ (List.mem_of_getElem? (i := 2) rfl)) ev_v (show ((2 : Int) : Int) = ((2) + 0) by omega) ev_v
  have z3 : elv h (ρ 1).toNat 3 = some (.ref (ρ 6).toNat) := ar_v (j := (3 : Int)) (hA _ (List.mem_of_getElem? (i := 3) rfl)) ev_v (show ((3 : Int) : Int) = ((3) + 0) by omega) ev_v
  have z4 : elv h (ρ 1).toNat 4 = some (.ref (ρ 7).toNat) := ar_v (j := (4 : Int)) (hA _ (List.mem_of_getElem? (i := 4) rfl)) ev_v (show ((4 : Int) : Int) = ((4) + 0) by omega) ev_v
  have z5 : elv h (ρ 1).toNat 5 = some (.ref (ρ 8).toNat) := ar_v (j := (5 : Int)) (hA _ (List.mem_of_getElem? (i := 5) rfl)) ev_v (show ((5 : Int) : Int) = ((5) + 0) by omega) ev_v
  obtain ⟨r1, r2⟩ := s_do1 p0 g1 (show ρ 2 = 5 by omega) cC0 cC1 cC2 cC3 cC4 cC5 g2 g3 g4 g5 g6 g7 z0 z1 z2 z3 z4 z5 (c2 (P := fun r c => q243 G r c) (r' := (ρ 8 + 1024 * ρ 3 + 1048576 * ρ 4 + 1073741824 * ρ 5 + 1099511627776 * ρ 6 + 1125899906842624 * ρ 7)) p1 (by omega) rfl) (c2 (P := fun r c => q244 G r c (rfv h)) (r' := (ρ 8 + 1024 * ρ 3 + 1048576 * ρ 4 + 1073741824 * ρ 5 + 1099511627776 * ρ 6 + 1125899906842624 * ρ 7)) p2 (by omega) rfl)
  refine ⟨_, List.mem_cons_self, ρ, fun _ _ => rfl, fun q hq => absurd hq List.not_mem_nil, trivial, fun f hf => ?_, fun q hq => absurd hq List.not_mem_nil, fun q hq => absurd hq List.not_mem_nil, fun q hq => absurd hq List.not_mem_nil, fun q hq => ?_⟩
  · exact absurd hf List.not_mem_nil
  · simp only [List.mem_cons, List.not_mem_nil, or_false] at hq
    rcases hq with rfl | rfl
    · show q241 G (((0) + ((1) * ρ 9 + 0))) (elv h)
      refine c2 (P := (fun r (_ : Int) => q241 G r (elv h))) (c := 0) (c' := 0) (r := ρ 9) ?_ (by omega) rfl
      show q241 G (ρ 9) (elv h)
      exact r1
    · show q240 G (((0) + ((1) * ρ 2 + 0))) (((0) + ((1) * ρ 10 + 0))) (rfv h) (elv h)
      refine c2 (P := (fun r c => q240 G r c (rfv h) (elv h))) (r := ρ 2) (c := ρ 10) ?_ (by omega) (by omega)
      show q240 G (ρ 2) (ρ 10) (rfv h) (elv h)
      exact r2
/-- tb -/
theorem lem_638_ok (hU : uqG G C) : lem_638.1.2.1 = [] ∧ lemOK (PRd G C D xs) G rgs lem_638 := by
  refine ⟨rfl, fun ρ h ha hT => ?_⟩
  obtain ⟨-, -, hF, hG, hH, hA, hP⟩ := ha
  have f0 : (0 : Int) ≤ ((0) + ((1) * ρ 4 + 0)) := hF _ (List.mem_of_getElem? (i := 0) rfl)
  have f1 : (0 : Int) ≤ ((5) + ((-1) * ρ 4 + 0)) := hF _ (List.mem_of_getElem? (i := 1) rfl)
  have g0 : G (ρ 0).toNat = 12 := by
    have q := (hG _ (List.mem_of_getElem? (i := 0) rfl)).2
    rwa [show ev ρ (0, [(0, 1)]) = ρ 0 from ev_v] at q
  have g1 : G (ρ 3).toNat = 116 := by
    have q := (hG _ (List.mem_of_getElem? (i := 1) rfl)).2
    rwa [show ev ρ (0, [(3, 1)]) = ρ 3 from ev_v] at q
  have g2 : G (ρ 1).toNat = 20 := by
    have q := (hG _ (List.mem_of_getElem? (i := 2) rfl)).2
    rwa [show ev ρ (0, [(1, 1)]) = ρ 1 from ev_v] at q
  have g3 : G (ρ 2).toNat = 20 := by
    have q := (hG _ (List.mem_of_getElem? (i := 3) rfl)).2
    rwa [show ev ρ (0, [(2, 1)]) = ρ 2 from ev_v] at q
  have h1 : (0 : Int) ≤ ρ 4 ∧ ρ 4 ≤ 6 := hf_rg hT (hH _ (List.mem_of_getElem? (i := 1) rfl)) ev_v g0 rfl rfl rfl ev_v
  have b0 : (0 : Int) ≤ ((0) + ((1) * ρ 4 + 0)) := b_aA (hA _ (List.mem_of_getElem? (i := 0) rfl))
  have p0 : q206 G := c2 (P := (fun (_ _ : Int) => q206 G)) (r := 0) (r' := 0) (c := 0) (c' := 0) (show q206 G from hP _ (List.mem_of_getElem? (i := 0) rfl)) rfl rfl
  have p1 : q241 G (ρ 2) (elv h) := c2 (P := (fun r (_ : Int) => q241 G r (elv h))) (c := 0) (c' := 0) (show q241 G (((0) + ((1) * ρ 2 + 0))) (elv h) from hP _ (List.mem_of_getElem? (i := 1) rfl)) (by omega) rfl
  have p2 : q240 G (ρ 4 + 1) (ρ 5) (rfv h) (elv h) := c2 (P := (fun r c => q240 G r c (rfv h) (elv h))) (show q240 G (((1) + ((1) * ρ 4 + 0))) (((0) + ((1) * ρ 5 + 0))) (rfv h) (elv h) from hP _ (List.mem_of_getElem? (i := 2) rfl)) (by omega) (by omega)
  have cT : 0 ≤ ρ 0 := by
    have q := (hG _ (List.mem_of_getElem? (i := 0) rfl)).1
    rwa [show ev ρ (0, [(0, 1)]) = ρ 0 from ev_v] at q
  have cA : 0 ≤ ρ 3 := by
    have q := (hG _ (List.mem_of_getElem? (i := 1) rfl)).1
    rwa [show ev ρ (0, [(3, 1)]) = ρ 3 from ev_v] at q
  have cE : 0 ≤ ρ 1 := by
    have q := (hG _ (List.mem_of_getElem? (i := 2) rfl)).1
    rwa [show ev ρ (0, [(1, 1)]) = ρ 1 from ev_v] at q
  have cX : 0 ≤ ρ 2 := by
    have q := (hG _ (List.mem_of_getElem? (i := 3) rfl)).1
    rwa [show ev ρ (0, [(2, 1)]) = ρ 2 from ev_v] at q
  have y0 : rfv h (ρ 0).toNat 0 = some (.ref (ρ 3).toNat) := ob_v hT (hH _ (List.mem_of_getElem? (i := 0) rfl)) ev_v g0 rfl ev_v
  have y1 : hasI (rfv h (ρ 0).toNat 1) (ρ 4) := ob_i hT (hH _ (List.mem_of_getElem? (i := 1) rfl)) ev_v g0 rfl ev_v
  have z0 : elv h (ρ 3).toNat (ρ 4).toNat = some (.ref (ρ 1).toNat) := ar_v (j := ρ 4) (hA _ (List.mem_of_getElem? (i := 0) rfl)) ev_v (show (ρ 4 : Int) = ((0) + ((1) * ρ 4 + 0)) by omega) ev_v
  obtain ⟨r1, r2, r3⟩ := s_tb p0 g1 cE cX (by omega) (by omega) z0 p1 p2
  refine ⟨_, List.mem_cons_self, ρ, fun _ _ => rfl, fun q hq => absurd hq List.not_mem_nil, trivial, fun f hf => ?_, fun q hq => absurd hq List.not_mem_nil, fun q hq => absurd hq List.not_mem_nil, fun q hq => absurd hq List.not_mem_nil, fun q hq => ?_⟩
  · exact absurd hf List.not_mem_nil
  · simp only [List.mem_cons, List.not_mem_nil, or_false] at hq
    rcases hq with rfl | rfl | rfl
    · show q210 G (((0) + ((1) * ρ 1 + 0))) (((0) + ((1) * ρ 5 + 0))) (rfv h)
      refine c2 (P := (fun r c => q210 G r c (rfv h))) (r := ρ 1) (c := ρ 5) ?_ (by omega) (by omega)
      show q210 G (ρ 1) (ρ 5) (rfv h)
      exact r1
    · show q240 G (((0) + ((1) * ρ 4 + 0))) (((0) + ((1) * ρ 5 + 0))) (rfv h) (elv h)
      refine c2 (P := (fun r c => q240 G r c (rfv h) (elv h))) (r := ρ 4) (c := ρ 5) ?_ (by omega) (by omega)
      show q240 G (ρ 4) (ρ 5) (rfv h) (elv h)
      exact r2
    · show q249 G (((0) + ((1) * ρ 4 + 0))) (((0) + ((1024) * ρ 1 + ((1) * ρ 2 + 0)))) (elv h)
      refine c2 (P := (fun r c => q249 G r c (elv h))) (r := ρ 4) (c := 1024 * ρ 1 + ρ 2) ?_ (by omega) (by omega)
      show q249 G (ρ 4) (1024 * ρ 1 + ρ 2) (elv h)
      exact c2 (P := fun r c => q249 G r c (elv h)) r3 (by omega) (by omega)
/-- tb2 -/
theorem lem_639_ok (hU : uqG G C) : lem_639.1.2.1 = [] ∧ lemOK (PRd G C D xs) G rgs lem_639 := by
  refine ⟨rfl, fun ρ h ha hT => ?_⟩
  obtain ⟨-, -, hF, hG, hH, hA, hP⟩ := ha
  have f0 : (0 : Int) ≤ ((0) + ((1) * ρ 4 + 0)) := hF _ (List.mem_of_getElem? (i := 0) rfl)
  have f1 : (0 : Int) ≤ ((5) + ((-1) * ρ 4 + 0)) := hF _ (List.mem_of_getElem? (i := 1) rfl)
  have f2 : (0 : Int) ≤ ((0) + ((1024) * ρ 1 + ((1) * ρ 2 + ((-1) * ρ 5 + 0)))) := hF _ (List.mem_of_getElem? (i := 2) rfl)
  have f3 : (0 : Int) ≤ ((0) + ((-1024) * ρ 1 + ((-1) * ρ 2 + ((1) * ρ 5 + 0)))) := hF _ (List.mem_of_getElem? (i := 3) rfl)
  have g0 : G (ρ 0).toNat = 12 := by
    have q := (hG _ (List.mem_of_getElem? (i := 0) rfl)).2
    rwa [show ev ρ (0, [(0, 1)]) = ρ 0 from ev_v] at q
  have g1 : G (ρ 3).toNat = 116 := by
    have q := (hG _ (List.mem_of_getElem? (i := 1) rfl)).2
    rwa [show ev ρ (0, [(3, 1)]) = ρ 3 from ev_v] at q
  have g2 : G (ρ 1).toNat = 20 := by
    have q := (hG _ (List.mem_of_getElem? (i := 2) rfl)).2
    rwa [show ev ρ (0, [(1, 1)]) = ρ 1 from ev_v] at q
  have g3 : G (ρ 2).toNat = 20 := by
    have q := (hG _ (List.mem_of_getElem? (i := 3) rfl)).2
    rwa [show ev ρ (0, [(2, 1)]) = ρ 2 from ev_v] at q
  have h1 : (0 : Int) ≤ ρ 4 ∧ ρ 4 ≤ 6 := hf_rg hT (hH _ (List.mem_of_getElem? (i := 1) rfl)) ev_v g0 rfl rfl rfl ev_v
  have b0 : (0 : Int) ≤ ((0) + ((1) * ρ 4 + 0)) := b_aA (hA _ (List.mem_of_getElem? (i := 0) rfl))
  have p0 : q206 G := c2 (P := (fun (_ _ : Int) => q206 G)) (r := 0) (r' := 0) (c := 0) (c' := 0) (show q206 G from hP _ (List.mem_of_getElem? (i := 0) rfl)) rfl rfl
  have p1 : q249 G (ρ 4) (ρ 5) (elv h) := c2 (P := (fun r c => q249 G r c (elv h))) (show q249 G (((0) + ((1) * ρ 4 + 0))) (((0) + ((1) * ρ 5 + 0))) (elv h) from hP _ (List.mem_of_getElem? (i := 1) rfl)) (by omega) (by omega)
  have cT : 0 ≤ ρ 0 := by
    have q := (hG _ (List.mem_of_getElem? (i := 0) rfl)).1
    rwa [show ev ρ (0, [(0, 1)]) = ρ 0 from ev_v] at q
  have cA : 0 ≤ ρ 3 := by
    have q := (hG _ (List.mem_of_getElem? (i := 1) rfl)).1
    rwa [show ev ρ (0, [(3, 1)]) = ρ 3 from ev_v] at q
  have cE : 0 ≤ ρ 1 := by
    have q := (hG _ (List.mem_of_getElem? (i := 2) rfl)).1
    rwa [show ev ρ (0, [(1, 1)]) = ρ 1 from ev_v] at q
  have cX : 0 ≤ ρ 2 := by
    have q := (hG _ (List.mem_of_getElem? (i := 3) rfl)).1
    rwa [show ev ρ (0, [(2, 1)]) = ρ 2 from ev_v] at q
  have y0 : rfv h (ρ 0).toNat 0 = some (.ref (ρ 3).toNat) := ob_v hT (hH _ (List.mem_of_getElem? (i := 0) rfl)) ev_v g0 rfl ev_v
  have y1 : hasI (rfv h (ρ 0).toNat 1) (ρ 4) := ob_i hT (hH _ (List.mem_of_getElem? (i := 1) rfl)) ev_v g0 rfl ev_v
  have z0 : elv h (ρ 3).toNat (ρ 4).toNat = some (.ref (ρ 2).toNat) := ar_v (j := ρ 4) (hA _ (List.mem_of_getElem? (i := 0) rfl)) ev_v (show (ρ 4 : Int) = ((0) + ((1) * ρ 4 + 0)) by omega) ev_v
  refine ⟨_, List.mem_cons_self, ρ, fun _ _ => rfl, fun q hq => absurd hq List.not_mem_nil, trivial, fun f hf => ?_, fun q hq => absurd hq List.not_mem_nil, fun q hq => absurd hq List.not_mem_nil, fun q hq => absurd hq List.not_mem_nil, fun q hq => ?_⟩
  · exact absurd hf List.not_mem_nil
  · simp only [List.mem_cons, List.not_mem_nil, or_false] at hq
    subst hq
    show q241 G (((0) + ((1) * ρ 1 + 0))) (elv h)
    refine c2 (P := (fun r (_ : Int) => q241 G r (elv h))) (c := 0) (c' := 0) (r := ρ 1) ?_ (by omega) rfl
    show q241 G (ρ 1) (elv h)
    exact s_tb2 p0 g1 cE cX g3 g2 (by omega) z0 p1
/-- mk252 -/
theorem lem_640_ok (hU : uqG G C) : lem_640.1.2.1 = [] ∧ lemOK (PRd G C D xs) G rgs lem_640 := by
  refine ⟨rfl, fun ρ h ha hT => ?_⟩
  obtain ⟨-, -, hF, hG, hH, hA, hP⟩ := ha
  have g0 : G (ρ 0).toNat = 21 := by
    have q := (hG _ (List.mem_of_getElem? (i := 0) rfl)).2
    rwa [show ev ρ (0, [(0, 1)]) = ρ 0 from ev_v] at q
  have g1 : G (ρ 1).toNat = 20 := by
    have q := (hG _ (List.mem_of_getElem? (i := 1) rfl)).2
    rwa [show ev ρ (0, [(1, 1)]) = ρ 1 from ev_v] at q
  have cT : 0 ≤ ρ 0 := by
    have q := (hG _ (List.mem_of_getElem? (i := 0) rfl)).1
    rwa [show ev ρ (0, [(0, 1)]) = ρ 0 from ev_v] at q
  have cX : 0 ≤ ρ 1 := by
    have q := (hG _ (List.mem_of_getElem? (i := 1) rfl)).1
    rwa [show ev ρ (0, [(1, 1)]) = ρ 1 from ev_v] at q
  have y0 : rfv h (ρ 0).toNat 8 = some (.ref (ρ 1).toNat) := ob_v hT (hH _ (List.mem_of_getElem? (i := 0) rfl)) ev_v g0 rfl ev_v
  refine ⟨_, List.mem_cons_self, ρ, fun _ _ => rfl, fun q hq => absurd hq List.not_mem_nil, trivial, fun f hf => ?_, fun q hq => absurd hq List.not_mem_nil, fun q hq => absurd hq List.not_mem_nil, fun q hq => absurd hq List.not_mem_nil, fun q hq => ?_⟩
  · exact absurd hf List.not_mem_nil
  · simp only [List.mem_cons, List.not_mem_nil, or_false] at hq
    subst hq
    show q252 G (((0) + ((1) * ρ 0 + 0))) (((0) + ((1) * ρ 1 + 0))) (rfv h)
    refine c2 (P := (fun r c => q252 G r c (rfv h))) (r := ρ 0) (c := ρ 1) ?_ (by omega) (by omega)
    show q252 G (ρ 0) (ρ 1) (rfv h)
    exact ⟨cT, g0, cX, y0⟩
/-- get255 -/
theorem lem_641_ok (hU : uqG G C) : lem_641.1.2.1 = [] ∧ lemOK (PRd G C D xs) G rgs lem_641 := by
  refine ⟨rfl, fun ρ h ha hT => ?_⟩
  obtain ⟨-, -, hF, hG, hH, hA, hP⟩ := ha
  have g0 : G (ρ 0).toNat = 21 := by
    have q := (hG _ (List.mem_of_getElem? (i := 0) rfl)).2
    rwa [show ev ρ (0, [(0, 1)]) = ρ 0 from ev_v] at q
  have g1 : G (ρ 1).toNat = 12 := by
    have q := (hG _ (List.mem_of_getElem? (i := 1) rfl)).2
    rwa [show ev ρ (0, [(1, 1)]) = ρ 1 from ev_v] at q
  have h1 : (0 : Int) ≤ ρ 2 ∧ ρ 2 ≤ 6 := hf_rg hT (hH _ (List.mem_of_getElem? (i := 1) rfl)) ev_v g1 rfl rfl rfl ev_v
  have p0 : q255 G (ρ 0) (ρ 3) (rfv h) (elv h) := c2 (P := (fun r c => q255 G r c (rfv h) (elv h))) (show q255 G (((0) + ((1) * ρ 0 + 0))) (((0) + ((1) * ρ 3 + 0))) (rfv h) (elv h) from hP _ (List.mem_of_getElem? (i := 0) rfl)) (by omega) (by omega)
  have cT : 0 ≤ ρ 0 := by
    have q := (hG _ (List.mem_of_getElem? (i := 0) rfl)).1
    rwa [show ev ρ (0, [(0, 1)]) = ρ 0 from ev_v] at q
  have cH : 0 ≤ ρ 1 := by
    have q := (hG _ (List.mem_of_getElem? (i := 1) rfl)).1
    rwa [show ev ρ (0, [(1, 1)]) = ρ 1 from ev_v] at q
  have y0 : rfv h (ρ 0).toNat 10 = some (.ref (ρ 1).toNat) := ob_v hT (hH _ (List.mem_of_getElem? (i := 0) rfl)) ev_v g0 rfl ev_v
  have y1 : hasI (rfv h (ρ 1).toNat 1) (ρ 2) := ob_i hT (hH _ (List.mem_of_getElem? (i := 1) rfl)) ev_v g1 rfl ev_v
  refine ⟨_, List.mem_cons_self, ρ, fun _ _ => rfl, fun q hq => absurd hq List.not_mem_nil, trivial, fun f hf => ?_, fun q hq => absurd hq List.not_mem_nil, fun q hq => absurd hq List.not_mem_nil, fun q hq => absurd hq List.not_mem_nil, fun q hq => ?_⟩
  · exact absurd hf List.not_mem_nil
  · simp only [List.mem_cons, List.not_mem_nil, or_false] at hq
    subst hq
    show q240 G (((0) + ((1) * ρ 2 + 0))) (((0) + ((1) * ρ 3 + 0))) (rfv h) (elv h)
    refine c2 (P := (fun r c => q240 G r c (rfv h) (elv h))) (r := ρ 2) (c := ρ 3) ?_ (by omega) (by omega)
    show q240 G (ρ 2) (ρ 3) (rfv h) (elv h)
    exact s_get255 y0 y1 p0
/-- mk255 -/
theorem lem_642_ok (hU : uqG G C) : lem_642.1.2.1 = [] ∧ lemOK (PRd G C D xs) G rgs lem_642 := by
  refine ⟨rfl, fun ρ h ha hT => ?_⟩
  obtain ⟨-, -, hF, hG, hH, hA, hP⟩ := ha
  have g0 : G (ρ 0).toNat = 21 := by
    have q := (hG _ (List.mem_of_getElem? (i := 0) rfl)).2
    rwa [show ev ρ (0, [(0, 1)]) = ρ 0 from ev_v] at q
  have g1 : G (ρ 1).toNat = 12 := by
    have q := (hG _ (List.mem_of_getElem? (i := 1) rfl)).2
    rwa [show ev ρ (0, [(1, 1)]) = ρ 1 from ev_v] at q
  have h1 : (0 : Int) ≤ ρ 2 ∧ ρ 2 ≤ 6 := hf_rg hT (hH _ (List.mem_of_getElem? (i := 1) rfl)) ev_v g1 rfl rfl rfl ev_v
  have p0 : q240 G (ρ 2) (ρ 3) (rfv h) (elv h) := c2 (P := (fun r c => q240 G r c (rfv h) (elv h))) (show q240 G (((0) + ((1) * ρ 2 + 0))) (((0) + ((1) * ρ 3 + 0))) (rfv h) (elv h) from hP _ (List.mem_of_getElem? (i := 0) rfl)) (by omega) (by omega)
  have cT : 0 ≤ ρ 0 := by
    have q := (hG _ (List.mem_of_getElem? (i := 0) rfl)).1
    rwa [show ev ρ (0, [(0, 1)]) = ρ 0 from ev_v] at q
  have cH : 0 ≤ ρ 1 := by
    have q := (hG _ (List.mem_of_getElem? (i := 1) rfl)).1
    rwa [show ev ρ (0, [(1, 1)]) = ρ 1 from ev_v] at q
  have y0 : rfv h (ρ 0).toNat 10 = some (.ref (ρ 1).toNat) := ob_v hT (hH _ (List.mem_of_getElem? (i := 0) rfl)) ev_v g0 rfl ev_v
  have y1 : hasI (rfv h (ρ 1).toNat 1) (ρ 2) := ob_i hT (hH _ (List.mem_of_getElem? (i := 1) rfl)) ev_v g1 rfl ev_v
  refine ⟨_, List.mem_cons_self, ρ, fun _ _ => rfl, fun q hq => absurd hq List.not_mem_nil, trivial, fun f hf => ?_, fun q hq => absurd hq List.not_mem_nil, fun q hq => absurd hq List.not_mem_nil, fun q hq => absurd hq List.not_mem_nil, fun q hq => ?_⟩
  · exact absurd hf List.not_mem_nil
  · simp only [List.mem_cons, List.not_mem_nil, or_false] at hq
    subst hq
    show q255 G (((0) + ((1) * ρ 0 + 0))) (((0) + ((1) * ρ 3 + 0))) (rfv h) (elv h)
    refine c2 (P := (fun r c => q255 G r c (rfv h) (elv h))) (r := ρ 0) (c := ρ 3) ?_ (by omega) (by omega)
    show q255 G (ρ 0) (ρ 3) (rfv h) (elv h)
    exact s_mk255 cT g0 g1 y0 y1 p0
/-- getVR -/
theorem lem_643_ok (hU : uqG G C) : lem_643.1.2.1 = [] ∧ lemOK (PRd G C D xs) G rgs lem_643 := by
  refine ⟨rfl, fun ρ h ha hT => ?_⟩
  obtain ⟨-, -, hF, hG, hH, hA, hP⟩ := ha
  have g0 : G (ρ 0).toNat = 21 := by
    have q := (hG _ (List.mem_of_getElem? (i := 0) rfl)).2
    rwa [show ev ρ (0, [(0, 1)]) = ρ 0 from ev_v] at q
  have g1 : G (ρ 1).toNat = 20 := by
    have q := (hG _ (List.mem_of_getElem? (i := 1) rfl)).2
    rwa [show ev ρ (0, [(1, 1)]) = ρ 1 from ev_v] at q
  have p0 : q252 G (ρ 0) (ρ 2) (rfv h) := c2 (P := (fun r c => q252 G r c (rfv h))) (show q252 G (((0) + ((1) * ρ 0 + 0))) (((0) + ((1) * ρ 2 + 0))) (rfv h) from hP _ (List.mem_of_getElem? (i := 0) rfl)) (by omega) (by omega)
  have cT : 0 ≤ ρ 0 := by
    have q := (hG _ (List.mem_of_getElem? (i := 0) rfl)).1
    rwa [show ev ρ (0, [(0, 1)]) = ρ 0 from ev_v] at q
  have cX : 0 ≤ ρ 1 := by
    have q := (hG _ (List.mem_of_getElem? (i := 1) rfl)).1
    rwa [show ev ρ (0, [(1, 1)]) = ρ 1 from ev_v] at q
  have y0 : rfv h (ρ 0).toNat 8 = some (.ref (ρ 1).toNat) := ob_v hT (hH _ (List.mem_of_getElem? (i := 0) rfl)) ev_v g0 rfl ev_v
  obtain ⟨r0, r1, r2, r3⟩ := p0
  have r := eq_rf (y0.symm.trans r3)
  refine ⟨_, List.mem_cons_self, ρ, fun _ _ => rfl, fun q hq => absurd hq List.not_mem_nil, trivial, fun f hf => ?_, fun q hq => absurd hq List.not_mem_nil, fun q hq => absurd hq List.not_mem_nil, fun q hq => absurd hq List.not_mem_nil, fun q hq => ?_⟩
  · simp only [List.mem_cons, List.not_mem_nil, or_false] at hf
    rcases hf with rfl | rfl
    · show (0 : Int) ≤ ((0) + ((-1) * ρ 1 + ((1) * ρ 2 + 0)))
      omega
    · show (0 : Int) ≤ ((0) + ((1) * ρ 1 + ((-1) * ρ 2 + 0)))
      omega
  · exact absurd hq List.not_mem_nil
/-- mach -/
theorem lem_644_ok (hU : uqG G C) : lem_644.1.2.1 = [] ∧ lemOK (PRd G C D xs) G rgs lem_644 := by
  refine ⟨rfl, fun ρ h ha hT => ?_⟩
  obtain ⟨-, -, hF, hG, hH, hA, hP⟩ := ha
  have g0 : G (ρ 0).toNat = 21 := by
    have q := (hG _ (List.mem_of_getElem? (i := 0) rfl)).2
    rwa [show ev ρ (0, [(0, 1)]) = ρ 0 from ev_v] at q
  have g1 : G (ρ 1).toNat = 20 := by
    have q := (hG _ (List.mem_of_getElem? (i := 1) rfl)).2
    rwa [show ev ρ (0, [(1, 1)]) = ρ 1 from ev_v] at q
  have h1 : (0 : Int) ≤ ρ 2 ∧ ρ 2 ≤ 8 := hf_rg hT (hH _ (List.mem_of_getElem? (i := 1) rfl)) ev_v g1 rfl rfl rfl ev_v
  have p0 : q210 G (ρ 1) (ρ 3) (rfv h) := c2 (P := (fun r c => q210 G r c (rfv h))) (show q210 G (((0) + ((1) * ρ 1 + 0))) (((0) + ((1) * ρ 3 + 0))) (rfv h) from hP _ (List.mem_of_getElem? (i := 0) rfl)) (by omega) (by omega)
  have cT : 0 ≤ ρ 0 := by
    have q := (hG _ (List.mem_of_getElem? (i := 0) rfl)).1
    rwa [show ev ρ (0, [(0, 1)]) = ρ 0 from ev_v] at q
  have cX : 0 ≤ ρ 1 := by
    have q := (hG _ (List.mem_of_getElem? (i := 1) rfl)).1
    rwa [show ev ρ (0, [(1, 1)]) = ρ 1 from ev_v] at q
  have y0 : rfv h (ρ 0).toNat 8 = some (.ref (ρ 1).toNat) := ob_v hT (hH _ (List.mem_of_getElem? (i := 0) rfl)) ev_v g0 rfl ev_v
  have y1 : hasI (rfv h (ρ 1).toNat 12) (ρ 2) := ob_i hT (hH _ (List.mem_of_getElem? (i := 1) rfl)) ev_v g1 rfl ev_v
  have r := hasI_eq y1 p0.2.2.2.2
  refine ⟨_, List.mem_cons_self, ρ, fun _ _ => rfl, fun q hq => absurd hq List.not_mem_nil, trivial, fun f hf => ?_, fun q hq => absurd hq List.not_mem_nil, fun q hq => absurd hq List.not_mem_nil, fun q hq => absurd hq List.not_mem_nil, fun q hq => ?_⟩
  · simp only [List.mem_cons, List.not_mem_nil, or_false] at hf
    rcases hf with rfl | rfl
    · show (0 : Int) ≤ ((0) + ((-1) * ρ 2 + ((1) * ρ 3 + 0)))
      omega
    · show (0 : Int) ≤ ((0) + ((1) * ρ 2 + ((-1) * ρ 3 + 0)))
      omega
  · exact absurd hq List.not_mem_nil
/-- svc -/
theorem lem_645_ok (hU : uqG G C) : lem_645.1.2.1 = [] ∧ lemOK (PRd G C D xs) G rgs lem_645 := by
  refine ⟨rfl, fun ρ h ha hT => ?_⟩
  obtain ⟨-, -, hF, hG, hH, hA, hP⟩ := ha
  have f0 : (0 : Int) ≤ ((0) + ((1) * ρ 2 + 0)) := hF _ (List.mem_of_getElem? (i := 0) rfl)
  have f1 : (0 : Int) ≤ ((1) + ((-1) * ρ 2 + 0)) := hF _ (List.mem_of_getElem? (i := 1) rfl)
  have g0 : G (ρ 0).toNat = 21 := by
    have q := (hG _ (List.mem_of_getElem? (i := 0) rfl)).2
    rwa [show ev ρ (0, [(0, 1)]) = ρ 0 from ev_v] at q
  have g1 : G (ρ 3).toNat = 117 := by
    have q := (hG _ (List.mem_of_getElem? (i := 1) rfl)).2
    rwa [show ev ρ (0, [(3, 1)]) = ρ 3 from ev_v] at q
  have g2 : G (ρ 1).toNat = 20 := by
    have q := (hG _ (List.mem_of_getElem? (i := 2) rfl)).2
    rwa [show ev ρ (0, [(1, 1)]) = ρ 1 from ev_v] at q
  have g3 : G (ρ 4).toNat = 20 := by
    have q := (hG _ (List.mem_of_getElem? (i := 3) rfl)).2
    rwa [show ev ρ (0, [(4, 1)]) = ρ 4 from ev_v] at q
  have b0 : (0 : Int) ≤ ((0) + ((1) * ρ 2 + 0)) := b_aA (hA _ (List.mem_of_getElem? (i := 0) rfl))
  have p0 : q206 G := c2 (P := (fun (_ _ : Int) => q206 G)) (r := 0) (r' := 0) (c := 0) (c' := 0) (show q206 G from hP _ (List.mem_of_getElem? (i := 0) rfl)) rfl rfl
  have p1 : q253 G (elv h) := c2 (P := (fun (_ _ : Int) => q253 G (elv h))) (r := 0) (r' := 0) (c := 0) (c' := 0) (show q253 G (elv h) from hP _ (List.mem_of_getElem? (i := 1) rfl)) rfl rfl
  have p2 : q241 G (ρ 4) (elv h) := c2 (P := (fun r (_ : Int) => q241 G r (elv h))) (c := 0) (c' := 0) (show q241 G (((0) + ((1) * ρ 4 + 0))) (elv h) from hP _ (List.mem_of_getElem? (i := 2) rfl)) (by omega) rfl
  have cT : 0 ≤ ρ 0 := by
    have q := (hG _ (List.mem_of_getElem? (i := 0) rfl)).1
    rwa [show ev ρ (0, [(0, 1)]) = ρ 0 from ev_v] at q
  have cA : 0 ≤ ρ 3 := by
    have q := (hG _ (List.mem_of_getElem? (i := 1) rfl)).1
    rwa [show ev ρ (0, [(3, 1)]) = ρ 3 from ev_v] at q
  have cC : 0 ≤ ρ 1 := by
    have q := (hG _ (List.mem_of_getElem? (i := 2) rfl)).1
    rwa [show ev ρ (0, [(1, 1)]) = ρ 1 from ev_v] at q
  have cX : 0 ≤ ρ 4 := by
    have q := (hG _ (List.mem_of_getElem? (i := 3) rfl)).1
    rwa [show ev ρ (0, [(4, 1)]) = ρ 4 from ev_v] at q
  have y0 : rfv h (ρ 0).toNat 11 = some (.ref (ρ 3).toNat) := ob_v hT (hH _ (List.mem_of_getElem? (i := 0) rfl)) ev_v g0 rfl ev_v
  have y1 : rfv h (ρ 0).toNat 8 = some (.ref (ρ 4).toNat) := ob_v hT (hH _ (List.mem_of_getElem? (i := 1) rfl)) ev_v g0 rfl ev_v
  have z0 : elv h (ρ 3).toNat (ρ 2).toNat = some (.ref (ρ 1).toNat) := ar_v (j := ρ 2) (hA _ (List.mem_of_getElem? (i := 0) rfl)) ev_v (show (ρ 2 : Int) = ((0) + ((1) * ρ 2 + 0)) by omega) ev_v
  have r := s_pl p0 g1 cC (by omega) (by omega) z0 p1
  obtain ⟨x0, x1, x2, x3⟩ := p2
  unfold SHc at x2
  refine ⟨_, List.mem_cons_self, ρ, fun _ _ => rfl, fun q hq => absurd hq List.not_mem_nil, trivial, fun f hf => ?_, fun q hq => absurd hq List.not_mem_nil, fun q hq => absurd hq List.not_mem_nil, fun q hq => absurd hq List.not_mem_nil, fun q hq => ?_⟩
  · simp only [List.mem_cons, List.not_mem_nil, or_false] at hf
    rcases hf with rfl | rfl | rfl
    · show (0 : Int) ≤ ((637) + ((-1) * ρ 1 + ((59) * ρ 2 + 0)))
      omega
    · show (0 : Int) ≤ ((-637) + ((1) * ρ 1 + ((-59) * ρ 2 + 0)))
      omega
    · show (0 : Int) ≤ ((577) + ((-1) * ρ 4 + 0))
      omega
  · simp only [List.mem_cons, List.not_mem_nil, or_false] at hq
    subst hq
    show q245 (((0) + ((1) * ρ 1 + 0))) (((0) + ((1) * ρ 4 + 0)))
    refine c2 (P := q245) (r := ρ 1) (c := ρ 4) ?_ (by omega) (by omega)
    show q245 (ρ 1) (ρ 4)
    show ρ _ ≠ ρ _
    omega
/-- sv1 -/
theorem lem_646_ok (hU : uqG G C) : lem_646.1.2.1 = [] ∧ lemOK (PRd G C D xs) G rgs lem_646 := by
  refine ⟨rfl, fun ρ h ha hT => ?_⟩
  obtain ⟨-, -, hF, hG, hH, hA, hP⟩ := ha
  have f0 : (0 : Int) ≤ ((0) + ((1) * ρ 1 + 0)) := hF _ (List.mem_of_getElem? (i := 0) rfl)
  have f1 : (0 : Int) ≤ ((1) + ((-1) * ρ 1 + 0)) := hF _ (List.mem_of_getElem? (i := 1) rfl)
  have g0 : G (ρ 0).toNat = 21 := by
    have q := (hG _ (List.mem_of_getElem? (i := 0) rfl)).2
    rwa [show ev ρ (0, [(0, 1)]) = ρ 0 from ev_v] at q
  have g1 : G (ρ 2).toNat = 117 := by
    have q := (hG _ (List.mem_of_getElem? (i := 1) rfl)).2
    rwa [show ev ρ (0, [(2, 1)]) = ρ 2 from ev_v] at q
  have g2 : G (ρ 4).toNat = 20 := by
    have q := (hG _ (List.mem_of_getElem? (i := 2) rfl)).2
    rwa [show ev ρ (0, [(4, 1)]) = ρ 4 from ev_v] at q
  have g3 : G (ρ 3).toNat = 101 := by
    have q := (hG _ (List.mem_of_getElem? (i := 3) rfl)).2
    rwa [show ev ρ (0, [(3, 1)]) = ρ 3 from ev_v] at q
  have b0 : (0 : Int) ≤ ((0) + ((1) * ρ 1 + 0)) := b_aA (hA _ (List.mem_of_getElem? (i := 0) rfl))
  have b1 : (0 : Int) ≤ ((0) + ((1) * ρ 1 + 0)) := b_aA (hA _ (List.mem_of_getElem? (i := 1) rfl))
  have p0 : q206 G := c2 (P := (fun (_ _ : Int) => q206 G)) (r := 0) (r' := 0) (c := 0) (c' := 0) (show q206 G from hP _ (List.mem_of_getElem? (i := 0) rfl)) rfl rfl
  have p1 : q253 G (elv h) := c2 (P := (fun (_ _ : Int) => q253 G (elv h))) (r := 0) (r' := 0) (c := 0) (c' := 0) (show q253 G (elv h) from hP _ (List.mem_of_getElem? (i := 1) rfl)) rfl rfl
  have p2 : q211 G (ρ 4) (ρ 6) (rfv h) := c2 (P := (fun r c => q211 G r c (rfv h))) (show q211 G (((0) + ((1) * ρ 4 + 0))) (((0) + ((1) * ρ 6 + 0))) (rfv h) from hP _ (List.mem_of_getElem? (i := 2) rfl)) (by omega) (by omega)
  have cT : 0 ≤ ρ 0 := by
    have q := (hG _ (List.mem_of_getElem? (i := 0) rfl)).1
    rwa [show ev ρ (0, [(0, 1)]) = ρ 0 from ev_v] at q
  have cA : 0 ≤ ρ 2 := by
    have q := (hG _ (List.mem_of_getElem? (i := 1) rfl)).1
    rwa [show ev ρ (0, [(2, 1)]) = ρ 2 from ev_v] at q
  have cC : 0 ≤ ρ 4 := by
    have q := (hG _ (List.mem_of_getElem? (i := 2) rfl)).1
    rwa [show ev ρ (0, [(4, 1)]) = ρ 4 from ev_v] at q
  have cB : 0 ≤ ρ 3 := by
    have q := (hG _ (List.mem_of_getElem? (i := 3) rfl)).1
    rwa [show ev ρ (0, [(3, 1)]) = ρ 3 from ev_v] at q
  have y0 : rfv h (ρ 0).toNat 11 = some (.ref (ρ 2).toNat) := ob_v hT (hH _ (List.mem_of_getElem? (i := 0) rfl)) ev_v g0 rfl ev_v
  have y1 : rfv h (ρ 0).toNat 12 = some (.ref (ρ 3).toNat) := ob_v hT (hH _ (List.mem_of_getElem? (i := 1) rfl)) ev_v g0 rfl ev_v
  have z0 : elv h (ρ 2).toNat (ρ 1).toNat = some (.ref (ρ 4).toNat) := ar_v (j := ρ 1) (hA _ (List.mem_of_getElem? (i := 0) rfl)) ev_v (show (ρ 1 : Int) = ((0) + ((1) * ρ 1 + 0)) by omega) ev_v
  have z1 : hasI (elv h (ρ 3).toNat (ρ 1).toNat) (ρ 5) := ar_i (j := ρ 1) (hA _ (List.mem_of_getElem? (i := 1) rfl)) ev_v (show (ρ 1 : Int) = ((0) + ((1) * ρ 1 + 0)) by omega) ev_v
  have r := s_pl p0 g1 cC (by omega) (by omega) z0 p1
  refine ⟨_, List.mem_cons_self, ρ, fun _ _ => rfl, fun q hq => absurd hq List.not_mem_nil, trivial, fun f hf => ?_, fun q hq => absurd hq List.not_mem_nil, fun q hq => absurd hq List.not_mem_nil, fun q hq => absurd hq List.not_mem_nil, fun q hq => ?_⟩
  · exact absurd hf List.not_mem_nil
  · simp only [List.mem_cons, List.not_mem_nil, or_false] at hq
    subst hq
    show q250 G (((0) + ((1) * ρ 4 + 0))) (((0) + ((1) * ρ 6 + 0))) (rfv h) (elv h)
    refine c2 (P := (fun r c => q250 G r c (rfv h) (elv h))) (r := ρ 4) (c := ρ 6) ?_ (by omega) (by omega)
    show q250 G (ρ 4) (ρ 6) (rfv h) (elv h)
    exact s_sv p0 g3 g2 r (by omega) (by omega) z1 (fun _ => p2.2.2)
/-- rsc -/
theorem lem_647_ok (hU : uqG G C) : lem_647.1.2.1 = [] ∧ lemOK (PRd G C D xs) G rgs lem_647 := by
  refine ⟨rfl, fun ρ h ha hT => ?_⟩
  obtain ⟨-, -, hF, hG, hH, hA, hP⟩ := ha
  have f0 : (0 : Int) ≤ ((0) + ((1) * ρ 2 + 0)) := hF _ (List.mem_of_getElem? (i := 0) rfl)
  have f1 : (0 : Int) ≤ ((1) + ((-1) * ρ 2 + 0)) := hF _ (List.mem_of_getElem? (i := 1) rfl)
  have f2 : (0 : Int) ≤ ((-1) + ((1) * ρ 6 + 0)) := hF _ (List.mem_of_getElem? (i := 2) rfl)
  have g0 : G (ρ 0).toNat = 21 := by
    have q := (hG _ (List.mem_of_getElem? (i := 0) rfl)).2
    rwa [show ev ρ (0, [(0, 1)]) = ρ 0 from ev_v] at q
  have g1 : G (ρ 3).toNat = 117 := by
    have q := (hG _ (List.mem_of_getElem? (i := 1) rfl)).2
    rwa [show ev ρ (0, [(3, 1)]) = ρ 3 from ev_v] at q
  have g2 : G (ρ 1).toNat = 20 := by
    have q := (hG _ (List.mem_of_getElem? (i := 2) rfl)).2
    rwa [show ev ρ (0, [(1, 1)]) = ρ 1 from ev_v] at q
  have g3 : G (ρ 4).toNat = 20 := by
    have q := (hG _ (List.mem_of_getElem? (i := 3) rfl)).2
    rwa [show ev ρ (0, [(4, 1)]) = ρ 4 from ev_v] at q
  have g4 : G (ρ 5).toNat = 101 := by
    have q := (hG _ (List.mem_of_getElem? (i := 4) rfl)).2
    rwa [show ev ρ (0, [(5, 1)]) = ρ 5 from ev_v] at q
  have b0 : (0 : Int) ≤ ((0) + ((1) * ρ 2 + 0)) := b_aA (hA _ (List.mem_of_getElem? (i := 0) rfl))
  have b1 : (0 : Int) ≤ ((0) + ((1) * ρ 2 + 0)) := b_aA (hA _ (List.mem_of_getElem? (i := 1) rfl))
  have p0 : q206 G := c2 (P := (fun (_ _ : Int) => q206 G)) (r := 0) (r' := 0) (c := 0) (c' := 0) (show q206 G from hP _ (List.mem_of_getElem? (i := 0) rfl)) rfl rfl
  have p1 : q253 G (elv h) := c2 (P := (fun (_ _ : Int) => q253 G (elv h))) (r := 0) (r' := 0) (c := 0) (c' := 0) (show q253 G (elv h) from hP _ (List.mem_of_getElem? (i := 1) rfl)) rfl rfl
  have p2 : q241 G (ρ 4) (elv h) := c2 (P := (fun r (_ : Int) => q241 G r (elv h))) (c := 0) (c' := 0) (show q241 G (((0) + ((1) * ρ 4 + 0))) (elv h) from hP _ (List.mem_of_getElem? (i := 2) rfl)) (by omega) rfl
  have p3 : q250 G (59 * ρ 2 + 637) (ρ 7) (rfv h) (elv h) := c2 (P := (fun r c => q250 G r c (rfv h) (elv h))) (show q250 G (((637) + ((59) * ρ 2 + 0))) (((0) + ((1) * ρ 7 + 0))) (rfv h) (elv h) from hP _ (List.mem_of_getElem? (i := 3) rfl)) (by omega) (by omega)
  have cT : 0 ≤ ρ 0 := by
    have q := (hG _ (List.mem_of_getElem? (i := 0) rfl)).1
    rwa [show ev ρ (0, [(0, 1)]) = ρ 0 from ev_v] at q
  have cA : 0 ≤ ρ 3 := by
    have q := (hG _ (List.mem_of_getElem? (i := 1) rfl)).1
    rwa [show ev ρ (0, [(3, 1)]) = ρ 3 from ev_v] at q
  have cC : 0 ≤ ρ 1 := by
    have q := (hG _ (List.mem_of_getElem? (i := 2) rfl)).1
    rwa [show ev ρ (0, [(1, 1)]) = ρ 1 from ev_v] at q
  have cX : 0 ≤ ρ 4 := by
    have q := (hG _ (List.mem_of_getElem? (i := 3) rfl)).1
    rwa [show ev ρ (0, [(4, 1)]) = ρ 4 from ev_v] at q
  have cB : 0 ≤ ρ 5 := by
    have q := (hG _ (List.mem_of_getElem? (i := 4) rfl)).1
    rwa [show ev ρ (0, [(5, 1)]) = ρ 5 from ev_v] at q
  have y0 : rfv h (ρ 0).toNat 11 = some (.ref (ρ 3).toNat) := ob_v hT (hH _ (List.mem_of_getElem? (i := 0) rfl)) ev_v g0 rfl ev_v
  have y1 : rfv h (ρ 0).toNat 8 = some (.ref (ρ 4).toNat) := ob_v hT (hH _ (List.mem_of_getElem? (i := 1) rfl)) ev_v g0 rfl ev_v
  have y2 : rfv h (ρ 0).toNat 12 = some (.ref (ρ 5).toNat) := ob_v hT (hH _ (List.mem_of_getElem? (i := 2) rfl)) ev_v g0 rfl ev_v
  have z0 : elv h (ρ 3).toNat (ρ 2).toNat = some (.ref (ρ 1).toNat) := ar_v (j := ρ 2) (hA _ (List.mem_of_getElem? (i := 0) rfl)) ev_v (show (ρ 2 : Int) = ((0) + ((1) * ρ 2 + 0)) by omega) ev_v
  have z1 : hasI (elv h (ρ 5).toNat (ρ 2).toNat) (ρ 6) := ar_i (j := ρ 2) (hA _ (List.mem_of_getElem? (i := 1) rfl)) ev_v (show (ρ 2 : Int) = ((0) + ((1) * ρ 2 + 0)) by omega) ev_v
  have r := s_pl p0 g1 cC (by omega) (by omega) z0 p1
  have r2 := s_rs (E := ρ 1) (y := ρ 7) p0 g4 r (by omega) (by omega) (by omega) z1 (c2 (P := fun r c => q250 G r c (rfv h) (elv h)) p3 (by omega) rfl)
  obtain ⟨x0, x1, x2, x3⟩ := p2
  unfold SHc at x2
  refine ⟨_, List.mem_cons_self, ρ, fun _ _ => rfl, fun q hq => absurd hq List.not_mem_nil, trivial, fun f hf => ?_, fun q hq => absurd hq List.not_mem_nil, fun q hq => absurd hq List.not_mem_nil, fun q hq => absurd hq List.not_mem_nil, fun q hq => ?_⟩
  · simp only [List.mem_cons, List.not_mem_nil, or_false] at hf
    rcases hf with rfl | rfl | rfl
    · show (0 : Int) ≤ ((637) + ((-1) * ρ 1 + ((59) * ρ 2 + 0)))
      omega
    · show (0 : Int) ≤ ((-637) + ((1) * ρ 1 + ((-59) * ρ 2 + 0)))
      omega
    · show (0 : Int) ≤ ((577) + ((-1) * ρ 4 + 0))
      omega
  · simp only [List.mem_cons, List.not_mem_nil, or_false] at hq
    subst hq
    show q211 G (((0) + ((1) * ρ 1 + 0))) (((0) + ((1) * ρ 7 + 0))) (rfv h)
    refine c2 (P := (fun r c => q211 G r c (rfv h))) (r := ρ 1) (c := ρ 7) ?_ (by omega) (by omega)
    show q211 G (ρ 1) (ρ 7) (rfv h)
    exact r2
/-- rs1 -/
theorem lem_648_ok (hU : uqG G C) : lem_648.1.2.1 = [] ∧ lemOK (PRd G C D xs) G rgs lem_648 := by
  refine ⟨rfl, fun ρ h ha hT => ?_⟩
  obtain ⟨-, -, hF, hG, hH, hA, hP⟩ := ha
  have f0 : (0 : Int) ≤ ((0) + ((-1) * ρ 4 + 0)) := hF _ (List.mem_of_getElem? (i := 0) rfl)
  have f1 : (0 : Int) ≤ ((0) + ((1) * ρ 4 + 0)) := hF _ (List.mem_of_getElem? (i := 1) rfl)
  have g0 : G (ρ 0).toNat = 21 := by
    have q := (hG _ (List.mem_of_getElem? (i := 0) rfl)).2
    rwa [show ev ρ (0, [(0, 1)]) = ρ 0 from ev_v] at q
  have g1 : G (ρ 1).toNat = 20 := by
    have q := (hG _ (List.mem_of_getElem? (i := 1) rfl)).2
    rwa [show ev ρ (0, [(1, 1)]) = ρ 1 from ev_v] at q
  have g2 : G (ρ 3).toNat = 12 := by
    have q := (hG _ (List.mem_of_getElem? (i := 2) rfl)).2
    rwa [show ev ρ (0, [(3, 1)]) = ρ 3 from ev_v] at q
  have h1 : (0 : Int) ≤ ρ 2 ∧ ρ 2 ≤ 8 := hf_rg hT (hH _ (List.mem_of_getElem? (i := 1) rfl)) ev_v g1 rfl rfl rfl ev_v
  have h3 : (0 : Int) ≤ ρ 4 ∧ ρ 4 ≤ 6 := hf_rg hT (hH _ (List.mem_of_getElem? (i := 3) rfl)) ev_v g2 rfl rfl rfl ev_v
  have p0 : q241 G (ρ 1) (elv h) := c2 (P := (fun r (_ : Int) => q241 G r (elv h))) (c := 0) (c' := 0) (show q241 G (((0) + ((1) * ρ 1 + 0))) (elv h) from hP _ (List.mem_of_getElem? (i := 0) rfl)) (by omega) rfl
  have cT : 0 ≤ ρ 0 := by
    have q := (hG _ (List.mem_of_getElem? (i := 0) rfl)).1
    rwa [show ev ρ (0, [(0, 1)]) = ρ 0 from ev_v] at q
  have cX : 0 ≤ ρ 1 := by
    have q := (hG _ (List.mem_of_getElem? (i := 1) rfl)).1
    rwa [show ev ρ (0, [(1, 1)]) = ρ 1 from ev_v] at q
  have cH : 0 ≤ ρ 3 := by
    have q := (hG _ (List.mem_of_getElem? (i := 2) rfl)).1
    rwa [show ev ρ (0, [(3, 1)]) = ρ 3 from ev_v] at q
  have y0 : rfv h (ρ 0).toNat 8 = some (.ref (ρ 1).toNat) := ob_v hT (hH _ (List.mem_of_getElem? (i := 0) rfl)) ev_v g0 rfl ev_v
  have y1 : hasI (rfv h (ρ 1).toNat 12) (ρ 2) := ob_i hT (hH _ (List.mem_of_getElem? (i := 1) rfl)) ev_v g1 rfl ev_v
  have y2 : rfv h (ρ 0).toNat 10 = some (.ref (ρ 3).toNat) := ob_v hT (hH _ (List.mem_of_getElem? (i := 2) rfl)) ev_v g0 rfl ev_v
  have y3 : hasI (rfv h (ρ 3).toNat 1) (ρ 4) := ob_i hT (hH _ (List.mem_of_getElem? (i := 3) rfl)) ev_v g2 rfl ev_v
  refine ⟨_, List.mem_cons_self, ρ, fun _ _ => rfl, fun q hq => absurd hq List.not_mem_nil, trivial, fun f hf => ?_, fun q hq => absurd hq List.not_mem_nil, fun q hq => absurd hq List.not_mem_nil, fun q hq => absurd hq List.not_mem_nil, fun q hq => ?_⟩
  · exact absurd hf List.not_mem_nil
  · simp only [List.mem_cons, List.not_mem_nil, or_false] at hq
    rcases hq with rfl | rfl
    · show q210 G (((0) + ((1) * ρ 1 + 0))) (((0) + ((1) * ρ 2 + 0))) (rfv h)
      refine c2 (P := (fun r c => q210 G r c (rfv h))) (r := ρ 1) (c := ρ 2) ?_ (by omega) (by omega)
      show q210 G (ρ 1) (ρ 2) (rfv h)
      exact s_x (A := elv h) p0 y1
    · show q255 G (((0) + ((1) * ρ 0 + 0))) (((0) + ((1) * ρ 2 + 0))) (rfv h) (elv h)
      refine c2 (P := (fun r c => q255 G r c (rfv h) (elv h))) (r := ρ 0) (c := ρ 2) ?_ (by omega) (by omega)
      show q255 G (ρ 0) (ρ 2) (rfv h) (elv h)
      exact s_mk255 cT g0 g2 y2 y3 (s_zero (by omega) p0)
/-- ldH -/
theorem lem_649_ok (hU : uqG G C) : lem_649.1.2.1 = [] ∧ lemOK (PRd G C D xs) G rgs lem_649 := by
  refine ⟨rfl, fun ρ h ha hT => ?_⟩
  obtain ⟨-, -, hF, hG, hH, hA, hP⟩ := ha
  have f0 : (0 : Int) ≤ ((0) + ((-1) * ρ 4 + 0)) := hF _ (List.mem_of_getElem? (i := 0) rfl)
  have f1 : (0 : Int) ≤ ((0) + ((1) * ρ 4 + 0)) := hF _ (List.mem_of_getElem? (i := 1) rfl)
  have f2 : (0 : Int) ≤ ((0) + ((-1) * ρ 6 + 0)) := hF _ (List.mem_of_getElem? (i := 2) rfl)
  have f3 : (0 : Int) ≤ ((0) + ((-1) * ρ 7 + 0)) := hF _ (List.mem_of_getElem? (i := 3) rfl)
  have f4 : (0 : Int) ≤ ((0) + ((1) * ρ 6 + 0)) := hF _ (List.mem_of_getElem? (i := 4) rfl)
  have f5 : (0 : Int) ≤ ((0) + ((1) * ρ 7 + 0)) := hF _ (List.mem_of_getElem? (i := 5) rfl)
  have g0 : G (ρ 0).toNat = 21 := by
    have q := (hG _ (List.mem_of_getElem? (i := 0) rfl)).2
    rwa [show ev ρ (0, [(0, 1)]) = ρ 0 from ev_v] at q
  have g1 : G (ρ 1).toNat = 20 := by
    have q := (hG _ (List.mem_of_getElem? (i := 1) rfl)).2
    rwa [show ev ρ (0, [(1, 1)]) = ρ 1 from ev_v] at q
  have g2 : G (ρ 3).toNat = 12 := by
    have q := (hG _ (List.mem_of_getElem? (i := 2) rfl)).2
    rwa [show ev ρ (0, [(3, 1)]) = ρ 3 from ev_v] at q
  have g3 : G (ρ 5).toNat = 101 := by
    have q := (hG _ (List.mem_of_getElem? (i := 3) rfl)).2
    rwa [show ev ρ (0, [(5, 1)]) = ρ 5 from ev_v] at q
  have h1 : (0 : Int) ≤ ρ 2 ∧ ρ 2 ≤ 8 := hf_rg hT (hH _ (List.mem_of_getElem? (i := 1) rfl)) ev_v g1 rfl rfl rfl ev_v
  have h3 : (0 : Int) ≤ ρ 4 ∧ ρ 4 ≤ 6 := hf_rg hT (hH _ (List.mem_of_getElem? (i := 3) rfl)) ev_v g2 rfl rfl rfl ev_v
  have b0 : (0 : Int) ≤ ((0) + 0) := b_aA (hA _ (List.mem_of_getElem? (i := 0) rfl))
  have b1 : (0 : Int) ≤ ((1) + 0) := b_aA (hA _ (List.mem_of_getElem? (i := 1) rfl))
  have p0 : q206 G := c2 (P := (fun (_ _ : Int) => q206 G)) (r := 0) (r' := 0) (c := 0) (c' := 0) (show q206 G from hP _ (List.mem_of_getElem? (i := 0) rfl)) rfl rfl
  have p1 : q253 G (elv h) := c2 (P := (fun (_ _ : Int) => q253 G (elv h))) (r := 0) (r' := 0) (c := 0) (c' := 0) (show q253 G (elv h) from hP _ (List.mem_of_getElem? (i := 1) rfl)) rfl rfl
  have p2 : q241 G (ρ 1) (elv h) := c2 (P := (fun r (_ : Int) => q241 G r (elv h))) (c := 0) (c' := 0) (show q241 G (((0) + ((1) * ρ 1 + 0))) (elv h) from hP _ (List.mem_of_getElem? (i := 2) rfl)) (by omega) rfl
  have cT : 0 ≤ ρ 0 := by
    have q := (hG _ (List.mem_of_getElem? (i := 0) rfl)).1
    rwa [show ev ρ (0, [(0, 1)]) = ρ 0 from ev_v] at q
  have cX : 0 ≤ ρ 1 := by
    have q := (hG _ (List.mem_of_getElem? (i := 1) rfl)).1
    rwa [show ev ρ (0, [(1, 1)]) = ρ 1 from ev_v] at q
  have cH : 0 ≤ ρ 3 := by
    have q := (hG _ (List.mem_of_getElem? (i := 2) rfl)).1
    rwa [show ev ρ (0, [(3, 1)]) = ρ 3 from ev_v] at q
  have cB : 0 ≤ ρ 5 := by
    have q := (hG _ (List.mem_of_getElem? (i := 3) rfl)).1
    rwa [show ev ρ (0, [(5, 1)]) = ρ 5 from ev_v] at q
  have y0 : rfv h (ρ 0).toNat 8 = some (.ref (ρ 1).toNat) := ob_v hT (hH _ (List.mem_of_getElem? (i := 0) rfl)) ev_v g0 rfl ev_v
  have y1 : hasI (rfv h (ρ 1).toNat 12) (ρ 2) := ob_i hT (hH _ (List.mem_of_getElem? (i := 1) rfl)) ev_v g1 rfl ev_v
  have y2 : rfv h (ρ 0).toNat 10 = some (.ref (ρ 3).toNat) := ob_v hT (hH _ (List.mem_of_getElem? (i := 2) rfl)) ev_v g0 rfl ev_v
  have y3 : hasI (rfv h (ρ 3).toNat 1) (ρ 4) := ob_i hT (hH _ (List.mem_of_getElem? (i := 3) rfl)) ev_v g2 rfl ev_v
  have y4 : rfv h (ρ 0).toNat 12 = some (.ref (ρ 5).toNat) := ob_v hT (hH _ (List.mem_of_getElem? (i := 4) rfl)) ev_v g0 rfl ev_v
  have z0 : hasI (elv h (ρ 5).toNat 0) (ρ 6) := ar_i (j := (0 : Int)) (hA _ (List.mem_of_getElem? (i := 0) rfl)) ev_v (show ((0 : Int) : Int) = ((0) + 0) by omega) ev_v
  have z1 : hasI (elv h (ρ 5).toNat 1) (ρ 7) := ar_i (j := (1 : Int)) (hA _ (List.mem_of_getElem? (i := 1) rfl)) ev_v (show ((1 : Int) : Int) = ((1) + 0) by omega) ev_v
  refine ⟨_, List.mem_cons_self, ρ, fun _ _ => rfl, fun q hq => absurd hq List.not_mem_nil, trivial, fun f hf => ?_, fun q hq => absurd hq List.not_mem_nil, fun q hq => absurd hq List.not_mem_nil, fun q hq => absurd hq List.not_mem_nil, fun q hq => ?_⟩
  · exact absurd hf List.not_mem_nil
  · simp only [List.mem_cons, List.not_mem_nil, or_false] at hq
    rcases hq with rfl | rfl | rfl | rfl
    · show q210 G (((0) + ((1) * ρ 1 + 0))) (((0) + ((1) * ρ 2 + 0))) (rfv h)
      refine c2 (P := (fun r c => q210 G r c (rfv h))) (r := ρ 1) (c := ρ 2) ?_ (by omega) (by omega)
      show q210 G (ρ 1) (ρ 2) (rfv h)
      exact s_x (A := elv h) p2 y1
    · show q255 G (((0) + ((1) * ρ 0 + 0))) (((0) + ((1) * ρ 2 + 0))) (rfv h) (elv h)
      refine c2 (P := (fun r c => q255 G r c (rfv h) (elv h))) (r := ρ 0) (c := ρ 2) ?_ (by omega) (by omega)
      show q255 G (ρ 0) (ρ 2) (rfv h) (elv h)
      exact s_mk255 cT g0 g2 y2 y3 (s_zero (by omega) p2)
    · show q250 G (((637) + 0)) (((0) + ((1) * ρ 2 + 0))) (rfv h) (elv h)
      refine c2 (P := (fun r c => q250 G r c (rfv h) (elv h))) (r := (637 : Int)) (c := ρ 2) ?_ (by omega) (by omega)
      show q250 G ((637 : Int)) (ρ 2) (rfv h) (elv h)
      exact s_sv (E := 637) (p := 0) p0 g3 p1.1.2.1 (by omega) (by omega) (by omega) z0 (fun h9 => absurd (show ρ 6 = 0 by omega) h9)
    · show q250 G (((696) + 0)) (((0) + ((1) * ρ 2 + 0))) (rfv h) (elv h)
      refine c2 (P := (fun r c => q250 G r c (rfv h) (elv h))) (r := (696 : Int)) (c := ρ 2) ?_ (by omega) (by omega)
      show q250 G ((696 : Int)) (ρ 2) (rfv h) (elv h)
      exact s_sv (E := 696) (p := 1) p0 g3 p1.1.2.2 (by omega) (by omega) (by omega) z1 (fun h9 => absurd (show ρ 7 = 0 by omega) h9)
/-- two -/
theorem lem_650_ok (hU : uqG G C) : lem_650.1.2.1 = [] ∧ lemOK (PRd G C D xs) G rgs lem_650 := by
  refine ⟨rfl, fun ρ h ha hT => ?_⟩
  obtain ⟨-, -, hF, hG, hH, hA, hP⟩ := ha
  have f0 : (0 : Int) ≤ ((0) + ((1) * ρ 0 + 0)) := hF _ (List.mem_of_getElem? (i := 0) rfl)
  have f1 : (0 : Int) ≤ ((1) + ((-1) * ρ 0 + 0)) := hF _ (List.mem_of_getElem? (i := 1) rfl)
  rcases (by omega : ρ 0 ≤ 0 ∨ 1 ≤ ρ 0) with hc | hc
  · refine ⟨_, List.mem_cons_self, ρ, fun _ _ => rfl, fun q hq => absurd hq List.not_mem_nil, trivial, fun f hf => ?_, fun q hq => absurd hq List.not_mem_nil, fun q hq => absurd hq List.not_mem_nil, fun q hq => absurd hq List.not_mem_nil, fun q hq => ?_⟩
    · simp only [List.mem_cons, List.not_mem_nil, or_false] at hf
      subst hf
      show (0 : Int) ≤ ((0) + ((-1) * ρ 0 + 0))
      omega
    · exact absurd hq List.not_mem_nil
  · refine ⟨_, (List.mem_cons_of_mem _ List.mem_cons_self), ρ, fun _ _ => rfl, fun q hq => absurd hq List.not_mem_nil, trivial, fun f hf => ?_, fun q hq => absurd hq List.not_mem_nil, fun q hq => absurd hq List.not_mem_nil, fun q hq => absurd hq List.not_mem_nil, fun q hq => ?_⟩
    · simp only [List.mem_cons, List.not_mem_nil, or_false] at hf
      subst hf
      show (0 : Int) ≤ ((-1) + ((1) * ρ 0 + 0))
      omega
    · exact absurd hq List.not_mem_nil
/-- v210 -/
theorem lem_651_ok (hU : uqG G C) : lem_651.1.2.1 = [] ∧ lemOK (PRd G C D xs) G rgs lem_651 := by
  refine ⟨rfl, fun ρ h ha hT => ?_⟩
  obtain ⟨-, -, hF, hG, hH, hA, hP⟩ := ha
  have g0 : G (ρ 0).toNat = 20 := by
    have q := (hG _ (List.mem_of_getElem? (i := 0) rfl)).2
    rwa [show ev ρ (0, [(0, 1)]) = ρ 0 from ev_v] at q
  have h0 : (0 : Int) ≤ ρ 1 ∧ ρ 1 ≤ 8 := hf_rg hT (hH _ (List.mem_of_getElem? (i := 0) rfl)) ev_v g0 rfl rfl rfl ev_v
  have p0 : q210 G (ρ 0) (ρ 2) (rfv h) := c2 (P := (fun r c => q210 G r c (rfv h))) (show q210 G (((0) + ((1) * ρ 0 + 0))) (((0) + ((1) * ρ 2 + 0))) (rfv h) from hP _ (List.mem_of_getElem? (i := 0) rfl)) (by omega) (by omega)
  have cX : 0 ≤ ρ 0 := by
    have q := (hG _ (List.mem_of_getElem? (i := 0) rfl)).1
    rwa [show ev ρ (0, [(0, 1)]) = ρ 0 from ev_v] at q
  have y0 : hasI (rfv h (ρ 0).toNat 12) (ρ 1) := ob_i hT (hH _ (List.mem_of_getElem? (i := 0) rfl)) ev_v g0 rfl ev_v
  have r := hasI_eq y0 p0.2.2.2.2
  refine ⟨_, List.mem_cons_self, ρ, fun _ _ => rfl, fun q hq => absurd hq List.not_mem_nil, trivial, fun f hf => ?_, fun q hq => absurd hq List.not_mem_nil, fun q hq => absurd hq List.not_mem_nil, fun q hq => absurd hq List.not_mem_nil, fun q hq => ?_⟩
  · simp only [List.mem_cons, List.not_mem_nil, or_false] at hf
    rcases hf with rfl | rfl
    · show (0 : Int) ≤ ((0) + ((-1) * ρ 1 + ((1) * ρ 2 + 0)))
      omega
    · show (0 : Int) ≤ ((0) + ((1) * ρ 1 + ((-1) * ρ 2 + 0)))
      omega
  · exact absurd hq List.not_mem_nil
end LMT
