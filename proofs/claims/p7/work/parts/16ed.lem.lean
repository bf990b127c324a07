section LMT
variable {G C : Nat → Nat} {h : mH} {D : Nat} {xs : Nat → Int32}
/-- st25M -/
theorem lem_521_ok (hU : uqG G C) : lem_521.1.2.1 = [] ∧ lemOK (PRd G C D xs) G rgs lem_521 := by
  refine ⟨rfl, fun ρ h ha hT => ?_⟩
  obtain ⟨-, -, hF, hG, hH, hA, hP⟩ := ha
  have f0 : (0 : Int) ≤ ((0) + ((1) * ρ 1 + 0)) := hF _ (List.mem_of_getElem? (i := 0) rfl)
  have f1 : (0 : Int) ≤ ((1200) + ((-1) * ρ 1 + 0)) := hF _ (List.mem_of_getElem? (i := 1) rfl)
  have f2 : (0 : Int) ≤ ((0) + ((1) * ρ 2 + 0)) := hF _ (List.mem_of_getElem? (i := 2) rfl)
  have f3 : (0 : Int) ≤ ((0) + ((1) * ρ 1 + ((-1) * ρ 2 + 0))) := hF _ (List.mem_of_getElem? (i := 3) rfl)
  have f4 : (0 : Int) ≤ ((0) + ((1) * ρ 8 + 0)) := hF _ (List.mem_of_getElem? (i := 4) rfl)
  have f5 : (0 : Int) ≤ ((0) + ((1) * ρ 1 + ((-1) * ρ 8 + 0))) := hF _ (List.mem_of_getElem? (i := 5) rfl)
  have f6 : (0 : Int) ≤ ((0) + ((1) * ρ 9 + 0)) := hF _ (List.mem_of_getElem? (i := 6) rfl)
  have f7 : (0 : Int) ≤ ((-1) + ((1) * ρ 4 + ((-1) * ρ 9 + 0))) := hF _ (List.mem_of_getElem? (i := 7) rfl)
  have f8 : (0 : Int) ≤ ((0) + ((1) * ρ 4 + 0)) := hF _ (List.mem_of_getElem? (i := 8) rfl)
  have f9 : (0 : Int) ≤ ((6) + ((-1) * ρ 4 + 0)) := hF _ (List.mem_of_getElem? (i := 9) rfl)
  have f10 : (0 : Int) ≤ ((0) + ((1) * ρ 5 + 0)) := hF _ (List.mem_of_getElem? (i := 10) rfl)
  have f11 : (0 : Int) ≤ ((8) + ((-1) * ρ 5 + 0)) := hF _ (List.mem_of_getElem? (i := 11) rfl)
  have f12 : (0 : Int) ≤ ((0) + ((1) * ρ 7 + 0)) := hF _ (List.mem_of_getElem? (i := 12) rfl)
  have f13 : (0 : Int) ≤ ((5) + ((-1) * ρ 7 + 0)) := hF _ (List.mem_of_getElem? (i := 13) rfl)
  have f14 : (0 : Int) ≤ ((0) + ((1) * ρ 6 + 0)) := hF _ (List.mem_of_getElem? (i := 14) rfl)
  have f15 : (0 : Int) ≤ ((4) + ((-1) * ρ 6 + 0)) := hF _ (List.mem_of_getElem? (i := 15) rfl)
  have g0 : G (ρ 0).toNat = 22 := by
    have q := (hG _ (List.mem_of_getElem? (i := 0) rfl)).2
    rwa [show ev ρ (0, [(0, 1)]) = ρ 0 from ev_v] at q
  have g1 : G (ρ 3).toNat = 124 := by
    have q := (hG _ (List.mem_of_getElem? (i := 1) rfl)).2
    rwa [show ev ρ (0, [(3, 1)]) = ρ 3 from ev_v] at q
  have h0 : (0 : Int) ≤ ρ 1 ∧ ρ 1 ≤ 1200 := hf_rg hT (hH _ (List.mem_of_getElem? (i := 0) rfl)) ev_v g0 rfl rfl rfl ev_v
  have h1 : (0 : Int) ≤ ρ 2 ∧ ρ 2 ≤ 1200 := hf_rg hT (hH _ (List.mem_of_getElem? (i := 1) rfl)) ev_v g0 rfl rfl rfl ev_v
  have b0 : (0 : Int) ≤ ((6) + 0) := b_aA (hA _ (List.mem_of_getElem? (i := 0) rfl))
  have b1 : (0 : Int) ≤ ((7) + 0) := b_aA (hA _ (List.mem_of_getElem? (i := 1) rfl))
  have b2 : (0 : Int) ≤ ((50) + 0) := b_aA (hA _ (List.mem_of_getElem? (i := 2) rfl))
  have a0 : vw C h 124 (6) = ρ 4 := vw_aA hU (hA _ (List.mem_of_getElem? (i := 0) rfl)) ev_v g1 (by omega) (by omega) (i := 6) (show (((6 : Nat)) : Int) = ((6) + 0) by omega) ev_v
  have a1 : vw C h 124 (7) = ρ 5 := vw_aA hU (hA _ (List.mem_of_getElem? (i := 1) rfl)) ev_v g1 (by omega) (by omega) (i := 7) (show (((7 : Nat)) : Int) = ((7) + 0) by omega) ev_v
  have a2 : vw C h 124 (50) = ρ 6 := vw_aA hU (hA _ (List.mem_of_getElem? (i := 2) rfl)) ev_v g1 (by omega) (by omega) (i := 50) (show (((50 : Nat)) : Int) = ((50) + 0) by omega) ev_v
  have p0 : P183 (vw C h) (ρ 5) (ρ 7) := c2 (P := P183 (vw C h)) (show P183 (vw C h) (((0) + ((1) * ρ 5 + 0))) (((0) + ((1) * ρ 7 + 0))) from hP _ (List.mem_of_getElem? (i := 0) rfl)) (by omega) (by omega)
  have p1 : q158 (tB (vw C h)) (ρ 1 + 2048 * ρ 2) (ρ 8) := c2 (P := q158 (tB (vw C h))) (show q158 (tB (vw C h)) (((0) + ((1) * ρ 1 + ((2048) * ρ 2 + 0)))) (((0) + ((1) * ρ 8 + 0))) from hP _ (List.mem_of_getElem? (i := 1) rfl)) (by omega) (by omega)
  have p2 : q164 (tB (vw C h)) (ρ 1 + 2048 * ρ 8) (ρ 9) := c2 (P := q164 (tB (vw C h))) (show q164 (tB (vw C h)) (((0) + ((1) * ρ 1 + ((2048) * ρ 8 + 0)))) (((0) + ((1) * ρ 9 + 0))) from hP _ (List.mem_of_getElem? (i := 2) rfl)) (by omega) (by omega)
  have p3 : (qRC 25 (tB (vw C h))) (ρ 1 + 4398046511104 * ρ 4 + 35184372088832 * ρ 5 + 4503599627370496 * ρ 6 + 562949953421312 * ρ 7 + 2048 * ρ 8) (ρ 10) := c2 (P := (qRC 25 (tB (vw C h)))) (show (qRC 25 (tB (vw C h))) (((0) + ((1) * ρ 1 + ((4398046511104) * ρ 4 + ((35184372088832) * ρ 5 + ((4503599627370496) * ρ 6 + ((562949953421312) * ρ 7 + ((2048) * ρ 8 + 0)))))))) (((0) + ((1) * ρ 10 + 0))) from hP _ (List.mem_of_getElem? (i := 3) rfl)) (by omega) (by omega)
  obtain ⟨hkd, nv⟩ := k164 (n := ρ 1) (s := ρ 8) (by omega) (by omega) (by omega) (by omega) (by omega) p2
  have nx := k158 (n := ρ 1) (s := ρ 8) (t := ρ 2) (by omega) (by omega) (by omega) (by omega) (by omega) (by omega) p1
  have ng := nx_gt (B := (tB (vw C h))) (n := (ρ 1).toNat) (s := (ρ 8).toNat) (by omega)
  have hc0 := p3.1
  have hR := rc_el (n := ρ 1) (s := ρ 8) (d := (0 : Int)) (K := (0 : Int)) (R := (ρ 4 + 8 * ρ 5 + 1024 * ρ 6 + 128 * ρ 7)) p3 (by omega) (by omega) (by omega) (by omega) (by omega) (by omega) (by omega) (by omega) (by omega) (by omega)
  have q := sn_25 hR hkd (by omega) (by omega)
  refine ⟨_, List.mem_cons_self, ρ, fun _ _ => rfl, fun q hq => absurd hq List.not_mem_nil, trivial, fun f hf => ?_, fun q hq => absurd hq List.not_mem_nil, fun q hq => absurd hq List.not_mem_nil, fun q hq => absurd hq List.not_mem_nil, fun q hq => ?_⟩
  · simp only [List.mem_cons, List.not_mem_nil, or_false] at hf
    subst hf
    show (0 : Int) ≤ ((-1) + ((1) * ρ 2 + ((-1) * ρ 8 + 0)))
    omega
  · simp only [List.mem_cons, List.not_mem_nil, or_false] at hq
    subst hq
    show (qRC 26 (tB (vw C h))) (((0) + ((1) * ρ 1 + ((2048) * ρ 2 + ((4398046511104) * ρ 4 + ((35184372088832) * ρ 5 + ((4503599627370496) * ρ 6 + ((562949953421312) * ρ 7 + 0)))))))) (((0) + ((1) * ρ 10 + 0)))
    refine c2 (P := (qRC 26 (tB (vw C h)))) (r := ρ 1 + 2048 * ρ 2 + 4398046511104 * ρ 4 + 35184372088832 * ρ 5 + 4503599627370496 * ρ 6 + 562949953421312 * ρ 7) (c := ρ 10) ?_ (by omega) (by omega)
    show (qRC 26 (tB (vw C h))) (ρ 1 + 2048 * ρ 2 + 4398046511104 * ρ 4 + 35184372088832 * ρ 5 + 4503599627370496 * ρ 6 + 562949953421312 * ρ 7) (ρ 10)
    exact rc_in (n := ρ 1) (s := ρ 2) (d := (0 : Int)) (K := (0 : Int)) (R := (ρ 4 + 8 * ρ 5 + 1024 * ρ 6 + 128 * ρ 7)) (by omega) (by omega) (by omega) (by omega) (by omega) (by omega) (by omega) (by omega) (by omega) (by omega) q (by omega) (by omega) (by omega) (by omega) (by omega)
/-- op26M -/
theorem lem_522_ok (hU : uqG G C) : lem_522.1.2.1 = [] ∧ lemOK (PRd G C D xs) G rgs lem_522 := by
  refine ⟨rfl, fun ρ h ha hT => ?_⟩
  obtain ⟨-, -, hF, hG, hH, hA, hP⟩ := ha
  have f0 : (0 : Int) ≤ ((0) + ((1) * ρ 1 + 0)) := hF _ (List.mem_of_getElem? (i := 0) rfl)
  have f1 : (0 : Int) ≤ ((1200) + ((-1) * ρ 1 + 0)) := hF _ (List.mem_of_getElem? (i := 1) rfl)
  have f2 : (0 : Int) ≤ ((0) + ((1) * ρ 2 + 0)) := hF _ (List.mem_of_getElem? (i := 2) rfl)
  have f3 : (0 : Int) ≤ ((0) + ((1) * ρ 1 + ((-1) * ρ 2 + 0))) := hF _ (List.mem_of_getElem? (i := 3) rfl)
  have f4 : (0 : Int) ≤ ((0) + ((1) * ρ 4 + 0)) := hF _ (List.mem_of_getElem? (i := 4) rfl)
  have f5 : (0 : Int) ≤ ((6) + ((-1) * ρ 4 + 0)) := hF _ (List.mem_of_getElem? (i := 5) rfl)
  have f6 : (0 : Int) ≤ ((0) + ((1) * ρ 5 + 0)) := hF _ (List.mem_of_getElem? (i := 6) rfl)
  have f7 : (0 : Int) ≤ ((8) + ((-1) * ρ 5 + 0)) := hF _ (List.mem_of_getElem? (i := 7) rfl)
  have f8 : (0 : Int) ≤ ((0) + ((1) * ρ 7 + 0)) := hF _ (List.mem_of_getElem? (i := 8) rfl)
  have f9 : (0 : Int) ≤ ((5) + ((-1) * ρ 7 + 0)) := hF _ (List.mem_of_getElem? (i := 9) rfl)
  have f10 : (0 : Int) ≤ ((0) + ((1) * ρ 6 + 0)) := hF _ (List.mem_of_getElem? (i := 10) rfl)
  have f11 : (0 : Int) ≤ ((4) + ((-1) * ρ 6 + 0)) := hF _ (List.mem_of_getElem? (i := 11) rfl)
  have g0 : G (ρ 0).toNat = 22 := by
    have q := (hG _ (List.mem_of_getElem? (i := 0) rfl)).2
    rwa [show ev ρ (0, [(0, 1)]) = ρ 0 from ev_v] at q
  have g1 : G (ρ 3).toNat = 124 := by
    have q := (hG _ (List.mem_of_getElem? (i := 1) rfl)).2
    rwa [show ev ρ (0, [(3, 1)]) = ρ 3 from ev_v] at q
  have h0 : (0 : Int) ≤ ρ 1 ∧ ρ 1 ≤ 1200 := hf_rg hT (hH _ (List.mem_of_getElem? (i := 0) rfl)) ev_v g0 rfl rfl rfl ev_v
  have h1 : (0 : Int) ≤ ρ 2 ∧ ρ 2 ≤ 1200 := hf_rg hT (hH _ (List.mem_of_getElem? (i := 1) rfl)) ev_v g0 rfl rfl rfl ev_v
  have b0 : (0 : Int) ≤ ((6) + 0) := b_aA (hA _ (List.mem_of_getElem? (i := 0) rfl))
  have b1 : (0 : Int) ≤ ((7) + 0) := b_aA (hA _ (List.mem_of_getElem? (i := 1) rfl))
  have b2 : (0 : Int) ≤ ((50) + 0) := b_aA (hA _ (List.mem_of_getElem? (i := 2) rfl))
  have a0 : vw C h 124 (6) = ρ 4 := vw_aA hU (hA _ (List.mem_of_getElem? (i := 0) rfl)) ev_v g1 (by omega) (by omega) (i := 6) (show (((6 : Nat)) : Int) = ((6) + 0) by omega) ev_v
  have a1 : vw C h 124 (7) = ρ 5 := vw_aA hU (hA _ (List.mem_of_getElem? (i := 1) rfl)) ev_v g1 (by omega) (by omega) (i := 7) (show (((7 : Nat)) : Int) = ((7) + 0) by omega) ev_v
  have a2 : vw C h 124 (50) = ρ 6 := vw_aA hU (hA _ (List.mem_of_getElem? (i := 2) rfl)) ev_v g1 (by omega) (by omega) (i := 50) (show (((50 : Nat)) : Int) = ((50) + 0) by omega) ev_v
  have p0 : P183 (vw C h) (ρ 5) (ρ 7) := c2 (P := P183 (vw C h)) (show P183 (vw C h) (((0) + ((1) * ρ 5 + 0))) (((0) + ((1) * ρ 7 + 0))) from hP _ (List.mem_of_getElem? (i := 0) rfl)) (by omega) (by omega)
  have p1 : (qRC 26 (tB (vw C h))) (ρ 1 + 2048 * ρ 2 + 4398046511104 * ρ 4 + 35184372088832 * ρ 5 + 4503599627370496 * ρ 6 + 562949953421312 * ρ 7) (ρ 8) := c2 (P := (qRC 26 (tB (vw C h)))) (show (qRC 26 (tB (vw C h))) (((0) + ((1) * ρ 1 + ((2048) * ρ 2 + ((4398046511104) * ρ 4 + ((35184372088832) * ρ 5 + ((4503599627370496) * ρ 6 + ((562949953421312) * ρ 7 + 0)))))))) (((0) + ((1) * ρ 8 + 0))) from hP _ (List.mem_of_getElem? (i := 1) rfl)) (by omega) (by omega)
  have hc0 := p1.1
  have hR := rc_el (n := ρ 1) (s := ρ 2) (d := (0 : Int)) (K := (0 : Int)) (R := (ρ 4 + 8 * ρ 5 + 1024 * ρ 6 + 128 * ρ 7)) p1 (by omega) (by omega) (by omega) (by omega) (by omega) (by omega) (by omega) (by omega) (by omega) (by omega)
  refine ⟨_, List.mem_cons_self, ρ, fun _ _ => rfl, fun q hq => absurd hq List.not_mem_nil, trivial, fun f hf => ?_, fun q hq => absurd hq List.not_mem_nil, fun q hq => absurd hq List.not_mem_nil, fun q hq => absurd hq List.not_mem_nil, fun q hq => ?_⟩
  · exact absurd hf List.not_mem_nil
  · simp only [List.mem_cons, List.not_mem_nil, or_false] at hq
    subst hq
    show q163 (tB (vw C h)) (((6871951867904) + ((1) * ρ 1 + ((2048) * ρ 2 + 0))))
    refine c2 (P := (fun r (_ : Int) => q163 (tB (vw C h)) r)) (c := 0) (c' := 0) (r := ρ 1 + 2048 * ρ 2 + 6871951867904) ?_ (by omega) rfl
    show q163 (tB (vw C h)) (ρ 1 + 2048 * ρ 2 + 6871951867904)
    exact o163 (n := ρ 1) (s := ρ 2) (lo := 1) (hi := 99) (by omega) (by omega) (by omega) (by omega) (by omega) (by omega) (by omega) (fn_26 hR)
/-- st26M -/
theorem lem_523_ok (hU : uqG G C) : lem_523.1.2.1 = [] ∧ lemOK (PRd G C D xs) G rgs lem_523 := by
  refine ⟨rfl, fun ρ h ha hT => ?_⟩
  obtain ⟨-, -, hF, hG, hH, hA, hP⟩ := ha
  have f0 : (0 : Int) ≤ ((0) + ((1) * ρ 1 + 0)) := hF _ (List.mem_of_getElem? (i := 0) rfl)
  have f1 : (0 : Int) ≤ ((1200) + ((-1) * ρ 1 + 0)) := hF _ (List.mem_of_getElem? (i := 1) rfl)
  have f2 : (0 : Int) ≤ ((0) + ((1) * ρ 2 + 0)) := hF _ (List.mem_of_getElem? (i := 2) rfl)
  have f3 : (0 : Int) ≤ ((0) + ((1) * ρ 1 + ((-1) * ρ 2 + 0))) := hF _ (List.mem_of_getElem? (i := 3) rfl)
  have f4 : (0 : Int) ≤ ((0) + ((1) * ρ 8 + 0)) := hF _ (List.mem_of_getElem? (i := 4) rfl)
  have f5 : (0 : Int) ≤ ((0) + ((1) * ρ 1 + ((-1) * ρ 8 + 0))) := hF _ (List.mem_of_getElem? (i := 5) rfl)
  have f6 : (0 : Int) ≤ ((-1) + ((1) * ρ 9 + 0)) := hF _ (List.mem_of_getElem? (i := 6) rfl)
  have f7 : (0 : Int) ≤ ((99) + ((-1) * ρ 9 + 0)) := hF _ (List.mem_of_getElem? (i := 7) rfl)
  have f8 : (0 : Int) ≤ ((0) + ((1) * ρ 4 + 0)) := hF _ (List.mem_of_getElem? (i := 8) rfl)
  have f9 : (0 : Int) ≤ ((6) + ((-1) * ρ 4 + 0)) := hF _ (List.mem_of_getElem? (i := 9) rfl)
  have f10 : (0 : Int) ≤ ((0) + ((1) * ρ 5 + 0)) := hF _ (List.mem_of_getElem? (i := 10) rfl)
  have f11 : (0 : Int) ≤ ((8) + ((-1) * ρ 5 + 0)) := hF _ (List.mem_of_getElem? (i := 11) rfl)
  have f12 : (0 : Int) ≤ ((0) + ((1) * ρ 7 + 0)) := hF _ (List.mem_of_getElem? (i := 12) rfl)
  have f13 : (0 : Int) ≤ ((5) + ((-1) * ρ 7 + 0)) := hF _ (List.mem_of_getElem? (i := 13) rfl)
  have f14 : (0 : Int) ≤ ((0) + ((1) * ρ 6 + 0)) := hF _ (List.mem_of_getElem? (i := 14) rfl)
  have f15 : (0 : Int) ≤ ((4) + ((-1) * ρ 6 + 0)) := hF _ (List.mem_of_getElem? (i := 15) rfl)
  have g0 : G (ρ 0).toNat = 22 := by
    have q := (hG _ (List.mem_of_getElem? (i := 0) rfl)).2
    rwa [show ev ρ (0, [(0, 1)]) = ρ 0 from ev_v] at q
  have g1 : G (ρ 3).toNat = 124 := by
    have q := (hG _ (List.mem_of_getElem? (i := 1) rfl)).2
    rwa [show ev ρ (0, [(3, 1)]) = ρ 3 from ev_v] at q
  have h0 : (0 : Int) ≤ ρ 1 ∧ ρ 1 ≤ 1200 := hf_rg hT (hH _ (List.mem_of_getElem? (i := 0) rfl)) ev_v g0 rfl rfl rfl ev_v
  have h1 : (0 : Int) ≤ ρ 2 ∧ ρ 2 ≤ 1200 := hf_rg hT (hH _ (List.mem_of_getElem? (i := 1) rfl)) ev_v g0 rfl rfl rfl ev_v
  have b0 : (0 : Int) ≤ ((6) + 0) := b_aA (hA _ (List.mem_of_getElem? (i := 0) rfl))
  have b1 : (0 : Int) ≤ ((7) + 0) := b_aA (hA _ (List.mem_of_getElem? (i := 1) rfl))
  have b2 : (0 : Int) ≤ ((50) + 0) := b_aA (hA _ (List.mem_of_getElem? (i := 2) rfl))
  have a0 : vw C h 124 (6) = ρ 4 := vw_aA hU (hA _ (List.mem_of_getElem? (i := 0) rfl)) ev_v g1 (by omega) (by omega) (i := 6) (show (((6 : Nat)) : Int) = ((6) + 0) by omega) ev_v
  have a1 : vw C h 124 (7) = ρ 5 := vw_aA hU (hA _ (List.mem_of_getElem? (i := 1) rfl)) ev_v g1 (by omega) (by omega) (i := 7) (show (((7 : Nat)) : Int) = ((7) + 0) by omega) ev_v
  have a2 : vw C h 124 (50) = ρ 6 := vw_aA hU (hA _ (List.mem_of_getElem? (i := 2) rfl)) ev_v g1 (by omega) (by omega) (i := 50) (show (((50 : Nat)) : Int) = ((50) + 0) by omega) ev_v
  have p0 : P183 (vw C h) (ρ 5) (ρ 7) := c2 (P := P183 (vw C h)) (show P183 (vw C h) (((0) + ((1) * ρ 5 + 0))) (((0) + ((1) * ρ 7 + 0))) from hP _ (List.mem_of_getElem? (i := 0) rfl)) (by omega) (by omega)
  have p1 : q158 (tB (vw C h)) (ρ 1 + 2048 * ρ 2) (ρ 8) := c2 (P := q158 (tB (vw C h))) (show q158 (tB (vw C h)) (((0) + ((1) * ρ 1 + ((2048) * ρ 2 + 0)))) (((0) + ((1) * ρ 8 + 0))) from hP _ (List.mem_of_getElem? (i := 1) rfl)) (by omega) (by omega)
  have p2 : q164 (tB (vw C h)) (ρ 1 + 2048 * ρ 8) (ρ 9) := c2 (P := q164 (tB (vw C h))) (show q164 (tB (vw C h)) (((0) + ((1) * ρ 1 + ((2048) * ρ 8 + 0)))) (((0) + ((1) * ρ 9 + 0))) from hP _ (List.mem_of_getElem? (i := 2) rfl)) (by omega) (by omega)
  have p3 : (qRC 26 (tB (vw C h))) (ρ 1 + 4398046511104 * ρ 4 + 35184372088832 * ρ 5 + 4503599627370496 * ρ 6 + 562949953421312 * ρ 7 + 2048 * ρ 8) (ρ 10) := c2 (P := (qRC 26 (tB (vw C h)))) (show (qRC 26 (tB (vw C h))) (((0) + ((1) * ρ 1 + ((4398046511104) * ρ 4 + ((35184372088832) * ρ 5 + ((4503599627370496) * ρ 6 + ((562949953421312) * ρ 7 + ((2048) * ρ 8 + 0)))))))) (((0) + ((1) * ρ 10 + 0))) from hP _ (List.mem_of_getElem? (i := 3) rfl)) (by omega) (by omega)
  obtain ⟨hkd, nv⟩ := k164 (n := ρ 1) (s := ρ 8) (by omega) (by omega) (by omega) (by omega) (by omega) p2
  have nx := k158 (n := ρ 1) (s := ρ 8) (t := ρ 2) (by omega) (by omega) (by omega) (by omega) (by omega) (by omega) p1
  have ng := nx_gt (B := (tB (vw C h))) (n := (ρ 1).toNat) (s := (ρ 8).toNat) (by omega)
  have hc0 := p3.1
  have hR := rc_el (n := ρ 1) (s := ρ 8) (d := (0 : Int)) (K := (0 : Int)) (R := (ρ 4 + 8 * ρ 5 + 1024 * ρ 6 + 128 * ρ 7)) p3 (by omega) (by omega) (by omega) (by omega) (by omega) (by omega) (by omega) (by omega) (by omega) (by omega)
  have q := sn_26 hR hkd (by omega) (by omega)
  refine ⟨_, List.mem_cons_self, ρ, fun _ _ => rfl, fun q hq => absurd hq List.not_mem_nil, trivial, fun f hf => ?_, fun q hq => absurd hq List.not_mem_nil, fun q hq => absurd hq List.not_mem_nil, fun q hq => absurd hq List.not_mem_nil, fun q hq => ?_⟩
  · simp only [List.mem_cons, List.not_mem_nil, or_false] at hf
    subst hf
    show (0 : Int) ≤ ((-1) + ((1) * ρ 2 + ((-1) * ρ 8 + 0)))
    omega
  · simp only [List.mem_cons, List.not_mem_nil, or_false] at hq
    rcases hq with rfl | rfl
    · show (qRC 27 (tB (vw C h))) (((0) + ((1) * ρ 1 + ((2048) * ρ 2 + ((4398046511104) * ρ 4 + ((35184372088832) * ρ 5 + ((4503599627370496) * ρ 6 + ((562949953421312) * ρ 7 + ((36028797018963968) * ρ 9 + 0))))))))) (((0) + ((1) * ρ 10 + 0)))
      refine c2 (P := (qRC 27 (tB (vw C h)))) (r := ρ 1 + 2048 * ρ 2 + 4398046511104 * ρ 4 + 35184372088832 * ρ 5 + 4503599627370496 * ρ 6 + 562949953421312 * ρ 7 + 36028797018963968 * ρ 9) (c := ρ 10) ?_ (by omega) (by omega)
      show (qRC 27 (tB (vw C h))) (ρ 1 + 2048 * ρ 2 + 4398046511104 * ρ 4 + 35184372088832 * ρ 5 + 4503599627370496 * ρ 6 + 562949953421312 * ρ 7 + 36028797018963968 * ρ 9) (ρ 10)
      exact rc_in (n := ρ 1) (s := ρ 2) (d := (0 : Int)) (K := (0 : Int)) (R := (ρ 4 + 8 * ρ 5 + 1024 * ρ 6 + 128 * ρ 7 + 8192 * ρ 9)) (by omega) (by omega) (by omega) (by omega) (by omega) (by omega) (by omega) (by omega) (by omega) (by omega) q (by omega) (by omega) (by omega) (by omega) (by omega)
    · show True
      refine c2 (P := (fun (_ _ : Int) => True)) (r := 0) (r' := 0) (c := 0) (c' := 0) ?_ rfl rfl
      show True
      trivial
/-- op27M -/
theorem lem_524_ok (hU : uqG G C) : lem_524.1.2.1 = [] ∧ lemOK (PRd G C D xs) G rgs lem_524 := by
  refine ⟨rfl, fun ρ h ha hT => ?_⟩
  obtain ⟨-, -, hF, hG, hH, hA, hP⟩ := ha
  have f0 : (0 : Int) ≤ ((0) + ((1) * ρ 1 + 0)) := hF _ (List.mem_of_getElem? (i := 0) rfl)
  have f1 : (0 : Int) ≤ ((1200) + ((-1) * ρ 1 + 0)) := hF _ (List.mem_of_getElem? (i := 1) rfl)
  have f2 : (0 : Int) ≤ ((0) + ((1) * ρ 2 + 0)) := hF _ (List.mem_of_getElem? (i := 2) rfl)
  have f3 : (0 : Int) ≤ ((0) + ((1) * ρ 1 + ((-1) * ρ 2 + 0))) := hF _ (List.mem_of_getElem? (i := 3) rfl)
  have f4 : (0 : Int) ≤ ((0) + ((1) * ρ 8 + 0)) := hF _ (List.mem_of_getElem? (i := 4) rfl)
  have f5 : (0 : Int) ≤ ((9999) + ((-1) * ρ 8 + 0)) := hF _ (List.mem_of_getElem? (i := 5) rfl)
  have f6 : (0 : Int) ≤ ((0) + ((1) * ρ 4 + 0)) := hF _ (List.mem_of_getElem? (i := 6) rfl)
  have f7 : (0 : Int) ≤ ((6) + ((-1) * ρ 4 + 0)) := hF _ (List.mem_of_getElem? (i := 7) rfl)
  have f8 : (0 : Int) ≤ ((0) + ((1) * ρ 5 + 0)) := hF _ (List.mem_of_getElem? (i := 8) rfl)
  have f9 : (0 : Int) ≤ ((8) + ((-1) * ρ 5 + 0)) := hF _ (List.mem_of_getElem? (i := 9) rfl)
  have f10 : (0 : Int) ≤ ((0) + ((1) * ρ 7 + 0)) := hF _ (List.mem_of_getElem? (i := 10) rfl)
  have f11 : (0 : Int) ≤ ((5) + ((-1) * ρ 7 + 0)) := hF _ (List.mem_of_getElem? (i := 11) rfl)
  have f12 : (0 : Int) ≤ ((0) + ((1) * ρ 6 + 0)) := hF _ (List.mem_of_getElem? (i := 12) rfl)
  have f13 : (0 : Int) ≤ ((4) + ((-1) * ρ 6 + 0)) := hF _ (List.mem_of_getElem? (i := 13) rfl)
  have g0 : G (ρ 0).toNat = 22 := by
    have q := (hG _ (List.mem_of_getElem? (i := 0) rfl)).2
    rwa [show ev ρ (0, [(0, 1)]) = ρ 0 from ev_v] at q
  have g1 : G (ρ 3).toNat = 124 := by
    have q := (hG _ (List.mem_of_getElem? (i := 1) rfl)).2
    rwa [show ev ρ (0, [(3, 1)]) = ρ 3 from ev_v] at q
  have h0 : (0 : Int) ≤ ρ 1 ∧ ρ 1 ≤ 1200 := hf_rg hT (hH _ (List.mem_of_getElem? (i := 0) rfl)) ev_v g0 rfl rfl rfl ev_v
  have h1 : (0 : Int) ≤ ρ 2 ∧ ρ 2 ≤ 1200 := hf_rg hT (hH _ (List.mem_of_getElem? (i := 1) rfl)) ev_v g0 rfl rfl rfl ev_v
  have b0 : (0 : Int) ≤ ((6) + 0) := b_aA (hA _ (List.mem_of_getElem? (i := 0) rfl))
  have b1 : (0 : Int) ≤ ((7) + 0) := b_aA (hA _ (List.mem_of_getElem? (i := 1) rfl))
  have b2 : (0 : Int) ≤ ((50) + 0) := b_aA (hA _ (List.mem_of_getElem? (i := 2) rfl))
  have a0 : vw C h 124 (6) = ρ 4 := vw_aA hU (hA _ (List.mem_of_getElem? (i := 0) rfl)) ev_v g1 (by omega) (by omega) (i := 6) (show (((6 : Nat)) : Int) = ((6) + 0) by omega) ev_v
  have a1 : vw C h 124 (7) = ρ 5 := vw_aA hU (hA _ (List.mem_of_getElem? (i := 1) rfl)) ev_v g1 (by omega) (by omega) (i := 7) (show (((7 : Nat)) : Int) = ((7) + 0) by omega) ev_v
  have a2 : vw C h 124 (50) = ρ 6 := vw_aA hU (hA _ (List.mem_of_getElem? (i := 2) rfl)) ev_v g1 (by omega) (by omega) (i := 50) (show (((50 : Nat)) : Int) = ((50) + 0) by omega) ev_v
  have p0 : P183 (vw C h) (ρ 5) (ρ 7) := c2 (P := P183 (vw C h)) (show P183 (vw C h) (((0) + ((1) * ρ 5 + 0))) (((0) + ((1) * ρ 7 + 0))) from hP _ (List.mem_of_getElem? (i := 0) rfl)) (by omega) (by omega)
  have p1 : True := c2 (P := (fun (_ _ : Int) => True)) (r := 0) (r' := 0) (c := 0) (c' := 0) (show True from hP _ (List.mem_of_getElem? (i := 1) rfl)) rfl rfl
  have p2 : (qRC 27 (tB (vw C h))) (ρ 1 + 2048 * ρ 2 + 4398046511104 * ρ 4 + 35184372088832 * ρ 5 + 4503599627370496 * ρ 6 + 562949953421312 * ρ 7 + 36028797018963968 * ρ 8) (ρ 9) := c2 (P := (qRC 27 (tB (vw C h)))) (show (qRC 27 (tB (vw C h))) (((0) + ((1) * ρ 1 + ((2048) * ρ 2 + ((4398046511104) * ρ 4 + ((35184372088832) * ρ 5 + ((4503599627370496) * ρ 6 + ((562949953421312) * ρ 7 + ((36028797018963968) * ρ 8 + 0))))))))) (((0) + ((1) * ρ 9 + 0))) from hP _ (List.mem_of_getElem? (i := 2) rfl)) (by omega) (by omega)
  have hc0 := p2.1
  have hR := rc_el (n := ρ 1) (s := ρ 2) (d := (0 : Int)) (K := (0 : Int)) (R := (ρ 4 + 8 * ρ 5 + 1024 * ρ 6 + 128 * ρ 7 + 8192 * ρ 8)) p2 (by omega) (by omega) (by omega) (by omega) (by omega) (by omega) (by omega) (by omega) (by omega) (by omega)
  refine ⟨_, List.mem_cons_self, ρ, fun _ _ => rfl, fun q hq => absurd hq List.not_mem_nil, trivial, fun f hf => ?_, fun q hq => absurd hq List.not_mem_nil, fun q hq => absurd hq List.not_mem_nil, fun q hq => absurd hq List.not_mem_nil, fun q hq => ?_⟩
  · exact absurd hf List.not_mem_nil
  · simp only [List.mem_cons, List.not_mem_nil, or_false] at hq
    subst hq
    show q163 (tB (vw C h)) (((68719476736) + ((1) * ρ 1 + ((2048) * ρ 2 + ((68719476736) * ρ 8 + 0)))))
    refine c2 (P := (fun r (_ : Int) => q163 (tB (vw C h)) r)) (c := 0) (c' := 0) (r := ρ 1 + 2048 * ρ 2 + 68719476736 * ρ 8 + 68719476736) ?_ (by omega) rfl
    show q163 (tB (vw C h)) (ρ 1 + 2048 * ρ 2 + 68719476736 * ρ 8 + 68719476736)
    exact o163 (n := ρ 1) (s := ρ 2) (lo := 0) (hi := ρ 8) (by omega) (by omega) (by omega) (by omega) (by omega) (by omega) (by omega) (by
      have q := fn_27 hR
      rw [show ((((ρ 4 + 8 * ρ 5 + 1024 * ρ 6 + 128 * ρ 7 + 8192 * ρ 8)).toNat / 8192 : Nat) : Int) = ρ 8 by omega] at q
      exact q)
/-- st27M -/
theorem lem_525_ok (hU : uqG G C) : lem_525.1.2.1 = [] ∧ lemOK (PRd G C D xs) G rgs lem_525 := by
  refine ⟨rfl, fun ρ h ha hT => ?_⟩
  obtain ⟨-, -, hF, hG, hH, hA, hP⟩ := ha
  have f0 : (0 : Int) ≤ ((0) + ((1) * ρ 1 + 0)) := hF _ (List.mem_of_getElem? (i := 0) rfl)
  have f1 : (0 : Int) ≤ ((1200) + ((-1) * ρ 1 + 0)) := hF _ (List.mem_of_getElem? (i := 1) rfl)
  have f2 : (0 : Int) ≤ ((0) + ((1) * ρ 2 + 0)) := hF _ (List.mem_of_getElem? (i := 2) rfl)
  have f3 : (0 : Int) ≤ ((0) + ((1) * ρ 1 + ((-1) * ρ 2 + 0))) := hF _ (List.mem_of_getElem? (i := 3) rfl)
  have f4 : (0 : Int) ≤ ((0) + ((1) * ρ 9 + 0)) := hF _ (List.mem_of_getElem? (i := 4) rfl)
  have f5 : (0 : Int) ≤ ((0) + ((1) * ρ 1 + ((-1) * ρ 9 + 0))) := hF _ (List.mem_of_getElem? (i := 5) rfl)
  have f6 : (0 : Int) ≤ ((0) + ((1) * ρ 8 + 0)) := hF _ (List.mem_of_getElem? (i := 6) rfl)
  have f7 : (0 : Int) ≤ ((9999) + ((-1) * ρ 8 + 0)) := hF _ (List.mem_of_getElem? (i := 7) rfl)
  have f8 : (0 : Int) ≤ ((0) + ((1) * ρ 10 + 0)) := hF _ (List.mem_of_getElem? (i := 8) rfl)
  have f9 : (0 : Int) ≤ ((0) + ((1) * ρ 8 + ((-1) * ρ 10 + 0))) := hF _ (List.mem_of_getElem? (i := 9) rfl)
  have f10 : (0 : Int) ≤ ((0) + ((1) * ρ 4 + 0)) := hF _ (List.mem_of_getElem? (i := 10) rfl)
  have f11 : (0 : Int) ≤ ((6) + ((-1) * ρ 4 + 0)) := hF _ (List.mem_of_getElem? (i := 11) rfl)
  have f12 : (0 : Int) ≤ ((0) + ((1) * ρ 5 + 0)) := hF _ (List.mem_of_getElem? (i := 12) rfl)
  have f13 : (0 : Int) ≤ ((8) + ((-1) * ρ 5 + 0)) := hF _ (List.mem_of_getElem? (i := 13) rfl)
  have f14 : (0 : Int) ≤ ((0) + ((1) * ρ 7 + 0)) := hF _ (List.mem_of_getElem? (i := 14) rfl)
  have f15 : (0 : Int) ≤ ((5) + ((-1) * ρ 7 + 0)) := hF _ (List.mem_of_getElem? (i := 15) rfl)
  have f16 : (0 : Int) ≤ ((0) + ((1) * ρ 6 + 0)) := hF _ (List.mem_of_getElem? (i := 16) rfl)
  have f17 : (0 : Int) ≤ ((4) + ((-1) * ρ 6 + 0)) := hF _ (List.mem_of_getElem? (i := 17) rfl)
  have g0 : G (ρ 0).toNat = 22 := by
    have q := (hG _ (List.mem_of_getElem? (i := 0) rfl)).2
    rwa [show ev ρ (0, [(0, 1)]) = ρ 0 from ev_v] at q
  have g1 : G (ρ 3).toNat = 124 := by
    have q := (hG _ (List.mem_of_getElem? (i := 1) rfl)).2
    rwa [show ev ρ (0, [(3, 1)]) = ρ 3 from ev_v] at q
  have h0 : (0 : Int) ≤ ρ 1 ∧ ρ 1 ≤ 1200 := hf_rg hT (hH _ (List.mem_of_getElem? (i := 0) rfl)) ev_v g0 rfl rfl rfl ev_v
  have h1 : (0 : Int) ≤ ρ 2 ∧ ρ 2 ≤ 1200 := hf_rg hT (hH _ (List.mem_of_getElem? (i := 1) rfl)) ev_v g0 rfl rfl rfl ev_v
  have b0 : (0 : Int) ≤ ((6) + 0) := b_aA (hA _ (List.mem_of_getElem? (i := 0) rfl))
  have b1 : (0 : Int) ≤ ((7) + 0) := b_aA (hA _ (List.mem_of_getElem? (i := 1) rfl))
  have b2 : (0 : Int) ≤ ((50) + 0) := b_aA (hA _ (List.mem_of_getElem? (i := 2) rfl))
  have a0 : vw C h 124 (6) = ρ 4 := vw_aA hU (hA _ (List.mem_of_getElem? (i := 0) rfl)) ev_v g1 (by omega) (by omega) (i := 6) (show (((6 : Nat)) : Int) = ((6) + 0) by omega) ev_v
  have a1 : vw C h 124 (7) = ρ 5 := vw_aA hU (hA _ (List.mem_of_getElem? (i := 1) rfl)) ev_v g1 (by omega) (by omega) (i := 7) (show (((7 : Nat)) : Int) = ((7) + 0) by omega) ev_v
  have a2 : vw C h 124 (50) = ρ 6 := vw_aA hU (hA _ (List.mem_of_getElem? (i := 2) rfl)) ev_v g1 (by omega) (by omega) (i := 50) (show (((50 : Nat)) : Int) = ((50) + 0) by omega) ev_v
  have p0 : P183 (vw C h) (ρ 5) (ρ 7) := c2 (P := P183 (vw C h)) (show P183 (vw C h) (((0) + ((1) * ρ 5 + 0))) (((0) + ((1) * ρ 7 + 0))) from hP _ (List.mem_of_getElem? (i := 0) rfl)) (by omega) (by omega)
  have p1 : True := c2 (P := (fun (_ _ : Int) => True)) (r := 0) (r' := 0) (c := 0) (c' := 0) (show True from hP _ (List.mem_of_getElem? (i := 1) rfl)) rfl rfl
  have p2 : q158 (tB (vw C h)) (ρ 1 + 2048 * ρ 2) (ρ 9) := c2 (P := q158 (tB (vw C h))) (show q158 (tB (vw C h)) (((0) + ((1) * ρ 1 + ((2048) * ρ 2 + 0)))) (((0) + ((1) * ρ 9 + 0))) from hP _ (List.mem_of_getElem? (i := 2) rfl)) (by omega) (by omega)
  have p3 : q164 (tB (vw C h)) (ρ 1 + 2048 * ρ 9) (ρ 10) := c2 (P := q164 (tB (vw C h))) (show q164 (tB (vw C h)) (((0) + ((1) * ρ 1 + ((2048) * ρ 9 + 0)))) (((0) + ((1) * ρ 10 + 0))) from hP _ (List.mem_of_getElem? (i := 3) rfl)) (by omega) (by omega)
  have p4 : (qRC 27 (tB (vw C h))) (ρ 1 + 4398046511104 * ρ 4 + 35184372088832 * ρ 5 + 4503599627370496 * ρ 6 + 562949953421312 * ρ 7 + 36028797018963968 * ρ 8 + 2048 * ρ 9) (ρ 11) := c2 (P := (qRC 27 (tB (vw C h)))) (show (qRC 27 (tB (vw C h))) (((0) + ((1) * ρ 1 + ((4398046511104) * ρ 4 + ((35184372088832) * ρ 5 + ((4503599627370496) * ρ 6 + ((562949953421312) * ρ 7 + ((36028797018963968) * ρ 8 + ((2048) * ρ 9 + 0))))))))) (((0) + ((1) * ρ 11 + 0))) from hP _ (List.mem_of_getElem? (i := 4) rfl)) (by omega) (by omega)
  obtain ⟨hkd, nv⟩ := k164 (n := ρ 1) (s := ρ 9) (by omega) (by omega) (by omega) (by omega) (by omega) p3
  have nx := k158 (n := ρ 1) (s := ρ 9) (t := ρ 2) (by omega) (by omega) (by omega) (by omega) (by omega) (by omega) p2
  have ng := nx_gt (B := (tB (vw C h))) (n := (ρ 1).toNat) (s := (ρ 9).toNat) (by omega)
  have hc0 := p4.1
  have hR := rc_el (n := ρ 1) (s := ρ 9) (d := (0 : Int)) (K := (0 : Int)) (R := (ρ 4 + 8 * ρ 5 + 1024 * ρ 6 + 128 * ρ 7 + 8192 * ρ 8)) p4 (by omega) (by omega) (by omega) (by omega) (by omega) (by omega) (by omega) (by omega) (by omega) (by omega)
  have q := sn_27 hR hkd (by omega) (by omega)
  refine ⟨_, List.mem_cons_self, ρ, fun _ _ => rfl, fun q hq => absurd hq List.not_mem_nil, trivial, fun f hf => ?_, fun q hq => absurd hq List.not_mem_nil, fun q hq => absurd hq List.not_mem_nil, fun q hq => absurd hq List.not_mem_nil, fun q hq => ?_⟩
  · simp only [List.mem_cons, List.not_mem_nil, or_false] at hf
    subst hf
    show (0 : Int) ≤ ((-1) + ((1) * ρ 2 + ((-1) * ρ 9 + 0)))
    omega
  · simp only [List.mem_cons, List.not_mem_nil, or_false] at hq
    subst hq
    show (qRC 28 (tB (vw C h))) (((0) + ((1) * ρ 1 + ((2048) * ρ 2 + ((4398046511104) * ρ 4 + ((35184372088832) * ρ 5 + ((4503599627370496) * ρ 6 + ((562949953421312) * ρ 7 + 0)))))))) (((0) + ((1) * ρ 11 + 0)))
    refine c2 (P := (qRC 28 (tB (vw C h)))) (r := ρ 1 + 2048 * ρ 2 + 4398046511104 * ρ 4 + 35184372088832 * ρ 5 + 4503599627370496 * ρ 6 + 562949953421312 * ρ 7) (c := ρ 11) ?_ (by omega) (by omega)
    show (qRC 28 (tB (vw C h))) (ρ 1 + 2048 * ρ 2 + 4398046511104 * ρ 4 + 35184372088832 * ρ 5 + 4503599627370496 * ρ 6 + 562949953421312 * ρ 7) (ρ 11)
    exact rc_in (n := ρ 1) (s := ρ 2) (d := (0 : Int)) (K := (0 : Int)) (R := (ρ 4 + 8 * ρ 5 + 1024 * ρ 6 + 128 * ρ 7)) (by omega) (by omega) (by omega) (by omega) (by omega) (by omega) (by omega) (by omega) (by omega) (by omega) q (by omega) (by omega) (by omega) (by omega) (by omega)
/-- op28M -/
theorem lem_526_ok (hU : uqG G C) : lem_526.1.2.1 = [] ∧ lemOK (PRd G C D xs) G rgs lem_526 := by
  refine ⟨rfl, fun ρ h ha hT => ?_⟩
  obtain ⟨-, -, hF, hG, hH, hA, hP⟩ := ha
  have f0 : (0 : Int) ≤ ((0) + ((1) * ρ 1 + 0)) := hF _ (List.mem_of_getElem? (i := 0) rfl)
  have f1 : (0 : Int) ≤ ((1200) + ((-1) * ρ 1 + 0)) := hF _ (List.mem_of_getElem? (i := 1) rfl)
  have f2 : (0 : Int) ≤ ((0) + ((1) * ρ 2 + 0)) := hF _ (List.mem_of_getElem? (i := 2) rfl)
  have f3 : (0 : Int) ≤ ((0) + ((1) * ρ 1 + ((-1) * ρ 2 + 0))) := hF _ (List.mem_of_getElem? (i := 3) rfl)
  have f4 : (0 : Int) ≤ ((0) + ((1) * ρ 4 + 0)) := hF _ (List.mem_of_getElem? (i := 4) rfl)
  have f5 : (0 : Int) ≤ ((6) + ((-1) * ρ 4 + 0)) := hF _ (List.mem_of_getElem? (i := 5) rfl)
  have f6 : (0 : Int) ≤ ((0) + ((1) * ρ 5 + 0)) := hF _ (List.mem_of_getElem? (i := 6) rfl)
  have f7 : (0 : Int) ≤ ((8) + ((-1) * ρ 5 + 0)) := hF _ (List.mem_of_getElem? (i := 7) rfl)
  have f8 : (0 : Int) ≤ ((0) + ((1) * ρ 7 + 0)) := hF _ (List.mem_of_getElem? (i := 8) rfl)
  have f9 : (0 : Int) ≤ ((5) + ((-1) * ρ 7 + 0)) := hF _ (List.mem_of_getElem? (i := 9) rfl)
  have f10 : (0 : Int) ≤ ((0) + ((1) * ρ 6 + 0)) := hF _ (List.mem_of_getElem? (i := 10) rfl)
  have f11 : (0 : Int) ≤ ((4) + ((-1) * ρ 6 + 0)) := hF _ (List.mem_of_getElem? (i := 11) rfl)
  have g0 : G (ρ 0).toNat = 22 := by
    have q := (hG _ (List.mem_of_getElem? (i := 0) rfl)).2
    rwa [show ev ρ (0, [(0, 1)]) = ρ 0 from ev_v] at q
  have g1 : G (ρ 3).toNat = 124 := by
    have q := (hG _ (List.mem_of_getElem? (i := 1) rfl)).2
    rwa [show ev ρ (0, [(3, 1)]) = ρ 3 from ev_v] at q
  have h0 : (0 : Int) ≤ ρ 1 ∧ ρ 1 ≤ 1200 := hf_rg hT (hH _ (List.mem_of_getElem? (i := 0) rfl)) ev_v g0 rfl rfl rfl ev_v
  have h1 : (0 : Int) ≤ ρ 2 ∧ ρ 2 ≤ 1200 := hf_rg hT (hH _ (List.mem_of_getElem? (i := 1) rfl)) ev_v g0 rfl rfl rfl ev_v
  have b0 : (0 : Int) ≤ ((6) + 0) := b_aA (hA _ (List.mem_of_getElem? (i := 0) rfl))
  have b1 : (0 : Int) ≤ ((7) + 0) := b_aA (hA _ (List.mem_of_getElem? (i := 1) rfl))
  have b2 : (0 : Int) ≤ ((50) + 0) := b_aA (hA _ (List.mem_of_getElem? (i := 2) rfl))
  have a0 : vw C h 124 (6) = ρ 4 := vw_aA hU (hA _ (List.mem_of_getElem? (i := 0) rfl)) ev_v g1 (by omega) (by omega) (i := 6) (show (((6 : Nat)) : Int) = ((6) + 0) by omega) ev_v
  have a1 : vw C h 124 (7) = ρ 5 := vw_aA hU (hA _ (List.mem_of_getElem? (i := 1) rfl)) ev_v g1 (by omega) (by omega) (i := 7) (show (((7 : Nat)) : Int) = ((7) + 0) by omega) ev_v
  have a2 : vw C h 124 (50) = ρ 6 := vw_aA hU (hA _ (List.mem_of_getElem? (i := 2) rfl)) ev_v g1 (by omega) (by omega) (i := 50) (show (((50 : Nat)) : Int) = ((50) + 0) by omega) ev_v
  have p0 : P183 (vw C h) (ρ 5) (ρ 7) := c2 (P := P183 (vw C h)) (show P183 (vw C h) (((0) + ((1) * ρ 5 + 0))) (((0) + ((1) * ρ 7 + 0))) from hP _ (List.mem_of_getElem? (i := 0) rfl)) (by omega) (by omega)
  have p1 : (qRC 28 (tB (vw C h))) (ρ 1 + 2048 * ρ 2 + 4398046511104 * ρ 4 + 35184372088832 * ρ 5 + 4503599627370496 * ρ 6 + 562949953421312 * ρ 7) (ρ 8) := c2 (P := (qRC 28 (tB (vw C h)))) (show (qRC 28 (tB (vw C h))) (((0) + ((1) * ρ 1 + ((2048) * ρ 2 + ((4398046511104) * ρ 4 + ((35184372088832) * ρ 5 + ((4503599627370496) * ρ 6 + ((562949953421312) * ρ 7 + 0)))))))) (((0) + ((1) * ρ 8 + 0))) from hP _ (List.mem_of_getElem? (i := 1) rfl)) (by omega) (by omega)
  have hc0 := p1.1
  have hR := rc_el (n := ρ 1) (s := ρ 2) (d := (0 : Int)) (K := (0 : Int)) (R := (ρ 4 + 8 * ρ 5 + 1024 * ρ 6 + 128 * ρ 7)) p1 (by omega) (by omega) (by omega) (by omega) (by omega) (by omega) (by omega) (by omega) (by omega) (by omega)
  refine ⟨_, List.mem_cons_self, ρ, fun _ _ => rfl, fun q hq => absurd hq List.not_mem_nil, trivial, fun f hf => ?_, fun q hq => absurd hq List.not_mem_nil, fun q hq => absurd hq List.not_mem_nil, fun q hq => absurd hq List.not_mem_nil, fun q hq => ?_⟩
  · exact absurd hf List.not_mem_nil
  · simp only [List.mem_cons, List.not_mem_nil, or_false] at hq
    subst hq
    show q163 (tB (vw C h)) (((137507672948736) + ((1) * ρ 1 + ((2048) * ρ 2 + 0))))
    refine c2 (P := (fun r (_ : Int) => q163 (tB (vw C h)) r)) (c := 0) (c' := 0) (r := ρ 1 + 2048 * ρ 2 + 137507672948736) ?_ (by omega) rfl
    show q163 (tB (vw C h)) (ρ 1 + 2048 * ρ 2 + 137507672948736)
    exact o163 (n := ρ 1) (s := ρ 2) (lo := 0) (hi := 2000) (by omega) (by omega) (by omega) (by omega) (by omega) (by omega) (by omega) (fn_28 hR)
/-- st28M -/
theorem lem_527_ok (hU : uqG G C) : lem_527.1.2.1 = [] ∧ lemOK (PRd G C D xs) G rgs lem_527 := by
  refine ⟨rfl, fun ρ h ha hT => ?_⟩
  obtain ⟨-, -, hF, hG, hH, hA, hP⟩ := ha
  have f0 : (0 : Int) ≤ ((0) + ((1) * ρ 1 + 0)) := hF _ (List.mem_of_getElem? (i := 0) rfl)
  have f1 : (0 : Int) ≤ ((1200) + ((-1) * ρ 1 + 0)) := hF _ (List.mem_of_getElem? (i := 1) rfl)
  have f2 : (0 : Int) ≤ ((0) + ((1) * ρ 2 + 0)) := hF _ (List.mem_of_getElem? (i := 2) rfl)
  have f3 : (0 : Int) ≤ ((0) + ((1) * ρ 1 + ((-1) * ρ 2 + 0))) := hF _ (List.mem_of_getElem? (i := 3) rfl)
  have f4 : (0 : Int) ≤ ((0) + ((1) * ρ 8 + 0)) := hF _ (List.mem_of_getElem? (i := 4) rfl)
  have f5 : (0 : Int) ≤ ((0) + ((1) * ρ 1 + ((-1) * ρ 8 + 0))) := hF _ (List.mem_of_getElem? (i := 5) rfl)
  have f6 : (0 : Int) ≤ ((0) + ((1) * ρ 9 + 0)) := hF _ (List.mem_of_getElem? (i := 6) rfl)
  have f7 : (0 : Int) ≤ ((2000) + ((-1) * ρ 9 + 0)) := hF _ (List.mem_of_getElem? (i := 7) rfl)
  have f8 : (0 : Int) ≤ ((0) + ((1) * ρ 4 + 0)) := hF _ (List.mem_of_getElem? (i := 8) rfl)
  have f9 : (0 : Int) ≤ ((6) + ((-1) * ρ 4 + 0)) := hF _ (List.mem_of_getElem? (i := 9) rfl)
  have f10 : (0 : Int) ≤ ((0) + ((1) * ρ 5 + 0)) := hF _ (List.mem_of_getElem? (i := 10) rfl)
  have f11 : (0 : Int) ≤ ((8) + ((-1) * ρ 5 + 0)) := hF _ (List.mem_of_getElem? (i := 11) rfl)
  have f12 : (0 : Int) ≤ ((0) + ((1) * ρ 7 + 0)) := hF _ (List.mem_of_getElem? (i := 12) rfl)
  have f13 : (0 : Int) ≤ ((5) + ((-1) * ρ 7 + 0)) := hF _ (List.mem_of_getElem? (i := 13) rfl)
  have f14 : (0 : Int) ≤ ((0) + ((1) * ρ 6 + 0)) := hF _ (List.mem_of_getElem? (i := 14) rfl)
  have f15 : (0 : Int) ≤ ((4) + ((-1) * ρ 6 + 0)) := hF _ (List.mem_of_getElem? (i := 15) rfl)
  have g0 : G (ρ 0).toNat = 22 := by
    have q := (hG _ (List.mem_of_getElem? (i := 0) rfl)).2
    rwa [show ev ρ (0, [(0, 1)]) = ρ 0 from ev_v] at q
  have g1 : G (ρ 3).toNat = 124 := by
    have q := (hG _ (List.mem_of_getElem? (i := 1) rfl)).2
    rwa [show ev ρ (0, [(3, 1)]) = ρ 3 from ev_v] at q
  have h0 : (0 : Int) ≤ ρ 1 ∧ ρ 1 ≤ 1200 := hf_rg hT (hH _ (List.mem_of_getElem? (i := 0) rfl)) ev_v g0 rfl rfl rfl ev_v
  have h1 : (0 : Int) ≤ ρ 2 ∧ ρ 2 ≤ 1200 := hf_rg hT (hH _ (List.mem_of_getElem? (i := 1) rfl)) ev_v g0 rfl rfl rfl ev_v
  have b0 : (0 : Int) ≤ ((6) + 0) := b_aA (hA _ (List.mem_of_getElem? (i := 0) rfl))
  have b1 : (0 : Int) ≤ ((7) + 0) := b_aA (hA _ (List.mem_of_getElem? (i := 1) rfl))
  have b2 : (0 : Int) ≤ ((50) + 0) := b_aA (hA _ (List.mem_of_getElem? (i := 2) rfl))
  have a0 : vw C h 124 (6) = ρ 4 := vw_aA hU (hA _ (List.mem_of_getElem? (i := 0) rfl)) ev_v g1 (by omega) (by omega) (i := 6) (show (((6 : Nat)) : Int) = ((6) + 0) by omega) ev_v
  have a1 : vw C h 124 (7) = ρ 5 := vw_aA hU (hA _ (List.mem_of_getElem? (i := 1) rfl)) ev_v g1 (by omega) (by omega) (i := 7) (show (((7 : Nat)) : Int) = ((7) + 0) by omega) ev_v
  have a2 : vw C h 124 (50) = ρ 6 := vw_aA hU (hA _ (List.mem_of_getElem? (i := 2) rfl)) ev_v g1 (by omega) (by omega) (i := 50) (show (((50 : Nat)) : Int) = ((50) + 0) by omega) ev_v
  have p0 : P183 (vw C h) (ρ 5) (ρ 7) := c2 (P := P183 (vw C h)) (show P183 (vw C h) (((0) + ((1) * ρ 5 + 0))) (((0) + ((1) * ρ 7 + 0))) from hP _ (List.mem_of_getElem? (i := 0) rfl)) (by omega) (by omega)
  have p1 : q158 (tB (vw C h)) (ρ 1 + 2048 * ρ 2) (ρ 8) := c2 (P := q158 (tB (vw C h))) (show q158 (tB (vw C h)) (((0) + ((1) * ρ 1 + ((2048) * ρ 2 + 0)))) (((0) + ((1) * ρ 8 + 0))) from hP _ (List.mem_of_getElem? (i := 1) rfl)) (by omega) (by omega)
  have p2 : q164 (tB (vw C h)) (ρ 1 + 2048 * ρ 8) (ρ 9) := c2 (P := q164 (tB (vw C h))) (show q164 (tB (vw C h)) (((0) + ((1) * ρ 1 + ((2048) * ρ 8 + 0)))) (((0) + ((1) * ρ 9 + 0))) from hP _ (List.mem_of_getElem? (i := 2) rfl)) (by omega) (by omega)
  have p3 : (qRC 28 (tB (vw C h))) (ρ 1 + 4398046511104 * ρ 4 + 35184372088832 * ρ 5 + 4503599627370496 * ρ 6 + 562949953421312 * ρ 7 + 2048 * ρ 8) (ρ 10) := c2 (P := (qRC 28 (tB (vw C h)))) (show (qRC 28 (tB (vw C h))) (((0) + ((1) * ρ 1 + ((4398046511104) * ρ 4 + ((35184372088832) * ρ 5 + ((4503599627370496) * ρ 6 + ((562949953421312) * ρ 7 + ((2048) * ρ 8 + 0)))))))) (((0) + ((1) * ρ 10 + 0))) from hP _ (List.mem_of_getElem? (i := 3) rfl)) (by omega) (by omega)
  obtain ⟨hkd, nv⟩ := k164 (n := ρ 1) (s := ρ 8) (by omega) (by omega) (by omega) (by omega) (by omega) p2
  have nx := k158 (n := ρ 1) (s := ρ 8) (t := ρ 2) (by omega) (by omega) (by omega) (by omega) (by omega) (by omega) p1
  have ng := nx_gt (B := (tB (vw C h))) (n := (ρ 1).toNat) (s := (ρ 8).toNat) (by omega)
  have hc0 := p3.1
  have hR := rc_el (n := ρ 1) (s := ρ 8) (d := (0 : Int)) (K := (0 : Int)) (R := (ρ 4 + 8 * ρ 5 + 1024 * ρ 6 + 128 * ρ 7)) p3 (by omega) (by omega) (by omega) (by omega) (by omega) (by omega) (by omega) (by omega) (by omega) (by omega)
  have q := sn_28 hR hkd (by omega) (by omega)
  refine ⟨_, List.mem_cons_self, ρ, fun _ _ => rfl, fun q hq => absurd hq List.not_mem_nil, trivial, fun f hf => ?_, fun q hq => absurd hq List.not_mem_nil, fun q hq => absurd hq List.not_mem_nil, fun q hq => absurd hq List.not_mem_nil, fun q hq => ?_⟩
  · simp only [List.mem_cons, List.not_mem_nil, or_false] at hf
    subst hf
    show (0 : Int) ≤ ((-1) + ((1) * ρ 2 + ((-1) * ρ 8 + 0)))
    omega
  · simp only [List.mem_cons, List.not_mem_nil, or_false] at hq
    subst hq
    show (qRC 29 (tB (vw C h))) (((0) + ((1) * ρ 1 + ((2048) * ρ 2 + ((4398046511104) * ρ 4 + ((35184372088832) * ρ 5 + ((4503599627370496) * ρ 6 + ((562949953421312) * ρ 7 + 0)))))))) (((0) + ((1) * ρ 10 + 0)))
    refine c2 (P := (qRC 29 (tB (vw C h)))) (r := ρ 1 + 2048 * ρ 2 + 4398046511104 * ρ 4 + 35184372088832 * ρ 5 + 4503599627370496 * ρ 6 + 562949953421312 * ρ 7) (c := ρ 10) ?_ (by omega) (by omega)
    show (qRC 29 (tB (vw C h))) (ρ 1 + 2048 * ρ 2 + 4398046511104 * ρ 4 + 35184372088832 * ρ 5 + 4503599627370496 * ρ 6 + 562949953421312 * ρ 7) (ρ 10)
    exact rc_in (n := ρ 1) (s := ρ 2) (d := (0 : Int)) (K := (0 : Int)) (R := (ρ 4 + 8 * ρ 5 + 1024 * ρ 6 + 128 * ρ 7)) (by omega) (by omega) (by omega) (by omega) (by omega) (by omega) (by omega) (by omega) (by omega) (by omega) q (by omega) (by omega) (by omega) (by omega) (by omega)
/-- op30M -/
theorem lem_528_ok (hU : uqG G C) : lem_528.1.2.1 = [] ∧ lemOK (PRd G C D xs) G rgs lem_528 := by
  refine ⟨rfl, fun ρ h ha hT => ?_⟩
  obtain ⟨-, -, hF, hG, hH, hA, hP⟩ := ha
  have f0 : (0 : Int) ≤ ((0) + ((1) * ρ 1 + 0)) := hF _ (List.mem_of_getElem? (i := 0) rfl)
  have f1 : (0 : Int) ≤ ((1200) + ((-1) * ρ 1 + 0)) := hF _ (List.mem_of_getElem? (i := 1) rfl)
  have f2 : (0 : Int) ≤ ((0) + ((1) * ρ 2 + 0)) := hF _ (List.mem_of_getElem? (i := 2) rfl)
  have f3 : (0 : Int) ≤ ((0) + ((1) * ρ 1 + ((-1) * ρ 2 + 0))) := hF _ (List.mem_of_getElem? (i := 3) rfl)
  have f4 : (0 : Int) ≤ ((0) + ((1) * ρ 4 + 0)) := hF _ (List.mem_of_getElem? (i := 4) rfl)
  have f5 : (0 : Int) ≤ ((6) + ((-1) * ρ 4 + 0)) := hF _ (List.mem_of_getElem? (i := 5) rfl)
  have f6 : (0 : Int) ≤ ((0) + ((1) * ρ 5 + 0)) := hF _ (List.mem_of_getElem? (i := 6) rfl)
  have f7 : (0 : Int) ≤ ((8) + ((-1) * ρ 5 + 0)) := hF _ (List.mem_of_getElem? (i := 7) rfl)
  have f8 : (0 : Int) ≤ ((0) + ((1) * ρ 7 + 0)) := hF _ (List.mem_of_getElem? (i := 8) rfl)
  have f9 : (0 : Int) ≤ ((5) + ((-1) * ρ 7 + 0)) := hF _ (List.mem_of_getElem? (i := 9) rfl)
  have f10 : (0 : Int) ≤ ((0) + ((1) * ρ 6 + 0)) := hF _ (List.mem_of_getElem? (i := 10) rfl)
  have f11 : (0 : Int) ≤ ((4) + ((-1) * ρ 6 + 0)) := hF _ (List.mem_of_getElem? (i := 11) rfl)
  have g0 : G (ρ 0).toNat = 22 := by
    have q := (hG _ (List.mem_of_getElem? (i := 0) rfl)).2
    rwa [show ev ρ (0, [(0, 1)]) = ρ 0 from ev_v] at q
  have g1 : G (ρ 3).toNat = 124 := by
    have q := (hG _ (List.mem_of_getElem? (i := 1) rfl)).2
    rwa [show ev ρ (0, [(3, 1)]) = ρ 3 from ev_v] at q
  have h0 : (0 : Int) ≤ ρ 1 ∧ ρ 1 ≤ 1200 := hf_rg hT (hH _ (List.mem_of_getElem? (i := 0) rfl)) ev_v g0 rfl rfl rfl ev_v
  have h1 : (0 : Int) ≤ ρ 2 ∧ ρ 2 ≤ 1200 := hf_rg hT (hH _ (List.mem_of_getElem? (i := 1) rfl)) ev_v g0 rfl rfl rfl ev_v
  have b0 : (0 : Int) ≤ ((6) + 0) := b_aA (hA _ (List.mem_of_getElem? (i := 0) rfl))
  have b1 : (0 : Int) ≤ ((7) + 0) := b_aA (hA _ (List.mem_of_getElem? (i := 1) rfl))
  have b2 : (0 : Int) ≤ ((50) + 0) := b_aA (hA _ (List.mem_of_getElem? (i := 2) rfl))
  have a0 : vw C h 124 (6) = ρ 4 := vw_aA hU (hA _ (List.mem_of_getElem? (i := 0) rfl)) ev_v g1 (by omega) (by omega) (i := 6) (show (((6 : Nat)) : Int) = ((6) + 0) by omega) ev_v
  have a1 : vw C h 124 (7) = ρ 5 := vw_aA hU (hA _ (List.mem_of_getElem? (i := 1) rfl)) ev_v g1 (by omega) (by omega) (i := 7) (show (((7 : Nat)) : Int) = ((7) + 0) by omega) ev_v
  have a2 : vw C h 124 (50) = ρ 6 := vw_aA hU (hA _ (List.mem_of_getElem? (i := 2) rfl)) ev_v g1 (by omega) (by omega) (i := 50) (show (((50 : Nat)) : Int) = ((50) + 0) by omega) ev_v
  have p0 : P183 (vw C h) (ρ 5) (ρ 7) := c2 (P := P183 (vw C h)) (show P183 (vw C h) (((0) + ((1) * ρ 5 + 0))) (((0) + ((1) * ρ 7 + 0))) from hP _ (List.mem_of_getElem? (i := 0) rfl)) (by omega) (by omega)
  have p1 : (qRC 30 (tB (vw C h))) (ρ 1 + 2048 * ρ 2 + 4398046511104 * ρ 4 + 35184372088832 * ρ 5 + 4503599627370496 * ρ 6 + 562949953421312 * ρ 7) (ρ 8) := c2 (P := (qRC 30 (tB (vw C h)))) (show (qRC 30 (tB (vw C h))) (((0) + ((1) * ρ 1 + ((2048) * ρ 2 + ((4398046511104) * ρ 4 + ((35184372088832) * ρ 5 + ((4503599627370496) * ρ 6 + ((562949953421312) * ρ 7 + 0)))))))) (((0) + ((1) * ρ 8 + 0))) from hP _ (List.mem_of_getElem? (i := 1) rfl)) (by omega) (by omega)
  have hc0 := p1.1
  have hR := rc_el (n := ρ 1) (s := ρ 2) (d := (0 : Int)) (K := (0 : Int)) (R := (ρ 4 + 8 * ρ 5 + 1024 * ρ 6 + 128 * ρ 7)) p1 (by omega) (by omega) (by omega) (by omega) (by omega) (by omega) (by omega) (by omega) (by omega) (by omega)
  refine ⟨_, List.mem_cons_self, ρ, fun _ _ => rfl, fun q hq => absurd hq List.not_mem_nil, trivial, fun f hf => ?_, fun q hq => absurd hq List.not_mem_nil, fun q hq => absurd hq List.not_mem_nil, fun q hq => absurd hq List.not_mem_nil, fun q hq => ?_⟩
  · exact absurd hf List.not_mem_nil
  · simp only [List.mem_cons, List.not_mem_nil, or_false] at hq
    subst hq
    show q163 (tB (vw C h)) (((2130307973120) + ((1) * ρ 1 + ((2048) * ρ 2 + 0))))
    refine c2 (P := (fun r (_ : Int) => q163 (tB (vw C h)) r)) (c := 0) (c' := 0) (r := ρ 1 + 2048 * ρ 2 + 2130307973120) ?_ (by omega) rfl
    show q163 (tB (vw C h)) (ρ 1 + 2048 * ρ 2 + 2130307973120)
    exact o163 (n := ρ 1) (s := ρ 2) (lo := 1) (hi := 30) (by omega) (by omega) (by omega) (by omega) (by omega) (by omega) (by omega) (fn_30 hR)
/-- st30M -/
theorem lem_529_ok (hU : uqG G C) : lem_529.1.2.1 = [] ∧ lemOK (PRd G C D xs) G rgs lem_529 := by
  refine ⟨rfl, fun ρ h ha hT => ?_⟩
  obtain ⟨-, -, hF, hG, hH, hA, hP⟩ := ha
  have f0 : (0 : Int) ≤ ((0) + ((1) * ρ 1 + 0)) := hF _ (List.mem_of_getElem? (i := 0) rfl)
  have f1 : (0 : Int) ≤ ((1200) + ((-1) * ρ 1 + 0)) := hF _ (List.mem_of_getElem? (i := 1) rfl)
  have f2 : (0 : Int) ≤ ((0) + ((1) * ρ 2 + 0)) := hF _ (List.mem_of_getElem? (i := 2) rfl)
  have f3 : (0 : Int) ≤ ((0) + ((1) * ρ 1 + ((-1) * ρ 2 + 0))) := hF _ (List.mem_of_getElem? (i := 3) rfl)
  have f4 : (0 : Int) ≤ ((0) + ((1) * ρ 8 + 0)) := hF _ (List.mem_of_getElem? (i := 4) rfl)
  have f5 : (0 : Int) ≤ ((0) + ((1) * ρ 1 + ((-1) * ρ 8 + 0))) := hF _ (List.mem_of_getElem? (i := 5) rfl)
  have f6 : (0 : Int) ≤ ((-1) + ((1) * ρ 9 + 0)) := hF _ (List.mem_of_getElem? (i := 6) rfl)
  have f7 : (0 : Int) ≤ ((30) + ((-1) * ρ 9 + 0)) := hF _ (List.mem_of_getElem? (i := 7) rfl)
  have f8 : (0 : Int) ≤ ((-1) + ((1) * ρ 5 + 0)) := hF _ (List.mem_of_getElem? (i := 8) rfl)
  have f9 : (0 : Int) ≤ ((0) + ((1) * ρ 4 + 0)) := hF _ (List.mem_of_getElem? (i := 9) rfl)
  have f10 : (0 : Int) ≤ ((6) + ((-1) * ρ 4 + 0)) := hF _ (List.mem_of_getElem? (i := 10) rfl)
  have f11 : (0 : Int) ≤ ((0) + ((1) * ρ 5 + 0)) := hF _ (List.mem_of_getElem? (i := 11) rfl)
  have f12 : (0 : Int) ≤ ((8) + ((-1) * ρ 5 + 0)) := hF _ (List.mem_of_getElem? (i := 12) rfl)
  have f13 : (0 : Int) ≤ ((0) + ((1) * ρ 7 + 0)) := hF _ (List.mem_of_getElem? (i := 13) rfl)
  have f14 : (0 : Int) ≤ ((5) + ((-1) * ρ 7 + 0)) := hF _ (List.mem_of_getElem? (i := 14) rfl)
  have f15 : (0 : Int) ≤ ((0) + ((1) * ρ 6 + 0)) := hF _ (List.mem_of_getElem? (i := 15) rfl)
  have f16 : (0 : Int) ≤ ((4) + ((-1) * ρ 6 + 0)) := hF _ (List.mem_of_getElem? (i := 16) rfl)
  have g0 : G (ρ 0).toNat = 22 := by
    have q := (hG _ (List.mem_of_getElem? (i := 0) rfl)).2
    rwa [show ev ρ (0, [(0, 1)]) = ρ 0 from ev_v] at q
  have g1 : G (ρ 3).toNat = 124 := by
    have q := (hG _ (List.mem_of_getElem? (i := 1) rfl)).2
    rwa [show ev ρ (0, [(3, 1)]) = ρ 3 from ev_v] at q
  have h0 : (0 : Int) ≤ ρ 1 ∧ ρ 1 ≤ 1200 := hf_rg hT (hH _ (List.mem_of_getElem? (i := 0) rfl)) ev_v g0 rfl rfl rfl ev_v
  have h1 : (0 : Int) ≤ ρ 2 ∧ ρ 2 ≤ 1200 := hf_rg hT (hH _ (List.mem_of_getElem? (i := 1) rfl)) ev_v g0 rfl rfl rfl ev_v
  have b0 : (0 : Int) ≤ ((6) + 0) := b_aA (hA _ (List.mem_of_getElem? (i := 0) rfl))
  have b1 : (0 : Int) ≤ ((7) + 0) := b_aA (hA _ (List.mem_of_getElem? (i := 1) rfl))
  have b2 : (0 : Int) ≤ ((50) + 0) := b_aA (hA _ (List.mem_of_getElem? (i := 2) rfl))
  have a0 : vw C h 124 (6) = ρ 4 := vw_aA hU (hA _ (List.mem_of_getElem? (i := 0) rfl)) ev_v g1 (by omega) (by omega) (i := 6) (show (((6 : Nat)) : Int) = ((6) + 0) by omega) ev_v
  have a1 : vw C h 124 (7) = ρ 5 := vw_aA hU (hA _ (List.mem_of_getElem? (i := 1) rfl)) ev_v g1 (by omega) (by omega) (i := 7) (show (((7 : Nat)) : Int) = ((7) + 0) by omega) ev_v
  have a2 : vw C h 124 (50) = ρ 6 := vw_aA hU (hA _ (List.mem_of_getElem? (i := 2) rfl)) ev_v g1 (by omega) (by omega) (i := 50) (show (((50 : Nat)) : Int) = ((50) + 0) by omega) ev_v
  have p0 : P183 (vw C h) (ρ 5) (ρ 7) := c2 (P := P183 (vw C h)) (show P183 (vw C h) (((0) + ((1) * ρ 5 + 0))) (((0) + ((1) * ρ 7 + 0))) from hP _ (List.mem_of_getElem? (i := 0) rfl)) (by omega) (by omega)
  have p1 : q158 (tB (vw C h)) (ρ 1 + 2048 * ρ 2) (ρ 8) := c2 (P := q158 (tB (vw C h))) (show q158 (tB (vw C h)) (((0) + ((1) * ρ 1 + ((2048) * ρ 2 + 0)))) (((0) + ((1) * ρ 8 + 0))) from hP _ (List.mem_of_getElem? (i := 1) rfl)) (by omega) (by omega)
  have p2 : q164 (tB (vw C h)) (ρ 1 + 2048 * ρ 8) (ρ 9) := c2 (P := q164 (tB (vw C h))) (show q164 (tB (vw C h)) (((0) + ((1) * ρ 1 + ((2048) * ρ 8 + 0)))) (((0) + ((1) * ρ 9 + 0))) from hP _ (List.mem_of_getElem? (i := 2) rfl)) (by omega) (by omega)
  have p3 : (qRC 30 (tB (vw C h))) (ρ 1 + 4398046511104 * ρ 4 + 35184372088832 * ρ 5 + 4503599627370496 * ρ 6 + 562949953421312 * ρ 7 + 2048 * ρ 8) (ρ 10) := c2 (P := (qRC 30 (tB (vw C h)))) (show (qRC 30 (tB (vw C h))) (((0) + ((1) * ρ 1 + ((4398046511104) * ρ 4 + ((35184372088832) * ρ 5 + ((4503599627370496) * ρ 6 + ((562949953421312) * ρ 7 + ((2048) * ρ 8 + 0)))))))) (((0) + ((1) * ρ 10 + 0))) from hP _ (List.mem_of_getElem? (i := 3) rfl)) (by omega) (by omega)
  obtain ⟨hkd, nv⟩ := k164 (n := ρ 1) (s := ρ 8) (by omega) (by omega) (by omega) (by omega) (by omega) p2
  have nx := k158 (n := ρ 1) (s := ρ 8) (t := ρ 2) (by omega) (by omega) (by omega) (by omega) (by omega) (by omega) p1
  have ng := nx_gt (B := (tB (vw C h))) (n := (ρ 1).toNat) (s := (ρ 8).toNat) (by omega)
  have hc0 := p3.1
  have hR := rc_el (n := ρ 1) (s := ρ 8) (d := (0 : Int)) (K := (0 : Int)) (R := (ρ 4 + 8 * ρ 5 + 1024 * ρ 6 + 128 * ρ 7)) p3 (by omega) (by omega) (by omega) (by omega) (by omega) (by omega) (by omega) (by omega) (by omega) (by omega)
  have q := sn_30 hR hkd (by omega) (by omega)
  obtain ⟨σ, r1, r2a⟩ : ∃ σ : Va, (∀ i, i < 11 → σ i = ρ i) ∧ σ 11 = ((newS (ρ 10).toNat ((ρ 4 + 8 * ρ 5 + 1024 * ρ 6 + 128 * ρ 7).toNat / 8 % 16 - 1) ((ρ 4 + 8 * ρ 5 + 1024 * ρ 6 + 128 * ρ 7).toNat / 128 % 8) (ρ 9).toNat : Nat) : Int) := ⟨fun i => if i = 11 then ((newS (ρ 10).toNat ((ρ 4 + 8 * ρ 5 + 1024 * ρ 6 + 128 * ρ 7).toNat / 8 % 16 - 1) ((ρ 4 + 8 * ρ 5 + 1024 * ρ 6 + 128 * ρ 7).toNat / 128 % 8) (ρ 9).toNat : Nat) : Int) else ρ i, fun i hi => by dsimp only; rw [if_neg (by omega)], by dsimp only; rw [if_pos rfl]⟩
  have s0 := r1 0 (by omega)
  have s1 := r1 1 (by omega)
  have s2 := r1 2 (by omega)
  have s3 := r1 3 (by omega)
  have s4 := r1 4 (by omega)
  have s5 := r1 5 (by omega)
  have s6 := r1 6 (by omega)
  have s7 := r1 7 (by omega)
  have s8 := r1 8 (by omega)
  have s9 := r1 9 (by omega)
  have s10 := r1 10 (by omega)
  refine ⟨_, List.mem_cons_self, σ, r1, fun q hq => absurd hq List.not_mem_nil, trivial, fun f hf => ?_, fun q hq => absurd hq List.not_mem_nil, fun q hq => absurd hq List.not_mem_nil, fun q hq => absurd hq List.not_mem_nil, fun q hq => ?_⟩
  · simp only [List.mem_cons, List.not_mem_nil, or_false] at hf
    subst hf
    show (0 : Int) ≤ ((-1) + ((1) * σ 2 + ((-1) * σ 8 + 0)))
    omega
  · simp only [List.mem_cons, List.not_mem_nil, or_false] at hq
    rcases hq with rfl | rfl
    · show (qRC 15 (tB (vw C h))) (((562949953421312) + ((1) * σ 1 + ((2048) * σ 2 + ((4398046511104) * σ 4 + ((35184372088832) * σ 5 + ((4503599627370496) * σ 6 + ((562949953421312) * σ 7 + 0)))))))) (((0) + ((1) * σ 11 + 0)))
      refine c2 (P := (qRC 15 (tB (vw C h)))) (r := ρ 1 + 2048 * ρ 2 + 4398046511104 * ρ 4 + 35184372088832 * ρ 5 + 4503599627370496 * ρ 6 + 562949953421312 * ρ 7 + 562949953421312) (c := ((newS (ρ 10).toNat ((ρ 4 + 8 * ρ 5 + 1024 * ρ 6 + 128 * ρ 7).toNat / 8 % 16 - 1) ((ρ 4 + 8 * ρ 5 + 1024 * ρ 6 + 128 * ρ 7).toNat / 128 % 8) (ρ 9).toNat : Nat) : Int)) ?_ (by omega) (by omega)
      show (qRC 15 (tB (vw C h))) (ρ 1 + 2048 * ρ 2 + 4398046511104 * ρ 4 + 35184372088832 * ρ 5 + 4503599627370496 * ρ 6 + 562949953421312 * ρ 7 + 562949953421312) (((newS (ρ 10).toNat ((ρ 4 + 8 * ρ 5 + 1024 * ρ 6 + 128 * ρ 7).toNat / 8 % 16 - 1) ((ρ 4 + 8 * ρ 5 + 1024 * ρ 6 + 128 * ρ 7).toNat / 128 % 8) (ρ 9).toNat : Nat) : Int))
      exact rc_in (n := ρ 1) (s := ρ 2) (d := (0 : Int)) (K := (0 : Int)) (R := (ρ 4 + 8 * ρ 5 + 1024 * ρ 6 + 128 * ρ 7 + 128)) (by omega) (by omega) (by omega) (by omega) (by omega) (by omega) (by omega) (by omega) (by omega) (by omega) q (by omega) (by omega) (by omega) (by omega) (by rw [nv])
    · show qNS (((0) + ((512) * σ 5 + ((64) * σ 7 + ((1) * σ 9 + ((4096) * σ 10 + 0)))))) (((0) + ((1) * σ 11 + 0)))
      refine c2 (P := qNS) (r := 512 * ρ 5 + 64 * ρ 7 + ρ 9 + 4096 * ρ 10) (c := ((newS (ρ 10).toNat ((ρ 4 + 8 * ρ 5 + 1024 * ρ 6 + 128 * ρ 7).toNat / 8 % 16 - 1) ((ρ 4 + 8 * ρ 5 + 1024 * ρ 6 + 128 * ρ 7).toNat / 128 % 8) (ρ 9).toNat : Nat) : Int)) ?_ (by omega) (by omega)
      show qNS (512 * ρ 5 + 64 * ρ 7 + ρ 9 + 4096 * ρ 10) (((newS (ρ 10).toNat ((ρ 4 + 8 * ρ 5 + 1024 * ρ 6 + 128 * ρ 7).toNat / 8 % 16 - 1) ((ρ 4 + 8 * ρ 5 + 1024 * ρ 6 + 128 * ρ 7).toNat / 128 % 8) (ρ 9).toNat : Nat) : Int))
      exact oNS (a := ρ 10) (m := (ρ 4 + 8 * ρ 5 + 1024 * ρ 6 + 128 * ρ 7).toNat / 8 % 16 - 1) (s := (ρ 4 + 8 * ρ 5 + 1024 * ρ 6 + 128 * ρ 7).toNat / 128 % 8) (v := (ρ 9).toNat) (by omega) (by omega) (by omega) (by omega) rfl
/-- semiM -/
theorem lem_530_ok (hU : uqG G C) : lem_530.1.2.1 = [] ∧ lemOK (PRd G C D xs) G rgs lem_530 := by
  refine ⟨rfl, fun ρ h ha hT => ?_⟩
  obtain ⟨-, -, hF, hG, hH, hA, hP⟩ := ha
  have f0 : (0 : Int) ≤ ((0) + ((1) * ρ 1 + 0)) := hF _ (List.mem_of_getElem? (i := 0) rfl)
  have f1 : (0 : Int) ≤ ((1200) + ((-1) * ρ 1 + 0)) := hF _ (List.mem_of_getElem? (i := 1) rfl)
  have f2 : (0 : Int) ≤ ((0) + ((1) * ρ 2 + 0)) := hF _ (List.mem_of_getElem? (i := 2) rfl)
  have f3 : (0 : Int) ≤ ((0) + ((1) * ρ 1 + ((-1) * ρ 2 + 0))) := hF _ (List.mem_of_getElem? (i := 3) rfl)
  have f4 : (0 : Int) ≤ ((0) + ((1) * ρ 8 + 0)) := hF _ (List.mem_of_getElem? (i := 4) rfl)
  have f5 : (0 : Int) ≤ ((0) + ((1) * ρ 1 + ((-1) * ρ 8 + 0))) := hF _ (List.mem_of_getElem? (i := 5) rfl)
  have f6 : (0 : Int) ≤ ((0) + ((1) * ρ 4 + 0)) := hF _ (List.mem_of_getElem? (i := 6) rfl)
  have f7 : (0 : Int) ≤ ((6) + ((-1) * ρ 4 + 0)) := hF _ (List.mem_of_getElem? (i := 7) rfl)
  have f8 : (0 : Int) ≤ ((0) + ((1) * ρ 5 + 0)) := hF _ (List.mem_of_getElem? (i := 8) rfl)
  have f9 : (0 : Int) ≤ ((8) + ((-1) * ρ 5 + 0)) := hF _ (List.mem_of_getElem? (i := 9) rfl)
  have f10 : (0 : Int) ≤ ((0) + ((1) * ρ 7 + 0)) := hF _ (List.mem_of_getElem? (i := 10) rfl)
  have f11 : (0 : Int) ≤ ((5) + ((-1) * ρ 7 + 0)) := hF _ (List.mem_of_getElem? (i := 11) rfl)
  have f12 : (0 : Int) ≤ ((0) + ((1) * ρ 6 + 0)) := hF _ (List.mem_of_getElem? (i := 12) rfl)
  have f13 : (0 : Int) ≤ ((4) + ((-1) * ρ 6 + 0)) := hF _ (List.mem_of_getElem? (i := 13) rfl)
  have g0 : G (ρ 0).toNat = 22 := by
    have q := (hG _ (List.mem_of_getElem? (i := 0) rfl)).2
    rwa [show ev ρ (0, [(0, 1)]) = ρ 0 from ev_v] at q
  have g1 : G (ρ 3).toNat = 124 := by
    have q := (hG _ (List.mem_of_getElem? (i := 1) rfl)).2
    rwa [show ev ρ (0, [(3, 1)]) = ρ 3 from ev_v] at q
  have h0 : (0 : Int) ≤ ρ 1 ∧ ρ 1 ≤ 1200 := hf_rg hT (hH _ (List.mem_of_getElem? (i := 0) rfl)) ev_v g0 rfl rfl rfl ev_v
  have h1 : (0 : Int) ≤ ρ 2 ∧ ρ 2 ≤ 1200 := hf_rg hT (hH _ (List.mem_of_getElem? (i := 1) rfl)) ev_v g0 rfl rfl rfl ev_v
  have b0 : (0 : Int) ≤ ((6) + 0) := b_aA (hA _ (List.mem_of_getElem? (i := 0) rfl))
  have b1 : (0 : Int) ≤ ((7) + 0) := b_aA (hA _ (List.mem_of_getElem? (i := 1) rfl))
  have b2 : (0 : Int) ≤ ((50) + 0) := b_aA (hA _ (List.mem_of_getElem? (i := 2) rfl))
  have a0 : vw C h 124 (6) = ρ 4 := vw_aA hU (hA _ (List.mem_of_getElem? (i := 0) rfl)) ev_v g1 (by omega) (by omega) (i := 6) (show (((6 : Nat)) : Int) = ((6) + 0) by omega) ev_v
  have a1 : vw C h 124 (7) = ρ 5 := vw_aA hU (hA _ (List.mem_of_getElem? (i := 1) rfl)) ev_v g1 (by omega) (by omega) (i := 7) (show (((7 : Nat)) : Int) = ((7) + 0) by omega) ev_v
  have a2 : vw C h 124 (50) = ρ 6 := vw_aA hU (hA _ (List.mem_of_getElem? (i := 2) rfl)) ev_v g1 (by omega) (by omega) (i := 50) (show (((50 : Nat)) : Int) = ((50) + 0) by omega) ev_v
  have p0 : P183 (vw C h) (ρ 5) (ρ 7) := c2 (P := P183 (vw C h)) (show P183 (vw C h) (((0) + ((1) * ρ 5 + 0))) (((0) + ((1) * ρ 7 + 0))) from hP _ (List.mem_of_getElem? (i := 0) rfl)) (by omega) (by omega)
  have p1 : q158 (tB (vw C h)) (ρ 1 + 2048 * ρ 2) (ρ 8) := c2 (P := q158 (tB (vw C h))) (show q158 (tB (vw C h)) (((0) + ((1) * ρ 1 + ((2048) * ρ 2 + 0)))) (((0) + ((1) * ρ 8 + 0))) from hP _ (List.mem_of_getElem? (i := 1) rfl)) (by omega) (by omega)
  have p2 : q160 (tB (vw C h)) (ρ 1 + 2048 * ρ 8 + 247463936) ((1 : Int)) := c2 (P := q160 (tB (vw C h))) (show q160 (tB (vw C h)) (((247463936) + ((1) * ρ 1 + ((2048) * ρ 8 + 0)))) (((1) + 0)) from hP _ (List.mem_of_getElem? (i := 2) rfl)) (by omega) (by omega)
  have p3 : (qRC 15 (tB (vw C h))) (ρ 1 + 4398046511104 * ρ 4 + 35184372088832 * ρ 5 + 4503599627370496 * ρ 6 + 562949953421312 * ρ 7 + 2048 * ρ 8) (ρ 9) := c2 (P := (qRC 15 (tB (vw C h)))) (show (qRC 15 (tB (vw C h))) (((0) + ((1) * ρ 1 + ((4398046511104) * ρ 4 + ((35184372088832) * ρ 5 + ((4503599627370496) * ρ 6 + ((562949953421312) * ρ 7 + ((2048) * ρ 8 + 0)))))))) (((0) + ((1) * ρ 9 + 0))) from hP _ (List.mem_of_getElem? (i := 3) rfl)) (by omega) (by omega)
  have is59 : tSgB (tB (vw C h)) (ρ 1).toNat (ρ 8).toNat 59 = true := b01_1 (k160 (n := ρ 1) (s := ρ 8) (c := 59) (by omega) (by omega) (by omega) (by omega) (by omega) (by omega) p2)
  have hkd := (sg_el.mp is59).1
  have nx := k158 (n := ρ 1) (s := ρ 8) (t := ρ 2) (by omega) (by omega) (by omega) (by omega) (by omega) (by omega) p1
  have ng := nx_gt (B := (tB (vw C h))) (n := (ρ 1).toNat) (s := (ρ 8).toNat) (by omega)
  have hc0 := p3.1
  have hR := rc_el (n := ρ 1) (s := ρ 8) (d := (0 : Int)) (K := (0 : Int)) (R := (ρ 4 + 8 * ρ 5 + 1024 * ρ 6 + 128 * ρ 7)) p3 (by omega) (by omega) (by omega) (by omega) (by omega) (by omega) (by omega) (by omega) (by omega) (by omega)
  have q := g_semi hR is59
  refine ⟨_, List.mem_cons_self, ρ, fun _ _ => rfl, fun q hq => absurd hq List.not_mem_nil, trivial, fun f hf => ?_, fun q hq => absurd hq List.not_mem_nil, fun q hq => absurd hq List.not_mem_nil, fun q hq => absurd hq List.not_mem_nil, fun q hq => ?_⟩
  · simp only [List.mem_cons, List.not_mem_nil, or_false] at hf
    subst hf
    show (0 : Int) ≤ ((-1) + ((1) * ρ 2 + ((-1) * ρ 8 + 0)))
    omega
  · simp only [List.mem_cons, List.not_mem_nil, or_false] at hq
    subst hq
    show (qRC 16 (tB (vw C h))) (((0) + ((1) * ρ 1 + ((2048) * ρ 2 + ((4398046511104) * ρ 4 + ((35184372088832) * ρ 5 + ((4503599627370496) * ρ 6 + ((562949953421312) * ρ 7 + 0)))))))) (((0) + ((1) * ρ 9 + 0)))
    refine c2 (P := (qRC 16 (tB (vw C h)))) (r := ρ 1 + 2048 * ρ 2 + 4398046511104 * ρ 4 + 35184372088832 * ρ 5 + 4503599627370496 * ρ 6 + 562949953421312 * ρ 7) (c := ρ 9) ?_ (by omega) (by omega)
    show (qRC 16 (tB (vw C h))) (ρ 1 + 2048 * ρ 2 + 4398046511104 * ρ 4 + 35184372088832 * ρ 5 + 4503599627370496 * ρ 6 + 562949953421312 * ρ 7) (ρ 9)
    exact rc_in (n := ρ 1) (s := ρ 2) (d := (0 : Int)) (K := (0 : Int)) (R := (ρ 4 + 8 * ρ 5 + 1024 * ρ 6 + 128 * ρ 7)) (by omega) (by omega) (by omega) (by omega) (by omega) (by omega) (by omega) (by omega) (by omega) (by omega) q (by omega) (by omega) (by omega) (by omega) (by omega)
/-- endLoM -/
theorem lem_531_ok (hU : uqG G C) : lem_531.1.2.1 = [] ∧ lemOK (PRd G C D xs) G rgs lem_531 := by
  refine ⟨rfl, fun ρ h ha hT => ?_⟩
  obtain ⟨-, -, hF, hG, hH, hA, hP⟩ := ha
  have f0 : (0 : Int) ≤ ((0) + ((1) * ρ 1 + 0)) := hF _ (List.mem_of_getElem? (i := 0) rfl)
  have f1 : (0 : Int) ≤ ((1200) + ((-1) * ρ 1 + 0)) := hF _ (List.mem_of_getElem? (i := 1) rfl)
  have f2 : (0 : Int) ≤ ((0) + ((1) * ρ 2 + 0)) := hF _ (List.mem_of_getElem? (i := 2) rfl)
  have f3 : (0 : Int) ≤ ((0) + ((1) * ρ 1 + ((-1) * ρ 2 + 0))) := hF _ (List.mem_of_getElem? (i := 3) rfl)
  have f4 : (0 : Int) ≤ ((0) + ((-1) * ρ 3 + 0)) := hF _ (List.mem_of_getElem? (i := 4) rfl)
  have f5 : (0 : Int) ≤ ((0) + ((1) * ρ 5 + 0)) := hF _ (List.mem_of_getElem? (i := 5) rfl)
  have f6 : (0 : Int) ≤ ((6) + ((-1) * ρ 5 + 0)) := hF _ (List.mem_of_getElem? (i := 6) rfl)
  have f7 : (0 : Int) ≤ ((0) + ((1) * ρ 6 + 0)) := hF _ (List.mem_of_getElem? (i := 7) rfl)
  have f8 : (0 : Int) ≤ ((8) + ((-1) * ρ 6 + 0)) := hF _ (List.mem_of_getElem? (i := 8) rfl)
  have f9 : (0 : Int) ≤ ((0) + ((1) * ρ 8 + 0)) := hF _ (List.mem_of_getElem? (i := 9) rfl)
  have f10 : (0 : Int) ≤ ((5) + ((-1) * ρ 8 + 0)) := hF _ (List.mem_of_getElem? (i := 10) rfl)
  have f11 : (0 : Int) ≤ ((0) + ((1) * ρ 7 + 0)) := hF _ (List.mem_of_getElem? (i := 11) rfl)
  have f12 : (0 : Int) ≤ ((4) + ((-1) * ρ 7 + 0)) := hF _ (List.mem_of_getElem? (i := 12) rfl)
  have g0 : G (ρ 0).toNat = 22 := by
    have q := (hG _ (List.mem_of_getElem? (i := 0) rfl)).2
    rwa [show ev ρ (0, [(0, 1)]) = ρ 0 from ev_v] at q
  have g1 : G (ρ 4).toNat = 124 := by
    have q := (hG _ (List.mem_of_getElem? (i := 1) rfl)).2
    rwa [show ev ρ (0, [(4, 1)]) = ρ 4 from ev_v] at q
  have h0 : (0 : Int) ≤ ρ 1 ∧ ρ 1 ≤ 1200 := hf_rg hT (hH _ (List.mem_of_getElem? (i := 0) rfl)) ev_v g0 rfl rfl rfl ev_v
  have h1 : (0 : Int) ≤ ρ 2 ∧ ρ 2 ≤ 1200 := hf_rg hT (hH _ (List.mem_of_getElem? (i := 1) rfl)) ev_v g0 rfl rfl rfl ev_v
  have b0 : (0 : Int) ≤ ((6) + 0) := b_aA (hA _ (List.mem_of_getElem? (i := 0) rfl))
  have b1 : (0 : Int) ≤ ((7) + 0) := b_aA (hA _ (List.mem_of_getElem? (i := 1) rfl))
  have b2 : (0 : Int) ≤ ((50) + 0) := b_aA (hA _ (List.mem_of_getElem? (i := 2) rfl))
  have a0 : vw C h 124 (6) = ρ 5 := vw_aA hU (hA _ (List.mem_of_getElem? (i := 0) rfl)) ev_v g1 (by omega) (by omega) (i := 6) (show (((6 : Nat)) : Int) = ((6) + 0) by omega) ev_v
  have a1 : vw C h 124 (7) = ρ 6 := vw_aA hU (hA _ (List.mem_of_getElem? (i := 1) rfl)) ev_v g1 (by omega) (by omega) (i := 7) (show (((7 : Nat)) : Int) = ((7) + 0) by omega) ev_v
  have a2 : vw C h 124 (50) = ρ 7 := vw_aA hU (hA _ (List.mem_of_getElem? (i := 2) rfl)) ev_v g1 (by omega) (by omega) (i := 50) (show (((50 : Nat)) : Int) = ((50) + 0) by omega) ev_v
  have p0 : P183 (vw C h) (ρ 6) (ρ 8) := c2 (P := P183 (vw C h)) (show P183 (vw C h) (((0) + ((1) * ρ 6 + 0))) (((0) + ((1) * ρ 8 + 0))) from hP _ (List.mem_of_getElem? (i := 0) rfl)) (by omega) (by omega)
  have p1 : q160 (tB (vw C h)) (ρ 1 + 2048 * ρ 2 + 247463936) ((0 : Int)) := c2 (P := q160 (tB (vw C h))) (show q160 (tB (vw C h)) (((247463936) + ((1) * ρ 1 + ((2048) * ρ 2 + 0)))) (((0) + 0)) from hP _ (List.mem_of_getElem? (i := 1) rfl)) (by omega) (by omega)
  have p2 : q180 (tB (vw C h)) (ρ 1 + 2048 * ρ 2) (ρ 3) := c2 (P := q180 (tB (vw C h))) (show q180 (tB (vw C h)) (((0) + ((1) * ρ 1 + ((2048) * ρ 2 + 0)))) (((0) + ((1) * ρ 3 + 0))) from hP _ (List.mem_of_getElem? (i := 2) rfl)) (by omega) (by omega)
  have p3 : (qRC 15 (tB (vw C h))) (ρ 1 + 2048 * ρ 2 + 4398046511104 * ρ 5 + 35184372088832 * ρ 6 + 4503599627370496 * ρ 7 + 562949953421312 * ρ 8) (ρ 9) := c2 (P := (qRC 15 (tB (vw C h)))) (show (qRC 15 (tB (vw C h))) (((0) + ((1) * ρ 1 + ((2048) * ρ 2 + ((4398046511104) * ρ 5 + ((35184372088832) * ρ 6 + ((4503599627370496) * ρ 7 + ((562949953421312) * ρ 8 + 0)))))))) (((0) + ((1) * ρ 9 + 0))) from hP _ (List.mem_of_getElem? (i := 3) rfl)) (by omega) (by omega)
  have is59 : tSgB (tB (vw C h)) (ρ 1).toNat (ρ 2).toNat 59 = false := b01_0 (k160 (n := ρ 1) (s := ρ 2) (c := 59) (by omega) (by omega) (by omega) (by omega) (by omega) (by omega) p1)
  obtain ⟨kk, kx⟩ := k180 (n := ρ 1) (s := ρ 2) (by omega) (by omega) (by omega) (by omega) (by omega) p2
  have hc0 := p3.1
  have hR := rc_el (n := ρ 1) (s := ρ 2) (d := (0 : Int)) (K := (0 : Int)) (R := (ρ 5 + 8 * ρ 6 + 1024 * ρ 7 + 128 * ρ 8)) p3 (by omega) (by omega) (by omega) (by omega) (by omega) (by omega) (by omega) (by omega) (by omega) (by omega)
  have q := o_end hR is59 (by omega)
  refine ⟨_, List.mem_cons_self, ρ, fun _ _ => rfl, fun q hq => absurd hq List.not_mem_nil, trivial, fun f hf => ?_, fun q hq => absurd hq List.not_mem_nil, fun q hq => absurd hq List.not_mem_nil, fun q hq => absurd hq List.not_mem_nil, fun q hq => ?_⟩
  · exact absurd hf List.not_mem_nil
  · simp only [List.mem_cons, List.not_mem_nil, or_false] at hq
    subst hq
    show q166 (tB (vw C h)) (((0) + ((1) * ρ 1 + 0))) (((4096) + ((1) * ρ 2 + 0)))
    refine c2 (P := q166 (tB (vw C h))) (r := ρ 1) (c := ρ 2 + 4096) ?_ (by omega) (by omega)
    show q166 (tB (vw C h)) (ρ 1) (ρ 2 + 4096)
    exact o166 (k := 4096) (n := ρ 1) (s := ρ 2) (by omega) q (by omega) rfl (by omega)
/-- endHiM -/
theorem lem_532_ok (hU : uqG G C) : lem_532.1.2.1 = [] ∧ lemOK (PRd G C D xs) G rgs lem_532 := by
  refine ⟨rfl, fun ρ h ha hT => ?_⟩
  obtain ⟨-, -, hF, hG, hH, hA, hP⟩ := ha
  have f0 : (0 : Int) ≤ ((0) + ((1) * ρ 1 + 0)) := hF _ (List.mem_of_getElem? (i := 0) rfl)
  have f1 : (0 : Int) ≤ ((1200) + ((-1) * ρ 1 + 0)) := hF _ (List.mem_of_getElem? (i := 1) rfl)
  have f2 : (0 : Int) ≤ ((0) + ((1) * ρ 2 + 0)) := hF _ (List.mem_of_getElem? (i := 2) rfl)
  have f3 : (0 : Int) ≤ ((0) + ((1) * ρ 1 + ((-1) * ρ 2 + 0))) := hF _ (List.mem_of_getElem? (i := 3) rfl)
  have f4 : (0 : Int) ≤ ((-2) + ((1) * ρ 3 + 0)) := hF _ (List.mem_of_getElem? (i := 4) rfl)
  have f5 : (0 : Int) ≤ ((0) + ((1) * ρ 5 + 0)) := hF _ (List.mem_of_getElem? (i := 5) rfl)
  have f6 : (0 : Int) ≤ ((6) + ((-1) * ρ 5 + 0)) := hF _ (List.mem_of_getElem? (i := 6) rfl)
  have f7 : (0 : Int) ≤ ((0) + ((1) * ρ 6 + 0)) := hF _ (List.mem_of_getElem? (i := 7) rfl)
  have f8 : (0 : Int) ≤ ((8) + ((-1) * ρ 6 + 0)) := hF _ (List.mem_of_getElem? (i := 8) rfl)
  have f9 : (0 : Int) ≤ ((0) + ((1) * ρ 8 + 0)) := hF _ (List.mem_of_getElem? (i := 9) rfl)
  have f10 : (0 : Int) ≤ ((5) + ((-1) * ρ 8 + 0)) := hF _ (List.mem_of_getElem? (i := 10) rfl)
  have f11 : (0 : Int) ≤ ((0) + ((1) * ρ 7 + 0)) := hF _ (List.mem_of_getElem? (i := 11) rfl)
  have f12 : (0 : Int) ≤ ((4) + ((-1) * ρ 7 + 0)) := hF _ (List.mem_of_getElem? (i := 12) rfl)
  have g0 : G (ρ 0).toNat = 22 := by
    have q := (hG _ (List.mem_of_getElem? (i := 0) rfl)).2
    rwa [show ev ρ (0, [(0, 1)]) = ρ 0 from ev_v] at q
  have g1 : G (ρ 4).toNat = 124 := by
    have q := (hG _ (List.mem_of_getElem? (i := 1) rfl)).2
    rwa [show ev ρ (0, [(4, 1)]) = ρ 4 from ev_v] at q
  have h0 : (0 : Int) ≤ ρ 1 ∧ ρ 1 ≤ 1200 := hf_rg hT (hH _ (List.mem_of_getElem? (i := 0) rfl)) ev_v g0 rfl rfl rfl ev_v
  have h1 : (0 : Int) ≤ ρ 2 ∧ ρ 2 ≤ 1200 := hf_rg hT (hH _ (List.mem_of_getElem? (i := 1) rfl)) ev_v g0 rfl rfl rfl ev_v
  have b0 : (0 : Int) ≤ ((6) + 0) := b_aA (hA _ (List.mem_of_getElem? (i := 0) rfl))
  have b1 : (0 : Int) ≤ ((7) + 0) := b_aA (hA _ (List.mem_of_getElem? (i := 1) rfl))
  have b2 : (0 : Int) ≤ ((50) + 0) := b_aA (hA _ (List.mem_of_getElem? (i := 2) rfl))
  have a0 : vw C h 124 (6) = ρ 5 := vw_aA hU (hA _ (List.mem_of_getElem? (i := 0) rfl)) ev_v g1 (by omega) (by omega) (i := 6) (show (((6 : Nat)) : Int) = ((6) + 0) by omega) ev_v
  have a1 : vw C h 124 (7) = ρ 6 := vw_aA hU (hA _ (List.mem_of_getElem? (i := 1) rfl)) ev_v g1 (by omega) (by omega) (i := 7) (show (((7 : Nat)) : Int) = ((7) + 0) by omega) ev_v
  have a2 : vw C h 124 (50) = ρ 7 := vw_aA hU (hA _ (List.mem_of_getElem? (i := 2) rfl)) ev_v g1 (by omega) (by omega) (i := 50) (show (((50 : Nat)) : Int) = ((50) + 0) by omega) ev_v
  have p0 : P183 (vw C h) (ρ 6) (ρ 8) := c2 (P := P183 (vw C h)) (show P183 (vw C h) (((0) + ((1) * ρ 6 + 0))) (((0) + ((1) * ρ 8 + 0))) from hP _ (List.mem_of_getElem? (i := 0) rfl)) (by omega) (by omega)
  have p1 : q160 (tB (vw C h)) (ρ 1 + 2048 * ρ 2 + 247463936) ((0 : Int)) := c2 (P := q160 (tB (vw C h))) (show q160 (tB (vw C h)) (((247463936) + ((1) * ρ 1 + ((2048) * ρ 2 + 0)))) (((0) + 0)) from hP _ (List.mem_of_getElem? (i := 1) rfl)) (by omega) (by omega)
  have p2 : q180 (tB (vw C h)) (ρ 1 + 2048 * ρ 2) (ρ 3) := c2 (P := q180 (tB (vw C h))) (show q180 (tB (vw C h)) (((0) + ((1) * ρ 1 + ((2048) * ρ 2 + 0)))) (((0) + ((1) * ρ 3 + 0))) from hP _ (List.mem_of_getElem? (i := 2) rfl)) (by omega) (by omega)
  have p3 : (qRC 15 (tB (vw C h))) (ρ 1 + 2048 * ρ 2 + 4398046511104 * ρ 5 + 35184372088832 * ρ 6 + 4503599627370496 * ρ 7 + 562949953421312 * ρ 8) (ρ 9) := c2 (P := (qRC 15 (tB (vw C h)))) (show (qRC 15 (tB (vw C h))) (((0) + ((1) * ρ 1 + ((2048) * ρ 2 + ((4398046511104) * ρ 5 + ((35184372088832) * ρ 6 + ((4503599627370496) * ρ 7 + ((562949953421312) * ρ 8 + 0)))))))) (((0) + ((1) * ρ 9 + 0))) from hP _ (List.mem_of_getElem? (i := 3) rfl)) (by omega) (by omega)
  have is59 : tSgB (tB (vw C h)) (ρ 1).toNat (ρ 2).toNat 59 = false := b01_0 (k160 (n := ρ 1) (s := ρ 2) (c := 59) (by omega) (by omega) (by omega) (by omega) (by omega) (by omega) p1)
  obtain ⟨kk, kx⟩ := k180 (n := ρ 1) (s := ρ 2) (by omega) (by omega) (by omega) (by omega) (by omega) p2
  have hc0 := p3.1
  have hR := rc_el (n := ρ 1) (s := ρ 2) (d := (0 : Int)) (K := (0 : Int)) (R := (ρ 5 + 8 * ρ 6 + 1024 * ρ 7 + 128 * ρ 8)) p3 (by omega) (by omega) (by omega) (by omega) (by omega) (by omega) (by omega) (by omega) (by omega) (by omega)
  have q := o_end hR is59 (by omega)
  refine ⟨_, List.mem_cons_self, ρ, fun _ _ => rfl, fun q hq => absurd hq List.not_mem_nil, trivial, fun f hf => ?_, fun q hq => absurd hq List.not_mem_nil, fun q hq => absurd hq List.not_mem_nil, fun q hq => absurd hq List.not_mem_nil, fun q hq => ?_⟩
  · exact absurd hf List.not_mem_nil
  · simp only [List.mem_cons, List.not_mem_nil, or_false] at hq
    subst hq
    show q166 (tB (vw C h)) (((0) + ((1) * ρ 1 + 0))) (((4096) + ((1) * ρ 2 + 0)))
    refine c2 (P := q166 (tB (vw C h))) (r := ρ 1) (c := ρ 2 + 4096) ?_ (by omega) (by omega)
    show q166 (tB (vw C h)) (ρ 1) (ρ 2 + 4096)
    exact o166 (k := 4096) (n := ρ 1) (s := ρ 2) (by omega) q (by omega) rfl (by omega)
/-- end5M -/
theorem lem_533_ok (hU : uqG G C) : lem_533.1.2.1 = [] ∧ lemOK (PRd G C D xs) G rgs lem_533 := by
  refine ⟨rfl, fun ρ h ha hT => ?_⟩
  obtain ⟨-, -, hF, hG, hH, hA, hP⟩ := ha
  have f0 : (0 : Int) ≤ ((0) + ((1) * ρ 1 + 0)) := hF _ (List.mem_of_getElem? (i := 0) rfl)
  have f1 : (0 : Int) ≤ ((1200) + ((-1) * ρ 1 + 0)) := hF _ (List.mem_of_getElem? (i := 1) rfl)
  have f2 : (0 : Int) ≤ ((0) + ((1) * ρ 2 + 0)) := hF _ (List.mem_of_getElem? (i := 2) rfl)
  have f3 : (0 : Int) ≤ ((0) + ((1) * ρ 1 + ((-1) * ρ 2 + 0))) := hF _ (List.mem_of_getElem? (i := 3) rfl)
  have f4 : (0 : Int) ≤ ((1) + ((-1) * ρ 3 + 0)) := hF _ (List.mem_of_getElem? (i := 4) rfl)
  have f5 : (0 : Int) ≤ ((-1) + ((1) * ρ 3 + 0)) := hF _ (List.mem_of_getElem? (i := 5) rfl)
  have f6 : (0 : Int) ≤ ((0) + ((-1) * ρ 6 + 0)) := hF _ (List.mem_of_getElem? (i := 6) rfl)
  have f7 : (0 : Int) ≤ ((0) + ((1) * ρ 5 + 0)) := hF _ (List.mem_of_getElem? (i := 7) rfl)
  have f8 : (0 : Int) ≤ ((6) + ((-1) * ρ 5 + 0)) := hF _ (List.mem_of_getElem? (i := 8) rfl)
  have f9 : (0 : Int) ≤ ((0) + ((1) * ρ 6 + 0)) := hF _ (List.mem_of_getElem? (i := 9) rfl)
  have f10 : (0 : Int) ≤ ((8) + ((-1) * ρ 6 + 0)) := hF _ (List.mem_of_getElem? (i := 10) rfl)
  have f11 : (0 : Int) ≤ ((0) + ((1) * ρ 8 + 0)) := hF _ (List.mem_of_getElem? (i := 11) rfl)
  have f12 : (0 : Int) ≤ ((5) + ((-1) * ρ 8 + 0)) := hF _ (List.mem_of_getElem? (i := 12) rfl)
  have f13 : (0 : Int) ≤ ((0) + ((1) * ρ 7 + 0)) := hF _ (List.mem_of_getElem? (i := 13) rfl)
  have f14 : (0 : Int) ≤ ((4) + ((-1) * ρ 7 + 0)) := hF _ (List.mem_of_getElem? (i := 14) rfl)
  have g0 : G (ρ 0).toNat = 22 := by
    have q := (hG _ (List.mem_of_getElem? (i := 0) rfl)).2
    rwa [show ev ρ (0, [(0, 1)]) = ρ 0 from ev_v] at q
  have g1 : G (ρ 4).toNat = 124 := by
    have q := (hG _ (List.mem_of_getElem? (i := 1) rfl)).2
    rwa [show ev ρ (0, [(4, 1)]) = ρ 4 from ev_v] at q
  have h0 : (0 : Int) ≤ ρ 1 ∧ ρ 1 ≤ 1200 := hf_rg hT (hH _ (List.mem_of_getElem? (i := 0) rfl)) ev_v g0 rfl rfl rfl ev_v
  have h1 : (0 : Int) ≤ ρ 2 ∧ ρ 2 ≤ 1200 := hf_rg hT (hH _ (List.mem_of_getElem? (i := 1) rfl)) ev_v g0 rfl rfl rfl ev_v
  have b0 : (0 : Int) ≤ ((6) + 0) := b_aA (hA _ (List.mem_of_getElem? (i := 0) rfl))
  have b1 : (0 : Int) ≤ ((7) + 0) := b_aA (hA _ (List.mem_of_getElem? (i := 1) rfl))
  have b2 : (0 : Int) ≤ ((50) + 0) := b_aA (hA _ (List.mem_of_getElem? (i := 2) rfl))
  have a0 : vw C h 124 (6) = ρ 5 := vw_aA hU (hA _ (List.mem_of_getElem? (i := 0) rfl)) ev_v g1 (by omega) (by omega) (i := 6) (show (((6 : Nat)) : Int) = ((6) + 0) by omega) ev_v
  have a1 : vw C h 124 (7) = ρ 6 := vw_aA hU (hA _ (List.mem_of_getElem? (i := 1) rfl)) ev_v g1 (by omega) (by omega) (i := 7) (show (((7 : Nat)) : Int) = ((7) + 0) by omega) ev_v
  have a2 : vw C h 124 (50) = ρ 7 := vw_aA hU (hA _ (List.mem_of_getElem? (i := 2) rfl)) ev_v g1 (by omega) (by omega) (i := 50) (show (((50 : Nat)) : Int) = ((50) + 0) by omega) ev_v
  have p0 : P183 (vw C h) (ρ 6) (ρ 8) := c2 (P := P183 (vw C h)) (show P183 (vw C h) (((0) + ((1) * ρ 6 + 0))) (((0) + ((1) * ρ 8 + 0))) from hP _ (List.mem_of_getElem? (i := 0) rfl)) (by omega) (by omega)
  have p1 : q160 (tB (vw C h)) (ρ 1 + 2048 * ρ 2 + 247463936) ((0 : Int)) := c2 (P := q160 (tB (vw C h))) (show q160 (tB (vw C h)) (((247463936) + ((1) * ρ 1 + ((2048) * ρ 2 + 0)))) (((0) + 0)) from hP _ (List.mem_of_getElem? (i := 1) rfl)) (by omega) (by omega)
  have p2 : q180 (tB (vw C h)) (ρ 1 + 2048 * ρ 2) (ρ 3) := c2 (P := q180 (tB (vw C h))) (show q180 (tB (vw C h)) (((0) + ((1) * ρ 1 + ((2048) * ρ 2 + 0)))) (((0) + ((1) * ρ 3 + 0))) from hP _ (List.mem_of_getElem? (i := 2) rfl)) (by omega) (by omega)
  have p3 : (qRC 15 (tB (vw C h))) (ρ 1 + 2048 * ρ 2 + 4398046511104 * ρ 5 + 35184372088832 * ρ 6 + 4503599627370496 * ρ 7 + 562949953421312 * ρ 8) (ρ 9) := c2 (P := (qRC 15 (tB (vw C h)))) (show (qRC 15 (tB (vw C h))) (((0) + ((1) * ρ 1 + ((2048) * ρ 2 + ((4398046511104) * ρ 5 + ((35184372088832) * ρ 6 + ((4503599627370496) * ρ 7 + ((562949953421312) * ρ 8 + 0)))))))) (((0) + ((1) * ρ 9 + 0))) from hP _ (List.mem_of_getElem? (i := 3) rfl)) (by omega) (by omega)
  have is59 : tSgB (tB (vw C h)) (ρ 1).toNat (ρ 2).toNat 59 = false := b01_0 (k160 (n := ρ 1) (s := ρ 2) (c := 59) (by omega) (by omega) (by omega) (by omega) (by omega) (by omega) p1)
  obtain ⟨kk, kx⟩ := k180 (n := ρ 1) (s := ρ 2) (by omega) (by omega) (by omega) (by omega) (by omega) p2
  have hc0 := p3.1
  have hR := rc_el (n := ρ 1) (s := ρ 2) (d := (0 : Int)) (K := (0 : Int)) (R := (ρ 5 + 8 * ρ 6 + 1024 * ρ 7 + 128 * ρ 8)) p3 (by omega) (by omega) (by omega) (by omega) (by omega) (by omega) (by omega) (by omega) (by omega) (by omega)
  have q := o_end5 hR is59 (by omega) (by omega)
  refine ⟨_, List.mem_cons_self, ρ, fun _ _ => rfl, fun q hq => absurd hq List.not_mem_nil, trivial, fun f hf => ?_, fun q hq => absurd hq List.not_mem_nil, fun q hq => absurd hq List.not_mem_nil, fun q hq => absurd hq List.not_mem_nil, fun q hq => ?_⟩
  · exact absurd hf List.not_mem_nil
  · simp only [List.mem_cons, List.not_mem_nil, or_false] at hq
    subst hq
    show q166 (tB (vw C h)) (((0) + ((1) * ρ 1 + 0))) (((20480) + ((1) * ρ 2 + 0)))
    refine c2 (P := q166 (tB (vw C h))) (r := ρ 1) (c := ρ 2 + 20480) ?_ (by omega) (by omega)
    show q166 (tB (vw C h)) (ρ 1) (ρ 2 + 20480)
    exact o166 (k := 20480) (n := ρ 1) (s := ρ 2) (by omega) q (by omega) rfl (by omega)
/-- endOKM -/
theorem lem_534_ok (hU : uqG G C) : lem_534.1.2.1 = [] ∧ lemOK (PRd G C D xs) G rgs lem_534 := by
  refine ⟨rfl, fun ρ h ha hT => ?_⟩
  obtain ⟨-, -, hF, hG, hH, hA, hP⟩ := ha
  have f0 : (0 : Int) ≤ ((0) + ((1) * ρ 1 + 0)) := hF _ (List.mem_of_getElem? (i := 0) rfl)
  have f1 : (0 : Int) ≤ ((1200) + ((-1) * ρ 1 + 0)) := hF _ (List.mem_of_getElem? (i := 1) rfl)
  have f2 : (0 : Int) ≤ ((0) + ((1) * ρ 2 + 0)) := hF _ (List.mem_of_getElem? (i := 2) rfl)
  have f3 : (0 : Int) ≤ ((0) + ((1) * ρ 1 + ((-1) * ρ 2 + 0))) := hF _ (List.mem_of_getElem? (i := 3) rfl)
  have f4 : (0 : Int) ≤ ((1) + ((-1) * ρ 3 + 0)) := hF _ (List.mem_of_getElem? (i := 4) rfl)
  have f5 : (0 : Int) ≤ ((-1) + ((1) * ρ 3 + 0)) := hF _ (List.mem_of_getElem? (i := 5) rfl)
  have f6 : (0 : Int) ≤ ((-1) + ((1) * ρ 6 + 0)) := hF _ (List.mem_of_getElem? (i := 6) rfl)
  have f7 : (0 : Int) ≤ ((0) + ((1) * ρ 5 + 0)) := hF _ (List.mem_of_getElem? (i := 7) rfl)
  have f8 : (0 : Int) ≤ ((6) + ((-1) * ρ 5 + 0)) := hF _ (List.mem_of_getElem? (i := 8) rfl)
  have f9 : (0 : Int) ≤ ((0) + ((1) * ρ 6 + 0)) := hF _ (List.mem_of_getElem? (i := 9) rfl)
  have f10 : (0 : Int) ≤ ((8) + ((-1) * ρ 6 + 0)) := hF _ (List.mem_of_getElem? (i := 10) rfl)
  have f11 : (0 : Int) ≤ ((0) + ((1) * ρ 8 + 0)) := hF _ (List.mem_of_getElem? (i := 11) rfl)
  have f12 : (0 : Int) ≤ ((5) + ((-1) * ρ 8 + 0)) := hF _ (List.mem_of_getElem? (i := 12) rfl)
  have f13 : (0 : Int) ≤ ((0) + ((1) * ρ 7 + 0)) := hF _ (List.mem_of_getElem? (i := 13) rfl)
  have f14 : (0 : Int) ≤ ((4) + ((-1) * ρ 7 + 0)) := hF _ (List.mem_of_getElem? (i := 14) rfl)
  have g0 : G (ρ 0).toNat = 22 := by
    have q := (hG _ (List.mem_of_getElem? (i := 0) rfl)).2
    rwa [show ev ρ (0, [(0, 1)]) = ρ 0 from ev_v] at q
  have g1 : G (ρ 4).toNat = 124 := by
    have q := (hG _ (List.mem_of_getElem? (i := 1) rfl)).2
    rwa [show ev ρ (0, [(4, 1)]) = ρ 4 from ev_v] at q
  have h0 : (0 : Int) ≤ ρ 1 ∧ ρ 1 ≤ 1200 := hf_rg hT (hH _ (List.mem_of_getElem? (i := 0) rfl)) ev_v g0 rfl rfl rfl ev_v
  have h1 : (0 : Int) ≤ ρ 2 ∧ ρ 2 ≤ 1200 := hf_rg hT (hH _ (List.mem_of_getElem? (i := 1) rfl)) ev_v g0 rfl rfl rfl ev_v
  have b0 : (0 : Int) ≤ ((6) + 0) := b_aA (hA _ (List.mem_of_getElem? (i := 0) rfl))
  have b1 : (0 : Int) ≤ ((7) + 0) := b_aA (hA _ (List.mem_of_getElem? (i := 1) rfl))
  have b2 : (0 : Int) ≤ ((50) + 0) := b_aA (hA _ (List.mem_of_getElem? (i := 2) rfl))
  have a0 : vw C h 124 (6) = ρ 5 := vw_aA hU (hA _ (List.mem_of_getElem? (i := 0) rfl)) ev_v g1 (by omega) (by omega) (i := 6) (show (((6 : Nat)) : Int) = ((6) + 0) by omega) ev_v
  have a1 : vw C h 124 (7) = ρ 6 := vw_aA hU (hA _ (List.mem_of_getElem? (i := 1) rfl)) ev_v g1 (by omega) (by omega) (i := 7) (show (((7 : Nat)) : Int) = ((7) + 0) by omega) ev_v
  have a2 : vw C h 124 (50) = ρ 7 := vw_aA hU (hA _ (List.mem_of_getElem? (i := 2) rfl)) ev_v g1 (by omega) (by omega) (i := 50) (show (((50 : Nat)) : Int) = ((50) + 0) by omega) ev_v
  have p0 : P183 (vw C h) (ρ 6) (ρ 8) := c2 (P := P183 (vw C h)) (show P183 (vw C h) (((0) + ((1) * ρ 6 + 0))) (((0) + ((1) * ρ 8 + 0))) from hP _ (List.mem_of_getElem? (i := 0) rfl)) (by omega) (by omega)
  have p1 : q160 (tB (vw C h)) (ρ 1 + 2048 * ρ 2 + 247463936) ((0 : Int)) := c2 (P := q160 (tB (vw C h))) (show q160 (tB (vw C h)) (((247463936) + ((1) * ρ 1 + ((2048) * ρ 2 + 0)))) (((0) + 0)) from hP _ (List.mem_of_getElem? (i := 1) rfl)) (by omega) (by omega)
  have p2 : q180 (tB (vw C h)) (ρ 1 + 2048 * ρ 2) (ρ 3) := c2 (P := q180 (tB (vw C h))) (show q180 (tB (vw C h)) (((0) + ((1) * ρ 1 + ((2048) * ρ 2 + 0)))) (((0) + ((1) * ρ 3 + 0))) from hP _ (List.mem_of_getElem? (i := 2) rfl)) (by omega) (by omega)
  have p3 : (qRC 15 (tB (vw C h))) (ρ 1 + 2048 * ρ 2 + 4398046511104 * ρ 5 + 35184372088832 * ρ 6 + 4503599627370496 * ρ 7 + 562949953421312 * ρ 8) (ρ 9) := c2 (P := (qRC 15 (tB (vw C h)))) (show (qRC 15 (tB (vw C h))) (((0) + ((1) * ρ 1 + ((2048) * ρ 2 + ((4398046511104) * ρ 5 + ((35184372088832) * ρ 6 + ((4503599627370496) * ρ 7 + ((562949953421312) * ρ 8 + 0)))))))) (((0) + ((1) * ρ 9 + 0))) from hP _ (List.mem_of_getElem? (i := 3) rfl)) (by omega) (by omega)
  have is59 : tSgB (tB (vw C h)) (ρ 1).toNat (ρ 2).toNat 59 = false := b01_0 (k160 (n := ρ 1) (s := ρ 2) (c := 59) (by omega) (by omega) (by omega) (by omega) (by omega) (by omega) p1)
  obtain ⟨kk, kx⟩ := k180 (n := ρ 1) (s := ρ 2) (by omega) (by omega) (by omega) (by omega) (by omega) p2
  have hc0 := p3.1
  have hR := rc_el (n := ρ 1) (s := ρ 2) (d := (0 : Int)) (K := (0 : Int)) (R := (ρ 5 + 8 * ρ 6 + 1024 * ρ 7 + 128 * ρ 8)) p3 (by omega) (by omega) (by omega) (by omega) (by omega) (by omega) (by omega) (by omega) (by omega) (by omega)
  have q := o_ok hR is59 (by omega) (by omega)
  have q2 := o_okA hR is59 (by omega) (by omega)
  refine ⟨_, List.mem_cons_self, ρ, fun _ _ => rfl, fun q hq => absurd hq List.not_mem_nil, trivial, fun f hf => ?_, fun q hq => absurd hq List.not_mem_nil, fun q hq => absurd hq List.not_mem_nil, fun q hq => absurd hq List.not_mem_nil, fun q hq => ?_⟩
  · exact absurd hf List.not_mem_nil
  · simp only [List.mem_cons, List.not_mem_nil, or_false] at hq
    rcases hq with rfl | rfl | rfl | rfl
    · show q192 (tB (vw C h)) (((0) + ((1) * ρ 1 + 0))) (((0) + ((1) * ρ 6 + 0)))
      refine c2 (P := q192 (tB (vw C h))) (r := ρ 1) (c := ρ 6) ?_ (by omega) (by omega)
      show q192 (tB (vw C h)) (ρ 1) (ρ 6)
      exact ⟨_, q, by omega⟩
    · show q186 (tB (vw C h)) (((0) + ((1) * ρ 1 + 0))) (((0) + ((1) * ρ 5 + 0)))
      refine c2 (P := q186 (tB (vw C h))) (r := ρ 1) (c := ρ 5) ?_ (by omega) (by omega)
      show q186 (tB (vw C h)) (ρ 1) (ρ 5)
      exact ⟨_, q, by omega⟩
    · show q187 (tB (vw C h)) (((0) + ((1) * ρ 1 + 0))) (((0) + ((1) * ρ 7 + 0)))
      refine c2 (P := q187 (tB (vw C h))) (r := ρ 1) (c := ρ 7) ?_ (by omega) (by omega)
      show q187 (tB (vw C h)) (ρ 1) (ρ 7)
      exact ⟨_, q, by omega⟩
    · show q174 (tB (vw C h)) (((0) + ((1) * ρ 1 + 0))) (((0) + ((1) * ρ 9 + 0)))
      refine c2 (P := q174 (tB (vw C h))) (r := ρ 1) (c := ρ 9) ?_ (by omega) (by omega)
      show q174 (tB (vw C h)) (ρ 1) (ρ 9)
      exact ⟨hc0, q2⟩
/-- ln17M -/
theorem lem_535_ok (hU : uqG G C) : lem_535.1.2.1 = [] ∧ lemOK (PRd G C D xs) G rgs lem_535 := by
  refine ⟨rfl, fun ρ h ha hT => ?_⟩
  obtain ⟨-, -, hF, hG, hH, hA, hP⟩ := ha
  have f0 : (0 : Int) ≤ ((0) + ((1) * ρ 1 + 0)) := hF _ (List.mem_of_getElem? (i := 0) rfl)
  have f1 : (0 : Int) ≤ ((1200) + ((-1) * ρ 1 + 0)) := hF _ (List.mem_of_getElem? (i := 1) rfl)
  have f2 : (0 : Int) ≤ ((0) + ((1) * ρ 2 + 0)) := hF _ (List.mem_of_getElem? (i := 2) rfl)
  have f3 : (0 : Int) ≤ ((0) + ((1) * ρ 1 + ((-1) * ρ 2 + 0))) := hF _ (List.mem_of_getElem? (i := 3) rfl)
  have f4 : (0 : Int) ≤ ((0) + ((1) * ρ 8 + 0)) := hF _ (List.mem_of_getElem? (i := 4) rfl)
  have f5 : (0 : Int) ≤ ((0) + ((1) * ρ 1 + ((-1) * ρ 8 + 0))) := hF _ (List.mem_of_getElem? (i := 5) rfl)
  have f6 : (0 : Int) ≤ ((5) + ((-1) * ρ 4 + 0)) := hF _ (List.mem_of_getElem? (i := 6) rfl)
  have f7 : (0 : Int) ≤ ((0) + ((1) * ρ 4 + 0)) := hF _ (List.mem_of_getElem? (i := 7) rfl)
  have f8 : (0 : Int) ≤ ((6) + ((-1) * ρ 4 + 0)) := hF _ (List.mem_of_getElem? (i := 8) rfl)
  have f9 : (0 : Int) ≤ ((0) + ((1) * ρ 5 + 0)) := hF _ (List.mem_of_getElem? (i := 9) rfl)
  have f10 : (0 : Int) ≤ ((8) + ((-1) * ρ 5 + 0)) := hF _ (List.mem_of_getElem? (i := 10) rfl)
  have f11 : (0 : Int) ≤ ((0) + ((1) * ρ 7 + 0)) := hF _ (List.mem_of_getElem? (i := 11) rfl)
  have f12 : (0 : Int) ≤ ((5) + ((-1) * ρ 7 + 0)) := hF _ (List.mem_of_getElem? (i := 12) rfl)
  have f13 : (0 : Int) ≤ ((0) + ((1) * ρ 6 + 0)) := hF _ (List.mem_of_getElem? (i := 13) rfl)
  have f14 : (0 : Int) ≤ ((4) + ((-1) * ρ 6 + 0)) := hF _ (List.mem_of_getElem? (i := 14) rfl)
  have g0 : G (ρ 0).toNat = 22 := by
    have q := (hG _ (List.mem_of_getElem? (i := 0) rfl)).2
    rwa [show ev ρ (0, [(0, 1)]) = ρ 0 from ev_v] at q
  have g1 : G (ρ 3).toNat = 124 := by
    have q := (hG _ (List.mem_of_getElem? (i := 1) rfl)).2
    rwa [show ev ρ (0, [(3, 1)]) = ρ 3 from ev_v] at q
  have h0 : (0 : Int) ≤ ρ 1 ∧ ρ 1 ≤ 1200 := hf_rg hT (hH _ (List.mem_of_getElem? (i := 0) rfl)) ev_v g0 rfl rfl rfl ev_v
  have h1 : (0 : Int) ≤ ρ 2 ∧ ρ 2 ≤ 1200 := hf_rg hT (hH _ (List.mem_of_getElem? (i := 1) rfl)) ev_v g0 rfl rfl rfl ev_v
  have b0 : (0 : Int) ≤ ((6) + 0) := b_aA (hA _ (List.mem_of_getElem? (i := 0) rfl))
  have b1 : (0 : Int) ≤ ((7) + 0) := b_aA (hA _ (List.mem_of_getElem? (i := 1) rfl))
  have b2 : (0 : Int) ≤ ((50) + 0) := b_aA (hA _ (List.mem_of_getElem? (i := 2) rfl))
  have a0 : vw C h 124 (6) = ρ 4 := vw_aA hU (hA _ (List.mem_of_getElem? (i := 0) rfl)) ev_v g1 (by omega) (by omega) (i := 6) (show (((6 : Nat)) : Int) = ((6) + 0) by omega) ev_v
  have a1 : vw C h 124 (7) = ρ 5 := vw_aA hU (hA _ (List.mem_of_getElem? (i := 1) rfl)) ev_v g1 (by omega) (by omega) (i := 7) (show (((7 : Nat)) : Int) = ((7) + 0) by omega) ev_v
  have a2 : vw C h 124 (50) = ρ 6 := vw_aA hU (hA _ (List.mem_of_getElem? (i := 2) rfl)) ev_v g1 (by omega) (by omega) (i := 50) (show (((50 : Nat)) : Int) = ((50) + 0) by omega) ev_v
  have p0 : P183 (vw C h) (ρ 5) (ρ 7) := c2 (P := P183 (vw C h)) (show P183 (vw C h) (((0) + ((1) * ρ 5 + 0))) (((0) + ((1) * ρ 7 + 0))) from hP _ (List.mem_of_getElem? (i := 0) rfl)) (by omega) (by omega)
  have p1 : q158 (tB (vw C h)) (ρ 1 + 2048 * ρ 2) (ρ 8) := c2 (P := q158 (tB (vw C h))) (show q158 (tB (vw C h)) (((0) + ((1) * ρ 1 + ((2048) * ρ 2 + 0)))) (((0) + ((1) * ρ 8 + 0))) from hP _ (List.mem_of_getElem? (i := 1) rfl)) (by omega) (by omega)
  have p2 : q159 (tB (vw C h)) (ρ 1 + 2048 * ρ 8 + 29360128) ((1 : Int)) := c2 (P := q159 (tB (vw C h))) (show q159 (tB (vw C h)) (((29360128) + ((1) * ρ 1 + ((2048) * ρ 8 + 0)))) (((1) + 0)) from hP _ (List.mem_of_getElem? (i := 2) rfl)) (by omega) (by omega)
  have p3 : (qRC 16 (tB (vw C h))) (ρ 1 + 4398046511104 * ρ 4 + 35184372088832 * ρ 5 + 4503599627370496 * ρ 6 + 562949953421312 * ρ 7 + 2048 * ρ 8) (ρ 9) := c2 (P := (qRC 16 (tB (vw C h)))) (show (qRC 16 (tB (vw C h))) (((0) + ((1) * ρ 1 + ((4398046511104) * ρ 4 + ((35184372088832) * ρ 5 + ((4503599627370496) * ρ 6 + ((562949953421312) * ρ 7 + ((2048) * ρ 8 + 0)))))))) (((0) + ((1) * ρ 9 + 0))) from hP _ (List.mem_of_getElem? (i := 3) rfl)) (by omega) (by omega)
  have iw7 : tIsB (tB (vw C h)) (ρ 1).toNat (ρ 8).toNat (wd 7) = true := b01_1 (k159 (n := ρ 1) (s := ρ 8) (w := 7) (by omega) (by omega) (by omega) (by omega) (by omega) (by omega) p2)
  have hkd := (is_el.mp iw7).1
  have nx := k158 (n := ρ 1) (s := ρ 8) (t := ρ 2) (by omega) (by omega) (by omega) (by omega) (by omega) (by omega) p1
  have ng := nx_gt (B := (tB (vw C h))) (n := (ρ 1).toNat) (s := (ρ 8).toNat) (by omega)
  have hc0 := p3.1
  have hR := rc_el (n := ρ 1) (s := ρ 8) (d := (0 : Int)) (K := (0 : Int)) (R := (ρ 4 + 8 * ρ 5 + 1024 * ρ 6 + 128 * ρ 7)) p3 (by omega) (by omega) (by omega) (by omega) (by omega) (by omega) (by omega) (by omega) (by omega) (by omega)
  have q := g_17 hR iw7 (by omega)
  refine ⟨_, List.mem_cons_self, ρ, fun _ _ => rfl, fun q hq => absurd hq List.not_mem_nil, trivial, fun f hf => ?_, fun q hq => absurd hq List.not_mem_nil, fun q hq => absurd hq List.not_mem_nil, fun q hq => absurd hq List.not_mem_nil, fun q hq => ?_⟩
  · simp only [List.mem_cons, List.not_mem_nil, or_false] at hf
    subst hf
    show (0 : Int) ≤ ((-1) + ((1) * ρ 2 + ((-1) * ρ 8 + 0)))
    omega
  · simp only [List.mem_cons, List.not_mem_nil, or_false] at hq
    subst hq
    show (qRC 17 (tB (vw C h))) (((0) + ((1) * ρ 1 + ((2048) * ρ 2 + ((4398046511104) * ρ 4 + ((35184372088832) * ρ 5 + ((4503599627370496) * ρ 6 + ((562949953421312) * ρ 7 + 0)))))))) (((0) + ((1) * ρ 9 + 0)))
    refine c2 (P := (qRC 17 (tB (vw C h)))) (r := ρ 1 + 2048 * ρ 2 + 4398046511104 * ρ 4 + 35184372088832 * ρ 5 + 4503599627370496 * ρ 6 + 562949953421312 * ρ 7) (c := ρ 9) ?_ (by omega) (by omega)
    show (qRC 17 (tB (vw C h))) (ρ 1 + 2048 * ρ 2 + 4398046511104 * ρ 4 + 35184372088832 * ρ 5 + 4503599627370496 * ρ 6 + 562949953421312 * ρ 7) (ρ 9)
    exact rc_in (n := ρ 1) (s := ρ 2) (d := (0 : Int)) (K := (0 : Int)) (R := (ρ 4 + 8 * ρ 5 + 1024 * ρ 6 + 128 * ρ 7)) (by omega) (by omega) (by omega) (by omega) (by omega) (by omega) (by omega) (by omega) (by omega) (by omega) q (by omega) (by omega) (by omega) (by omega) (by omega)
/-- tm17M -/
theorem lem_536_ok (hU : uqG G C) : lem_536.1.2.1 = [] ∧ lemOK (PRd G C D xs) G rgs lem_536 := by
  refine ⟨rfl, fun ρ h ha hT => ?_⟩
  obtain ⟨-, -, hF, hG, hH, hA, hP⟩ := ha
  have f0 : (0 : Int) ≤ ((0) + ((1) * ρ 1 + 0)) := hF _ (List.mem_of_getElem? (i := 0) rfl)
  have f1 : (0 : Int) ≤ ((1200) + ((-1) * ρ 1 + 0)) := hF _ (List.mem_of_getElem? (i := 1) rfl)
  have f2 : (0 : Int) ≤ ((0) + ((1) * ρ 2 + 0)) := hF _ (List.mem_of_getElem? (i := 2) rfl)
  have f3 : (0 : Int) ≤ ((0) + ((1) * ρ 1 + ((-1) * ρ 2 + 0))) := hF _ (List.mem_of_getElem? (i := 3) rfl)
  have f4 : (0 : Int) ≤ ((-6) + ((1) * ρ 4 + 0)) := hF _ (List.mem_of_getElem? (i := 4) rfl)
  have f5 : (0 : Int) ≤ ((0) + ((1) * ρ 4 + 0)) := hF _ (List.mem_of_getElem? (i := 5) rfl)
  have f6 : (0 : Int) ≤ ((6) + ((-1) * ρ 4 + 0)) := hF _ (List.mem_of_getElem? (i := 6) rfl)
  have f7 : (0 : Int) ≤ ((0) + ((1) * ρ 5 + 0)) := hF _ (List.mem_of_getElem? (i := 7) rfl)
  have f8 : (0 : Int) ≤ ((8) + ((-1) * ρ 5 + 0)) := hF _ (List.mem_of_getElem? (i := 8) rfl)
  have f9 : (0 : Int) ≤ ((0) + ((1) * ρ 7 + 0)) := hF _ (List.mem_of_getElem? (i := 9) rfl)
  have f10 : (0 : Int) ≤ ((5) + ((-1) * ρ 7 + 0)) := hF _ (List.mem_of_getElem? (i := 10) rfl)
  have f11 : (0 : Int) ≤ ((0) + ((1) * ρ 6 + 0)) := hF _ (List.mem_of_getElem? (i := 11) rfl)
  have f12 : (0 : Int) ≤ ((4) + ((-1) * ρ 6 + 0)) := hF _ (List.mem_of_getElem? (i := 12) rfl)
  have g0 : G (ρ 0).toNat = 22 := by
    have q := (hG _ (List.mem_of_getElem? (i := 0) rfl)).2
    rwa [show ev ρ (0, [(0, 1)]) = ρ 0 from ev_v] at q
  have g1 : G (ρ 3).toNat = 124 := by
    have q := (hG _ (List.mem_of_getElem? (i := 1) rfl)).2
    rwa [show ev ρ (0, [(3, 1)]) = ρ 3 from ev_v] at q
  have h0 : (0 : Int) ≤ ρ 1 ∧ ρ 1 ≤ 1200 := hf_rg hT (hH _ (List.mem_of_getElem? (i := 0) rfl)) ev_v g0 rfl rfl rfl ev_v
  have h1 : (0 : Int) ≤ ρ 2 ∧ ρ 2 ≤ 1200 := hf_rg hT (hH _ (List.mem_of_getElem? (i := 1) rfl)) ev_v g0 rfl rfl rfl ev_v
  have b0 : (0 : Int) ≤ ((6) + 0) := b_aA (hA _ (List.mem_of_getElem? (i := 0) rfl))
  have b1 : (0 : Int) ≤ ((7) + 0) := b_aA (hA _ (List.mem_of_getElem? (i := 1) rfl))
  have b2 : (0 : Int) ≤ ((50) + 0) := b_aA (hA _ (List.mem_of_getElem? (i := 2) rfl))
  have a0 : vw C h 124 (6) = ρ 4 := vw_aA hU (hA _ (List.mem_of_getElem? (i := 0) rfl)) ev_v g1 (by omega) (by omega) (i := 6) (show (((6 : Nat)) : Int) = ((6) + 0) by omega) ev_v
  have a1 : vw C h 124 (7) = ρ 5 := vw_aA hU (hA _ (List.mem_of_getElem? (i := 1) rfl)) ev_v g1 (by omega) (by omega) (i := 7) (show (((7 : Nat)) : Int) = ((7) + 0) by omega) ev_v
  have a2 : vw C h 124 (50) = ρ 6 := vw_aA hU (hA _ (List.mem_of_getElem? (i := 2) rfl)) ev_v g1 (by omega) (by omega) (i := 50) (show (((50 : Nat)) : Int) = ((50) + 0) by omega) ev_v
  have p0 : P183 (vw C h) (ρ 5) (ρ 7) := c2 (P := P183 (vw C h)) (show P183 (vw C h) (((0) + ((1) * ρ 5 + 0))) (((0) + ((1) * ρ 7 + 0))) from hP _ (List.mem_of_getElem? (i := 0) rfl)) (by omega) (by omega)
  have p1 : q159 (tB (vw C h)) (ρ 1 + 2048 * ρ 2 + 29360128) ((1 : Int)) := c2 (P := q159 (tB (vw C h))) (show q159 (tB (vw C h)) (((29360128) + ((1) * ρ 1 + ((2048) * ρ 2 + 0)))) (((1) + 0)) from hP _ (List.mem_of_getElem? (i := 1) rfl)) (by omega) (by omega)
  have p2 : (qRC 16 (tB (vw C h))) (ρ 1 + 2048 * ρ 2 + 4398046511104 * ρ 4 + 35184372088832 * ρ 5 + 4503599627370496 * ρ 6 + 562949953421312 * ρ 7) (ρ 8) := c2 (P := (qRC 16 (tB (vw C h)))) (show (qRC 16 (tB (vw C h))) (((0) + ((1) * ρ 1 + ((2048) * ρ 2 + ((4398046511104) * ρ 4 + ((35184372088832) * ρ 5 + ((4503599627370496) * ρ 6 + ((562949953421312) * ρ 7 + 0)))))))) (((0) + ((1) * ρ 8 + 0))) from hP _ (List.mem_of_getElem? (i := 2) rfl)) (by omega) (by omega)
  have iw7 : tIsB (tB (vw C h)) (ρ 1).toNat (ρ 2).toNat (wd 7) = true := b01_1 (k159 (n := ρ 1) (s := ρ 2) (w := 7) (by omega) (by omega) (by omega) (by omega) (by omega) (by omega) p1)
  have hkd := (is_el.mp iw7).1
  have hc0 := p2.1
  have hR := rc_el (n := ρ 1) (s := ρ 2) (d := (0 : Int)) (K := (0 : Int)) (R := (ρ 4 + 8 * ρ 5 + 1024 * ρ 6 + 128 * ρ 7)) p2 (by omega) (by omega) (by omega) (by omega) (by omega) (by omega) (by omega) (by omega) (by omega) (by omega)
  have q := o_17 hR iw7 (by omega)
  refine ⟨_, List.mem_cons_self, ρ, fun _ _ => rfl, fun q hq => absurd hq List.not_mem_nil, trivial, fun f hf => ?_, fun q hq => absurd hq List.not_mem_nil, fun q hq => absurd hq List.not_mem_nil, fun q hq => absurd hq List.not_mem_nil, fun q hq => ?_⟩
  · exact absurd hf List.not_mem_nil
  · simp only [List.mem_cons, List.not_mem_nil, or_false] at hq
    subst hq
    show q166 (tB (vw C h)) (((0) + ((1) * ρ 1 + 0))) (((16384) + ((1) * ρ 2 + 0)))
    refine c2 (P := q166 (tB (vw C h))) (r := ρ 1) (c := ρ 2 + 16384) ?_ (by omega) (by omega)
    show q166 (tB (vw C h)) (ρ 1) (ρ 2 + 16384)
    exact o166 (k := 16384) (n := ρ 1) (s := ρ 2) (by omega) q (by omega) rfl (by omega)
/-- ln20M -/
theorem lem_537_ok (hU : uqG G C) : lem_537.1.2.1 = [] ∧ lemOK (PRd G C D xs) G rgs lem_537 := by
  refine ⟨rfl, fun ρ h ha hT => ?_⟩
  obtain ⟨-, -, hF, hG, hH, hA, hP⟩ := ha
  have f0 : (0 : Int) ≤ ((0) + ((1) * ρ 1 + 0)) := hF _ (List.mem_of_getElem? (i := 0) rfl)
  have f1 : (0 : Int) ≤ ((1200) + ((-1) * ρ 1 + 0)) := hF _ (List.mem_of_getElem? (i := 1) rfl)
  have f2 : (0 : Int) ≤ ((0) + ((1) * ρ 2 + 0)) := hF _ (List.mem_of_getElem? (i := 2) rfl)
  have f3 : (0 : Int) ≤ ((0) + ((1) * ρ 1 + ((-1) * ρ 2 + 0))) := hF _ (List.mem_of_getElem? (i := 3) rfl)
  have f4 : (0 : Int) ≤ ((0) + ((1) * ρ 8 + 0)) := hF _ (List.mem_of_getElem? (i := 4) rfl)
  have f5 : (0 : Int) ≤ ((0) + ((1) * ρ 1 + ((-1) * ρ 8 + 0))) := hF _ (List.mem_of_getElem? (i := 5) rfl)
  have f6 : (0 : Int) ≤ ((7) + ((-1) * ρ 5 + 0)) := hF _ (List.mem_of_getElem? (i := 6) rfl)
  have f7 : (0 : Int) ≤ ((0) + ((1) * ρ 4 + 0)) := hF _ (List.mem_of_getElem? (i := 7) rfl)
  have f8 : (0 : Int) ≤ ((6) + ((-1) * ρ 4 + 0)) := hF _ (List.mem_of_getElem? (i := 8) rfl)
  have f9 : (0 : Int) ≤ ((0) + ((1) * ρ 5 + 0)) := hF _ (List.mem_of_getElem? (i := 9) rfl)
  have f10 : (0 : Int) ≤ ((8) + ((-1) * ρ 5 + 0)) := hF _ (List.mem_of_getElem? (i := 10) rfl)
  have f11 : (0 : Int) ≤ ((0) + ((1) * ρ 7 + 0)) := hF _ (List.mem_of_getElem? (i := 11) rfl)
  have f12 : (0 : Int) ≤ ((5) + ((-1) * ρ 7 + 0)) := hF _ (List.mem_of_getElem? (i := 12) rfl)
  have f13 : (0 : Int) ≤ ((0) + ((1) * ρ 6 + 0)) := hF _ (List.mem_of_getElem? (i := 13) rfl)
  have f14 : (0 : Int) ≤ ((4) + ((-1) * ρ 6 + 0)) := hF _ (List.mem_of_getElem? (i := 14) rfl)
  have g0 : G (ρ 0).toNat = 22 := by
    have q := (hG _ (List.mem_of_getElem? (i := 0) rfl)).2
    rwa [show ev ρ (0, [(0, 1)]) = ρ 0 from ev_v] at q
  have g1 : G (ρ 3).toNat = 124 := by
    have q := (hG _ (List.mem_of_getElem? (i := 1) rfl)).2
    rwa [show ev ρ (0, [(3, 1)]) = ρ 3 from ev_v] at q
  have h0 : (0 : Int) ≤ ρ 1 ∧ ρ 1 ≤ 1200 := hf_rg hT (hH _ (List.mem_of_getElem? (i := 0) rfl)) ev_v g0 rfl rfl rfl ev_v
  have h1 : (0 : Int) ≤ ρ 2 ∧ ρ 2 ≤ 1200 := hf_rg hT (hH _ (List.mem_of_getElem? (i := 1) rfl)) ev_v g0 rfl rfl rfl ev_v
  have b0 : (0 : Int) ≤ ((6) + 0) := b_aA (hA _ (List.mem_of_getElem? (i := 0) rfl))
  have b1 : (0 : Int) ≤ ((7) + 0) := b_aA (hA _ (List.mem_of_getElem? (i := 1) rfl))
  have b2 : (0 : Int) ≤ ((50) + 0) := b_aA (hA _ (List.mem_of_getElem? (i := 2) rfl))
  have a0 : vw C h 124 (6) = ρ 4 := vw_aA hU (hA _ (List.mem_of_getElem? (i := 0) rfl)) ev_v g1 (by omega) (by omega) (i := 6) (show (((6 : Nat)) : Int) = ((6) + 0) by omega) ev_v
  have a1 : vw C h 124 (7) = ρ 5 := vw_aA hU (hA _ (List.mem_of_getElem? (i := 1) rfl)) ev_v g1 (by omega) (by omega) (i := 7) (show (((7 : Nat)) : Int) = ((7) + 0) by omega) ev_v
  have a2 : vw C h 124 (50) = ρ 6 := vw_aA hU (hA _ (List.mem_of_getElem? (i := 2) rfl)) ev_v g1 (by omega) (by omega) (i := 50) (show (((50 : Nat)) : Int) = ((50) + 0) by omega) ev_v
  have p0 : P183 (vw C h) (ρ 5) (ρ 7) := c2 (P := P183 (vw C h)) (show P183 (vw C h) (((0) + ((1) * ρ 5 + 0))) (((0) + ((1) * ρ 7 + 0))) from hP _ (List.mem_of_getElem? (i := 0) rfl)) (by omega) (by omega)
  have p1 : q158 (tB (vw C h)) (ρ 1 + 2048 * ρ 2) (ρ 8) := c2 (P := q158 (tB (vw C h))) (show q158 (tB (vw C h)) (((0) + ((1) * ρ 1 + ((2048) * ρ 2 + 0)))) (((0) + ((1) * ρ 8 + 0))) from hP _ (List.mem_of_getElem? (i := 1) rfl)) (by omega) (by omega)
  have p2 : q159 (tB (vw C h)) (ρ 1 + 2048 * ρ 8 + 33554432) ((1 : Int)) := c2 (P := q159 (tB (vw C h))) (show q159 (tB (vw C h)) (((33554432) + ((1) * ρ 1 + ((2048) * ρ 8 + 0)))) (((1) + 0)) from hP _ (List.mem_of_getElem? (i := 2) rfl)) (by omega) (by omega)
  have p3 : (qRC 16 (tB (vw C h))) (ρ 1 + 4398046511104 * ρ 4 + 35184372088832 * ρ 5 + 4503599627370496 * ρ 6 + 562949953421312 * ρ 7 + 2048 * ρ 8) (ρ 9) := c2 (P := (qRC 16 (tB (vw C h)))) (show (qRC 16 (tB (vw C h))) (((0) + ((1) * ρ 1 + ((4398046511104) * ρ 4 + ((35184372088832) * ρ 5 + ((4503599627370496) * ρ 6 + ((562949953421312) * ρ 7 + ((2048) * ρ 8 + 0)))))))) (((0) + ((1) * ρ 9 + 0))) from hP _ (List.mem_of_getElem? (i := 3) rfl)) (by omega) (by omega)
  have iw8 : tIsB (tB (vw C h)) (ρ 1).toNat (ρ 8).toNat (wd 8) = true := b01_1 (k159 (n := ρ 1) (s := ρ 8) (w := 8) (by omega) (by omega) (by omega) (by omega) (by omega) (by omega) p2)
  have hkd := (is_el.mp iw8).1
  have nx := k158 (n := ρ 1) (s := ρ 8) (t := ρ 2) (by omega) (by omega) (by omega) (by omega) (by omega) (by omega) p1
  have ng := nx_gt (B := (tB (vw C h))) (n := (ρ 1).toNat) (s := (ρ 8).toNat) (by omega)
  have hc0 := p3.1
  have hR := rc_el (n := ρ 1) (s := ρ 8) (d := (0 : Int)) (K := (0 : Int)) (R := (ρ 4 + 8 * ρ 5 + 1024 * ρ 6 + 128 * ρ 7)) p3 (by omega) (by omega) (by omega) (by omega) (by omega) (by omega) (by omega) (by omega) (by omega) (by omega)
  have q := g_20 hR iw8 (by omega)
  obtain ⟨σ, r1, r2a⟩ : ∃ σ : Va, (∀ i, i < 10 → σ i = ρ i) ∧ σ 10 = ((newM (ρ 9).toNat ((ρ 4 + 8 * ρ 5 + 1024 * ρ 6 + 128 * ρ 7).toNat / 8 % 16) : Nat) : Int) := ⟨fun i => if i = 10 then ((newM (ρ 9).toNat ((ρ 4 + 8 * ρ 5 + 1024 * ρ 6 + 128 * ρ 7).toNat / 8 % 16) : Nat) : Int) else ρ i, fun i hi => by dsimp only; rw [if_neg (by omega)], by dsimp only; rw [if_pos rfl]⟩
  have s0 := r1 0 (by omega)
  have s1 := r1 1 (by omega)
  have s2 := r1 2 (by omega)
  have s3 := r1 3 (by omega)
  have s4 := r1 4 (by omega)
  have s5 := r1 5 (by omega)
  have s6 := r1 6 (by omega)
  have s7 := r1 7 (by omega)
  have s8 := r1 8 (by omega)
  have s9 := r1 9 (by omega)
  refine ⟨_, List.mem_cons_self, σ, r1, fun q hq => absurd hq List.not_mem_nil, trivial, fun f hf => ?_, fun q hq => absurd hq List.not_mem_nil, fun q hq => absurd hq List.not_mem_nil, fun q hq => absurd hq List.not_mem_nil, fun q hq => ?_⟩
  · simp only [List.mem_cons, List.not_mem_nil, or_false] at hf
    subst hf
    show (0 : Int) ≤ ((-1) + ((1) * σ 2 + ((-1) * σ 8 + 0)))
    omega
  · simp only [List.mem_cons, List.not_mem_nil, or_false] at hq
    rcases hq with rfl | rfl
    · show (qRC 20 (tB (vw C h))) (((0) + ((1) * σ 1 + ((2048) * σ 2 + ((4398046511104) * σ 4 + ((35184372088832) * σ 5 + ((4503599627370496) * σ 6 + ((562949953421312) * σ 7 + 0)))))))) (((0) + ((1) * σ 10 + 0)))
      refine c2 (P := (qRC 20 (tB (vw C h)))) (r := ρ 1 + 2048 * ρ 2 + 4398046511104 * ρ 4 + 35184372088832 * ρ 5 + 4503599627370496 * ρ 6 + 562949953421312 * ρ 7) (c := ((newM (ρ 9).toNat ((ρ 4 + 8 * ρ 5 + 1024 * ρ 6 + 128 * ρ 7).toNat / 8 % 16) : Nat) : Int)) ?_ (by omega) (by omega)
      show (qRC 20 (tB (vw C h))) (ρ 1 + 2048 * ρ 2 + 4398046511104 * ρ 4 + 35184372088832 * ρ 5 + 4503599627370496 * ρ 6 + 562949953421312 * ρ 7) (((newM (ρ 9).toNat ((ρ 4 + 8 * ρ 5 + 1024 * ρ 6 + 128 * ρ 7).toNat / 8 % 16) : Nat) : Int))
      exact rc_in (n := ρ 1) (s := ρ 2) (d := (0 : Int)) (K := (0 : Int)) (R := (ρ 4 + 8 * ρ 5 + 1024 * ρ 6 + 128 * ρ 7)) (by omega) (by omega) (by omega) (by omega) (by omega) (by omega) (by omega) (by omega) (by omega) (by omega) q (by omega) (by omega) (by omega) (by omega) rfl
    · show qNM (((0) + ((1) * σ 5 + ((16) * σ 9 + 0)))) (((0) + ((1) * σ 10 + 0)))
      refine c2 (P := qNM) (r := ρ 5 + 16 * ρ 9) (c := ((newM (ρ 9).toNat ((ρ 4 + 8 * ρ 5 + 1024 * ρ 6 + 128 * ρ 7).toNat / 8 % 16) : Nat) : Int)) ?_ (by omega) (by omega)
      show qNM (ρ 5 + 16 * ρ 9) (((newM (ρ 9).toNat ((ρ 4 + 8 * ρ 5 + 1024 * ρ 6 + 128 * ρ 7).toNat / 8 % 16) : Nat) : Int))
      exact oNM (a := ρ 9) (m := (ρ 4 + 8 * ρ 5 + 1024 * ρ 6 + 128 * ρ 7).toNat / 8 % 16) (by omega) (by omega) rfl
/-- tm20M -/
theorem lem_538_ok (hU : uqG G C) : lem_538.1.2.1 = [] ∧ lemOK (PRd G C D xs) G rgs lem_538 := by
  refine ⟨rfl, fun ρ h ha hT => ?_⟩
  obtain ⟨-, -, hF, hG, hH, hA, hP⟩ := ha
  have f0 : (0 : Int) ≤ ((0) + ((1) * ρ 1 + 0)) := hF _ (List.mem_of_getElem? (i := 0) rfl)
  have f1 : (0 : Int) ≤ ((1200) + ((-1) * ρ 1 + 0)) := hF _ (List.mem_of_getElem? (i := 1) rfl)
  have f2 : (0 : Int) ≤ ((0) + ((1) * ρ 2 + 0)) := hF _ (List.mem_of_getElem? (i := 2) rfl)
  have f3 : (0 : Int) ≤ ((0) + ((1) * ρ 1 + ((-1) * ρ 2 + 0))) := hF _ (List.mem_of_getElem? (i := 3) rfl)
  have f4 : (0 : Int) ≤ ((-8) + ((1) * ρ 5 + 0)) := hF _ (List.mem_of_getElem? (i := 4) rfl)
  have f5 : (0 : Int) ≤ ((0) + ((1) * ρ 4 + 0)) := hF _ (List.mem_of_getElem? (i := 5) rfl)
  have f6 : (0 : Int) ≤ ((6) + ((-1) * ρ 4 + 0)) := hF _ (List.mem_of_getElem? (i := 6) rfl)
  have f7 : (0 : Int) ≤ ((0) + ((1) * ρ 5 + 0)) := hF _ (List.mem_of_getElem? (i := 7) rfl)
  have f8 : (0 : Int) ≤ ((8) + ((-1) * ρ 5 + 0)) := hF _ (List.mem_of_getElem? (i := 8) rfl)
  have f9 : (0 : Int) ≤ ((0) + ((1) * ρ 7 + 0)) := hF _ (List.mem_of_getElem? (i := 9) rfl)
  have f10 : (0 : Int) ≤ ((5) + ((-1) * ρ 7 + 0)) := hF _ (List.mem_of_getElem? (i := 10) rfl)
  have f11 : (0 : Int) ≤ ((0) + ((1) * ρ 6 + 0)) := hF _ (List.mem_of_getElem? (i := 11) rfl)
  have f12 : (0 : Int) ≤ ((4) + ((-1) * ρ 6 + 0)) := hF _ (List.mem_of_getElem? (i := 12) rfl)
  have g0 : G (ρ 0).toNat = 22 := by
    have q := (hG _ (List.mem_of_getElem? (i := 0) rfl)).2
    rwa [show ev ρ (0, [(0, 1)]) = ρ 0 from ev_v] at q
  have g1 : G (ρ 3).toNat = 124 := by
    have q := (hG _ (List.mem_of_getElem? (i := 1) rfl)).2
    rwa [show ev ρ (0, [(3, 1)]) = ρ 3 from ev_v] at q
  have h0 : (0 : Int) ≤ ρ 1 ∧ ρ 1 ≤ 1200 := hf_rg hT (hH _ (List.mem_of_getElem? (i := 0) rfl)) ev_v g0 rfl rfl rfl ev_v
  have h1 : (0 : Int) ≤ ρ 2 ∧ ρ 2 ≤ 1200 := hf_rg hT (hH _ (List.mem_of_getElem? (i := 1) rfl)) ev_v g0 rfl rfl rfl ev_v
  have b0 : (0 : Int) ≤ ((6) + 0) := b_aA (hA _ (List.mem_of_getElem? (i := 0) rfl))
  have b1 : (0 : Int) ≤ ((7) + 0) := b_aA (hA _ (List.mem_of_getElem? (i := 1) rfl))
  have b2 : (0 : Int) ≤ ((50) + 0) := b_aA (hA _ (List.mem_of_getElem? (i := 2) rfl))
  have a0 : vw C h 124 (6) = ρ 4 := vw_aA hU (hA _ (List.mem_of_getElem? (i := 0) rfl)) ev_v g1 (by omega) (by omega) (i := 6) (show (((6 : Nat)) : Int) = ((6) + 0) by omega) ev_v
  have a1 : vw C h 124 (7) = ρ 5 := vw_aA hU (hA _ (List.mem_of_getElem? (i := 1) rfl)) ev_v g1 (by omega) (by omega) (i := 7) (show (((7 : Nat)) : Int) = ((7) + 0) by omega) ev_v
  have a2 : vw C h 124 (50) = ρ 6 := vw_aA hU (hA _ (List.mem_of_getElem? (i := 2) rfl)) ev_v g1 (by omega) (by omega) (i := 50) (show (((50 : Nat)) : Int) = ((50) + 0) by omega) ev_v
  have p0 : P183 (vw C h) (ρ 5) (ρ 7) := c2 (P := P183 (vw C h)) (show P183 (vw C h) (((0) + ((1) * ρ 5 + 0))) (((0) + ((1) * ρ 7 + 0))) from hP _ (List.mem_of_getElem? (i := 0) rfl)) (by omega) (by omega)
  have p1 : q159 (tB (vw C h)) (ρ 1 + 2048 * ρ 2 + 33554432) ((1 : Int)) := c2 (P := q159 (tB (vw C h))) (show q159 (tB (vw C h)) (((33554432) + ((1) * ρ 1 + ((2048) * ρ 2 + 0)))) (((1) + 0)) from hP _ (List.mem_of_getElem? (i := 1) rfl)) (by omega) (by omega)
  have p2 : (qRC 16 (tB (vw C h))) (ρ 1 + 2048 * ρ 2 + 4398046511104 * ρ 4 + 35184372088832 * ρ 5 + 4503599627370496 * ρ 6 + 562949953421312 * ρ 7) (ρ 8) := c2 (P := (qRC 16 (tB (vw C h)))) (show (qRC 16 (tB (vw C h))) (((0) + ((1) * ρ 1 + ((2048) * ρ 2 + ((4398046511104) * ρ 4 + ((35184372088832) * ρ 5 + ((4503599627370496) * ρ 6 + ((562949953421312) * ρ 7 + 0)))))))) (((0) + ((1) * ρ 8 + 0))) from hP _ (List.mem_of_getElem? (i := 2) rfl)) (by omega) (by omega)
  have iw8 : tIsB (tB (vw C h)) (ρ 1).toNat (ρ 2).toNat (wd 8) = true := b01_1 (k159 (n := ρ 1) (s := ρ 2) (w := 8) (by omega) (by omega) (by omega) (by omega) (by omega) (by omega) p1)
  have hkd := (is_el.mp iw8).1
  have hc0 := p2.1
  have hR := rc_el (n := ρ 1) (s := ρ 2) (d := (0 : Int)) (K := (0 : Int)) (R := (ρ 4 + 8 * ρ 5 + 1024 * ρ 6 + 128 * ρ 7)) p2 (by omega) (by omega) (by omega) (by omega) (by omega) (by omega) (by omega) (by omega) (by omega) (by omega)
  have q := o_20 hR iw8 (by omega)
  refine ⟨_, List.mem_cons_self, ρ, fun _ _ => rfl, fun q hq => absurd hq List.not_mem_nil, trivial, fun f hf => ?_, fun q hq => absurd hq List.not_mem_nil, fun q hq => absurd hq List.not_mem_nil, fun q hq => absurd hq List.not_mem_nil, fun q hq => ?_⟩
  · exact absurd hf List.not_mem_nil
  · simp only [List.mem_cons, List.not_mem_nil, or_false] at hq
    subst hq
    show q166 (tB (vw C h)) (((0) + ((1) * ρ 1 + 0))) (((16384) + ((1) * ρ 2 + 0)))
    refine c2 (P := q166 (tB (vw C h))) (r := ρ 1) (c := ρ 2 + 16384) ?_ (by omega) (by omega)
    show q166 (tB (vw C h)) (ρ 1) (ρ 2 + 16384)
    exact o166 (k := 16384) (n := ρ 1) (s := ρ 2) (by omega) q (by omega) rfl (by omega)
/-- ln25M -/
theorem lem_539_ok (hU : uqG G C) : lem_539.1.2.1 = [] ∧ lemOK (PRd G C D xs) G rgs lem_539 := by
  refine ⟨rfl, fun ρ h ha hT => ?_⟩
  obtain ⟨-, -, hF, hG, hH, hA, hP⟩ := ha
  have f0 : (0 : Int) ≤ ((0) + ((1) * ρ 1 + 0)) := hF _ (List.mem_of_getElem? (i := 0) rfl)
  have f1 : (0 : Int) ≤ ((1200) + ((-1) * ρ 1 + 0)) := hF _ (List.mem_of_getElem? (i := 1) rfl)
  have f2 : (0 : Int) ≤ ((0) + ((1) * ρ 2 + 0)) := hF _ (List.mem_of_getElem? (i := 2) rfl)
  have f3 : (0 : Int) ≤ ((0) + ((1) * ρ 1 + ((-1) * ρ 2 + 0))) := hF _ (List.mem_of_getElem? (i := 3) rfl)
  have f4 : (0 : Int) ≤ ((0) + ((1) * ρ 8 + 0)) := hF _ (List.mem_of_getElem? (i := 4) rfl)
  have f5 : (0 : Int) ≤ ((0) + ((1) * ρ 1 + ((-1) * ρ 8 + 0))) := hF _ (List.mem_of_getElem? (i := 5) rfl)
  have f6 : (0 : Int) ≤ ((-1) + ((1) * ρ 5 + 0)) := hF _ (List.mem_of_getElem? (i := 6) rfl)
  have f7 : (0 : Int) ≤ ((4) + ((-1) * ρ 7 + 0)) := hF _ (List.mem_of_getElem? (i := 7) rfl)
  have f8 : (0 : Int) ≤ ((0) + ((1) * ρ 4 + 0)) := hF _ (List.mem_of_getElem? (i := 8) rfl)
  have f9 : (0 : Int) ≤ ((6) + ((-1) * ρ 4 + 0)) := hF _ (List.mem_of_getElem? (i := 9) rfl)
  have f10 : (0 : Int) ≤ ((0) + ((1) * ρ 5 + 0)) := hF _ (List.mem_of_getElem? (i := 10) rfl)
  have f11 : (0 : Int) ≤ ((8) + ((-1) * ρ 5 + 0)) := hF _ (List.mem_of_getElem? (i := 11) rfl)
  have f12 : (0 : Int) ≤ ((0) + ((1) * ρ 7 + 0)) := hF _ (List.mem_of_getElem? (i := 12) rfl)
  have f13 : (0 : Int) ≤ ((5) + ((-1) * ρ 7 + 0)) := hF _ (List.mem_of_getElem? (i := 13) rfl)
  have f14 : (0 : Int) ≤ ((0) + ((1) * ρ 6 + 0)) := hF _ (List.mem_of_getElem? (i := 14) rfl)
  have f15 : (0 : Int) ≤ ((4) + ((-1) * ρ 6 + 0)) := hF _ (List.mem_of_getElem? (i := 15) rfl)
  have g0 : G (ρ 0).toNat = 22 := by
    have q := (hG _ (List.mem_of_getElem? (i := 0) rfl)).2
    rwa [show ev ρ (0, [(0, 1)]) = ρ 0 from ev_v] at q
  have g1 : G (ρ 3).toNat = 124 := by
    have q := (hG _ (List.mem_of_getElem? (i := 1) rfl)).2
    rwa [show ev ρ (0, [(3, 1)]) = ρ 3 from ev_v] at q
  have h0 : (0 : Int) ≤ ρ 1 ∧ ρ 1 ≤ 1200 := hf_rg hT (hH _ (List.mem_of_getElem? (i := 0) rfl)) ev_v g0 rfl rfl rfl ev_v
  have h1 : (0 : Int) ≤ ρ 2 ∧ ρ 2 ≤ 1200 := hf_rg hT (hH _ (List.mem_of_getElem? (i := 1) rfl)) ev_v g0 rfl rfl rfl ev_v
  have b0 : (0 : Int) ≤ ((6) + 0) := b_aA (hA _ (List.mem_of_getElem? (i := 0) rfl))
  have b1 : (0 : Int) ≤ ((7) + 0) := b_aA (hA _ (List.mem_of_getElem? (i := 1) rfl))
  have b2 : (0 : Int) ≤ ((50) + 0) := b_aA (hA _ (List.mem_of_getElem? (i := 2) rfl))
  have a0 : vw C h 124 (6) = ρ 4 := vw_aA hU (hA _ (List.mem_of_getElem? (i := 0) rfl)) ev_v g1 (by omega) (by omega) (i := 6) (show (((6 : Nat)) : Int) = ((6) + 0) by omega) ev_v
  have a1 : vw C h 124 (7) = ρ 5 := vw_aA hU (hA _ (List.mem_of_getElem? (i := 1) rfl)) ev_v g1 (by omega) (by omega) (i := 7) (show (((7 : Nat)) : Int) = ((7) + 0) by omega) ev_v
  have a2 : vw C h 124 (50) = ρ 6 := vw_aA hU (hA _ (List.mem_of_getElem? (i := 2) rfl)) ev_v g1 (by omega) (by omega) (i := 50) (show (((50 : Nat)) : Int) = ((50) + 0) by omega) ev_v
  have p0 : P183 (vw C h) (ρ 5) (ρ 7) := c2 (P := P183 (vw C h)) (show P183 (vw C h) (((0) + ((1) * ρ 5 + 0))) (((0) + ((1) * ρ 7 + 0))) from hP _ (List.mem_of_getElem? (i := 0) rfl)) (by omega) (by omega)
  have p1 : q158 (tB (vw C h)) (ρ 1 + 2048 * ρ 2) (ρ 8) := c2 (P := q158 (tB (vw C h))) (show q158 (tB (vw C h)) (((0) + ((1) * ρ 1 + ((2048) * ρ 2 + 0)))) (((0) + ((1) * ρ 8 + 0))) from hP _ (List.mem_of_getElem? (i := 1) rfl)) (by omega) (by omega)
  have p2 : q159 (tB (vw C h)) (ρ 1 + 2048 * ρ 8 + 37748736) ((1 : Int)) := c2 (P := q159 (tB (vw C h))) (show q159 (tB (vw C h)) (((37748736) + ((1) * ρ 1 + ((2048) * ρ 8 + 0)))) (((1) + 0)) from hP _ (List.mem_of_getElem? (i := 2) rfl)) (by omega) (by omega)
  have p3 : (qRC 16 (tB (vw C h))) (ρ 1 + 4398046511104 * ρ 4 + 35184372088832 * ρ 5 + 4503599627370496 * ρ 6 + 562949953421312 * ρ 7 + 2048 * ρ 8) (ρ 9) := c2 (P := (qRC 16 (tB (vw C h)))) (show (qRC 16 (tB (vw C h))) (((0) + ((1) * ρ 1 + ((4398046511104) * ρ 4 + ((35184372088832) * ρ 5 + ((4503599627370496) * ρ 6 + ((562949953421312) * ρ 7 + ((2048) * ρ 8 + 0)))))))) (((0) + ((1) * ρ 9 + 0))) from hP _ (List.mem_of_getElem? (i := 3) rfl)) (by omega) (by omega)
  have iw9 : tIsB (tB (vw C h)) (ρ 1).toNat (ρ 8).toNat (wd 9) = true := b01_1 (k159 (n := ρ 1) (s := ρ 8) (w := 9) (by omega) (by omega) (by omega) (by omega) (by omega) (by omega) p2)
  have hkd := (is_el.mp iw9).1
  have nx := k158 (n := ρ 1) (s := ρ 8) (t := ρ 2) (by omega) (by omega) (by omega) (by omega) (by omega) (by omega) p1
  have ng := nx_gt (B := (tB (vw C h))) (n := (ρ 1).toNat) (s := (ρ 8).toNat) (by omega)
  have hc0 := p3.1
  have hR := rc_el (n := ρ 1) (s := ρ 8) (d := (0 : Int)) (K := (0 : Int)) (R := (ρ 4 + 8 * ρ 5 + 1024 * ρ 6 + 128 * ρ 7)) p3 (by omega) (by omega) (by omega) (by omega) (by omega) (by omega) (by omega) (by omega) (by omega) (by omega)
  have q := g_25 hR iw9 (by omega) (by omega)
  refine ⟨_, List.mem_cons_self, ρ, fun _ _ => rfl, fun q hq => absurd hq List.not_mem_nil, trivial, fun f hf => ?_, fun q hq => absurd hq List.not_mem_nil, fun q hq => absurd hq List.not_mem_nil, fun q hq => absurd hq List.not_mem_nil, fun q hq => ?_⟩
  · simp only [List.mem_cons, List.not_mem_nil, or_false] at hf
    subst hf
    show (0 : Int) ≤ ((-1) + ((1) * ρ 2 + ((-1) * ρ 8 + 0)))
    omega
  · simp only [List.mem_cons, List.not_mem_nil, or_false] at hq
    subst hq
    show (qRC 25 (tB (vw C h))) (((0) + ((1) * ρ 1 + ((2048) * ρ 2 + ((4398046511104) * ρ 4 + ((35184372088832) * ρ 5 + ((4503599627370496) * ρ 6 + ((562949953421312) * ρ 7 + 0)))))))) (((0) + ((1) * ρ 9 + 0)))
    refine c2 (P := (qRC 25 (tB (vw C h)))) (r := ρ 1 + 2048 * ρ 2 + 4398046511104 * ρ 4 + 35184372088832 * ρ 5 + 4503599627370496 * ρ 6 + 562949953421312 * ρ 7) (c := ρ 9) ?_ (by omega) (by omega)
    show (qRC 25 (tB (vw C h))) (ρ 1 + 2048 * ρ 2 + 4398046511104 * ρ 4 + 35184372088832 * ρ 5 + 4503599627370496 * ρ 6 + 562949953421312 * ρ 7) (ρ 9)
    exact rc_in (n := ρ 1) (s := ρ 2) (d := (0 : Int)) (K := (0 : Int)) (R := (ρ 4 + 8 * ρ 5 + 1024 * ρ 6 + 128 * ρ 7)) (by omega) (by omega) (by omega) (by omega) (by omega) (by omega) (by omega) (by omega) (by omega) (by omega) q (by omega) (by omega) (by omega) (by omega) (by omega)
/-- no25M -/
theorem lem_540_ok (hU : uqG G C) : lem_540.1.2.1 = [] ∧ lemOK (PRd G C D xs) G rgs lem_540 := by
  refine ⟨rfl, fun ρ h ha hT => ?_⟩
  obtain ⟨-, -, hF, hG, hH, hA, hP⟩ := ha
  have f0 : (0 : Int) ≤ ((0) + ((1) * ρ 1 + 0)) := hF _ (List.mem_of_getElem? (i := 0) rfl)
  have f1 : (0 : Int) ≤ ((1200) + ((-1) * ρ 1 + 0)) := hF _ (List.mem_of_getElem? (i := 1) rfl)
  have f2 : (0 : Int) ≤ ((0) + ((1) * ρ 2 + 0)) := hF _ (List.mem_of_getElem? (i := 2) rfl)
  have f3 : (0 : Int) ≤ ((0) + ((1) * ρ 1 + ((-1) * ρ 2 + 0))) := hF _ (List.mem_of_getElem? (i := 3) rfl)
  have f4 : (0 : Int) ≤ ((0) + ((-1) * ρ 5 + 0)) := hF _ (List.mem_of_getElem? (i := 4) rfl)
  have f5 : (0 : Int) ≤ ((0) + ((1) * ρ 4 + 0)) := hF _ (List.mem_of_getElem? (i := 5) rfl)
  have f6 : (0 : Int) ≤ ((6) + ((-1) * ρ 4 + 0)) := hF _ (List.mem_of_getElem? (i := 6) rfl)
  have f7 : (0 : Int) ≤ ((0) + ((1) * ρ 5 + 0)) := hF _ (List.mem_of_getElem? (i := 7) rfl)
  have f8 : (0 : Int) ≤ ((8) + ((-1) * ρ 5 + 0)) := hF _ (List.mem_of_getElem? (i := 8) rfl)
  have f9 : (0 : Int) ≤ ((0) + ((1) * ρ 7 + 0)) := hF _ (List.mem_of_getElem? (i := 9) rfl)
  have f10 : (0 : Int) ≤ ((5) + ((-1) * ρ 7 + 0)) := hF _ (List.mem_of_getElem? (i := 10) rfl)
  have f11 : (0 : Int) ≤ ((0) + ((1) * ρ 6 + 0)) := hF _ (List.mem_of_getElem? (i := 11) rfl)
  have f12 : (0 : Int) ≤ ((4) + ((-1) * ρ 6 + 0)) := hF _ (List.mem_of_getElem? (i := 12) rfl)
  have g0 : G (ρ 0).toNat = 22 := by
    have q := (hG _ (List.mem_of_getElem? (i := 0) rfl)).2
    rwa [show ev ρ (0, [(0, 1)]) = ρ 0 from ev_v] at q
  have g1 : G (ρ 3).toNat = 124 := by
    have q := (hG _ (List.mem_of_getElem? (i := 1) rfl)).2
    rwa [show ev ρ (0, [(3, 1)]) = ρ 3 from ev_v] at q
  have h0 : (0 : Int) ≤ ρ 1 ∧ ρ 1 ≤ 1200 := hf_rg hT (hH _ (List.mem_of_getElem? (i := 0) rfl)) ev_v g0 rfl rfl rfl ev_v
  have h1 : (0 : Int) ≤ ρ 2 ∧ ρ 2 ≤ 1200 := hf_rg hT (hH _ (List.mem_of_getElem? (i := 1) rfl)) ev_v g0 rfl rfl rfl ev_v
  have b0 : (0 : Int) ≤ ((6) + 0) := b_aA (hA _ (List.mem_of_getElem? (i := 0) rfl))
  have b1 : (0 : Int) ≤ ((7) + 0) := b_aA (hA _ (List.mem_of_getElem? (i := 1) rfl))
  have b2 : (0 : Int) ≤ ((50) + 0) := b_aA (hA _ (List.mem_of_getElem? (i := 2) rfl))
  have a0 : vw C h 124 (6) = ρ 4 := vw_aA hU (hA _ (List.mem_of_getElem? (i := 0) rfl)) ev_v g1 (by omega) (by omega) (i := 6) (show (((6 : Nat)) : Int) = ((6) + 0) by omega) ev_v
  have a1 : vw C h 124 (7) = ρ 5 := vw_aA hU (hA _ (List.mem_of_getElem? (i := 1) rfl)) ev_v g1 (by omega) (by omega) (i := 7) (show (((7 : Nat)) : Int) = ((7) + 0) by omega) ev_v
  have a2 : vw C h 124 (50) = ρ 6 := vw_aA hU (hA _ (List.mem_of_getElem? (i := 2) rfl)) ev_v g1 (by omega) (by omega) (i := 50) (show (((50 : Nat)) : Int) = ((50) + 0) by omega) ev_v
  have p0 : P183 (vw C h) (ρ 5) (ρ 7) := c2 (P := P183 (vw C h)) (show P183 (vw C h) (((0) + ((1) * ρ 5 + 0))) (((0) + ((1) * ρ 7 + 0))) from hP _ (List.mem_of_getElem? (i := 0) rfl)) (by omega) (by omega)
  have p1 : q159 (tB (vw C h)) (ρ 1 + 2048 * ρ 2 + 37748736) ((1 : Int)) := c2 (P := q159 (tB (vw C h))) (show q159 (tB (vw C h)) (((37748736) + ((1) * ρ 1 + ((2048) * ρ 2 + 0)))) (((1) + 0)) from hP _ (List.mem_of_getElem? (i := 1) rfl)) (by omega) (by omega)
  have p2 : (qRC 16 (tB (vw C h))) (ρ 1 + 2048 * ρ 2 + 4398046511104 * ρ 4 + 35184372088832 * ρ 5 + 4503599627370496 * ρ 6 + 562949953421312 * ρ 7) (ρ 8) := c2 (P := (qRC 16 (tB (vw C h)))) (show (qRC 16 (tB (vw C h))) (((0) + ((1) * ρ 1 + ((2048) * ρ 2 + ((4398046511104) * ρ 4 + ((35184372088832) * ρ 5 + ((4503599627370496) * ρ 6 + ((562949953421312) * ρ 7 + 0)))))))) (((0) + ((1) * ρ 8 + 0))) from hP _ (List.mem_of_getElem? (i := 2) rfl)) (by omega) (by omega)
  have iw9 : tIsB (tB (vw C h)) (ρ 1).toNat (ρ 2).toNat (wd 9) = true := b01_1 (k159 (n := ρ 1) (s := ρ 2) (w := 9) (by omega) (by omega) (by omega) (by omega) (by omega) (by omega) p1)
  have hkd := (is_el.mp iw9).1
  have hc0 := p2.1
  have hR := rc_el (n := ρ 1) (s := ρ 2) (d := (0 : Int)) (K := (0 : Int)) (R := (ρ 4 + 8 * ρ 5 + 1024 * ρ 6 + 128 * ρ 7)) p2 (by omega) (by omega) (by omega) (by omega) (by omega) (by omega) (by omega) (by omega) (by omega) (by omega)
  have q := o_25n hR iw9 (by omega)
  refine ⟨_, List.mem_cons_self, ρ, fun _ _ => rfl, fun q hq => absurd hq List.not_mem_nil, trivial, fun f hf => ?_, fun q hq => absurd hq List.not_mem_nil, fun q hq => absurd hq List.not_mem_nil, fun q hq => absurd hq List.not_mem_nil, fun q hq => ?_⟩
  · exact absurd hf List.not_mem_nil
  · simp only [List.mem_cons, List.not_mem_nil, or_false] at hq
    subst hq
    show q166 (tB (vw C h)) (((0) + ((1) * ρ 1 + 0))) (((12288) + ((1) * ρ 2 + 0)))
    refine c2 (P := q166 (tB (vw C h))) (r := ρ 1) (c := ρ 2 + 12288) ?_ (by omega) (by omega)
    show q166 (tB (vw C h)) (ρ 1) (ρ 2 + 12288)
    exact o166 (k := 12288) (n := ρ 1) (s := ρ 2) (by omega) q (by omega) rfl (by omega)
/-- tm25M -/
theorem lem_541_ok (hU : uqG G C) : lem_541.1.2.1 = [] ∧ lemOK (PRd G C D xs) G rgs lem_541 := by
  refine ⟨rfl, fun ρ h ha hT => ?_⟩
  obtain ⟨-, -, hF, hG, hH, hA, hP⟩ := ha
  have f0 : (0 : Int) ≤ ((0) + ((1) * ρ 1 + 0)) := hF _ (List.mem_of_getElem? (i := 0) rfl)
  have f1 : (0 : Int) ≤ ((1200) + ((-1) * ρ 1 + 0)) := hF _ (List.mem_of_getElem? (i := 1) rfl)
  have f2 : (0 : Int) ≤ ((0) + ((1) * ρ 2 + 0)) := hF _ (List.mem_of_getElem? (i := 2) rfl)
  have f3 : (0 : Int) ≤ ((0) + ((1) * ρ 1 + ((-1) * ρ 2 + 0))) := hF _ (List.mem_of_getElem? (i := 3) rfl)
  have f4 : (0 : Int) ≤ ((-1) + ((1) * ρ 5 + 0)) := hF _ (List.mem_of_getElem? (i := 4) rfl)
  have f5 : (0 : Int) ≤ ((-5) + ((1) * ρ 7 + 0)) := hF _ (List.mem_of_getElem? (i := 5) rfl)
  have f6 : (0 : Int) ≤ ((0) + ((1) * ρ 4 + 0)) := hF _ (List.mem_of_getElem? (i := 6) rfl)
  have f7 : (0 : Int) ≤ ((6) + ((-1) * ρ 4 + 0)) := hF _ (List.mem_of_getElem? (i := 7) rfl)
  have f8 : (0 : Int) ≤ ((0) + ((1) * ρ 5 + 0)) := hF _ (List.mem_of_getElem? (i := 8) rfl)
  have f9 : (0 : Int) ≤ ((8) + ((-1) * ρ 5 + 0)) := hF _ (List.mem_of_getElem? (i := 9) rfl)
  have f10 : (0 : Int) ≤ ((0) + ((1) * ρ 7 + 0)) := hF _ (List.mem_of_getElem? (i := 10) rfl)
  have f11 : (0 : Int) ≤ ((5) + ((-1) * ρ 7 + 0)) := hF _ (List.mem_of_getElem? (i := 11) rfl)
  have f12 : (0 : Int) ≤ ((0) + ((1) * ρ 6 + 0)) := hF _ (List.mem_of_getElem? (i := 12) rfl)
  have f13 : (0 : Int) ≤ ((4) + ((-1) * ρ 6 + 0)) := hF _ (List.mem_of_getElem? (i := 13) rfl)
  have g0 : G (ρ 0).toNat = 22 := by
    have q := (hG _ (List.mem_of_getElem? (i := 0) rfl)).2
    rwa [show ev ρ (0, [(0, 1)]) = ρ 0 from ev_v] at q
  have g1 : G (ρ 3).toNat = 124 := by
    have q := (hG _ (List.mem_of_getElem? (i := 1) rfl)).2
    rwa [show ev ρ (0, [(3, 1)]) = ρ 3 from ev_v] at q
  have h0 : (0 : Int) ≤ ρ 1 ∧ ρ 1 ≤ 1200 := hf_rg hT (hH _ (List.mem_of_getElem? (i := 0) rfl)) ev_v g0 rfl rfl rfl ev_v
  have h1 : (0 : Int) ≤ ρ 2 ∧ ρ 2 ≤ 1200 := hf_rg hT (hH _ (List.mem_of_getElem? (i := 1) rfl)) ev_v g0 rfl rfl rfl ev_v
  have b0 : (0 : Int) ≤ ((6) + 0) := b_aA (hA _ (List.mem_of_getElem? (i := 0) rfl))
  have b1 : (0 : Int) ≤ ((7) + 0) := b_aA (hA _ (List.mem_of_getElem? (i := 1) rfl))
  have b2 : (0 : Int) ≤ ((50) + 0) := b_aA (hA _ (List.mem_of_getElem? (i := 2) rfl))
  have a0 : vw C h 124 (6) = ρ 4 := vw_aA hU (hA _ (List.mem_of_getElem? (i := 0) rfl)) ev_v g1 (by omega) (by omega) (i := 6) (show (((6 : Nat)) : Int) = ((6) + 0) by omega) ev_v
  have a1 : vw C h 124 (7) = ρ 5 := vw_aA hU (hA _ (List.mem_of_getElem? (i := 1) rfl)) ev_v g1 (by omega) (by omega) (i := 7) (show (((7 : Nat)) : Int) = ((7) + 0) by omega) ev_v
  have a2 : vw C h 124 (50) = ρ 6 := vw_aA hU (hA _ (List.mem_of_getElem? (i := 2) rfl)) ev_v g1 (by omega) (by omega) (i := 50) (show (((50 : Nat)) : Int) = ((50) + 0) by omega) ev_v
  have p0 : P183 (vw C h) (ρ 5) (ρ 7) := c2 (P := P183 (vw C h)) (show P183 (vw C h) (((0) + ((1) * ρ 5 + 0))) (((0) + ((1) * ρ 7 + 0))) from hP _ (List.mem_of_getElem? (i := 0) rfl)) (by omega) (by omega)
  have p1 : q159 (tB (vw C h)) (ρ 1 + 2048 * ρ 2 + 37748736) ((1 : Int)) := c2 (P := q159 (tB (vw C h))) (show q159 (tB (vw C h)) (((37748736) + ((1) * ρ 1 + ((2048) * ρ 2 + 0)))) (((1) + 0)) from hP _ (List.mem_of_getElem? (i := 1) rfl)) (by omega) (by omega)
  have p2 : (qRC 16 (tB (vw C h))) (ρ 1 + 2048 * ρ 2 + 4398046511104 * ρ 4 + 35184372088832 * ρ 5 + 4503599627370496 * ρ 6 + 562949953421312 * ρ 7) (ρ 8) := c2 (P := (qRC 16 (tB (vw C h)))) (show (qRC 16 (tB (vw C h))) (((0) + ((1) * ρ 1 + ((2048) * ρ 2 + ((4398046511104) * ρ 4 + ((35184372088832) * ρ 5 + ((4503599627370496) * ρ 6 + ((562949953421312) * ρ 7 + 0)))))))) (((0) + ((1) * ρ 8 + 0))) from hP _ (List.mem_of_getElem? (i := 2) rfl)) (by omega) (by omega)
  have iw9 : tIsB (tB (vw C h)) (ρ 1).toNat (ρ 2).toNat (wd 9) = true := b01_1 (k159 (n := ρ 1) (s := ρ 2) (w := 9) (by omega) (by omega) (by omega) (by omega) (by omega) (by omega) p1)
  have hkd := (is_el.mp iw9).1
  have hc0 := p2.1
  have hR := rc_el (n := ρ 1) (s := ρ 2) (d := (0 : Int)) (K := (0 : Int)) (R := (ρ 4 + 8 * ρ 5 + 1024 * ρ 6 + 128 * ρ 7)) p2 (by omega) (by omega) (by omega) (by omega) (by omega) (by omega) (by omega) (by omega) (by omega) (by omega)
  have q := o_25 hR iw9 (by omega) (by omega)
  refine ⟨_, List.mem_cons_self, ρ, fun _ _ => rfl, fun q hq => absurd hq List.not_mem_nil, trivial, fun f hf => ?_, fun q hq => absurd hq List.not_mem_nil, fun q hq => absurd hq List.not_mem_nil, fun q hq => absurd hq List.not_mem_nil, fun q hq => ?_⟩
  · exact absurd hf List.not_mem_nil
  · simp only [List.mem_cons, List.not_mem_nil, or_false] at hq
    subst hq
    show q166 (tB (vw C h)) (((0) + ((1) * ρ 1 + 0))) (((16384) + ((1) * ρ 2 + 0)))
    refine c2 (P := q166 (tB (vw C h))) (r := ρ 1) (c := ρ 2 + 16384) ?_ (by omega) (by omega)
    show q166 (tB (vw C h)) (ρ 1) (ρ 2 + 16384)
    exact o166 (k := 16384) (n := ρ 1) (s := ρ 2) (by omega) q (by omega) rfl (by omega)
/-- ln40M -/
theorem lem_542_ok (hU : uqG G C) : lem_542.1.2.1 = [] ∧ lemOK (PRd G C D xs) G rgs lem_542 := by
  refine ⟨rfl, fun ρ h ha hT => ?_⟩
  obtain ⟨-, -, hF, hG, hH, hA, hP⟩ := ha
  have f0 : (0 : Int) ≤ ((0) + ((1) * ρ 1 + 0)) := hF _ (List.mem_of_getElem? (i := 0) rfl)
  have f1 : (0 : Int) ≤ ((1200) + ((-1) * ρ 1 + 0)) := hF _ (List.mem_of_getElem? (i := 1) rfl)
  have f2 : (0 : Int) ≤ ((0) + ((1) * ρ 2 + 0)) := hF _ (List.mem_of_getElem? (i := 2) rfl)
  have f3 : (0 : Int) ≤ ((0) + ((1) * ρ 1 + ((-1) * ρ 2 + 0))) := hF _ (List.mem_of_getElem? (i := 3) rfl)
  have f4 : (0 : Int) ≤ ((0) + ((1) * ρ 8 + 0)) := hF _ (List.mem_of_getElem? (i := 4) rfl)
  have f5 : (0 : Int) ≤ ((0) + ((1) * ρ 1 + ((-1) * ρ 8 + 0))) := hF _ (List.mem_of_getElem? (i := 5) rfl)
  have f6 : (0 : Int) ≤ ((3) + ((-1) * ρ 6 + 0)) := hF _ (List.mem_of_getElem? (i := 6) rfl)
  have f7 : (0 : Int) ≤ ((0) + ((1) * ρ 4 + 0)) := hF _ (List.mem_of_getElem? (i := 7) rfl)
  have f8 : (0 : Int) ≤ ((6) + ((-1) * ρ 4 + 0)) := hF _ (List.mem_of_getElem? (i := 8) rfl)
  have f9 : (0 : Int) ≤ ((0) + ((1) * ρ 5 + 0)) := hF _ (List.mem_of_getElem? (i := 9) rfl)
  have f10 : (0 : Int) ≤ ((8) + ((-1) * ρ 5 + 0)) := hF _ (List.mem_of_getElem? (i := 10) rfl)
  have f11 : (0 : Int) ≤ ((0) + ((1) * ρ 7 + 0)) := hF _ (List.mem_of_getElem? (i := 11) rfl)
  have f12 : (0 : Int) ≤ ((5) + ((-1) * ρ 7 + 0)) := hF _ (List.mem_of_getElem? (i := 12) rfl)
  have f13 : (0 : Int) ≤ ((0) + ((1) * ρ 6 + 0)) := hF _ (List.mem_of_getElem? (i := 13) rfl)
  have f14 : (0 : Int) ≤ ((4) + ((-1) * ρ 6 + 0)) := hF _ (List.mem_of_getElem? (i := 14) rfl)
  have g0 : G (ρ 0).toNat = 22 := by
    have q := (hG _ (List.mem_of_getElem? (i := 0) rfl)).2
    rwa [show ev ρ (0, [(0, 1)]) = ρ 0 from ev_v] at q
  have g1 : G (ρ 3).toNat = 124 := by
    have q := (hG _ (List.mem_of_getElem? (i := 1) rfl)).2
    rwa [show ev ρ (0, [(3, 1)]) = ρ 3 from ev_v] at q
  have h0 : (0 : Int) ≤ ρ 1 ∧ ρ 1 ≤ 1200 := hf_rg hT (hH _ (List.mem_of_getElem? (i := 0) rfl)) ev_v g0 rfl rfl rfl ev_v
  have h1 : (0 : Int) ≤ ρ 2 ∧ ρ 2 ≤ 1200 := hf_rg hT (hH _ (List.mem_of_getElem? (i := 1) rfl)) ev_v g0 rfl rfl rfl ev_v
  have b0 : (0 : Int) ≤ ((6) + 0) := b_aA (hA _ (List.mem_of_getElem? (i := 0) rfl))
  have b1 : (0 : Int) ≤ ((7) + 0) := b_aA (hA _ (List.mem_of_getElem? (i := 1) rfl))
  have b2 : (0 : Int) ≤ ((50) + 0) := b_aA (hA _ (List.mem_of_getElem? (i := 2) rfl))
  have a0 : vw C h 124 (6) = ρ 4 := vw_aA hU (hA _ (List.mem_of_getElem? (i := 0) rfl)) ev_v g1 (by omega) (by omega) (i := 6) (show (((6 : Nat)) : Int) = ((6) + 0) by omega) ev_v
  have a1 : vw C h 124 (7) = ρ 5 := vw_aA hU (hA _ (List.mem_of_getElem? (i := 1) rfl)) ev_v g1 (by omega) (by omega) (i := 7) (show (((7 : Nat)) : Int) = ((7) + 0) by omega) ev_v
  have a2 : vw C h 124 (50) = ρ 6 := vw_aA hU (hA _ (List.mem_of_getElem? (i := 2) rfl)) ev_v g1 (by omega) (by omega) (i := 50) (show (((50 : Nat)) : Int) = ((50) + 0) by omega) ev_v
  have p0 : P183 (vw C h) (ρ 5) (ρ 7) := c2 (P := P183 (vw C h)) (show P183 (vw C h) (((0) + ((1) * ρ 5 + 0))) (((0) + ((1) * ρ 7 + 0))) from hP _ (List.mem_of_getElem? (i := 0) rfl)) (by omega) (by omega)
  have p1 : q158 (tB (vw C h)) (ρ 1 + 2048 * ρ 2) (ρ 8) := c2 (P := q158 (tB (vw C h))) (show q158 (tB (vw C h)) (((0) + ((1) * ρ 1 + ((2048) * ρ 2 + 0)))) (((0) + ((1) * ρ 8 + 0))) from hP _ (List.mem_of_getElem? (i := 1) rfl)) (by omega) (by omega)
  have p2 : q159 (tB (vw C h)) (ρ 1 + 2048 * ρ 8 + 41943040) ((1 : Int)) := c2 (P := q159 (tB (vw C h))) (show q159 (tB (vw C h)) (((41943040) + ((1) * ρ 1 + ((2048) * ρ 8 + 0)))) (((1) + 0)) from hP _ (List.mem_of_getElem? (i := 2) rfl)) (by omega) (by omega)
  have p3 : (qRC 16 (tB (vw C h))) (ρ 1 + 4398046511104 * ρ 4 + 35184372088832 * ρ 5 + 4503599627370496 * ρ 6 + 562949953421312 * ρ 7 + 2048 * ρ 8) (ρ 9) := c2 (P := (qRC 16 (tB (vw C h)))) (show (qRC 16 (tB (vw C h))) (((0) + ((1) * ρ 1 + ((4398046511104) * ρ 4 + ((35184372088832) * ρ 5 + ((4503599627370496) * ρ 6 + ((562949953421312) * ρ 7 + ((2048) * ρ 8 + 0)))))))) (((0) + ((1) * ρ 9 + 0))) from hP _ (List.mem_of_getElem? (i := 3) rfl)) (by omega) (by omega)
  have iw10 : tIsB (tB (vw C h)) (ρ 1).toNat (ρ 8).toNat (wd 10) = true := b01_1 (k159 (n := ρ 1) (s := ρ 8) (w := 10) (by omega) (by omega) (by omega) (by omega) (by omega) (by omega) p2)
  have hkd := (is_el.mp iw10).1
  have nx := k158 (n := ρ 1) (s := ρ 8) (t := ρ 2) (by omega) (by omega) (by omega) (by omega) (by omega) (by omega) p1
  have ng := nx_gt (B := (tB (vw C h))) (n := (ρ 1).toNat) (s := (ρ 8).toNat) (by omega)
  have hc0 := p3.1
  have hR := rc_el (n := ρ 1) (s := ρ 8) (d := (0 : Int)) (K := (0 : Int)) (R := (ρ 4 + 8 * ρ 5 + 1024 * ρ 6 + 128 * ρ 7)) p3 (by omega) (by omega) (by omega) (by omega) (by omega) (by omega) (by omega) (by omega) (by omega) (by omega)
  have q := g_40 hR iw10 (by omega)
  refine ⟨_, List.mem_cons_self, ρ, fun _ _ => rfl, fun q hq => absurd hq List.not_mem_nil, trivial, fun f hf => ?_, fun q hq => absurd hq List.not_mem_nil, fun q hq => absurd hq List.not_mem_nil, fun q hq => absurd hq List.not_mem_nil, fun q hq => ?_⟩
  · simp only [List.mem_cons, List.not_mem_nil, or_false] at hf
    subst hf
    show (0 : Int) ≤ ((-1) + ((1) * ρ 2 + ((-1) * ρ 8 + 0)))
    omega
  · simp only [List.mem_cons, List.not_mem_nil, or_false] at hq
    rcases hq with rfl | rfl | rfl | rfl
    · show (qRC 40 (tB (vw C h))) (((0) + ((1) * ρ 1 + ((2048) * ρ 2 + ((4398046511104) * ρ 4 + ((35184372088832) * ρ 5 + ((4503599627370496) * ρ 6 + ((562949953421312) * ρ 7 + 0)))))))) (((0) + ((1) * ρ 9 + 0)))
      refine c2 (P := (qRC 40 (tB (vw C h)))) (r := ρ 1 + 2048 * ρ 2 + 4398046511104 * ρ 4 + 35184372088832 * ρ 5 + 4503599627370496 * ρ 6 + 562949953421312 * ρ 7) (c := ρ 9) ?_ (by omega) (by omega)
      show (qRC 40 (tB (vw C h))) (ρ 1 + 2048 * ρ 2 + 4398046511104 * ρ 4 + 35184372088832 * ρ 5 + 4503599627370496 * ρ 6 + 562949953421312 * ρ 7) (ρ 9)
      exact rc_in (n := ρ 1) (s := ρ 2) (d := (0 : Int)) (K := (0 : Int)) (R := (ρ 4 + 8 * ρ 5 + 1024 * ρ 6 + 128 * ρ 7)) (by omega) (by omega) (by omega) (by omega) (by omega) (by omega) (by omega) (by omega) (by omega) (by omega) q (by omega) (by omega) (by omega) (by omega) (by omega)
    · show True
      refine c2 (P := (fun (_ _ : Int) => True)) (r := 0) (r' := 0) (c := 0) (c' := 0) ?_ rfl rfl
      show True
      trivial
    · show q167 (((0) + 0)) (((0) + 0))
      refine c2 (P := q167) (r := (0 : Int)) (c := (0 : Int)) ?_ (by omega) (by omega)
      show q167 ((0 : Int)) ((0 : Int))
      exact ⟨by omega, by decide, fun _ => Or.inl (by omega)⟩
    · show q167 (((1) + 0)) (((0) + 0))
      refine c2 (P := q167) (r := (1 : Int)) (c := (0 : Int)) ?_ (by omega) (by omega)
      show q167 ((1 : Int)) ((0 : Int))
      exact ⟨by omega, by decide, fun _ => Or.inl (by omega)⟩
/-- tm40M -/
theorem lem_543_ok (hU : uqG G C) : lem_543.1.2.1 = [] ∧ lemOK (PRd G C D xs) G rgs lem_543 := by
  refine ⟨rfl, fun ρ h ha hT => ?_⟩
  obtain ⟨-, -, hF, hG, hH, hA, hP⟩ := ha
  have f0 : (0 : Int) ≤ ((0) + ((1) * ρ 1 + 0)) := hF _ (List.mem_of_getElem? (i := 0) rfl)
  have f1 : (0 : Int) ≤ ((1200) + ((-1) * ρ 1 + 0)) := hF _ (List.mem_of_getElem? (i := 1) rfl)
  have f2 : (0 : Int) ≤ ((0) + ((1) * ρ 2 + 0)) := hF _ (List.mem_of_getElem? (i := 2) rfl)
  have f3 : (0 : Int) ≤ ((0) + ((1) * ρ 1 + ((-1) * ρ 2 + 0))) := hF _ (List.mem_of_getElem? (i := 3) rfl)
  have f4 : (0 : Int) ≤ ((-4) + ((1) * ρ 6 + 0)) := hF _ (List.mem_of_getElem? (i := 4) rfl)
  have f5 : (0 : Int) ≤ ((0) + ((1) * ρ 4 + 0)) := hF _ (List.mem_of_getElem? (i := 5) rfl)
  have f6 : (0 : Int) ≤ ((6) + ((-1) * ρ 4 + 0)) := hF _ (List.mem_of_getElem? (i := 6) rfl)
  have f7 : (0 : Int) ≤ ((0) + ((1) * ρ 5 + 0)) := hF _ (List.mem_of_getElem? (i := 7) rfl)
  have f8 : (0 : Int) ≤ ((8) + ((-1) * ρ 5 + 0)) := hF _ (List.mem_of_getElem? (i := 8) rfl)
  have f9 : (0 : Int) ≤ ((0) + ((1) * ρ 7 + 0)) := hF _ (List.mem_of_getElem? (i := 9) rfl)
  have f10 : (0 : Int) ≤ ((5) + ((-1) * ρ 7 + 0)) := hF _ (List.mem_of_getElem? (i := 10) rfl)
  have f11 : (0 : Int) ≤ ((0) + ((1) * ρ 6 + 0)) := hF _ (List.mem_of_getElem? (i := 11) rfl)
  have f12 : (0 : Int) ≤ ((4) + ((-1) * ρ 6 + 0)) := hF _ (List.mem_of_getElem? (i := 12) rfl)
  have g0 : G (ρ 0).toNat = 22 := by
    have q := (hG _ (List.mem_of_getElem? (i := 0) rfl)).2
    rwa [show ev ρ (0, [(0, 1)]) = ρ 0 from ev_v] at q
  have g1 : G (ρ 3).toNat = 124 := by
    have q := (hG _ (List.mem_of_getElem? (i := 1) rfl)).2
    rwa [show ev ρ (0, [(3, 1)]) = ρ 3 from ev_v] at q
  have h0 : (0 : Int) ≤ ρ 1 ∧ ρ 1 ≤ 1200 := hf_rg hT (hH _ (List.mem_of_getElem? (i := 0) rfl)) ev_v g0 rfl rfl rfl ev_v
  have h1 : (0 : Int) ≤ ρ 2 ∧ ρ 2 ≤ 1200 := hf_rg hT (hH _ (List.mem_of_getElem? (i := 1) rfl)) ev_v g0 rfl rfl rfl ev_v
  have b0 : (0 : Int) ≤ ((6) + 0) := b_aA (hA _ (List.mem_of_getElem? (i := 0) rfl))
  have b1 : (0 : Int) ≤ ((7) + 0) := b_aA (hA _ (List.mem_of_getElem? (i := 1) rfl))
  have b2 : (0 : Int) ≤ ((50) + 0) := b_aA (hA _ (List.mem_of_getElem? (i := 2) rfl))
  have a0 : vw C h 124 (6) = ρ 4 := vw_aA hU (hA _ (List.mem_of_getElem? (i := 0) rfl)) ev_v g1 (by omega) (by omega) (i := 6) (show (((6 : Nat)) : Int) = ((6) + 0) by omega) ev_v
  have a1 : vw C h 124 (7) = ρ 5 := vw_aA hU (hA _ (List.mem_of_getElem? (i := 1) rfl)) ev_v g1 (by omega) (by omega) (i := 7) (show (((7 : Nat)) : Int) = ((7) + 0) by omega) ev_v
  have a2 : vw C h 124 (50) = ρ 6 := vw_aA hU (hA _ (List.mem_of_getElem? (i := 2) rfl)) ev_v g1 (by omega) (by omega) (i := 50) (show (((50 : Nat)) : Int) = ((50) + 0) by omega) ev_v
  have p0 : P183 (vw C h) (ρ 5) (ρ 7) := c2 (P := P183 (vw C h)) (show P183 (vw C h) (((0) + ((1) * ρ 5 + 0))) (((0) + ((1) * ρ 7 + 0))) from hP _ (List.mem_of_getElem? (i := 0) rfl)) (by omega) (by omega)
  have p1 : q159 (tB (vw C h)) (ρ 1 + 2048 * ρ 2 + 41943040) ((1 : Int)) := c2 (P := q159 (tB (vw C h))) (show q159 (tB (vw C h)) (((41943040) + ((1) * ρ 1 + ((2048) * ρ 2 + 0)))) (((1) + 0)) from hP _ (List.mem_of_getElem? (i := 1) rfl)) (by omega) (by omega)
  have p2 : (qRC 16 (tB (vw C h))) (ρ 1 + 2048 * ρ 2 + 4398046511104 * ρ 4 + 35184372088832 * ρ 5 + 4503599627370496 * ρ 6 + 562949953421312 * ρ 7) (ρ 8) := c2 (P := (qRC 16 (tB (vw C h)))) (show (qRC 16 (tB (vw C h))) (((0) + ((1) * ρ 1 + ((2048) * ρ 2 + ((4398046511104) * ρ 4 + ((35184372088832) * ρ 5 + ((4503599627370496) * ρ 6 + ((562949953421312) * ρ 7 + 0)))))))) (((0) + ((1) * ρ 8 + 0))) from hP _ (List.mem_of_getElem? (i := 2) rfl)) (by omega) (by omega)
  have iw10 : tIsB (tB (vw C h)) (ρ 1).toNat (ρ 2).toNat (wd 10) = true := b01_1 (k159 (n := ρ 1) (s := ρ 2) (w := 10) (by omega) (by omega) (by omega) (by omega) (by omega) (by omega) p1)
  have hkd := (is_el.mp iw10).1
  have hc0 := p2.1
  have hR := rc_el (n := ρ 1) (s := ρ 2) (d := (0 : Int)) (K := (0 : Int)) (R := (ρ 4 + 8 * ρ 5 + 1024 * ρ 6 + 128 * ρ 7)) p2 (by omega) (by omega) (by omega) (by omega) (by omega) (by omega) (by omega) (by omega) (by omega) (by omega)
  have q := o_40 hR iw10 (by omega)
  refine ⟨_, List.mem_cons_self, ρ, fun _ _ => rfl, fun q hq => absurd hq List.not_mem_nil, trivial, fun f hf => ?_, fun q hq => absurd hq List.not_mem_nil, fun q hq => absurd hq List.not_mem_nil, fun q hq => absurd hq List.not_mem_nil, fun q hq => ?_⟩
  · exact absurd hf List.not_mem_nil
  · simp only [List.mem_cons, List.not_mem_nil, or_false] at hq
    subst hq
    show q166 (tB (vw C h)) (((0) + ((1) * ρ 1 + 0))) (((16384) + ((1) * ρ 2 + 0)))
    refine c2 (P := q166 (tB (vw C h))) (r := ρ 1) (c := ρ 2 + 16384) ?_ (by omega) (by omega)
    show q166 (tB (vw C h)) (ρ 1) (ρ 2 + 16384)
    exact o166 (k := 16384) (n := ρ 1) (s := ρ 2) (by omega) q (by omega) rfl (by omega)
/-- lnNoM -/
theorem lem_544_ok (hU : uqG G C) : lem_544.1.2.1 = [] ∧ lemOK (PRd G C D xs) G rgs lem_544 := by
  refine ⟨rfl, fun ρ h ha hT => ?_⟩
  obtain ⟨-, -, hF, hG, hH, hA, hP⟩ := ha
  have f0 : (0 : Int) ≤ ((0) + ((1) * ρ 1 + 0)) := hF _ (List.mem_of_getElem? (i := 0) rfl)
  have f1 : (0 : Int) ≤ ((1200) + ((-1) * ρ 1 + 0)) := hF _ (List.mem_of_getElem? (i := 1) rfl)
  have f2 : (0 : Int) ≤ ((0) + ((1) * ρ 2 + 0)) := hF _ (List.mem_of_getElem? (i := 2) rfl)
  have f3 : (0 : Int) ≤ ((0) + ((1) * ρ 1 + ((-1) * ρ 2 + 0))) := hF _ (List.mem_of_getElem? (i := 3) rfl)
  have f4 : (0 : Int) ≤ ((0) + ((1) * ρ 4 + 0)) := hF _ (List.mem_of_getElem? (i := 4) rfl)
  have f5 : (0 : Int) ≤ ((6) + ((-1) * ρ 4 + 0)) := hF _ (List.mem_of_getElem? (i := 5) rfl)
  have f6 : (0 : Int) ≤ ((0) + ((1) * ρ 5 + 0)) := hF _ (List.mem_of_getElem? (i := 6) rfl)
  have f7 : (0 : Int) ≤ ((8) + ((-1) * ρ 5 + 0)) := hF _ (List.mem_of_getElem? (i := 7) rfl)
  have f8 : (0 : Int) ≤ ((0) + ((1) * ρ 7 + 0)) := hF _ (List.mem_of_getElem? (i := 8) rfl)
  have f9 : (0 : Int) ≤ ((5) + ((-1) * ρ 7 + 0)) := hF _ (List.mem_of_getElem? (i := 9) rfl)
  have f10 : (0 : Int) ≤ ((0) + ((1) * ρ 6 + 0)) := hF _ (List.mem_of_getElem? (i := 10) rfl)
  have f11 : (0 : Int) ≤ ((4) + ((-1) * ρ 6 + 0)) := hF _ (List.mem_of_getElem? (i := 11) rfl)
  have g0 : G (ρ 0).toNat = 22 := by
    have q := (hG _ (List.mem_of_getElem? (i := 0) rfl)).2
    rwa [show ev ρ (0, [(0, 1)]) = ρ 0 from ev_v] at q
  have g1 : G (ρ 3).toNat = 124 := by
    have q := (hG _ (List.mem_of_getElem? (i := 1) rfl)).2
    rwa [show ev ρ (0, [(3, 1)]) = ρ 3 from ev_v] at q
  have h0 : (0 : Int) ≤ ρ 1 ∧ ρ 1 ≤ 1200 := hf_rg hT (hH _ (List.mem_of_getElem? (i := 0) rfl)) ev_v g0 rfl rfl rfl ev_v
  have h1 : (0 : Int) ≤ ρ 2 ∧ ρ 2 ≤ 1200 := hf_rg hT (hH _ (List.mem_of_getElem? (i := 1) rfl)) ev_v g0 rfl rfl rfl ev_v
  have b0 : (0 : Int) ≤ ((6) + 0) := b_aA (hA _ (List.mem_of_getElem? (i := 0) rfl))
  have b1 : (0 : Int) ≤ ((7) + 0) := b_aA (hA _ (List.mem_of_getElem? (i := 1) rfl))
  have b2 : (0 : Int) ≤ ((50) + 0) := b_aA (hA _ (List.mem_of_getElem? (i := 2) rfl))
  have a0 : vw C h 124 (6) = ρ 4 := vw_aA hU (hA _ (List.mem_of_getElem? (i := 0) rfl)) ev_v g1 (by omega) (by omega) (i := 6) (show (((6 : Nat)) : Int) = ((6) + 0) by omega) ev_v
  have a1 : vw C h 124 (7) = ρ 5 := vw_aA hU (hA _ (List.mem_of_getElem? (i := 1) rfl)) ev_v g1 (by omega) (by omega) (i := 7) (show (((7 : Nat)) : Int) = ((7) + 0) by omega) ev_v
  have a2 : vw C h 124 (50) = ρ 6 := vw_aA hU (hA _ (List.mem_of_getElem? (i := 2) rfl)) ev_v g1 (by omega) (by omega) (i := 50) (show (((50 : Nat)) : Int) = ((50) + 0) by omega) ev_v
  have p0 : P183 (vw C h) (ρ 5) (ρ 7) := c2 (P := P183 (vw C h)) (show P183 (vw C h) (((0) + ((1) * ρ 5 + 0))) (((0) + ((1) * ρ 7 + 0))) from hP _ (List.mem_of_getElem? (i := 0) rfl)) (by omega) (by omega)
  have p1 : q159 (tB (vw C h)) (ρ 1 + 2048 * ρ 2 + 29360128) ((0 : Int)) := c2 (P := q159 (tB (vw C h))) (show q159 (tB (vw C h)) (((29360128) + ((1) * ρ 1 + ((2048) * ρ 2 + 0)))) (((0) + 0)) from hP _ (List.mem_of_getElem? (i := 1) rfl)) (by omega) (by omega)
  have p2 : q159 (tB (vw C h)) (ρ 1 + 2048 * ρ 2 + 33554432) ((0 : Int)) := c2 (P := q159 (tB (vw C h))) (show q159 (tB (vw C h)) (((33554432) + ((1) * ρ 1 + ((2048) * ρ 2 + 0)))) (((0) + 0)) from hP _ (List.mem_of_getElem? (i := 2) rfl)) (by omega) (by omega)
  have p3 : q159 (tB (vw C h)) (ρ 1 + 2048 * ρ 2 + 37748736) ((0 : Int)) := c2 (P := q159 (tB (vw C h))) (show q159 (tB (vw C h)) (((37748736) + ((1) * ρ 1 + ((2048) * ρ 2 + 0)))) (((0) + 0)) from hP _ (List.mem_of_getElem? (i := 3) rfl)) (by omega) (by omega)
  have p4 : q159 (tB (vw C h)) (ρ 1 + 2048 * ρ 2 + 41943040) ((0 : Int)) := c2 (P := q159 (tB (vw C h))) (show q159 (tB (vw C h)) (((41943040) + ((1) * ρ 1 + ((2048) * ρ 2 + 0)))) (((0) + 0)) from hP _ (List.mem_of_getElem? (i := 4) rfl)) (by omega) (by omega)
  have p5 : (qRC 16 (tB (vw C h))) (ρ 1 + 2048 * ρ 2 + 4398046511104 * ρ 4 + 35184372088832 * ρ 5 + 4503599627370496 * ρ 6 + 562949953421312 * ρ 7) (ρ 8) := c2 (P := (qRC 16 (tB (vw C h)))) (show (qRC 16 (tB (vw C h))) (((0) + ((1) * ρ 1 + ((2048) * ρ 2 + ((4398046511104) * ρ 4 + ((35184372088832) * ρ 5 + ((4503599627370496) * ρ 6 + ((562949953421312) * ρ 7 + 0)))))))) (((0) + ((1) * ρ 8 + 0))) from hP _ (List.mem_of_getElem? (i := 5) rfl)) (by omega) (by omega)
  have iw7 : tIsB (tB (vw C h)) (ρ 1).toNat (ρ 2).toNat (wd 7) = false := b01_0 (k159 (n := ρ 1) (s := ρ 2) (w := 7) (by omega) (by omega) (by omega) (by omega) (by omega) (by omega) p1)
  have iw8 : tIsB (tB (vw C h)) (ρ 1).toNat (ρ 2).toNat (wd 8) = false := b01_0 (k159 (n := ρ 1) (s := ρ 2) (w := 8) (by omega) (by omega) (by omega) (by omega) (by omega) (by omega) p2)
  have iw9 : tIsB (tB (vw C h)) (ρ 1).toNat (ρ 2).toNat (wd 9) = false := b01_0 (k159 (n := ρ 1) (s := ρ 2) (w := 9) (by omega) (by omega) (by omega) (by omega) (by omega) (by omega) p3)
  have iw10 : tIsB (tB (vw C h)) (ρ 1).toNat (ρ 2).toNat (wd 10) = false := b01_0 (k159 (n := ρ 1) (s := ρ 2) (w := 10) (by omega) (by omega) (by omega) (by omega) (by omega) (by omega) p4)
  have hc0 := p5.1
  have hR := rc_el (n := ρ 1) (s := ρ 2) (d := (0 : Int)) (K := (0 : Int)) (R := (ρ 4 + 8 * ρ 5 + 1024 * ρ 6 + 128 * ρ 7)) p5 (by omega) (by omega) (by omega) (by omega) (by omega) (by omega) (by omega) (by omega) (by omega) (by omega)
  have q := o_16 hR iw7 iw8 iw9 iw10
  refine ⟨_, List.mem_cons_self, ρ, fun _ _ => rfl, fun q hq => absurd hq List.not_mem_nil, trivial, fun f hf => ?_, fun q hq => absurd hq List.not_mem_nil, fun q hq => absurd hq List.not_mem_nil, fun q hq => absurd hq List.not_mem_nil, fun q hq => ?_⟩
  · exact absurd hf List.not_mem_nil
  · simp only [List.mem_cons, List.not_mem_nil, or_false] at hq
    subst hq
    show q166 (tB (vw C h)) (((0) + ((1) * ρ 1 + 0))) (((4096) + ((1) * ρ 2 + 0)))
    refine c2 (P := q166 (tB (vw C h))) (r := ρ 1) (c := ρ 2 + 4096) ?_ (by omega) (by omega)
    show q166 (tB (vw C h)) (ρ 1) (ρ 2 + 4096)
    exact o166 (k := 4096) (n := ρ 1) (s := ρ 2) (by omega) q (by omega) rfl (by omega)
/-- gp23M -/
theorem lem_545_ok (hU : uqG G C) : lem_545.1.2.1 = [] ∧ lemOK (PRd G C D xs) G rgs lem_545 := by
  refine ⟨rfl, fun ρ h ha hT => ?_⟩
  obtain ⟨-, -, hF, hG, hH, hA, hP⟩ := ha
  have f0 : (0 : Int) ≤ ((0) + ((1) * ρ 1 + 0)) := hF _ (List.mem_of_getElem? (i := 0) rfl)
  have f1 : (0 : Int) ≤ ((1200) + ((-1) * ρ 1 + 0)) := hF _ (List.mem_of_getElem? (i := 1) rfl)
  have f2 : (0 : Int) ≤ ((0) + ((1) * ρ 2 + 0)) := hF _ (List.mem_of_getElem? (i := 2) rfl)
  have f3 : (0 : Int) ≤ ((0) + ((1) * ρ 1 + ((-1) * ρ 2 + 0))) := hF _ (List.mem_of_getElem? (i := 3) rfl)
  have f4 : (0 : Int) ≤ ((0) + ((1) * ρ 8 + 0)) := hF _ (List.mem_of_getElem? (i := 4) rfl)
  have f5 : (0 : Int) ≤ ((0) + ((1) * ρ 1 + ((-1) * ρ 8 + 0))) := hF _ (List.mem_of_getElem? (i := 5) rfl)
  have f6 : (0 : Int) ≤ ((0) + ((1) * ρ 4 + 0)) := hF _ (List.mem_of_getElem? (i := 6) rfl)
  have f7 : (0 : Int) ≤ ((6) + ((-1) * ρ 4 + 0)) := hF _ (List.mem_of_getElem? (i := 7) rfl)
  have f8 : (0 : Int) ≤ ((0) + ((1) * ρ 5 + 0)) := hF _ (List.mem_of_getElem? (i := 8) rfl)
  have f9 : (0 : Int) ≤ ((8) + ((-1) * ρ 5 + 0)) := hF _ (List.mem_of_getElem? (i := 9) rfl)
  have f10 : (0 : Int) ≤ ((0) + ((1) * ρ 7 + 0)) := hF _ (List.mem_of_getElem? (i := 10) rfl)
  have f11 : (0 : Int) ≤ ((5) + ((-1) * ρ 7 + 0)) := hF _ (List.mem_of_getElem? (i := 11) rfl)
  have f12 : (0 : Int) ≤ ((0) + ((1) * ρ 6 + 0)) := hF _ (List.mem_of_getElem? (i := 12) rfl)
  have f13 : (0 : Int) ≤ ((4) + ((-1) * ρ 6 + 0)) := hF _ (List.mem_of_getElem? (i := 13) rfl)
  have g0 : G (ρ 0).toNat = 22 := by
    have q := (hG _ (List.mem_of_getElem? (i := 0) rfl)).2
    rwa [show ev ρ (0, [(0, 1)]) = ρ 0 from ev_v] at q
  have g1 : G (ρ 3).toNat = 124 := by
    have q := (hG _ (List.mem_of_getElem? (i := 1) rfl)).2
    rwa [show ev ρ (0, [(3, 1)]) = ρ 3 from ev_v] at q
  have h0 : (0 : Int) ≤ ρ 1 ∧ ρ 1 ≤ 1200 := hf_rg hT (hH _ (List.mem_of_getElem? (i := 0) rfl)) ev_v g0 rfl rfl rfl ev_v
  have h1 : (0 : Int) ≤ ρ 2 ∧ ρ 2 ≤ 1200 := hf_rg hT (hH _ (List.mem_of_getElem? (i := 1) rfl)) ev_v g0 rfl rfl rfl ev_v
  have b0 : (0 : Int) ≤ ((6) + 0) := b_aA (hA _ (List.mem_of_getElem? (i := 0) rfl))
  have b1 : (0 : Int) ≤ ((7) + 0) := b_aA (hA _ (List.mem_of_getElem? (i := 1) rfl))
  have b2 : (0 : Int) ≤ ((50) + 0) := b_aA (hA _ (List.mem_of_getElem? (i := 2) rfl))
  have a0 : vw C h 124 (6) = ρ 4 := vw_aA hU (hA _ (List.mem_of_getElem? (i := 0) rfl)) ev_v g1 (by omega) (by omega) (i := 6) (show (((6 : Nat)) : Int) = ((6) + 0) by omega) ev_v
  have a1 : vw C h 124 (7) = ρ 5 := vw_aA hU (hA _ (List.mem_of_getElem? (i := 1) rfl)) ev_v g1 (by omega) (by omega) (i := 7) (show (((7 : Nat)) : Int) = ((7) + 0) by omega) ev_v
  have a2 : vw C h 124 (50) = ρ 6 := vw_aA hU (hA _ (List.mem_of_getElem? (i := 2) rfl)) ev_v g1 (by omega) (by omega) (i := 50) (show (((50 : Nat)) : Int) = ((50) + 0) by omega) ev_v
  have p0 : P183 (vw C h) (ρ 5) (ρ 7) := c2 (P := P183 (vw C h)) (show P183 (vw C h) (((0) + ((1) * ρ 5 + 0))) (((0) + ((1) * ρ 7 + 0))) from hP _ (List.mem_of_getElem? (i := 0) rfl)) (by omega) (by omega)
  have p1 : q158 (tB (vw C h)) (ρ 1 + 2048 * ρ 2) (ρ 8) := c2 (P := q158 (tB (vw C h))) (show q158 (tB (vw C h)) (((0) + ((1) * ρ 1 + ((2048) * ρ 2 + 0)))) (((0) + ((1) * ρ 8 + 0))) from hP _ (List.mem_of_getElem? (i := 1) rfl)) (by omega) (by omega)
  have p2 : q159 (tB (vw C h)) (ρ 1 + 2048 * ρ 8 + 46137344) ((1 : Int)) := c2 (P := q159 (tB (vw C h))) (show q159 (tB (vw C h)) (((46137344) + ((1) * ρ 1 + ((2048) * ρ 8 + 0)))) (((1) + 0)) from hP _ (List.mem_of_getElem? (i := 2) rfl)) (by omega) (by omega)
  have p3 : (qRC 22 (tB (vw C h))) (ρ 1 + 4398046511104 * ρ 4 + 35184372088832 * ρ 5 + 4503599627370496 * ρ 6 + 2048 * ρ 8 + 35184372088832) (ρ 9) := c2 (P := (qRC 22 (tB (vw C h)))) (show (qRC 22 (tB (vw C h))) (((35184372088832) + ((1) * ρ 1 + ((4398046511104) * ρ 4 + ((35184372088832) * ρ 5 + ((4503599627370496) * ρ 6 + ((2048) * ρ 8 + 0))))))) (((0) + ((1) * ρ 9 + 0))) from hP _ (List.mem_of_getElem? (i := 3) rfl)) (by omega) (by omega)
  have iw11 : tIsB (tB (vw C h)) (ρ 1).toNat (ρ 8).toNat (wd 11) = true := b01_1 (k159 (n := ρ 1) (s := ρ 8) (w := 11) (by omega) (by omega) (by omega) (by omega) (by omega) (by omega) p2)
  have hkd := (is_el.mp iw11).1
  have nx := k158 (n := ρ 1) (s := ρ 8) (t := ρ 2) (by omega) (by omega) (by omega) (by omega) (by omega) (by omega) p1
  have ng := nx_gt (B := (tB (vw C h))) (n := (ρ 1).toNat) (s := (ρ 8).toNat) (by omega)
  have hc0 := p3.1
  have hR := rc_el (n := ρ 1) (s := ρ 8) (d := (0 : Int)) (K := (0 : Int)) (R := (ρ 4 + 8 * ρ 5 + 1024 * ρ 6 + 8)) p3 (by omega) (by omega) (by omega) (by omega) (by omega) (by omega) (by omega) (by omega) (by omega) (by omega)
  have q := g_23 hR iw11
  refine ⟨_, List.mem_cons_self, ρ, fun _ _ => rfl, fun q hq => absurd hq List.not_mem_nil, trivial, fun f hf => ?_, fun q hq => absurd hq List.not_mem_nil, fun q hq => absurd hq List.not_mem_nil, fun q hq => absurd hq List.not_mem_nil, fun q hq => ?_⟩
  · simp only [List.mem_cons, List.not_mem_nil, or_false] at hf
    subst hf
    show (0 : Int) ≤ ((-1) + ((1) * ρ 2 + ((-1) * ρ 8 + 0)))
    omega
  · simp only [List.mem_cons, List.not_mem_nil, or_false] at hq
    subst hq
    show (qRC 23 (tB (vw C h))) (((35184372088832) + ((1) * ρ 1 + ((2048) * ρ 2 + ((4398046511104) * ρ 4 + ((35184372088832) * ρ 5 + ((4503599627370496) * ρ 6 + 0))))))) (((0) + ((1) * ρ 9 + 0)))
    refine c2 (P := (qRC 23 (tB (vw C h)))) (r := ρ 1 + 2048 * ρ 2 + 4398046511104 * ρ 4 + 35184372088832 * ρ 5 + 4503599627370496 * ρ 6 + 35184372088832) (c := ρ 9) ?_ (by omega) (by omega)
    show (qRC 23 (tB (vw C h))) (ρ 1 + 2048 * ρ 2 + 4398046511104 * ρ 4 + 35184372088832 * ρ 5 + 4503599627370496 * ρ 6 + 35184372088832) (ρ 9)
    exact rc_in (n := ρ 1) (s := ρ 2) (d := (0 : Int)) (K := (0 : Int)) (R := (ρ 4 + 8 * ρ 5 + 1024 * ρ 6 + 8)) (by omega) (by omega) (by omega) (by omega) (by omega) (by omega) (by omega) (by omega) (by omega) (by omega) q (by omega) (by omega) (by omega) (by omega) (by omega)
/-- gp15M -/
theorem lem_546_ok (hU : uqG G C) : lem_546.1.2.1 = [] ∧ lemOK (PRd G C D xs) G rgs lem_546 := by
  refine ⟨rfl, fun ρ h ha hT => ?_⟩
  obtain ⟨-, -, hF, hG, hH, hA, hP⟩ := ha
  have f0 : (0 : Int) ≤ ((0) + ((1) * ρ 1 + 0)) := hF _ (List.mem_of_getElem? (i := 0) rfl)
  have f1 : (0 : Int) ≤ ((1200) + ((-1) * ρ 1 + 0)) := hF _ (List.mem_of_getElem? (i := 1) rfl)
  have f2 : (0 : Int) ≤ ((0) + ((1) * ρ 2 + 0)) := hF _ (List.mem_of_getElem? (i := 2) rfl)
  have f3 : (0 : Int) ≤ ((0) + ((1) * ρ 1 + ((-1) * ρ 2 + 0))) := hF _ (List.mem_of_getElem? (i := 3) rfl)
  have f4 : (0 : Int) ≤ ((0) + ((1) * ρ 4 + 0)) := hF _ (List.mem_of_getElem? (i := 4) rfl)
  have f5 : (0 : Int) ≤ ((6) + ((-1) * ρ 4 + 0)) := hF _ (List.mem_of_getElem? (i := 5) rfl)
  have f6 : (0 : Int) ≤ ((0) + ((1) * ρ 5 + 0)) := hF _ (List.mem_of_getElem? (i := 6) rfl)
  have f7 : (0 : Int) ≤ ((8) + ((-1) * ρ 5 + 0)) := hF _ (List.mem_of_getElem? (i := 7) rfl)
  have f8 : (0 : Int) ≤ ((0) + ((1) * ρ 7 + 0)) := hF _ (List.mem_of_getElem? (i := 8) rfl)
  have f9 : (0 : Int) ≤ ((5) + ((-1) * ρ 7 + 0)) := hF _ (List.mem_of_getElem? (i := 9) rfl)
  have f10 : (0 : Int) ≤ ((0) + ((1) * ρ 6 + 0)) := hF _ (List.mem_of_getElem? (i := 10) rfl)
  have f11 : (0 : Int) ≤ ((4) + ((-1) * ρ 6 + 0)) := hF _ (List.mem_of_getElem? (i := 11) rfl)
  have g0 : G (ρ 0).toNat = 22 := by
    have q := (hG _ (List.mem_of_getElem? (i := 0) rfl)).2
    rwa [show ev ρ (0, [(0, 1)]) = ρ 0 from ev_v] at q
  have g1 : G (ρ 3).toNat = 124 := by
    have q := (hG _ (List.mem_of_getElem? (i := 1) rfl)).2
    rwa [show ev ρ (0, [(3, 1)]) = ρ 3 from ev_v] at q
  have h0 : (0 : Int) ≤ ρ 1 ∧ ρ 1 ≤ 1200 := hf_rg hT (hH _ (List.mem_of_getElem? (i := 0) rfl)) ev_v g0 rfl rfl rfl ev_v
  have h1 : (0 : Int) ≤ ρ 2 ∧ ρ 2 ≤ 1200 := hf_rg hT (hH _ (List.mem_of_getElem? (i := 1) rfl)) ev_v g0 rfl rfl rfl ev_v
  have b0 : (0 : Int) ≤ ((6) + 0) := b_aA (hA _ (List.mem_of_getElem? (i := 0) rfl))
  have b1 : (0 : Int) ≤ ((7) + 0) := b_aA (hA _ (List.mem_of_getElem? (i := 1) rfl))
  have b2 : (0 : Int) ≤ ((50) + 0) := b_aA (hA _ (List.mem_of_getElem? (i := 2) rfl))
  have a0 : vw C h 124 (6) = ρ 4 := vw_aA hU (hA _ (List.mem_of_getElem? (i := 0) rfl)) ev_v g1 (by omega) (by omega) (i := 6) (show (((6 : Nat)) : Int) = ((6) + 0) by omega) ev_v
  have a1 : vw C h 124 (7) = ρ 5 := vw_aA hU (hA _ (List.mem_of_getElem? (i := 1) rfl)) ev_v g1 (by omega) (by omega) (i := 7) (show (((7 : Nat)) : Int) = ((7) + 0) by omega) ev_v
  have a2 : vw C h 124 (50) = ρ 6 := vw_aA hU (hA _ (List.mem_of_getElem? (i := 2) rfl)) ev_v g1 (by omega) (by omega) (i := 50) (show (((50 : Nat)) : Int) = ((50) + 0) by omega) ev_v
  have p0 : P183 (vw C h) (ρ 5) (ρ 7) := c2 (P := P183 (vw C h)) (show P183 (vw C h) (((0) + ((1) * ρ 5 + 0))) (((0) + ((1) * ρ 7 + 0))) from hP _ (List.mem_of_getElem? (i := 0) rfl)) (by omega) (by omega)
  have p1 : q159 (tB (vw C h)) (ρ 1 + 2048 * ρ 2 + 46137344) ((0 : Int)) := c2 (P := q159 (tB (vw C h))) (show q159 (tB (vw C h)) (((46137344) + ((1) * ρ 1 + ((2048) * ρ 2 + 0)))) (((0) + 0)) from hP _ (List.mem_of_getElem? (i := 1) rfl)) (by omega) (by omega)
  have p2 : (qRC 22 (tB (vw C h))) (ρ 1 + 2048 * ρ 2 + 4398046511104 * ρ 4 + 35184372088832 * ρ 5 + 4503599627370496 * ρ 6 + 35184372088832) (ρ 8) := c2 (P := (qRC 22 (tB (vw C h)))) (show (qRC 22 (tB (vw C h))) (((35184372088832) + ((1) * ρ 1 + ((2048) * ρ 2 + ((4398046511104) * ρ 4 + ((35184372088832) * ρ 5 + ((4503599627370496) * ρ 6 + 0))))))) (((0) + ((1) * ρ 8 + 0))) from hP _ (List.mem_of_getElem? (i := 2) rfl)) (by omega) (by omega)
  have iw11 : tIsB (tB (vw C h)) (ρ 1).toNat (ρ 2).toNat (wd 11) = false := b01_0 (k159 (n := ρ 1) (s := ρ 2) (w := 11) (by omega) (by omega) (by omega) (by omega) (by omega) (by omega) p1)
  have hc0 := p2.1
  have hR := rc_el (n := ρ 1) (s := ρ 2) (d := (0 : Int)) (K := (0 : Int)) (R := (ρ 4 + 8 * ρ 5 + 1024 * ρ 6 + 8)) p2 (by omega) (by omega) (by omega) (by omega) (by omega) (by omega) (by omega) (by omega) (by omega) (by omega)
  have q := g_22 hR iw11
  refine ⟨_, List.mem_cons_self, ρ, fun _ _ => rfl, fun q hq => absurd hq List.not_mem_nil, trivial, fun f hf => ?_, fun q hq => absurd hq List.not_mem_nil, fun q hq => absurd hq List.not_mem_nil, fun q hq => absurd hq List.not_mem_nil, fun q hq => ?_⟩
  · exact absurd hf List.not_mem_nil
  · simp only [List.mem_cons, List.not_mem_nil, or_false] at hq
    subst hq
    show (qRC 15 (tB (vw C h))) (((35184372088832) + ((1) * ρ 1 + ((2048) * ρ 2 + ((4398046511104) * ρ 4 + ((35184372088832) * ρ 5 + ((4503599627370496) * ρ 6 + 0))))))) (((0) + ((1) * ρ 8 + 0)))
    refine c2 (P := (qRC 15 (tB (vw C h)))) (r := ρ 1 + 2048 * ρ 2 + 4398046511104 * ρ 4 + 35184372088832 * ρ 5 + 4503599627370496 * ρ 6 + 35184372088832) (c := ρ 8) ?_ (by omega) (by omega)
    show (qRC 15 (tB (vw C h))) (ρ 1 + 2048 * ρ 2 + 4398046511104 * ρ 4 + 35184372088832 * ρ 5 + 4503599627370496 * ρ 6 + 35184372088832) (ρ 8)
    exact rc_in (n := ρ 1) (s := ρ 2) (d := (0 : Int)) (K := (0 : Int)) (R := (ρ 4 + 8 * ρ 5 + 1024 * ρ 6 + 8)) (by omega) (by omega) (by omega) (by omega) (by omega) (by omega) (by omega) (by omega) (by omega) (by omega) q (by omega) (by omega) (by omega) (by omega) (by omega)
/-- ev30M -/
theorem lem_547_ok (hU : uqG G C) : lem_547.1.2.1 = [] ∧ lemOK (PRd G C D xs) G rgs lem_547 := by
  refine ⟨rfl, fun ρ h ha hT => ?_⟩
  obtain ⟨-, -, hF, hG, hH, hA, hP⟩ := ha
  have f0 : (0 : Int) ≤ ((0) + ((1) * ρ 1 + 0)) := hF _ (List.mem_of_getElem? (i := 0) rfl)
  have f1 : (0 : Int) ≤ ((1200) + ((-1) * ρ 1 + 0)) := hF _ (List.mem_of_getElem? (i := 1) rfl)
  have f2 : (0 : Int) ≤ ((0) + ((1) * ρ 2 + 0)) := hF _ (List.mem_of_getElem? (i := 2) rfl)
  have f3 : (0 : Int) ≤ ((0) + ((1) * ρ 1 + ((-1) * ρ 2 + 0))) := hF _ (List.mem_of_getElem? (i := 3) rfl)
  have f4 : (0 : Int) ≤ ((0) + ((1) * ρ 8 + 0)) := hF _ (List.mem_of_getElem? (i := 4) rfl)
  have f5 : (0 : Int) ≤ ((0) + ((1) * ρ 1 + ((-1) * ρ 8 + 0))) := hF _ (List.mem_of_getElem? (i := 5) rfl)
  have f6 : (0 : Int) ≤ ((0) + ((1) * ρ 4 + 0)) := hF _ (List.mem_of_getElem? (i := 6) rfl)
  have f7 : (0 : Int) ≤ ((6) + ((-1) * ρ 4 + 0)) := hF _ (List.mem_of_getElem? (i := 7) rfl)
  have f8 : (0 : Int) ≤ ((0) + ((1) * ρ 5 + 0)) := hF _ (List.mem_of_getElem? (i := 8) rfl)
  have f9 : (0 : Int) ≤ ((8) + ((-1) * ρ 5 + 0)) := hF _ (List.mem_of_getElem? (i := 9) rfl)
  have f10 : (0 : Int) ≤ ((0) + ((1) * ρ 7 + 0)) := hF _ (List.mem_of_getElem? (i := 10) rfl)
  have f11 : (0 : Int) ≤ ((5) + ((-1) * ρ 7 + 0)) := hF _ (List.mem_of_getElem? (i := 11) rfl)
  have f12 : (0 : Int) ≤ ((0) + ((1) * ρ 6 + 0)) := hF _ (List.mem_of_getElem? (i := 12) rfl)
  have f13 : (0 : Int) ≤ ((4) + ((-1) * ρ 6 + 0)) := hF _ (List.mem_of_getElem? (i := 13) rfl)
  have g0 : G (ρ 0).toNat = 22 := by
    have q := (hG _ (List.mem_of_getElem? (i := 0) rfl)).2
    rwa [show ev ρ (0, [(0, 1)]) = ρ 0 from ev_v] at q
  have g1 : G (ρ 3).toNat = 124 := by
    have q := (hG _ (List.mem_of_getElem? (i := 1) rfl)).2
    rwa [show ev ρ (0, [(3, 1)]) = ρ 3 from ev_v] at q
  have h0 : (0 : Int) ≤ ρ 1 ∧ ρ 1 ≤ 1200 := hf_rg hT (hH _ (List.mem_of_getElem? (i := 0) rfl)) ev_v g0 rfl rfl rfl ev_v
  have h1 : (0 : Int) ≤ ρ 2 ∧ ρ 2 ≤ 1200 := hf_rg hT (hH _ (List.mem_of_getElem? (i := 1) rfl)) ev_v g0 rfl rfl rfl ev_v
  have b0 : (0 : Int) ≤ ((6) + 0) := b_aA (hA _ (List.mem_of_getElem? (i := 0) rfl))
  have b1 : (0 : Int) ≤ ((7) + 0) := b_aA (hA _ (List.mem_of_getElem? (i := 1) rfl))
  have b2 : (0 : Int) ≤ ((50) + 0) := b_aA (hA _ (List.mem_of_getElem? (i := 2) rfl))
  have a0 : vw C h 124 (6) = ρ 4 := vw_aA hU (hA _ (List.mem_of_getElem? (i := 0) rfl)) ev_v g1 (by omega) (by omega) (i := 6) (show (((6 : Nat)) : Int) = ((6) + 0) by omega) ev_v
  have a1 : vw C h 124 (7) = ρ 5 := vw_aA hU (hA _ (List.mem_of_getElem? (i := 1) rfl)) ev_v g1 (by omega) (by omega) (i := 7) (show (((7 : Nat)) : Int) = ((7) + 0) by omega) ev_v
  have a2 : vw C h 124 (50) = ρ 6 := vw_aA hU (hA _ (List.mem_of_getElem? (i := 2) rfl)) ev_v g1 (by omega) (by omega) (i := 50) (show (((50 : Nat)) : Int) = ((50) + 0) by omega) ev_v
  have p0 : P183 (vw C h) (ρ 5) (ρ 7) := c2 (P := P183 (vw C h)) (show P183 (vw C h) (((0) + ((1) * ρ 5 + 0))) (((0) + ((1) * ρ 7 + 0))) from hP _ (List.mem_of_getElem? (i := 0) rfl)) (by omega) (by omega)
  have p1 : q158 (tB (vw C h)) (ρ 1 + 2048 * ρ 2) (ρ 8) := c2 (P := q158 (tB (vw C h))) (show q158 (tB (vw C h)) (((0) + ((1) * ρ 1 + ((2048) * ρ 2 + 0)))) (((0) + ((1) * ρ 8 + 0))) from hP _ (List.mem_of_getElem? (i := 1) rfl)) (by omega) (by omega)
  have p2 : q159 (tB (vw C h)) (ρ 1 + 2048 * ρ 8 + 50331648) ((1 : Int)) := c2 (P := q159 (tB (vw C h))) (show q159 (tB (vw C h)) (((50331648) + ((1) * ρ 1 + ((2048) * ρ 8 + 0)))) (((1) + 0)) from hP _ (List.mem_of_getElem? (i := 2) rfl)) (by omega) (by omega)
  have p3 : (qRC 29 (tB (vw C h))) (ρ 1 + 4398046511104 * ρ 4 + 35184372088832 * ρ 5 + 4503599627370496 * ρ 6 + 562949953421312 * ρ 7 + 2048 * ρ 8) (ρ 9) := c2 (P := (qRC 29 (tB (vw C h)))) (show (qRC 29 (tB (vw C h))) (((0) + ((1) * ρ 1 + ((4398046511104) * ρ 4 + ((35184372088832) * ρ 5 + ((4503599627370496) * ρ 6 + ((562949953421312) * ρ 7 + ((2048) * ρ 8 + 0)))))))) (((0) + ((1) * ρ 9 + 0))) from hP _ (List.mem_of_getElem? (i := 3) rfl)) (by omega) (by omega)
  have iw12 : tIsB (tB (vw C h)) (ρ 1).toNat (ρ 8).toNat (wd 12) = true := b01_1 (k159 (n := ρ 1) (s := ρ 8) (w := 12) (by omega) (by omega) (by omega) (by omega) (by omega) (by omega) p2)
  have hkd := (is_el.mp iw12).1
  have nx := k158 (n := ρ 1) (s := ρ 8) (t := ρ 2) (by omega) (by omega) (by omega) (by omega) (by omega) (by omega) p1
  have ng := nx_gt (B := (tB (vw C h))) (n := (ρ 1).toNat) (s := (ρ 8).toNat) (by omega)
  have hc0 := p3.1
  have hR := rc_el (n := ρ 1) (s := ρ 8) (d := (0 : Int)) (K := (0 : Int)) (R := (ρ 4 + 8 * ρ 5 + 1024 * ρ 6 + 128 * ρ 7)) p3 (by omega) (by omega) (by omega) (by omega) (by omega) (by omega) (by omega) (by omega) (by omega) (by omega)
  have q := g_30 hR iw12
  refine ⟨_, List.mem_cons_self, ρ, fun _ _ => rfl, fun q hq => absurd hq List.not_mem_nil, trivial, fun f hf => ?_, fun q hq => absurd hq List.not_mem_nil, fun q hq => absurd hq List.not_mem_nil, fun q hq => absurd hq List.not_mem_nil, fun q hq => ?_⟩
  · simp only [List.mem_cons, List.not_mem_nil, or_false] at hf
    subst hf
    show (0 : Int) ≤ ((-1) + ((1) * ρ 2 + ((-1) * ρ 8 + 0)))
    omega
  · simp only [List.mem_cons, List.not_mem_nil, or_false] at hq
    subst hq
    show (qRC 30 (tB (vw C h))) (((0) + ((1) * ρ 1 + ((2048) * ρ 2 + ((4398046511104) * ρ 4 + ((35184372088832) * ρ 5 + ((4503599627370496) * ρ 6 + ((562949953421312) * ρ 7 + 0)))))))) (((0) + ((1) * ρ 9 + 0)))
    refine c2 (P := (qRC 30 (tB (vw C h)))) (r := ρ 1 + 2048 * ρ 2 + 4398046511104 * ρ 4 + 35184372088832 * ρ 5 + 4503599627370496 * ρ 6 + 562949953421312 * ρ 7) (c := ρ 9) ?_ (by omega) (by omega)
    show (qRC 30 (tB (vw C h))) (ρ 1 + 2048 * ρ 2 + 4398046511104 * ρ 4 + 35184372088832 * ρ 5 + 4503599627370496 * ρ 6 + 562949953421312 * ρ 7) (ρ 9)
    exact rc_in (n := ρ 1) (s := ρ 2) (d := (0 : Int)) (K := (0 : Int)) (R := (ρ 4 + 8 * ρ 5 + 1024 * ρ 6 + 128 * ρ 7)) (by omega) (by omega) (by omega) (by omega) (by omega) (by omega) (by omega) (by omega) (by omega) (by omega) q (by omega) (by omega) (by omega) (by omega) (by omega)
/-- ev15M -/
theorem lem_548_ok (hU : uqG G C) : lem_548.1.2.1 = [] ∧ lemOK (PRd G C D xs) G rgs lem_548 := by
  refine ⟨rfl, fun ρ h ha hT => ?_⟩
  obtain ⟨-, -, hF, hG, hH, hA, hP⟩ := ha
  have f0 : (0 : Int) ≤ ((0) + ((1) * ρ 1 + 0)) := hF _ (List.mem_of_getElem? (i := 0) rfl)
  have f1 : (0 : Int) ≤ ((1200) + ((-1) * ρ 1 + 0)) := hF _ (List.mem_of_getElem? (i := 1) rfl)
  have f2 : (0 : Int) ≤ ((0) + ((1) * ρ 2 + 0)) := hF _ (List.mem_of_getElem? (i := 2) rfl)
  have f3 : (0 : Int) ≤ ((0) + ((1) * ρ 1 + ((-1) * ρ 2 + 0))) := hF _ (List.mem_of_getElem? (i := 3) rfl)
  have f4 : (0 : Int) ≤ ((4) + ((-1) * ρ 7 + 0)) := hF _ (List.mem_of_getElem? (i := 4) rfl)
  have f5 : (0 : Int) ≤ ((-1) + ((1) * ρ 5 + 0)) := hF _ (List.mem_of_getElem? (i := 5) rfl)
  have f6 : (0 : Int) ≤ ((0) + ((1) * ρ 4 + 0)) := hF _ (List.mem_of_getElem? (i := 6) rfl)
  have f7 : (0 : Int) ≤ ((6) + ((-1) * ρ 4 + 0)) := hF _ (List.mem_of_getElem? (i := 7) rfl)
  have f8 : (0 : Int) ≤ ((0) + ((1) * ρ 5 + 0)) := hF _ (List.mem_of_getElem? (i := 8) rfl)
  have f9 : (0 : Int) ≤ ((8) + ((-1) * ρ 5 + 0)) := hF _ (List.mem_of_getElem? (i := 9) rfl)
  have f10 : (0 : Int) ≤ ((0) + ((1) * ρ 7 + 0)) := hF _ (List.mem_of_getElem? (i := 10) rfl)
  have f11 : (0 : Int) ≤ ((5) + ((-1) * ρ 7 + 0)) := hF _ (List.mem_of_getElem? (i := 11) rfl)
  have f12 : (0 : Int) ≤ ((0) + ((1) * ρ 6 + 0)) := hF _ (List.mem_of_getElem? (i := 12) rfl)
  have f13 : (0 : Int) ≤ ((4) + ((-1) * ρ 6 + 0)) := hF _ (List.mem_of_getElem? (i := 13) rfl)
  have g0 : G (ρ 0).toNat = 22 := by
    have q := (hG _ (List.mem_of_getElem? (i := 0) rfl)).2
    rwa [show ev ρ (0, [(0, 1)]) = ρ 0 from ev_v] at q
  have g1 : G (ρ 3).toNat = 124 := by
    have q := (hG _ (List.mem_of_getElem? (i := 1) rfl)).2
    rwa [show ev ρ (0, [(3, 1)]) = ρ 3 from ev_v] at q
  have h0 : (0 : Int) ≤ ρ 1 ∧ ρ 1 ≤ 1200 := hf_rg hT (hH _ (List.mem_of_getElem? (i := 0) rfl)) ev_v g0 rfl rfl rfl ev_v
  have h1 : (0 : Int) ≤ ρ 2 ∧ ρ 2 ≤ 1200 := hf_rg hT (hH _ (List.mem_of_getElem? (i := 1) rfl)) ev_v g0 rfl rfl rfl ev_v
  have b0 : (0 : Int) ≤ ((6) + 0) := b_aA (hA _ (List.mem_of_getElem? (i := 0) rfl))
  have b1 : (0 : Int) ≤ ((7) + 0) := b_aA (hA _ (List.mem_of_getElem? (i := 1) rfl))
  have b2 : (0 : Int) ≤ ((50) + 0) := b_aA (hA _ (List.mem_of_getElem? (i := 2) rfl))
  have a0 : vw C h 124 (6) = ρ 4 := vw_aA hU (hA _ (List.mem_of_getElem? (i := 0) rfl)) ev_v g1 (by omega) (by omega) (i := 6) (show (((6 : Nat)) : Int) = ((6) + 0) by omega) ev_v
  have a1 : vw C h 124 (7) = ρ 5 := vw_aA hU (hA _ (List.mem_of_getElem? (i := 1) rfl)) ev_v g1 (by omega) (by omega) (i := 7) (show (((7 : Nat)) : Int) = ((7) + 0) by omega) ev_v
  have a2 : vw C h 124 (50) = ρ 6 := vw_aA hU (hA _ (List.mem_of_getElem? (i := 2) rfl)) ev_v g1 (by omega) (by omega) (i := 50) (show (((50 : Nat)) : Int) = ((50) + 0) by omega) ev_v
  have p0 : P183 (vw C h) (ρ 5) (ρ 7) := c2 (P := P183 (vw C h)) (show P183 (vw C h) (((0) + ((1) * ρ 5 + 0))) (((0) + ((1) * ρ 7 + 0))) from hP _ (List.mem_of_getElem? (i := 0) rfl)) (by omega) (by omega)
  have p1 : q159 (tB (vw C h)) (ρ 1 + 2048 * ρ 2 + 50331648) ((0 : Int)) := c2 (P := q159 (tB (vw C h))) (show q159 (tB (vw C h)) (((50331648) + ((1) * ρ 1 + ((2048) * ρ 2 + 0)))) (((0) + 0)) from hP _ (List.mem_of_getElem? (i := 1) rfl)) (by omega) (by omega)
  have p2 : (qRC 29 (tB (vw C h))) (ρ 1 + 2048 * ρ 2 + 4398046511104 * ρ 4 + 35184372088832 * ρ 5 + 4503599627370496 * ρ 6 + 562949953421312 * ρ 7) (ρ 8) := c2 (P := (qRC 29 (tB (vw C h)))) (show (qRC 29 (tB (vw C h))) (((0) + ((1) * ρ 1 + ((2048) * ρ 2 + ((4398046511104) * ρ 4 + ((35184372088832) * ρ 5 + ((4503599627370496) * ρ 6 + ((562949953421312) * ρ 7 + 0)))))))) (((0) + ((1) * ρ 8 + 0))) from hP _ (List.mem_of_getElem? (i := 2) rfl)) (by omega) (by omega)
  have iw12 : tIsB (tB (vw C h)) (ρ 1).toNat (ρ 2).toNat (wd 12) = false := b01_0 (k159 (n := ρ 1) (s := ρ 2) (w := 12) (by omega) (by omega) (by omega) (by omega) (by omega) (by omega) p1)
  have hc0 := p2.1
  have hR := rc_el (n := ρ 1) (s := ρ 2) (d := (0 : Int)) (K := (0 : Int)) (R := (ρ 4 + 8 * ρ 5 + 1024 * ρ 6 + 128 * ρ 7)) p2 (by omega) (by omega) (by omega) (by omega) (by omega) (by omega) (by omega) (by omega) (by omega) (by omega)
  have q := g_29 hR iw12
  obtain ⟨σ, r1, r2a⟩ : ∃ σ : Va, (∀ i, i < 9 → σ i = ρ i) ∧ σ 9 = ((newS (ρ 8).toNat ((ρ 4 + 8 * ρ 5 + 1024 * ρ 6 + 128 * ρ 7).toNat / 8 % 16 - 1) ((ρ 4 + 8 * ρ 5 + 1024 * ρ 6 + 128 * ρ 7).toNat / 128 % 8) 1 : Nat) : Int) := ⟨fun i => if i = 9 then ((newS (ρ 8).toNat ((ρ 4 + 8 * ρ 5 + 1024 * ρ 6 + 128 * ρ 7).toNat / 8 % 16 - 1) ((ρ 4 + 8 * ρ 5 + 1024 * ρ 6 + 128 * ρ 7).toNat / 128 % 8) 1 : Nat) : Int) else ρ i, fun i hi => by dsimp only; rw [if_neg (by omega)], by dsimp only; rw [if_pos rfl]⟩
  have s0 := r1 0 (by omega)
  have s1 := r1 1 (by omega)
  have s2 := r1 2 (by omega)
  have s3 := r1 3 (by omega)
  have s4 := r1 4 (by omega)
  have s5 := r1 5 (by omega)
  have s6 := r1 6 (by omega)
  have s7 := r1 7 (by omega)
  have s8 := r1 8 (by omega)
  refine ⟨_, List.mem_cons_self, σ, r1, fun q hq => absurd hq List.not_mem_nil, trivial, fun f hf => ?_, fun q hq => absurd hq List.not_mem_nil, fun q hq => absurd hq List.not_mem_nil, fun q hq => absurd hq List.not_mem_nil, fun q hq => ?_⟩
  · exact absurd hf List.not_mem_nil
  · simp only [List.mem_cons, List.not_mem_nil, or_false] at hq
    rcases hq with rfl | rfl
    · show (qRC 15 (tB (vw C h))) (((562949953421312) + ((1) * σ 1 + ((2048) * σ 2 + ((4398046511104) * σ 4 + ((35184372088832) * σ 5 + ((4503599627370496) * σ 6 + ((562949953421312) * σ 7 + 0)))))))) (((0) + ((1) * σ 9 + 0)))
      refine c2 (P := (qRC 15 (tB (vw C h)))) (r := ρ 1 + 2048 * ρ 2 + 4398046511104 * ρ 4 + 35184372088832 * ρ 5 + 4503599627370496 * ρ 6 + 562949953421312 * ρ 7 + 562949953421312) (c := ((newS (ρ 8).toNat ((ρ 4 + 8 * ρ 5 + 1024 * ρ 6 + 128 * ρ 7).toNat / 8 % 16 - 1) ((ρ 4 + 8 * ρ 5 + 1024 * ρ 6 + 128 * ρ 7).toNat / 128 % 8) 1 : Nat) : Int)) ?_ (by omega) (by omega)
      show (qRC 15 (tB (vw C h))) (ρ 1 + 2048 * ρ 2 + 4398046511104 * ρ 4 + 35184372088832 * ρ 5 + 4503599627370496 * ρ 6 + 562949953421312 * ρ 7 + 562949953421312) (((newS (ρ 8).toNat ((ρ 4 + 8 * ρ 5 + 1024 * ρ 6 + 128 * ρ 7).toNat / 8 % 16 - 1) ((ρ 4 + 8 * ρ 5 + 1024 * ρ 6 + 128 * ρ 7).toNat / 128 % 8) 1 : Nat) : Int))
      exact rc_in (n := ρ 1) (s := ρ 2) (d := (0 : Int)) (K := (0 : Int)) (R := (ρ 4 + 8 * ρ 5 + 1024 * ρ 6 + 128 * ρ 7 + 128)) (by omega) (by omega) (by omega) (by omega) (by omega) (by omega) (by omega) (by omega) (by omega) (by omega) q (by omega) (by omega) (by omega) (by omega) rfl
    · show qNS (((1) + ((512) * σ 5 + ((64) * σ 7 + ((4096) * σ 8 + 0))))) (((0) + ((1) * σ 9 + 0)))
      refine c2 (P := qNS) (r := 512 * ρ 5 + 64 * ρ 7 + 4096 * ρ 8 + 1) (c := ((newS (ρ 8).toNat ((ρ 4 + 8 * ρ 5 + 1024 * ρ 6 + 128 * ρ 7).toNat / 8 % 16 - 1) ((ρ 4 + 8 * ρ 5 + 1024 * ρ 6 + 128 * ρ 7).toNat / 128 % 8) 1 : Nat) : Int)) ?_ (by omega) (by omega)
      show qNS (512 * ρ 5 + 64 * ρ 7 + 4096 * ρ 8 + 1) (((newS (ρ 8).toNat ((ρ 4 + 8 * ρ 5 + 1024 * ρ 6 + 128 * ρ 7).toNat / 8 % 16 - 1) ((ρ 4 + 8 * ρ 5 + 1024 * ρ 6 + 128 * ρ 7).toNat / 128 % 8) 1 : Nat) : Int))
      exact oNS (a := ρ 8) (m := (ρ 4 + 8 * ρ 5 + 1024 * ρ 6 + 128 * ρ 7).toNat / 8 % 16 - 1) (s := (ρ 4 + 8 * ρ 5 + 1024 * ρ 6 + 128 * ρ 7).toNat / 128 % 8) (v := 1) (by omega) (by omega) (by omega) (by decide) rfl
/-- unNM -/
theorem lem_549_ok (hU : uqG G C) : lem_549.1.2.1 = [] ∧ lemOK (PRd G C D xs) G rgs lem_549 := by
  refine ⟨rfl, fun ρ h ha hT => ?_⟩
  obtain ⟨-, -, hF, hG, hH, hA, hP⟩ := ha
  have f0 : (0 : Int) ≤ ((0) + ((1) * ρ 1 + 0)) := hF _ (List.mem_of_getElem? (i := 0) rfl)
  have f1 : (0 : Int) ≤ ((1200) + ((-1) * ρ 1 + 0)) := hF _ (List.mem_of_getElem? (i := 1) rfl)
  have f2 : (0 : Int) ≤ ((0) + ((1) * ρ 2 + 0)) := hF _ (List.mem_of_getElem? (i := 2) rfl)
  have f3 : (0 : Int) ≤ ((0) + ((1) * ρ 1 + ((-1) * ρ 2 + 0))) := hF _ (List.mem_of_getElem? (i := 3) rfl)
  have f4 : (0 : Int) ≤ ((0) + ((1) * ρ 4 + 0)) := hF _ (List.mem_of_getElem? (i := 4) rfl)
  have f5 : (0 : Int) ≤ ((8191) + ((-1) * ρ 4 + 0)) := hF _ (List.mem_of_getElem? (i := 5) rfl)
  have f6 : (0 : Int) ≤ ((0) + ((1) * ρ 5 + 0)) := hF _ (List.mem_of_getElem? (i := 6) rfl)
  have f7 : (0 : Int) ≤ ((1023) + ((-1) * ρ 5 + 0)) := hF _ (List.mem_of_getElem? (i := 7) rfl)
  have f8 : (0 : Int) ≤ ((-1) + ((1) * ρ 3 + 0)) := hF _ (List.mem_of_getElem? (i := 8) rfl)
  have f9 : (0 : Int) ≤ ((11) + ((-1) * ρ 3 + 0)) := hF _ (List.mem_of_getElem? (i := 9) rfl)
  have f10 : (0 : Int) ≤ ((0) + ((1) * ρ 6 + 0)) := hF _ (List.mem_of_getElem? (i := 10) rfl)
  have f11 : (0 : Int) ≤ ((0) + ((1) * ρ 1 + ((-1) * ρ 6 + 0))) := hF _ (List.mem_of_getElem? (i := 11) rfl)
  have f12 : (0 : Int) ≤ ((10) + ((-1) * ρ 3 + 0)) := hF _ (List.mem_of_getElem? (i := 12) rfl)
  have g0 : G (ρ 0).toNat = 22 := by
    have q := (hG _ (List.mem_of_getElem? (i := 0) rfl)).2
    rwa [show ev ρ (0, [(0, 1)]) = ρ 0 from ev_v] at q
  have h0 : (0 : Int) ≤ ρ 1 ∧ ρ 1 ≤ 1200 := hf_rg hT (hH _ (List.mem_of_getElem? (i := 0) rfl)) ev_v g0 rfl rfl rfl ev_v
  have h1 : (0 : Int) ≤ ρ 2 ∧ ρ 2 ≤ 1200 := hf_rg hT (hH _ (List.mem_of_getElem? (i := 1) rfl)) ev_v g0 rfl rfl rfl ev_v
  have h2 : (0 : Int) ≤ ρ 3 ∧ ρ 3 ≤ 10 := hf_rg hT (hH _ (List.mem_of_getElem? (i := 2) rfl)) ev_v g0 rfl rfl rfl ev_v
  have p0 : True := c2 (P := (fun (_ _ : Int) => True)) (r := 0) (r' := 0) (c := 0) (c' := 0) (show True from hP _ (List.mem_of_getElem? (i := 0) rfl)) rfl rfl
  have p1 : q167 (2 * ρ 3 + (-2)) (ρ 5) := c2 (P := q167) (show q167 (((-2) + ((2) * ρ 3 + 0))) (((0) + ((1) * ρ 5 + 0))) from hP _ (List.mem_of_getElem? (i := 1) rfl)) (by omega) (by omega)
  have p2 : q158 (tB (vw C h)) (ρ 1 + 2048 * ρ 2) (ρ 6) := c2 (P := q158 (tB (vw C h))) (show q158 (tB (vw C h)) (((0) + ((1) * ρ 1 + ((2048) * ρ 2 + 0)))) (((0) + ((1) * ρ 6 + 0))) from hP _ (List.mem_of_getElem? (i := 2) rfl)) (by omega) (by omega)
  have p3 : q159 (tB (vw C h)) (ρ 1 + 2048 * ρ 6 + 54525952) ((1 : Int)) := c2 (P := q159 (tB (vw C h))) (show q159 (tB (vw C h)) (((54525952) + ((1) * ρ 1 + ((2048) * ρ 6 + 0)))) (((1) + 0)) from hP _ (List.mem_of_getElem? (i := 3) rfl)) (by omega) (by omega)
  have p4 : (qRC 40 (tB (vw C h))) (ρ 1 + 268435456 * ρ 3 + 4398046511104 * ρ 4 + 4294967296 * ρ 5 + 2048 * ρ 6 + (-268435456)) (ρ 7) := c2 (P := (qRC 40 (tB (vw C h)))) (show (qRC 40 (tB (vw C h))) (((-268435456) + ((1) * ρ 1 + ((268435456) * ρ 3 + ((4398046511104) * ρ 4 + ((4294967296) * ρ 5 + ((2048) * ρ 6 + 0))))))) (((0) + ((1) * ρ 7 + 0))) from hP _ (List.mem_of_getElem? (i := 4) rfl)) (by omega) (by omega)
  have iw13 : tIsB (tB (vw C h)) (ρ 1).toNat (ρ 6).toNat (wd 13) = true := b01_1 (k159 (n := ρ 1) (s := ρ 6) (w := 13) (by omega) (by omega) (by omega) (by omega) (by omega) (by omega) p3)
  have hkd := (is_el.mp iw13).1
  have nx := k158 (n := ρ 1) (s := ρ 6) (t := ρ 2) (by omega) (by omega) (by omega) (by omega) (by omega) (by omega) p2
  have ng := nx_gt (B := (tB (vw C h))) (n := (ρ 1).toNat) (s := (ρ 6).toNat) (by omega)
  have hc0 := p4.1
  have hR := rc_el (n := ρ 1) (s := ρ 6) (d := (ρ 3 + (-1))) (K := (ρ 5)) (R := (ρ 4)) p4 (by omega) (by omega) (by omega) (by omega) (by omega) (by omega) (by omega) (by omega) (by omega) (by omega)
  have q67 := q167_9 p1 (by omega) (by omega)
  have q := g_unN hR iw13 (by omega)
  refine ⟨_, List.mem_cons_self, ρ, fun _ _ => rfl, fun q hq => absurd hq List.not_mem_nil, trivial, fun f hf => ?_, fun q hq => absurd hq List.not_mem_nil, fun q hq => absurd hq List.not_mem_nil, fun q hq => absurd hq List.not_mem_nil, fun q hq => ?_⟩
  · simp only [List.mem_cons, List.not_mem_nil, or_false] at hf
    rcases hf with rfl | rfl
    · show (0 : Int) ≤ ((511) + ((-1) * ρ 5 + 0))
      omega
    · show (0 : Int) ≤ ((-1) + ((1) * ρ 2 + ((-1) * ρ 6 + 0)))
      omega
  · simp only [List.mem_cons, List.not_mem_nil, or_false] at hq
    rcases hq with rfl | rfl
    · show (qRC 40 (tB (vw C h))) (((0) + ((1) * ρ 1 + ((2048) * ρ 2 + ((268435456) * ρ 3 + ((4398046511104) * ρ 4 + ((8589934592) * ρ 5 + 0))))))) (((0) + ((1) * ρ 7 + 0)))
      refine c2 (P := (qRC 40 (tB (vw C h)))) (r := ρ 1 + 2048 * ρ 2 + 268435456 * ρ 3 + 4398046511104 * ρ 4 + 8589934592 * ρ 5) (c := ρ 7) ?_ (by omega) (by omega)
      show (qRC 40 (tB (vw C h))) (ρ 1 + 2048 * ρ 2 + 268435456 * ρ 3 + 4398046511104 * ρ 4 + 8589934592 * ρ 5) (ρ 7)
      exact rc_in (n := ρ 1) (s := ρ 2) (d := (ρ 3)) (K := (2 * ρ 5)) (R := (ρ 4)) (by omega) (by omega) (by omega) (by omega) (by omega) (by omega) (by omega) (by omega) (by omega) (by omega) q (by omega) (by omega) (by omega) (by omega) (by omega)
    · show q167 (((0) + ((2) * ρ 3 + 0))) (((0) + ((2) * ρ 5 + 0)))
      refine c2 (P := q167) (r := 2 * ρ 3) (c := 2 * ρ 5) ?_ (by omega) (by omega)
      show q167 (2 * ρ 3) (2 * ρ 5)
      exact q167_up p1 (by omega) (by omega) (by omega) (by omega)
/-- unPM -/
theorem lem_550_ok (hU : uqG G C) : lem_550.1.2.1 = [] ∧ lemOK (PRd G C D xs) G rgs lem_550 := by
  refine ⟨rfl, fun ρ h ha hT => ?_⟩
  obtain ⟨-, -, hF, hG, hH, hA, hP⟩ := ha
  have f0 : (0 : Int) ≤ ((0) + ((1) * ρ 1 + 0)) := hF _ (List.mem_of_getElem? (i := 0) rfl)
  have f1 : (0 : Int) ≤ ((1200) + ((-1) * ρ 1 + 0)) := hF _ (List.mem_of_getElem? (i := 1) rfl)
  have f2 : (0 : Int) ≤ ((0) + ((1) * ρ 2 + 0)) := hF _ (List.mem_of_getElem? (i := 2) rfl)
  have f3 : (0 : Int) ≤ ((0) + ((1) * ρ 1 + ((-1) * ρ 2 + 0))) := hF _ (List.mem_of_getElem? (i := 3) rfl)
  have f4 : (0 : Int) ≤ ((0) + ((1) * ρ 4 + 0)) := hF _ (List.mem_of_getElem? (i := 4) rfl)
  have f5 : (0 : Int) ≤ ((8191) + ((-1) * ρ 4 + 0)) := hF _ (List.mem_of_getElem? (i := 5) rfl)
  have f6 : (0 : Int) ≤ ((0) + ((1) * ρ 5 + 0)) := hF _ (List.mem_of_getElem? (i := 6) rfl)
  have f7 : (0 : Int) ≤ ((1023) + ((-1) * ρ 5 + 0)) := hF _ (List.mem_of_getElem? (i := 7) rfl)
  have f8 : (0 : Int) ≤ ((-1) + ((1) * ρ 3 + 0)) := hF _ (List.mem_of_getElem? (i := 8) rfl)
  have f9 : (0 : Int) ≤ ((11) + ((-1) * ρ 3 + 0)) := hF _ (List.mem_of_getElem? (i := 9) rfl)
  have f10 : (0 : Int) ≤ ((0) + ((1) * ρ 6 + 0)) := hF _ (List.mem_of_getElem? (i := 10) rfl)
  have f11 : (0 : Int) ≤ ((0) + ((1) * ρ 1 + ((-1) * ρ 6 + 0))) := hF _ (List.mem_of_getElem? (i := 11) rfl)
  have f12 : (0 : Int) ≤ ((10) + ((-1) * ρ 3 + 0)) := hF _ (List.mem_of_getElem? (i := 12) rfl)
  have g0 : G (ρ 0).toNat = 22 := by
    have q := (hG _ (List.mem_of_getElem? (i := 0) rfl)).2
    rwa [show ev ρ (0, [(0, 1)]) = ρ 0 from ev_v] at q
  have h0 : (0 : Int) ≤ ρ 1 ∧ ρ 1 ≤ 1200 := hf_rg hT (hH _ (List.mem_of_getElem? (i := 0) rfl)) ev_v g0 rfl rfl rfl ev_v
  have h1 : (0 : Int) ≤ ρ 2 ∧ ρ 2 ≤ 1200 := hf_rg hT (hH _ (List.mem_of_getElem? (i := 1) rfl)) ev_v g0 rfl rfl rfl ev_v
  have h2 : (0 : Int) ≤ ρ 3 ∧ ρ 3 ≤ 10 := hf_rg hT (hH _ (List.mem_of_getElem? (i := 2) rfl)) ev_v g0 rfl rfl rfl ev_v
  have p0 : True := c2 (P := (fun (_ _ : Int) => True)) (r := 0) (r' := 0) (c := 0) (c' := 0) (show True from hP _ (List.mem_of_getElem? (i := 0) rfl)) rfl rfl
  have p1 : q167 (2 * ρ 3 + (-2)) (ρ 5) := c2 (P := q167) (show q167 (((-2) + ((2) * ρ 3 + 0))) (((0) + ((1) * ρ 5 + 0))) from hP _ (List.mem_of_getElem? (i := 1) rfl)) (by omega) (by omega)
  have p2 : q158 (tB (vw C h)) (ρ 1 + 2048 * ρ 2) (ρ 6) := c2 (P := q158 (tB (vw C h))) (show q158 (tB (vw C h)) (((0) + ((1) * ρ 1 + ((2048) * ρ 2 + 0)))) (((0) + ((1) * ρ 6 + 0))) from hP _ (List.mem_of_getElem? (i := 2) rfl)) (by omega) (by omega)
  have p3 : q160 (tB (vw C h)) (ρ 1 + 2048 * ρ 6 + 167772160) ((1 : Int)) := c2 (P := q160 (tB (vw C h))) (show q160 (tB (vw C h)) (((167772160) + ((1) * ρ 1 + ((2048) * ρ 6 + 0)))) (((1) + 0)) from hP _ (List.mem_of_getElem? (i := 3) rfl)) (by omega) (by omega)
  have p4 : (qRC 40 (tB (vw C h))) (ρ 1 + 268435456 * ρ 3 + 4398046511104 * ρ 4 + 4294967296 * ρ 5 + 2048 * ρ 6 + (-268435456)) (ρ 7) := c2 (P := (qRC 40 (tB (vw C h)))) (show (qRC 40 (tB (vw C h))) (((-268435456) + ((1) * ρ 1 + ((268435456) * ρ 3 + ((4398046511104) * ρ 4 + ((4294967296) * ρ 5 + ((2048) * ρ 6 + 0))))))) (((0) + ((1) * ρ 7 + 0))) from hP _ (List.mem_of_getElem? (i := 4) rfl)) (by omega) (by omega)
  have is40 : tSgB (tB (vw C h)) (ρ 1).toNat (ρ 6).toNat 40 = true := b01_1 (k160 (n := ρ 1) (s := ρ 6) (c := 40) (by omega) (by omega) (by omega) (by omega) (by omega) (by omega) p3)
  have hkd := (sg_el.mp is40).1
  have nx := k158 (n := ρ 1) (s := ρ 6) (t := ρ 2) (by omega) (by omega) (by omega) (by omega) (by omega) (by omega) p2
  have ng := nx_gt (B := (tB (vw C h))) (n := (ρ 1).toNat) (s := (ρ 6).toNat) (by omega)
  have hc0 := p4.1
  have hR := rc_el (n := ρ 1) (s := ρ 6) (d := (ρ 3 + (-1))) (K := (ρ 5)) (R := (ρ 4)) p4 (by omega) (by omega) (by omega) (by omega) (by omega) (by omega) (by omega) (by omega) (by omega) (by omega)
  have q67 := q167_9 p1 (by omega) (by omega)
  have q := g_unP hR is40 (by omega)
  refine ⟨_, List.mem_cons_self, ρ, fun _ _ => rfl, fun q hq => absurd hq List.not_mem_nil, trivial, fun f hf => ?_, fun q hq => absurd hq List.not_mem_nil, fun q hq => absurd hq List.not_mem_nil, fun q hq => absurd hq List.not_mem_nil, fun q hq => ?_⟩
  · simp only [List.mem_cons, List.not_mem_nil, or_false] at hf
    rcases hf with rfl | rfl
    · show (0 : Int) ≤ ((511) + ((-1) * ρ 5 + 0))
      omega
    · show (0 : Int) ≤ ((-1) + ((1) * ρ 2 + ((-1) * ρ 6 + 0)))
      omega
  · simp only [List.mem_cons, List.not_mem_nil, or_false] at hq
    rcases hq with rfl | rfl | rfl
    · show (qRC 40 (tB (vw C h))) (((4294967296) + ((1) * ρ 1 + ((2048) * ρ 2 + ((268435456) * ρ 3 + ((4398046511104) * ρ 4 + ((8589934592) * ρ 5 + 0))))))) (((0) + ((1) * ρ 7 + 0)))
      refine c2 (P := (qRC 40 (tB (vw C h)))) (r := ρ 1 + 2048 * ρ 2 + 268435456 * ρ 3 + 4398046511104 * ρ 4 + 8589934592 * ρ 5 + 4294967296) (c := ρ 7) ?_ (by omega) (by omega)
      show (qRC 40 (tB (vw C h))) (ρ 1 + 2048 * ρ 2 + 268435456 * ρ 3 + 4398046511104 * ρ 4 + 8589934592 * ρ 5 + 4294967296) (ρ 7)
      exact rc_in (n := ρ 1) (s := ρ 2) (d := (ρ 3)) (K := (2 * ρ 5 + 1)) (R := (ρ 4)) (by omega) (by omega) (by omega) (by omega) (by omega) (by omega) (by omega) (by omega) (by omega) (by omega) q (by omega) (by omega) (by omega) (by omega) (by omega)
    · show q167 (((0) + ((2) * ρ 3 + 0))) (((1) + ((2) * ρ 5 + 0)))
      refine c2 (P := q167) (r := 2 * ρ 3) (c := 2 * ρ 5 + 1) ?_ (by omega) (by omega)
      show q167 (2 * ρ 3) (2 * ρ 5 + 1)
      exact q167_up p1 (by omega) (by omega) (by omega) (by omega)
    · show q167 (((1) + ((2) * ρ 3 + 0))) (((1) + ((2) * ρ 5 + 0)))
      refine c2 (P := q167) (r := 2 * ρ 3 + 1) (c := 2 * ρ 5 + 1) ?_ (by omega) (by omega)
      show q167 (2 * ρ 3 + 1) (2 * ρ 5 + 1)
      exact q167_up p1 (by omega) (by omega) (by omega) (by omega)
/-- unVM -/
theorem lem_551_ok (hU : uqG G C) : lem_551.1.2.1 = [] ∧ lemOK (PRd G C D xs) G rgs lem_551 := by
  refine ⟨rfl, fun ρ h ha hT => ?_⟩
  obtain ⟨-, -, hF, hG, hH, hA, hP⟩ := ha
  have f0 : (0 : Int) ≤ ((0) + ((1) * ρ 1 + 0)) := hF _ (List.mem_of_getElem? (i := 0) rfl)
  have f1 : (0 : Int) ≤ ((1200) + ((-1) * ρ 1 + 0)) := hF _ (List.mem_of_getElem? (i := 1) rfl)
  have f2 : (0 : Int) ≤ ((0) + ((1) * ρ 2 + 0)) := hF _ (List.mem_of_getElem? (i := 2) rfl)
  have f3 : (0 : Int) ≤ ((0) + ((1) * ρ 1 + ((-1) * ρ 2 + 0))) := hF _ (List.mem_of_getElem? (i := 3) rfl)
  have f4 : (0 : Int) ≤ ((0) + ((1) * ρ 4 + 0)) := hF _ (List.mem_of_getElem? (i := 4) rfl)
  have f5 : (0 : Int) ≤ ((8191) + ((-1) * ρ 4 + 0)) := hF _ (List.mem_of_getElem? (i := 5) rfl)
  have f6 : (0 : Int) ≤ ((0) + ((1) * ρ 5 + 0)) := hF _ (List.mem_of_getElem? (i := 6) rfl)
  have f7 : (0 : Int) ≤ ((1023) + ((-1) * ρ 5 + 0)) := hF _ (List.mem_of_getElem? (i := 7) rfl)
  have f8 : (0 : Int) ≤ ((-1) + ((1) * ρ 3 + 0)) := hF _ (List.mem_of_getElem? (i := 8) rfl)
  have f9 : (0 : Int) ≤ ((11) + ((-1) * ρ 3 + 0)) := hF _ (List.mem_of_getElem? (i := 9) rfl)
  have f10 : (0 : Int) ≤ ((0) + ((1) * ρ 6 + 0)) := hF _ (List.mem_of_getElem? (i := 10) rfl)
  have f11 : (0 : Int) ≤ ((0) + ((1) * ρ 1 + ((-1) * ρ 6 + 0))) := hF _ (List.mem_of_getElem? (i := 11) rfl)
  have f12 : (0 : Int) ≤ ((10) + ((-1) * ρ 3 + 0)) := hF _ (List.mem_of_getElem? (i := 12) rfl)
  have g0 : G (ρ 0).toNat = 22 := by
    have q := (hG _ (List.mem_of_getElem? (i := 0) rfl)).2
    rwa [show ev ρ (0, [(0, 1)]) = ρ 0 from ev_v] at q
  have h0 : (0 : Int) ≤ ρ 1 ∧ ρ 1 ≤ 1200 := hf_rg hT (hH _ (List.mem_of_getElem? (i := 0) rfl)) ev_v g0 rfl rfl rfl ev_v
  have h1 : (0 : Int) ≤ ρ 2 ∧ ρ 2 ≤ 1200 := hf_rg hT (hH _ (List.mem_of_getElem? (i := 1) rfl)) ev_v g0 rfl rfl rfl ev_v
  have h2 : (0 : Int) ≤ ρ 3 ∧ ρ 3 ≤ 10 := hf_rg hT (hH _ (List.mem_of_getElem? (i := 2) rfl)) ev_v g0 rfl rfl rfl ev_v
  have p0 : True := c2 (P := (fun (_ _ : Int) => True)) (r := 0) (r' := 0) (c := 0) (c' := 0) (show True from hP _ (List.mem_of_getElem? (i := 0) rfl)) rfl rfl
  have p1 : q167 (2 * ρ 3 + (-2)) (ρ 5) := c2 (P := q167) (show q167 (((-2) + ((2) * ρ 3 + 0))) (((0) + ((1) * ρ 5 + 0))) from hP _ (List.mem_of_getElem? (i := 1) rfl)) (by omega) (by omega)
  have p2 : q158 (tB (vw C h)) (ρ 1 + 2048 * ρ 2) (ρ 6) := c2 (P := q158 (tB (vw C h))) (show q158 (tB (vw C h)) (((0) + ((1) * ρ 1 + ((2048) * ρ 2 + 0)))) (((0) + ((1) * ρ 6 + 0))) from hP _ (List.mem_of_getElem? (i := 2) rfl)) (by omega) (by omega)
  have p3 : q191 (tB (vw C h)) (ρ 1 + 2048 * ρ 6) ((1 : Int)) := c2 (P := q191 (tB (vw C h))) (show q191 (tB (vw C h)) (((0) + ((1) * ρ 1 + ((2048) * ρ 6 + 0)))) (((1) + 0)) from hP _ (List.mem_of_getElem? (i := 3) rfl)) (by omega) (by omega)
  have p4 : (qRC 40 (tB (vw C h))) (ρ 1 + 268435456 * ρ 3 + 4398046511104 * ρ 4 + 4294967296 * ρ 5 + 2048 * ρ 6 + (-268435456)) (ρ 7) := c2 (P := (qRC 40 (tB (vw C h)))) (show (qRC 40 (tB (vw C h))) (((-268435456) + ((1) * ρ 1 + ((268435456) * ρ 3 + ((4398046511104) * ρ 4 + ((4294967296) * ρ 5 + ((2048) * ρ 6 + 0))))))) (((0) + ((1) * ρ 7 + 0))) from hP _ (List.mem_of_getElem? (i := 4) rfl)) (by omega) (by omega)
  have iv : tIv (tB (vw C h)) (ρ 1).toNat (ρ 6).toNat = true := b01_1 (k191 (n := ρ 1) (s := ρ 6) (by omega) (by omega) (by omega) (by omega) (by omega) p3)
  have hkd := (iv_kd iv).1
  have nx := k158 (n := ρ 1) (s := ρ 6) (t := ρ 2) (by omega) (by omega) (by omega) (by omega) (by omega) (by omega) p2
  have ng := nx_gt (B := (tB (vw C h))) (n := (ρ 1).toNat) (s := (ρ 6).toNat) (by omega)
  have hc0 := p4.1
  have hR := rc_el (n := ρ 1) (s := ρ 6) (d := (ρ 3 + (-1))) (K := (ρ 5)) (R := (ρ 4)) p4 (by omega) (by omega) (by omega) (by omega) (by omega) (by omega) (by omega) (by omega) (by omega) (by omega)
  have q := g_unV hR iv (by omega)
  refine ⟨_, List.mem_cons_self, ρ, fun _ _ => rfl, fun q hq => absurd hq List.not_mem_nil, trivial, fun f hf => ?_, fun q hq => absurd hq List.not_mem_nil, fun q hq => absurd hq List.not_mem_nil, fun q hq => absurd hq List.not_mem_nil, fun q hq => ?_⟩
  · simp only [List.mem_cons, List.not_mem_nil, or_false] at hf
    subst hf
    show (0 : Int) ≤ ((-1) + ((1) * ρ 2 + ((-1) * ρ 6 + 0)))
    omega
  · simp only [List.mem_cons, List.not_mem_nil, or_false] at hq
    subst hq
    show (qRC 41 (tB (vw C h))) (((-268435456) + ((1) * ρ 1 + ((2048) * ρ 2 + ((268435456) * ρ 3 + ((4398046511104) * ρ 4 + ((4294967296) * ρ 5 + 0))))))) (((0) + ((1) * ρ 7 + 0)))
    refine c2 (P := (qRC 41 (tB (vw C h)))) (r := ρ 1 + 2048 * ρ 2 + 268435456 * ρ 3 + 4398046511104 * ρ 4 + 4294967296 * ρ 5 + (-268435456)) (c := ρ 7) ?_ (by omega) (by omega)
    show (qRC 41 (tB (vw C h))) (ρ 1 + 2048 * ρ 2 + 268435456 * ρ 3 + 4398046511104 * ρ 4 + 4294967296 * ρ 5 + (-268435456)) (ρ 7)
    exact rc_in (n := ρ 1) (s := ρ 2) (d := (ρ 3 + (-1))) (K := (ρ 5)) (R := (ρ 4)) (by omega) (by omega) (by omega) (by omega) (by omega) (by omega) (by omega) (by omega) (by omega) (by omega) q (by omega) (by omega) (by omega) (by omega) (by omega)
/-- deepNM -/
theorem lem_552_ok (hU : uqG G C) : lem_552.1.2.1 = [] ∧ lemOK (PRd G C D xs) G rgs lem_552 := by
  refine ⟨rfl, fun ρ h ha hT => ?_⟩
  obtain ⟨-, -, hF, hG, hH, hA, hP⟩ := ha
  have f0 : (0 : Int) ≤ ((0) + ((1) * ρ 1 + 0)) := hF _ (List.mem_of_getElem? (i := 0) rfl)
  have f1 : (0 : Int) ≤ ((1200) + ((-1) * ρ 1 + 0)) := hF _ (List.mem_of_getElem? (i := 1) rfl)
  have f2 : (0 : Int) ≤ ((0) + ((1) * ρ 2 + 0)) := hF _ (List.mem_of_getElem? (i := 2) rfl)
  have f3 : (0 : Int) ≤ ((0) + ((1) * ρ 1 + ((-1) * ρ 2 + 0))) := hF _ (List.mem_of_getElem? (i := 3) rfl)
  have f4 : (0 : Int) ≤ ((0) + ((1) * ρ 4 + 0)) := hF _ (List.mem_of_getElem? (i := 4) rfl)
  have f5 : (0 : Int) ≤ ((8191) + ((-1) * ρ 4 + 0)) := hF _ (List.mem_of_getElem? (i := 5) rfl)
  have f6 : (0 : Int) ≤ ((0) + ((1) * ρ 5 + 0)) := hF _ (List.mem_of_getElem? (i := 6) rfl)
  have f7 : (0 : Int) ≤ ((1023) + ((-1) * ρ 5 + 0)) := hF _ (List.mem_of_getElem? (i := 7) rfl)
  have f8 : (0 : Int) ≤ ((0) + ((1) * ρ 3 + 0)) := hF _ (List.mem_of_getElem? (i := 8) rfl)
  have f9 : (0 : Int) ≤ ((10) + ((-1) * ρ 3 + 0)) := hF _ (List.mem_of_getElem? (i := 9) rfl)
  have f10 : (0 : Int) ≤ ((-10) + ((1) * ρ 3 + 0)) := hF _ (List.mem_of_getElem? (i := 10) rfl)
  have g0 : G (ρ 0).toNat = 22 := by
    have q := (hG _ (List.mem_of_getElem? (i := 0) rfl)).2
    rwa [show ev ρ (0, [(0, 1)]) = ρ 0 from ev_v] at q
  have h0 : (0 : Int) ≤ ρ 1 ∧ ρ 1 ≤ 1200 := hf_rg hT (hH _ (List.mem_of_getElem? (i := 0) rfl)) ev_v g0 rfl rfl rfl ev_v
  have h1 : (0 : Int) ≤ ρ 2 ∧ ρ 2 ≤ 1200 := hf_rg hT (hH _ (List.mem_of_getElem? (i := 1) rfl)) ev_v g0 rfl rfl rfl ev_v
  have h2 : (0 : Int) ≤ ρ 3 ∧ ρ 3 ≤ 10 := hf_rg hT (hH _ (List.mem_of_getElem? (i := 2) rfl)) ev_v g0 rfl rfl rfl ev_v
  have p0 : True := c2 (P := (fun (_ _ : Int) => True)) (r := 0) (r' := 0) (c := 0) (c' := 0) (show True from hP _ (List.mem_of_getElem? (i := 0) rfl)) rfl rfl
  have p1 : q167 (2 * ρ 3) (ρ 5) := c2 (P := q167) (show q167 (((0) + ((2) * ρ 3 + 0))) (((0) + ((1) * ρ 5 + 0))) from hP _ (List.mem_of_getElem? (i := 1) rfl)) (by omega) (by omega)
  have p2 : q159 (tB (vw C h)) (ρ 1 + 2048 * ρ 2 + 54525952) ((1 : Int)) := c2 (P := q159 (tB (vw C h))) (show q159 (tB (vw C h)) (((54525952) + ((1) * ρ 1 + ((2048) * ρ 2 + 0)))) (((1) + 0)) from hP _ (List.mem_of_getElem? (i := 2) rfl)) (by omega) (by omega)
  have p3 : (qRC 40 (tB (vw C h))) (ρ 1 + 2048 * ρ 2 + 268435456 * ρ 3 + 4398046511104 * ρ 4 + 4294967296 * ρ 5) (ρ 6) := c2 (P := (qRC 40 (tB (vw C h)))) (show (qRC 40 (tB (vw C h))) (((0) + ((1) * ρ 1 + ((2048) * ρ 2 + ((268435456) * ρ 3 + ((4398046511104) * ρ 4 + ((4294967296) * ρ 5 + 0))))))) (((0) + ((1) * ρ 6 + 0))) from hP _ (List.mem_of_getElem? (i := 3) rfl)) (by omega) (by omega)
  have iw13 : tIsB (tB (vw C h)) (ρ 1).toNat (ρ 2).toNat (wd 13) = true := b01_1 (k159 (n := ρ 1) (s := ρ 2) (w := 13) (by omega) (by omega) (by omega) (by omega) (by omega) (by omega) p2)
  have hkd := (is_el.mp iw13).1
  have hc0 := p3.1
  have hR := rc_el (n := ρ 1) (s := ρ 2) (d := (ρ 3)) (K := (ρ 5)) (R := (ρ 4)) p3 (by omega) (by omega) (by omega) (by omega) (by omega) (by omega) (by omega) (by omega) (by omega) (by omega)
  have q := o_unN hR iw13 (by omega)
  refine ⟨_, List.mem_cons_self, ρ, fun _ _ => rfl, fun q hq => absurd hq List.not_mem_nil, trivial, fun f hf => ?_, fun q hq => absurd hq List.not_mem_nil, fun q hq => absurd hq List.not_mem_nil, fun q hq => absurd hq List.not_mem_nil, fun q hq => ?_⟩
  · exact absurd hf List.not_mem_nil
  · simp only [List.mem_cons, List.not_mem_nil, or_false] at hq
    subst hq
    show q166 (tB (vw C h)) (((0) + ((1) * ρ 1 + 0))) (((24576) + ((1) * ρ 2 + 0)))
    refine c2 (P := q166 (tB (vw C h))) (r := ρ 1) (c := ρ 2 + 24576) ?_ (by omega) (by omega)
    show q166 (tB (vw C h)) (ρ 1) (ρ 2 + 24576)
    exact o166 (k := 24576) (n := ρ 1) (s := ρ 2) (by omega) q (by omega) rfl (by omega)
/-- deepPM -/
theorem lem_553_ok (hU : uqG G C) : lem_553.1.2.1 = [] ∧ lemOK (PRd G C D xs) G rgs lem_553 := by
  refine ⟨rfl, fun ρ h ha hT => ?_⟩
  obtain ⟨-, -, hF, hG, hH, hA, hP⟩ := ha
  have f0 : (0 : Int) ≤ ((0) + ((1) * ρ 1 + 0)) := hF _ (List.mem_of_getElem? (i := 0) rfl)
  have f1 : (0 : Int) ≤ ((1200) + ((-1) * ρ 1 + 0)) := hF _ (List.mem_of_getElem? (i := 1) rfl)
  have f2 : (0 : Int) ≤ ((0) + ((1) * ρ 2 + 0)) := hF _ (List.mem_of_getElem? (i := 2) rfl)
  have f3 : (0 : Int) ≤ ((0) + ((1) * ρ 1 + ((-1) * ρ 2 + 0))) := hF _ (List.mem_of_getElem? (i := 3) rfl)
  have f4 : (0 : Int) ≤ ((0) + ((1) * ρ 4 + 0)) := hF _ (List.mem_of_getElem? (i := 4) rfl)
  have f5 : (0 : Int) ≤ ((8191) + ((-1) * ρ 4 + 0)) := hF _ (List.mem_of_getElem? (i := 5) rfl)
  have f6 : (0 : Int) ≤ ((0) + ((1) * ρ 5 + 0)) := hF _ (List.mem_of_getElem? (i := 6) rfl)
  have f7 : (0 : Int) ≤ ((1023) + ((-1) * ρ 5 + 0)) := hF _ (List.mem_of_getElem? (i := 7) rfl)
  have f8 : (0 : Int) ≤ ((0) + ((1) * ρ 3 + 0)) := hF _ (List.mem_of_getElem? (i := 8) rfl)
  have f9 : (0 : Int) ≤ ((10) + ((-1) * ρ 3 + 0)) := hF _ (List.mem_of_getElem? (i := 9) rfl)
  have f10 : (0 : Int) ≤ ((-10) + ((1) * ρ 3 + 0)) := hF _ (List.mem_of_getElem? (i := 10) rfl)
  have g0 : G (ρ 0).toNat = 22 := by
    have q := (hG _ (List.mem_of_getElem? (i := 0) rfl)).2
    rwa [show ev ρ (0, [(0, 1)]) = ρ 0 from ev_v] at q
  have h0 : (0 : Int) ≤ ρ 1 ∧ ρ 1 ≤ 1200 := hf_rg hT (hH _ (List.mem_of_getElem? (i := 0) rfl)) ev_v g0 rfl rfl rfl ev_v
  have h1 : (0 : Int) ≤ ρ 2 ∧ ρ 2 ≤ 1200 := hf_rg hT (hH _ (List.mem_of_getElem? (i := 1) rfl)) ev_v g0 rfl rfl rfl ev_v
  have h2 : (0 : Int) ≤ ρ 3 ∧ ρ 3 ≤ 10 := hf_rg hT (hH _ (List.mem_of_getElem? (i := 2) rfl)) ev_v g0 rfl rfl rfl ev_v
  have p0 : True := c2 (P := (fun (_ _ : Int) => True)) (r := 0) (r' := 0) (c := 0) (c' := 0) (show True from hP _ (List.mem_of_getElem? (i := 0) rfl)) rfl rfl
  have p1 : q167 (2 * ρ 3) (ρ 5) := c2 (P := q167) (show q167 (((0) + ((2) * ρ 3 + 0))) (((0) + ((1) * ρ 5 + 0))) from hP _ (List.mem_of_getElem? (i := 1) rfl)) (by omega) (by omega)
  have p2 : q160 (tB (vw C h)) (ρ 1 + 2048 * ρ 2 + 167772160) ((1 : Int)) := c2 (P := q160 (tB (vw C h))) (show q160 (tB (vw C h)) (((167772160) + ((1) * ρ 1 + ((2048) * ρ 2 + 0)))) (((1) + 0)) from hP _ (List.mem_of_getElem? (i := 2) rfl)) (by omega) (by omega)
  have p3 : (qRC 40 (tB (vw C h))) (ρ 1 + 2048 * ρ 2 + 268435456 * ρ 3 + 4398046511104 * ρ 4 + 4294967296 * ρ 5) (ρ 6) := c2 (P := (qRC 40 (tB (vw C h)))) (show (qRC 40 (tB (vw C h))) (((0) + ((1) * ρ 1 + ((2048) * ρ 2 + ((268435456) * ρ 3 + ((4398046511104) * ρ 4 + ((4294967296) * ρ 5 + 0))))))) (((0) + ((1) * ρ 6 + 0))) from hP _ (List.mem_of_getElem? (i := 3) rfl)) (by omega) (by omega)
  have is40 : tSgB (tB (vw C h)) (ρ 1).toNat (ρ 2).toNat 40 = true := b01_1 (k160 (n := ρ 1) (s := ρ 2) (c := 40) (by omega) (by omega) (by omega) (by omega) (by omega) (by omega) p2)
  have hkd := (sg_el.mp is40).1
  have hc0 := p3.1
  have hR := rc_el (n := ρ 1) (s := ρ 2) (d := (ρ 3)) (K := (ρ 5)) (R := (ρ 4)) p3 (by omega) (by omega) (by omega) (by omega) (by omega) (by omega) (by omega) (by omega) (by omega) (by omega)
  have q := o_unP hR is40 (by omega)
  refine ⟨_, List.mem_cons_self, ρ, fun _ _ => rfl, fun q hq => absurd hq List.not_mem_nil, trivial, fun f hf => ?_, fun q hq => absurd hq List.not_mem_nil, fun q hq => absurd hq List.not_mem_nil, fun q hq => absurd hq List.not_mem_nil, fun q hq => ?_⟩
  · exact absurd hf List.not_mem_nil
  · simp only [List.mem_cons, List.not_mem_nil, or_false] at hq
    subst hq
    show q166 (tB (vw C h)) (((0) + ((1) * ρ 1 + 0))) (((24576) + ((1) * ρ 2 + 0)))
    refine c2 (P := q166 (tB (vw C h))) (r := ρ 1) (c := ρ 2 + 24576) ?_ (by omega) (by omega)
    show q166 (tB (vw C h)) (ρ 1) (ρ 2 + 24576)
    exact o166 (k := 24576) (n := ρ 1) (s := ρ 2) (by omega) q (by omega) rfl (by omega)
/-- deepVM -/
theorem lem_554_ok (hU : uqG G C) : lem_554.1.2.1 = [] ∧ lemOK (PRd G C D xs) G rgs lem_554 := by
  refine ⟨rfl, fun ρ h ha hT => ?_⟩
  obtain ⟨-, -, hF, hG, hH, hA, hP⟩ := ha
  have f0 : (0 : Int) ≤ ((0) + ((1) * ρ 1 + 0)) := hF _ (List.mem_of_getElem? (i := 0) rfl)
  have f1 : (0 : Int) ≤ ((1200) + ((-1) * ρ 1 + 0)) := hF _ (List.mem_of_getElem? (i := 1) rfl)
  have f2 : (0 : Int) ≤ ((0) + ((1) * ρ 2 + 0)) := hF _ (List.mem_of_getElem? (i := 2) rfl)
  have f3 : (0 : Int) ≤ ((0) + ((1) * ρ 1 + ((-1) * ρ 2 + 0))) := hF _ (List.mem_of_getElem? (i := 3) rfl)
  have f4 : (0 : Int) ≤ ((0) + ((1) * ρ 4 + 0)) := hF _ (List.mem_of_getElem? (i := 4) rfl)
  have f5 : (0 : Int) ≤ ((8191) + ((-1) * ρ 4 + 0)) := hF _ (List.mem_of_getElem? (i := 5) rfl)
  have f6 : (0 : Int) ≤ ((0) + ((1) * ρ 5 + 0)) := hF _ (List.mem_of_getElem? (i := 6) rfl)
  have f7 : (0 : Int) ≤ ((1023) + ((-1) * ρ 5 + 0)) := hF _ (List.mem_of_getElem? (i := 7) rfl)
  have f8 : (0 : Int) ≤ ((0) + ((1) * ρ 3 + 0)) := hF _ (List.mem_of_getElem? (i := 8) rfl)
  have f9 : (0 : Int) ≤ ((10) + ((-1) * ρ 3 + 0)) := hF _ (List.mem_of_getElem? (i := 9) rfl)
  have f10 : (0 : Int) ≤ ((-10) + ((1) * ρ 3 + 0)) := hF _ (List.mem_of_getElem? (i := 10) rfl)
  have g0 : G (ρ 0).toNat = 22 := by
    have q := (hG _ (List.mem_of_getElem? (i := 0) rfl)).2
    rwa [show ev ρ (0, [(0, 1)]) = ρ 0 from ev_v] at q
  have h0 : (0 : Int) ≤ ρ 1 ∧ ρ 1 ≤ 1200 := hf_rg hT (hH _ (List.mem_of_getElem? (i := 0) rfl)) ev_v g0 rfl rfl rfl ev_v
  have h1 : (0 : Int) ≤ ρ 2 ∧ ρ 2 ≤ 1200 := hf_rg hT (hH _ (List.mem_of_getElem? (i := 1) rfl)) ev_v g0 rfl rfl rfl ev_v
  have h2 : (0 : Int) ≤ ρ 3 ∧ ρ 3 ≤ 10 := hf_rg hT (hH _ (List.mem_of_getElem? (i := 2) rfl)) ev_v g0 rfl rfl rfl ev_v
  have p0 : True := c2 (P := (fun (_ _ : Int) => True)) (r := 0) (r' := 0) (c := 0) (c' := 0) (show True from hP _ (List.mem_of_getElem? (i := 0) rfl)) rfl rfl
  have p1 : q167 (2 * ρ 3) (ρ 5) := c2 (P := q167) (show q167 (((0) + ((2) * ρ 3 + 0))) (((0) + ((1) * ρ 5 + 0))) from hP _ (List.mem_of_getElem? (i := 1) rfl)) (by omega) (by omega)
  have p2 : q191 (tB (vw C h)) (ρ 1 + 2048 * ρ 2) ((1 : Int)) := c2 (P := q191 (tB (vw C h))) (show q191 (tB (vw C h)) (((0) + ((1) * ρ 1 + ((2048) * ρ 2 + 0)))) (((1) + 0)) from hP _ (List.mem_of_getElem? (i := 2) rfl)) (by omega) (by omega)
  have p3 : (qRC 40 (tB (vw C h))) (ρ 1 + 2048 * ρ 2 + 268435456 * ρ 3 + 4398046511104 * ρ 4 + 4294967296 * ρ 5) (ρ 6) := c2 (P := (qRC 40 (tB (vw C h)))) (show (qRC 40 (tB (vw C h))) (((0) + ((1) * ρ 1 + ((2048) * ρ 2 + ((268435456) * ρ 3 + ((4398046511104) * ρ 4 + ((4294967296) * ρ 5 + 0))))))) (((0) + ((1) * ρ 6 + 0))) from hP _ (List.mem_of_getElem? (i := 3) rfl)) (by omega) (by omega)
  have iv : tIv (tB (vw C h)) (ρ 1).toNat (ρ 2).toNat = true := b01_1 (k191 (n := ρ 1) (s := ρ 2) (by omega) (by omega) (by omega) (by omega) (by omega) p2)
  have hkd := (iv_kd iv).1
  have hc0 := p3.1
  have hR := rc_el (n := ρ 1) (s := ρ 2) (d := (ρ 3)) (K := (ρ 5)) (R := (ρ 4)) p3 (by omega) (by omega) (by omega) (by omega) (by omega) (by omega) (by omega) (by omega) (by omega) (by omega)
  have q := o_unV hR iv (by omega)
  refine ⟨_, List.mem_cons_self, ρ, fun _ _ => rfl, fun q hq => absurd hq List.not_mem_nil, trivial, fun f hf => ?_, fun q hq => absurd hq List.not_mem_nil, fun q hq => absurd hq List.not_mem_nil, fun q hq => absurd hq List.not_mem_nil, fun q hq => ?_⟩
  · exact absurd hf List.not_mem_nil
  · simp only [List.mem_cons, List.not_mem_nil, or_false] at hq
    subst hq
    show q166 (tB (vw C h)) (((0) + ((1) * ρ 1 + 0))) (((24576) + ((1) * ρ 2 + 0)))
    refine c2 (P := q166 (tB (vw C h))) (r := ρ 1) (c := ρ 2 + 24576) ?_ (by omega) (by omega)
    show q166 (tB (vw C h)) (ρ 1) (ρ 2 + 24576)
    exact o166 (k := 24576) (n := ρ 1) (s := ρ 2) (by omega) q (by omega) rfl (by omega)
/-- unNoM -/
theorem lem_555_ok (hU : uqG G C) : lem_555.1.2.1 = [] ∧ lemOK (PRd G C D xs) G rgs lem_555 := by
  refine ⟨rfl, fun ρ h ha hT => ?_⟩
  obtain ⟨-, -, hF, hG, hH, hA, hP⟩ := ha
  have f0 : (0 : Int) ≤ ((0) + ((1) * ρ 1 + 0)) := hF _ (List.mem_of_getElem? (i := 0) rfl)
  have f1 : (0 : Int) ≤ ((1200) + ((-1) * ρ 1 + 0)) := hF _ (List.mem_of_getElem? (i := 1) rfl)
  have f2 : (0 : Int) ≤ ((0) + ((1) * ρ 2 + 0)) := hF _ (List.mem_of_getElem? (i := 2) rfl)
  have f3 : (0 : Int) ≤ ((0) + ((1) * ρ 1 + ((-1) * ρ 2 + 0))) := hF _ (List.mem_of_getElem? (i := 3) rfl)
  have f4 : (0 : Int) ≤ ((0) + ((1) * ρ 4 + 0)) := hF _ (List.mem_of_getElem? (i := 4) rfl)
  have f5 : (0 : Int) ≤ ((8191) + ((-1) * ρ 4 + 0)) := hF _ (List.mem_of_getElem? (i := 5) rfl)
  have f6 : (0 : Int) ≤ ((0) + ((1) * ρ 5 + 0)) := hF _ (List.mem_of_getElem? (i := 6) rfl)
  have f7 : (0 : Int) ≤ ((1023) + ((-1) * ρ 5 + 0)) := hF _ (List.mem_of_getElem? (i := 7) rfl)
  have f8 : (0 : Int) ≤ ((0) + ((1) * ρ 3 + 0)) := hF _ (List.mem_of_getElem? (i := 8) rfl)
  have f9 : (0 : Int) ≤ ((10) + ((-1) * ρ 3 + 0)) := hF _ (List.mem_of_getElem? (i := 9) rfl)
  have g0 : G (ρ 0).toNat = 22 := by
    have q := (hG _ (List.mem_of_getElem? (i := 0) rfl)).2
    rwa [show ev ρ (0, [(0, 1)]) = ρ 0 from ev_v] at q
  have h0 : (0 : Int) ≤ ρ 1 ∧ ρ 1 ≤ 1200 := hf_rg hT (hH _ (List.mem_of_getElem? (i := 0) rfl)) ev_v g0 rfl rfl rfl ev_v
  have h1 : (0 : Int) ≤ ρ 2 ∧ ρ 2 ≤ 1200 := hf_rg hT (hH _ (List.mem_of_getElem? (i := 1) rfl)) ev_v g0 rfl rfl rfl ev_v
  have h2 : (0 : Int) ≤ ρ 3 ∧ ρ 3 ≤ 10 := hf_rg hT (hH _ (List.mem_of_getElem? (i := 2) rfl)) ev_v g0 rfl rfl rfl ev_v
  have p0 : True := c2 (P := (fun (_ _ : Int) => True)) (r := 0) (r' := 0) (c := 0) (c' := 0) (show True from hP _ (List.mem_of_getElem? (i := 0) rfl)) rfl rfl
  have p1 : q167 (2 * ρ 3) (ρ 5) := c2 (P := q167) (show q167 (((0) + ((2) * ρ 3 + 0))) (((0) + ((1) * ρ 5 + 0))) from hP _ (List.mem_of_getElem? (i := 1) rfl)) (by omega) (by omega)
  have p2 : q159 (tB (vw C h)) (ρ 1 + 2048 * ρ 2 + 54525952) ((0 : Int)) := c2 (P := q159 (tB (vw C h))) (show q159 (tB (vw C h)) (((54525952) + ((1) * ρ 1 + ((2048) * ρ 2 + 0)))) (((0) + 0)) from hP _ (List.mem_of_getElem? (i := 2) rfl)) (by omega) (by omega)
  have p3 : q191 (tB (vw C h)) (ρ 1 + 2048 * ρ 2) ((0 : Int)) := c2 (P := q191 (tB (vw C h))) (show q191 (tB (vw C h)) (((0) + ((1) * ρ 1 + ((2048) * ρ 2 + 0)))) (((0) + 0)) from hP _ (List.mem_of_getElem? (i := 3) rfl)) (by omega) (by omega)
  have p4 : q160 (tB (vw C h)) (ρ 1 + 2048 * ρ 2 + 167772160) ((0 : Int)) := c2 (P := q160 (tB (vw C h))) (show q160 (tB (vw C h)) (((167772160) + ((1) * ρ 1 + ((2048) * ρ 2 + 0)))) (((0) + 0)) from hP _ (List.mem_of_getElem? (i := 4) rfl)) (by omega) (by omega)
  have p5 : (qRC 40 (tB (vw C h))) (ρ 1 + 2048 * ρ 2 + 268435456 * ρ 3 + 4398046511104 * ρ 4 + 4294967296 * ρ 5) (ρ 6) := c2 (P := (qRC 40 (tB (vw C h)))) (show (qRC 40 (tB (vw C h))) (((0) + ((1) * ρ 1 + ((2048) * ρ 2 + ((268435456) * ρ 3 + ((4398046511104) * ρ 4 + ((4294967296) * ρ 5 + 0))))))) (((0) + ((1) * ρ 6 + 0))) from hP _ (List.mem_of_getElem? (i := 5) rfl)) (by omega) (by omega)
  have iw13 : tIsB (tB (vw C h)) (ρ 1).toNat (ρ 2).toNat (wd 13) = false := b01_0 (k159 (n := ρ 1) (s := ρ 2) (w := 13) (by omega) (by omega) (by omega) (by omega) (by omega) (by omega) p2)
  have iv : tIv (tB (vw C h)) (ρ 1).toNat (ρ 2).toNat = false := b01_0 (k191 (n := ρ 1) (s := ρ 2) (by omega) (by omega) (by omega) (by omega) (by omega) p3)
  have is40 : tSgB (tB (vw C h)) (ρ 1).toNat (ρ 2).toNat 40 = false := b01_0 (k160 (n := ρ 1) (s := ρ 2) (c := 40) (by omega) (by omega) (by omega) (by omega) (by omega) (by omega) p4)
  have hc0 := p5.1
  have hR := rc_el (n := ρ 1) (s := ρ 2) (d := (ρ 3)) (K := (ρ 5)) (R := (ρ 4)) p5 (by omega) (by omega) (by omega) (by omega) (by omega) (by omega) (by omega) (by omega) (by omega) (by omega)
  have q := o_un hR iw13 is40 iv
  refine ⟨_, List.mem_cons_self, ρ, fun _ _ => rfl, fun q hq => absurd hq List.not_mem_nil, trivial, fun f hf => ?_, fun q hq => absurd hq List.not_mem_nil, fun q hq => absurd hq List.not_mem_nil, fun q hq => absurd hq List.not_mem_nil, fun q hq => ?_⟩
  · exact absurd hf List.not_mem_nil
  · simp only [List.mem_cons, List.not_mem_nil, or_false] at hq
    subst hq
    show q166 (tB (vw C h)) (((0) + ((1) * ρ 1 + 0))) (((4096) + ((1) * ρ 2 + 0)))
    refine c2 (P := q166 (tB (vw C h))) (r := ρ 1) (c := ρ 2 + 4096) ?_ (by omega) (by omega)
    show q166 (tB (vw C h)) (ρ 1) (ρ 2 + 4096)
    exact o166 (k := 4096) (n := ρ 1) (s := ρ 2) (by omega) q (by omega) rfl (by omega)
/-- cm60M -/
theorem lem_556_ok (hU : uqG G C) : lem_556.1.2.1 = [] ∧ lemOK (PRd G C D xs) G rgs lem_556 := by
  refine ⟨rfl, fun ρ h ha hT => ?_⟩
  obtain ⟨-, -, hF, hG, hH, hA, hP⟩ := ha
  have f0 : (0 : Int) ≤ ((0) + ((1) * ρ 1 + 0)) := hF _ (List.mem_of_getElem? (i := 0) rfl)
  have f1 : (0 : Int) ≤ ((1200) + ((-1) * ρ 1 + 0)) := hF _ (List.mem_of_getElem? (i := 1) rfl)
  have f2 : (0 : Int) ≤ ((0) + ((1) * ρ 2 + 0)) := hF _ (List.mem_of_getElem? (i := 2) rfl)
  have f3 : (0 : Int) ≤ ((0) + ((1) * ρ 1 + ((-1) * ρ 2 + 0))) := hF _ (List.mem_of_getElem? (i := 3) rfl)
  have f4 : (0 : Int) ≤ ((0) + ((1) * ρ 4 + 0)) := hF _ (List.mem_of_getElem? (i := 4) rfl)
  have f5 : (0 : Int) ≤ ((8191) + ((-1) * ρ 4 + 0)) := hF _ (List.mem_of_getElem? (i := 5) rfl)
  have f6 : (0 : Int) ≤ ((0) + ((1) * ρ 5 + 0)) := hF _ (List.mem_of_getElem? (i := 6) rfl)
  have f7 : (0 : Int) ≤ ((1023) + ((-1) * ρ 5 + 0)) := hF _ (List.mem_of_getElem? (i := 7) rfl)
  have f8 : (0 : Int) ≤ ((-1) + ((1) * ρ 3 + 0)) := hF _ (List.mem_of_getElem? (i := 8) rfl)
  have f9 : (0 : Int) ≤ ((11) + ((-1) * ρ 3 + 0)) := hF _ (List.mem_of_getElem? (i := 9) rfl)
  have f10 : (0 : Int) ≤ ((0) + ((1) * ρ 6 + 0)) := hF _ (List.mem_of_getElem? (i := 10) rfl)
  have f11 : (0 : Int) ≤ ((0) + ((1) * ρ 1 + ((-1) * ρ 6 + 0))) := hF _ (List.mem_of_getElem? (i := 11) rfl)
  have g0 : G (ρ 0).toNat = 22 := by
    have q := (hG _ (List.mem_of_getElem? (i := 0) rfl)).2
    rwa [show ev ρ (0, [(0, 1)]) = ρ 0 from ev_v] at q
  have h0 : (0 : Int) ≤ ρ 1 ∧ ρ 1 ≤ 1200 := hf_rg hT (hH _ (List.mem_of_getElem? (i := 0) rfl)) ev_v g0 rfl rfl rfl ev_v
  have h1 : (0 : Int) ≤ ρ 2 ∧ ρ 2 ≤ 1200 := hf_rg hT (hH _ (List.mem_of_getElem? (i := 1) rfl)) ev_v g0 rfl rfl rfl ev_v
  have h2 : (0 : Int) ≤ ρ 3 ∧ ρ 3 ≤ 10 := hf_rg hT (hH _ (List.mem_of_getElem? (i := 2) rfl)) ev_v g0 rfl rfl rfl ev_v
  have p0 : True := c2 (P := (fun (_ _ : Int) => True)) (r := 0) (r' := 0) (c := 0) (c' := 0) (show True from hP _ (List.mem_of_getElem? (i := 0) rfl)) rfl rfl
  have p1 : q167 (2 * ρ 3 + (-2)) (ρ 5) := c2 (P := q167) (show q167 (((-2) + ((2) * ρ 3 + 0))) (((0) + ((1) * ρ 5 + 0))) from hP _ (List.mem_of_getElem? (i := 1) rfl)) (by omega) (by omega)
  have p2 : q158 (tB (vw C h)) (ρ 1 + 2048 * ρ 2) (ρ 6) := c2 (P := q158 (tB (vw C h))) (show q158 (tB (vw C h)) (((0) + ((1) * ρ 1 + ((2048) * ρ 2 + 0)))) (((0) + ((1) * ρ 6 + 0))) from hP _ (List.mem_of_getElem? (i := 2) rfl)) (by omega) (by omega)
  have p3 : q160 (tB (vw C h)) (ρ 1 + 2048 * ρ 6 + 251658240) ((1 : Int)) := c2 (P := q160 (tB (vw C h))) (show q160 (tB (vw C h)) (((251658240) + ((1) * ρ 1 + ((2048) * ρ 6 + 0)))) (((1) + 0)) from hP _ (List.mem_of_getElem? (i := 3) rfl)) (by omega) (by omega)
  have p4 : (qRC 41 (tB (vw C h))) (ρ 1 + 268435456 * ρ 3 + 4398046511104 * ρ 4 + 4294967296 * ρ 5 + 2048 * ρ 6 + (-268435456)) (ρ 7) := c2 (P := (qRC 41 (tB (vw C h)))) (show (qRC 41 (tB (vw C h))) (((-268435456) + ((1) * ρ 1 + ((268435456) * ρ 3 + ((4398046511104) * ρ 4 + ((4294967296) * ρ 5 + ((2048) * ρ 6 + 0))))))) (((0) + ((1) * ρ 7 + 0))) from hP _ (List.mem_of_getElem? (i := 4) rfl)) (by omega) (by omega)
  have is60 : tSgB (tB (vw C h)) (ρ 1).toNat (ρ 6).toNat 60 = true := b01_1 (k160 (n := ρ 1) (s := ρ 6) (c := 60) (by omega) (by omega) (by omega) (by omega) (by omega) (by omega) p3)
  have hkd := (sg_el.mp is60).1
  have nx := k158 (n := ρ 1) (s := ρ 6) (t := ρ 2) (by omega) (by omega) (by omega) (by omega) (by omega) (by omega) p2
  have ng := nx_gt (B := (tB (vw C h))) (n := (ρ 1).toNat) (s := (ρ 6).toNat) (by omega)
  have hc0 := p4.1
  have hR := rc_el (n := ρ 1) (s := ρ 6) (d := (ρ 3 + (-1))) (K := (ρ 5)) (R := (ρ 4)) p4 (by omega) (by omega) (by omega) (by omega) (by omega) (by omega) (by omega) (by omega) (by omega) (by omega)
  have q := g_cm hR (by unfold tCm; simp [is60])
  refine ⟨_, List.mem_cons_self, ρ, fun _ _ => rfl, fun q hq => absurd hq List.not_mem_nil, trivial, fun f hf => ?_, fun q hq => absurd hq List.not_mem_nil, fun q hq => absurd hq List.not_mem_nil, fun q hq => absurd hq List.not_mem_nil, fun q hq => ?_⟩
  · simp only [List.mem_cons, List.not_mem_nil, or_false] at hf
    subst hf
    show (0 : Int) ≤ ((-1) + ((1) * ρ 2 + ((-1) * ρ 6 + 0)))
    omega
  · simp only [List.mem_cons, List.not_mem_nil, or_false] at hq
    subst hq
    show (qRC 42 (tB (vw C h))) (((-268435456) + ((1) * ρ 1 + ((2048) * ρ 2 + ((268435456) * ρ 3 + ((4398046511104) * ρ 4 + ((4294967296) * ρ 5 + 0))))))) (((0) + ((1) * ρ 7 + 0)))
    refine c2 (P := (qRC 42 (tB (vw C h)))) (r := ρ 1 + 2048 * ρ 2 + 268435456 * ρ 3 + 4398046511104 * ρ 4 + 4294967296 * ρ 5 + (-268435456)) (c := ρ 7) ?_ (by omega) (by omega)
    show (qRC 42 (tB (vw C h))) (ρ 1 + 2048 * ρ 2 + 268435456 * ρ 3 + 4398046511104 * ρ 4 + 4294967296 * ρ 5 + (-268435456)) (ρ 7)
    exact rc_in (n := ρ 1) (s := ρ 2) (d := (ρ 3 + (-1))) (K := (ρ 5)) (R := (ρ 4)) (by omega) (by omega) (by omega) (by omega) (by omega) (by omega) (by omega) (by omega) (by omega) (by omega) q (by omega) (by omega) (by omega) (by omega) (by omega)
/-- cm62M -/
theorem lem_557_ok (hU : uqG G C) : lem_557.1.2.1 = [] ∧ lemOK (PRd G C D xs) G rgs lem_557 := by
  refine ⟨rfl, fun ρ h ha hT => ?_⟩
  obtain ⟨-, -, hF, hG, hH, hA, hP⟩ := ha
  have f0 : (0 : Int) ≤ ((0) + ((1) * ρ 1 + 0)) := hF _ (List.mem_of_getElem? (i := 0) rfl)
  have f1 : (0 : Int) ≤ ((1200) + ((-1) * ρ 1 + 0)) := hF _ (List.mem_of_getElem? (i := 1) rfl)
  have f2 : (0 : Int) ≤ ((0) + ((1) * ρ 2 + 0)) := hF _ (List.mem_of_getElem? (i := 2) rfl)
  have f3 : (0 : Int) ≤ ((0) + ((1) * ρ 1 + ((-1) * ρ 2 + 0))) := hF _ (List.mem_of_getElem? (i := 3) rfl)
  have f4 : (0 : Int) ≤ ((0) + ((1) * ρ 4 + 0)) := hF _ (List.mem_of_getElem? (i := 4) rfl)
  have f5 : (0 : Int) ≤ ((8191) + ((-1) * ρ 4 + 0)) := hF _ (List.mem_of_getElem? (i := 5) rfl)
  have f6 : (0 : Int) ≤ ((0) + ((1) * ρ 5 + 0)) := hF _ (List.mem_of_getElem? (i := 6) rfl)
  have f7 : (0 : Int) ≤ ((1023) + ((-1) * ρ 5 + 0)) := hF _ (List.mem_of_getElem? (i := 7) rfl)
  have f8 : (0 : Int) ≤ ((-1) + ((1) * ρ 3 + 0)) := hF _ (List.mem_of_getElem? (i := 8) rfl)
  have f9 : (0 : Int) ≤ ((11) + ((-1) * ρ 3 + 0)) := hF _ (List.mem_of_getElem? (i := 9) rfl)
  have f10 : (0 : Int) ≤ ((0) + ((1) * ρ 6 + 0)) := hF _ (List.mem_of_getElem? (i := 10) rfl)
  have f11 : (0 : Int) ≤ ((0) + ((1) * ρ 1 + ((-1) * ρ 6 + 0))) := hF _ (List.mem_of_getElem? (i := 11) rfl)
  have g0 : G (ρ 0).toNat = 22 := by
    have q := (hG _ (List.mem_of_getElem? (i := 0) rfl)).2
    rwa [show ev ρ (0, [(0, 1)]) = ρ 0 from ev_v] at q
  have h0 : (0 : Int) ≤ ρ 1 ∧ ρ 1 ≤ 1200 := hf_rg hT (hH _ (List.mem_of_getElem? (i := 0) rfl)) ev_v g0 rfl rfl rfl ev_v
  have h1 : (0 : Int) ≤ ρ 2 ∧ ρ 2 ≤ 1200 := hf_rg hT (hH _ (List.mem_of_getElem? (i := 1) rfl)) ev_v g0 rfl rfl rfl ev_v
  have h2 : (0 : Int) ≤ ρ 3 ∧ ρ 3 ≤ 10 := hf_rg hT (hH _ (List.mem_of_getElem? (i := 2) rfl)) ev_v g0 rfl rfl rfl ev_v
  have p0 : True := c2 (P := (fun (_ _ : Int) => True)) (r := 0) (r' := 0) (c := 0) (c' := 0) (show True from hP _ (List.mem_of_getElem? (i := 0) rfl)) rfl rfl
  have p1 : q167 (2 * ρ 3 + (-2)) (ρ 5) := c2 (P := q167) (show q167 (((-2) + ((2) * ρ 3 + 0))) (((0) + ((1) * ρ 5 + 0))) from hP _ (List.mem_of_getElem? (i := 1) rfl)) (by omega) (by omega)
  have p2 : q158 (tB (vw C h)) (ρ 1 + 2048 * ρ 2) (ρ 6) := c2 (P := q158 (tB (vw C h))) (show q158 (tB (vw C h)) (((0) + ((1) * ρ 1 + ((2048) * ρ 2 + 0)))) (((0) + ((1) * ρ 6 + 0))) from hP _ (List.mem_of_getElem? (i := 2) rfl)) (by omega) (by omega)
  have p3 : q160 (tB (vw C h)) (ρ 1 + 2048 * ρ 6 + 260046848) ((1 : Int)) := c2 (P := q160 (tB (vw C h))) (show q160 (tB (vw C h)) (((260046848) + ((1) * ρ 1 + ((2048) * ρ 6 + 0)))) (((1) + 0)) from hP _ (List.mem_of_getElem? (i := 3) rfl)) (by omega) (by omega)
  have p4 : (qRC 41 (tB (vw C h))) (ρ 1 + 268435456 * ρ 3 + 4398046511104 * ρ 4 + 4294967296 * ρ 5 + 2048 * ρ 6 + (-268435456)) (ρ 7) := c2 (P := (qRC 41 (tB (vw C h)))) (show (qRC 41 (tB (vw C h))) (((-268435456) + ((1) * ρ 1 + ((268435456) * ρ 3 + ((4398046511104) * ρ 4 + ((4294967296) * ρ 5 + ((2048) * ρ 6 + 0))))))) (((0) + ((1) * ρ 7 + 0))) from hP _ (List.mem_of_getElem? (i := 4) rfl)) (by omega) (by omega)
  have is62 : tSgB (tB (vw C h)) (ρ 1).toNat (ρ 6).toNat 62 = true := b01_1 (k160 (n := ρ 1) (s := ρ 6) (c := 62) (by omega) (by omega) (by omega) (by omega) (by omega) (by omega) p3)
  have hkd := (sg_el.mp is62).1
  have nx := k158 (n := ρ 1) (s := ρ 6) (t := ρ 2) (by omega) (by omega) (by omega) (by omega) (by omega) (by omega) p2
  have ng := nx_gt (B := (tB (vw C h))) (n := (ρ 1).toNat) (s := (ρ 6).toNat) (by omega)
  have hc0 := p4.1
  have hR := rc_el (n := ρ 1) (s := ρ 6) (d := (ρ 3 + (-1))) (K := (ρ 5)) (R := (ρ 4)) p4 (by omega) (by omega) (by omega) (by omega) (by omega) (by omega) (by omega) (by omega) (by omega) (by omega)
  have q := g_cm hR (by unfold tCm; simp [is62])
  refine ⟨_, List.mem_cons_self, ρ, fun _ _ => rfl, fun q hq => absurd hq List.not_mem_nil, trivial, fun f hf => ?_, fun q hq => absurd hq List.not_mem_nil, fun q hq => absurd hq List.not_mem_nil, fun q hq => absurd hq List.not_mem_nil, fun q hq => ?_⟩
  · simp only [List.mem_cons, List.not_mem_nil, or_false] at hf
    subst hf
    show (0 : Int) ≤ ((-1) + ((1) * ρ 2 + ((-1) * ρ 6 + 0)))
    omega
  · simp only [List.mem_cons, List.not_mem_nil, or_false] at hq
    subst hq
    show (qRC 42 (tB (vw C h))) (((-268435456) + ((1) * ρ 1 + ((2048) * ρ 2 + ((268435456) * ρ 3 + ((4398046511104) * ρ 4 + ((4294967296) * ρ 5 + 0))))))) (((0) + ((1) * ρ 7 + 0)))
    refine c2 (P := (qRC 42 (tB (vw C h)))) (r := ρ 1 + 2048 * ρ 2 + 268435456 * ρ 3 + 4398046511104 * ρ 4 + 4294967296 * ρ 5 + (-268435456)) (c := ρ 7) ?_ (by omega) (by omega)
    show (qRC 42 (tB (vw C h))) (ρ 1 + 2048 * ρ 2 + 268435456 * ρ 3 + 4398046511104 * ρ 4 + 4294967296 * ρ 5 + (-268435456)) (ρ 7)
    exact rc_in (n := ρ 1) (s := ρ 2) (d := (ρ 3 + (-1))) (K := (ρ 5)) (R := (ρ 4)) (by omega) (by omega) (by omega) (by omega) (by omega) (by omega) (by omega) (by omega) (by omega) (by omega) q (by omega) (by omega) (by omega) (by omega) (by omega)
/-- cm61M -/
theorem lem_558_ok (hU : uqG G C) : lem_558.1.2.1 = [] ∧ lemOK (PRd G C D xs) G rgs lem_558 := by
  refine ⟨rfl, fun ρ h ha hT => ?_⟩
  obtain ⟨-, -, hF, hG, hH, hA, hP⟩ := ha
  have f0 : (0 : Int) ≤ ((0) + ((1) * ρ 1 + 0)) := hF _ (List.mem_of_getElem? (i := 0) rfl)
  have f1 : (0 : Int) ≤ ((1200) + ((-1) * ρ 1 + 0)) := hF _ (List.mem_of_getElem? (i := 1) rfl)
  have f2 : (0 : Int) ≤ ((0) + ((1) * ρ 2 + 0)) := hF _ (List.mem_of_getElem? (i := 2) rfl)
  have f3 : (0 : Int) ≤ ((0) + ((1) * ρ 1 + ((-1) * ρ 2 + 0))) := hF _ (List.mem_of_getElem? (i := 3) rfl)
  have f4 : (0 : Int) ≤ ((0) + ((1) * ρ 4 + 0)) := hF _ (List.mem_of_getElem? (i := 4) rfl)
  have f5 : (0 : Int) ≤ ((8191) + ((-1) * ρ 4 + 0)) := hF _ (List.mem_of_getElem? (i := 5) rfl)
  have f6 : (0 : Int) ≤ ((0) + ((1) * ρ 5 + 0)) := hF _ (List.mem_of_getElem? (i := 6) rfl)
  have f7 : (0 : Int) ≤ ((1023) + ((-1) * ρ 5 + 0)) := hF _ (List.mem_of_getElem? (i := 7) rfl)
  have f8 : (0 : Int) ≤ ((-1) + ((1) * ρ 3 + 0)) := hF _ (List.mem_of_getElem? (i := 8) rfl)
  have f9 : (0 : Int) ≤ ((11) + ((-1) * ρ 3 + 0)) := hF _ (List.mem_of_getElem? (i := 9) rfl)
  have f10 : (0 : Int) ≤ ((0) + ((1) * ρ 6 + 0)) := hF _ (List.mem_of_getElem? (i := 10) rfl)
  have f11 : (0 : Int) ≤ ((0) + ((1) * ρ 1 + ((-1) * ρ 6 + 0))) := hF _ (List.mem_of_getElem? (i := 11) rfl)
  have g0 : G (ρ 0).toNat = 22 := by
    have q := (hG _ (List.mem_of_getElem? (i := 0) rfl)).2
    rwa [show ev ρ (0, [(0, 1)]) = ρ 0 from ev_v] at q
  have h0 : (0 : Int) ≤ ρ 1 ∧ ρ 1 ≤ 1200 := hf_rg hT (hH _ (List.mem_of_getElem? (i := 0) rfl)) ev_v g0 rfl rfl rfl ev_v
  have h1 : (0 : Int) ≤ ρ 2 ∧ ρ 2 ≤ 1200 := hf_rg hT (hH _ (List.mem_of_getElem? (i := 1) rfl)) ev_v g0 rfl rfl rfl ev_v
  have h2 : (0 : Int) ≤ ρ 3 ∧ ρ 3 ≤ 10 := hf_rg hT (hH _ (List.mem_of_getElem? (i := 2) rfl)) ev_v g0 rfl rfl rfl ev_v
  have p0 : True := c2 (P := (fun (_ _ : Int) => True)) (r := 0) (r' := 0) (c := 0) (c' := 0) (show True from hP _ (List.mem_of_getElem? (i := 0) rfl)) rfl rfl
  have p1 : q167 (2 * ρ 3 + (-2)) (ρ 5) := c2 (P := q167) (show q167 (((-2) + ((2) * ρ 3 + 0))) (((0) + ((1) * ρ 5 + 0))) from hP _ (List.mem_of_getElem? (i := 1) rfl)) (by omega) (by omega)
  have p2 : q158 (tB (vw C h)) (ρ 1 + 2048 * ρ 2) (ρ 6) := c2 (P := q158 (tB (vw C h))) (show q158 (tB (vw C h)) (((0) + ((1) * ρ 1 + ((2048) * ρ 2 + 0)))) (((0) + ((1) * ρ 6 + 0))) from hP _ (List.mem_of_getElem? (i := 2) rfl)) (by omega) (by omega)
  have p3 : q160 (tB (vw C h)) (ρ 1 + 2048 * ρ 6 + 255852544) ((1 : Int)) := c2 (P := q160 (tB (vw C h))) (show q160 (tB (vw C h)) (((255852544) + ((1) * ρ 1 + ((2048) * ρ 6 + 0)))) (((1) + 0)) from hP _ (List.mem_of_getElem? (i := 3) rfl)) (by omega) (by omega)
  have p4 : (qRC 41 (tB (vw C h))) (ρ 1 + 268435456 * ρ 3 + 4398046511104 * ρ 4 + 4294967296 * ρ 5 + 2048 * ρ 6 + (-268435456)) (ρ 7) := c2 (P := (qRC 41 (tB (vw C h)))) (show (qRC 41 (tB (vw C h))) (((-268435456) + ((1) * ρ 1 + ((268435456) * ρ 3 + ((4398046511104) * ρ 4 + ((4294967296) * ρ 5 + ((2048) * ρ 6 + 0))))))) (((0) + ((1) * ρ 7 + 0))) from hP _ (List.mem_of_getElem? (i := 4) rfl)) (by omega) (by omega)
  have is61 : tSgB (tB (vw C h)) (ρ 1).toNat (ρ 6).toNat 61 = true := b01_1 (k160 (n := ρ 1) (s := ρ 6) (c := 61) (by omega) (by omega) (by omega) (by omega) (by omega) (by omega) p3)
  have hkd := (sg_el.mp is61).1
  have nx := k158 (n := ρ 1) (s := ρ 6) (t := ρ 2) (by omega) (by omega) (by omega) (by omega) (by omega) (by omega) p2
  have ng := nx_gt (B := (tB (vw C h))) (n := (ρ 1).toNat) (s := (ρ 6).toNat) (by omega)
  have hc0 := p4.1
  have hR := rc_el (n := ρ 1) (s := ρ 6) (d := (ρ 3 + (-1))) (K := (ρ 5)) (R := (ρ 4)) p4 (by omega) (by omega) (by omega) (by omega) (by omega) (by omega) (by omega) (by omega) (by omega) (by omega)
  have q := g_cm hR (by unfold tCm; simp [is61])
  refine ⟨_, List.mem_cons_self, ρ, fun _ _ => rfl, fun q hq => absurd hq List.not_mem_nil, trivial, fun f hf => ?_, fun q hq => absurd hq List.not_mem_nil, fun q hq => absurd hq List.not_mem_nil, fun q hq => absurd hq List.not_mem_nil, fun q hq => ?_⟩
  · simp only [List.mem_cons, List.not_mem_nil, or_false] at hf
    subst hf
    show (0 : Int) ≤ ((-1) + ((1) * ρ 2 + ((-1) * ρ 6 + 0)))
    omega
  · simp only [List.mem_cons, List.not_mem_nil, or_false] at hq
    subst hq
    show (qRC 42 (tB (vw C h))) (((-268435456) + ((1) * ρ 1 + ((2048) * ρ 2 + ((268435456) * ρ 3 + ((4398046511104) * ρ 4 + ((4294967296) * ρ 5 + 0))))))) (((0) + ((1) * ρ 7 + 0)))
    refine c2 (P := (qRC 42 (tB (vw C h)))) (r := ρ 1 + 2048 * ρ 2 + 268435456 * ρ 3 + 4398046511104 * ρ 4 + 4294967296 * ρ 5 + (-268435456)) (c := ρ 7) ?_ (by omega) (by omega)
    show (qRC 42 (tB (vw C h))) (ρ 1 + 2048 * ρ 2 + 268435456 * ρ 3 + 4398046511104 * ρ 4 + 4294967296 * ρ 5 + (-268435456)) (ρ 7)
    exact rc_in (n := ρ 1) (s := ρ 2) (d := (ρ 3 + (-1))) (K := (ρ 5)) (R := (ρ 4)) (by omega) (by omega) (by omega) (by omega) (by omega) (by omega) (by omega) (by omega) (by omega) (by omega) q (by omega) (by omega) (by omega) (by omega) (by omega)
/-- cmNoM -/
theorem lem_559_ok (hU : uqG G C) : lem_559.1.2.1 = [] ∧ lemOK (PRd G C D xs) G rgs lem_559 := by
  refine ⟨rfl, fun ρ h ha hT => ?_⟩
  obtain ⟨-, -, hF, hG, hH, hA, hP⟩ := ha
  have f0 : (0 : Int) ≤ ((0) + ((1) * ρ 1 + 0)) := hF _ (List.mem_of_getElem? (i := 0) rfl)
  have f1 : (0 : Int) ≤ ((1200) + ((-1) * ρ 1 + 0)) := hF _ (List.mem_of_getElem? (i := 1) rfl)
  have f2 : (0 : Int) ≤ ((0) + ((1) * ρ 2 + 0)) := hF _ (List.mem_of_getElem? (i := 2) rfl)
  have f3 : (0 : Int) ≤ ((0) + ((1) * ρ 1 + ((-1) * ρ 2 + 0))) := hF _ (List.mem_of_getElem? (i := 3) rfl)
  have f4 : (0 : Int) ≤ ((0) + ((1) * ρ 4 + 0)) := hF _ (List.mem_of_getElem? (i := 4) rfl)
  have f5 : (0 : Int) ≤ ((8191) + ((-1) * ρ 4 + 0)) := hF _ (List.mem_of_getElem? (i := 5) rfl)
  have f6 : (0 : Int) ≤ ((0) + ((1) * ρ 5 + 0)) := hF _ (List.mem_of_getElem? (i := 6) rfl)
  have f7 : (0 : Int) ≤ ((1023) + ((-1) * ρ 5 + 0)) := hF _ (List.mem_of_getElem? (i := 7) rfl)
  have f8 : (0 : Int) ≤ ((-1) + ((1) * ρ 3 + 0)) := hF _ (List.mem_of_getElem? (i := 8) rfl)
  have f9 : (0 : Int) ≤ ((11) + ((-1) * ρ 3 + 0)) := hF _ (List.mem_of_getElem? (i := 9) rfl)
  have g0 : G (ρ 0).toNat = 22 := by
    have q := (hG _ (List.mem_of_getElem? (i := 0) rfl)).2
    rwa [show ev ρ (0, [(0, 1)]) = ρ 0 from ev_v] at q
  have h0 : (0 : Int) ≤ ρ 1 ∧ ρ 1 ≤ 1200 := hf_rg hT (hH _ (List.mem_of_getElem? (i := 0) rfl)) ev_v g0 rfl rfl rfl ev_v
  have h1 : (0 : Int) ≤ ρ 2 ∧ ρ 2 ≤ 1200 := hf_rg hT (hH _ (List.mem_of_getElem? (i := 1) rfl)) ev_v g0 rfl rfl rfl ev_v
  have h2 : (0 : Int) ≤ ρ 3 ∧ ρ 3 ≤ 10 := hf_rg hT (hH _ (List.mem_of_getElem? (i := 2) rfl)) ev_v g0 rfl rfl rfl ev_v
  have p0 : True := c2 (P := (fun (_ _ : Int) => True)) (r := 0) (r' := 0) (c := 0) (c' := 0) (show True from hP _ (List.mem_of_getElem? (i := 0) rfl)) rfl rfl
  have p1 : q167 (2 * ρ 3 + (-2)) (ρ 5) := c2 (P := q167) (show q167 (((-2) + ((2) * ρ 3 + 0))) (((0) + ((1) * ρ 5 + 0))) from hP _ (List.mem_of_getElem? (i := 1) rfl)) (by omega) (by omega)
  have p2 : q160 (tB (vw C h)) (ρ 1 + 2048 * ρ 2 + 251658240) ((0 : Int)) := c2 (P := q160 (tB (vw C h))) (show q160 (tB (vw C h)) (((251658240) + ((1) * ρ 1 + ((2048) * ρ 2 + 0)))) (((0) + 0)) from hP _ (List.mem_of_getElem? (i := 2) rfl)) (by omega) (by omega)
  have p3 : q160 (tB (vw C h)) (ρ 1 + 2048 * ρ 2 + 260046848) ((0 : Int)) := c2 (P := q160 (tB (vw C h))) (show q160 (tB (vw C h)) (((260046848) + ((1) * ρ 1 + ((2048) * ρ 2 + 0)))) (((0) + 0)) from hP _ (List.mem_of_getElem? (i := 3) rfl)) (by omega) (by omega)
  have p4 : q160 (tB (vw C h)) (ρ 1 + 2048 * ρ 2 + 255852544) ((0 : Int)) := c2 (P := q160 (tB (vw C h))) (show q160 (tB (vw C h)) (((255852544) + ((1) * ρ 1 + ((2048) * ρ 2 + 0)))) (((0) + 0)) from hP _ (List.mem_of_getElem? (i := 4) rfl)) (by omega) (by omega)
  have p5 : (qRC 41 (tB (vw C h))) (ρ 1 + 2048 * ρ 2 + 268435456 * ρ 3 + 4398046511104 * ρ 4 + 4294967296 * ρ 5 + (-268435456)) (ρ 6) := c2 (P := (qRC 41 (tB (vw C h)))) (show (qRC 41 (tB (vw C h))) (((-268435456) + ((1) * ρ 1 + ((2048) * ρ 2 + ((268435456) * ρ 3 + ((4398046511104) * ρ 4 + ((4294967296) * ρ 5 + 0))))))) (((0) + ((1) * ρ 6 + 0))) from hP _ (List.mem_of_getElem? (i := 5) rfl)) (by omega) (by omega)
  have is60 : tSgB (tB (vw C h)) (ρ 1).toNat (ρ 2).toNat 60 = false := b01_0 (k160 (n := ρ 1) (s := ρ 2) (c := 60) (by omega) (by omega) (by omega) (by omega) (by omega) (by omega) p2)
  have is62 : tSgB (tB (vw C h)) (ρ 1).toNat (ρ 2).toNat 62 = false := b01_0 (k160 (n := ρ 1) (s := ρ 2) (c := 62) (by omega) (by omega) (by omega) (by omega) (by omega) (by omega) p3)
  have is61 : tSgB (tB (vw C h)) (ρ 1).toNat (ρ 2).toNat 61 = false := b01_0 (k160 (n := ρ 1) (s := ρ 2) (c := 61) (by omega) (by omega) (by omega) (by omega) (by omega) (by omega) p4)
  have hc0 := p5.1
  have hR := rc_el (n := ρ 1) (s := ρ 2) (d := (ρ 3 + (-1))) (K := (ρ 5)) (R := (ρ 4)) p5 (by omega) (by omega) (by omega) (by omega) (by omega) (by omega) (by omega) (by omega) (by omega) (by omega)
  have q := o_cm hR (by unfold tCm; rw [is60, is62, is61]; rfl)
  refine ⟨_, List.mem_cons_self, ρ, fun _ _ => rfl, fun q hq => absurd hq List.not_mem_nil, trivial, fun f hf => ?_, fun q hq => absurd hq List.not_mem_nil, fun q hq => absurd hq List.not_mem_nil, fun q hq => absurd hq List.not_mem_nil, fun q hq => ?_⟩
  · exact absurd hf List.not_mem_nil
  · simp only [List.mem_cons, List.not_mem_nil, or_false] at hq
    subst hq
    show q166 (tB (vw C h)) (((0) + ((1) * ρ 1 + 0))) (((4096) + ((1) * ρ 2 + 0)))
    refine c2 (P := q166 (tB (vw C h))) (r := ρ 1) (c := ρ 2 + 4096) ?_ (by omega) (by omega)
    show q166 (tB (vw C h)) (ρ 1) (ρ 2 + 4096)
    exact o166 (k := 4096) (n := ρ 1) (s := ρ 2) (by omega) q (by omega) rfl (by omega)
/-- afNM -/
theorem lem_560_ok (hU : uqG G C) : lem_560.1.2.1 = [] ∧ lemOK (PRd G C D xs) G rgs lem_560 := by
  refine ⟨rfl, fun ρ h ha hT => ?_⟩
  obtain ⟨-, -, hF, hG, hH, hA, hP⟩ := ha
  have f0 : (0 : Int) ≤ ((0) + ((1) * ρ 1 + 0)) := hF _ (List.mem_of_getElem? (i := 0) rfl)
  have f1 : (0 : Int) ≤ ((1200) + ((-1) * ρ 1 + 0)) := hF _ (List.mem_of_getElem? (i := 1) rfl)
  have f2 : (0 : Int) ≤ ((0) + ((1) * ρ 2 + 0)) := hF _ (List.mem_of_getElem? (i := 2) rfl)
  have f3 : (0 : Int) ≤ ((0) + ((1) * ρ 1 + ((-1) * ρ 2 + 0))) := hF _ (List.mem_of_getElem? (i := 3) rfl)
  have f4 : (0 : Int) ≤ ((0) + ((1) * ρ 4 + 0)) := hF _ (List.mem_of_getElem? (i := 4) rfl)
  have f5 : (0 : Int) ≤ ((8191) + ((-1) * ρ 4 + 0)) := hF _ (List.mem_of_getElem? (i := 5) rfl)
  have f6 : (0 : Int) ≤ ((0) + ((1) * ρ 5 + 0)) := hF _ (List.mem_of_getElem? (i := 6) rfl)
  have f7 : (0 : Int) ≤ ((1023) + ((-1) * ρ 5 + 0)) := hF _ (List.mem_of_getElem? (i := 7) rfl)
  have f8 : (0 : Int) ≤ ((-1) + ((1) * ρ 3 + 0)) := hF _ (List.mem_of_getElem? (i := 8) rfl)
  have f9 : (0 : Int) ≤ ((11) + ((-1) * ρ 3 + 0)) := hF _ (List.mem_of_getElem? (i := 9) rfl)
  have f10 : (0 : Int) ≤ ((10) + ((-1) * ρ 3 + 0)) := hF _ (List.mem_of_getElem? (i := 10) rfl)
  have f11 : (0 : Int) ≤ ((511) + ((-1) * ρ 5 + 0)) := hF _ (List.mem_of_getElem? (i := 11) rfl)
  have g0 : G (ρ 0).toNat = 22 := by
    have q := (hG _ (List.mem_of_getElem? (i := 0) rfl)).2
    rwa [show ev ρ (0, [(0, 1)]) = ρ 0 from ev_v] at q
  have h0 : (0 : Int) ≤ ρ 1 ∧ ρ 1 ≤ 1200 := hf_rg hT (hH _ (List.mem_of_getElem? (i := 0) rfl)) ev_v g0 rfl rfl rfl ev_v
  have h1 : (0 : Int) ≤ ρ 2 ∧ ρ 2 ≤ 1200 := hf_rg hT (hH _ (List.mem_of_getElem? (i := 1) rfl)) ev_v g0 rfl rfl rfl ev_v
  have h2 : (0 : Int) ≤ ρ 3 ∧ ρ 3 ≤ 10 := hf_rg hT (hH _ (List.mem_of_getElem? (i := 2) rfl)) ev_v g0 rfl rfl rfl ev_v
  have p0 : True := c2 (P := (fun (_ _ : Int) => True)) (r := 0) (r' := 0) (c := 0) (c' := 0) (show True from hP _ (List.mem_of_getElem? (i := 0) rfl)) rfl rfl
  have p1 : q167 (2 * ρ 3 + (-2)) (ρ 5) := c2 (P := q167) (show q167 (((-2) + ((2) * ρ 3 + 0))) (((0) + ((1) * ρ 5 + 0))) from hP _ (List.mem_of_getElem? (i := 1) rfl)) (by omega) (by omega)
  have p2 : (qRC 43 (tB (vw C h))) (ρ 1 + 2048 * ρ 2 + 268435456 * ρ 3 + 4398046511104 * ρ 4 + 8589934592 * ρ 5) (ρ 6) := c2 (P := (qRC 43 (tB (vw C h)))) (show (qRC 43 (tB (vw C h))) (((0) + ((1) * ρ 1 + ((2048) * ρ 2 + ((268435456) * ρ 3 + ((4398046511104) * ρ 4 + ((8589934592) * ρ 5 + 0))))))) (((0) + ((1) * ρ 6 + 0))) from hP _ (List.mem_of_getElem? (i := 2) rfl)) (by omega) (by omega)
  have hc0 := p2.1
  have hR := rc_el (n := ρ 1) (s := ρ 2) (d := (ρ 3)) (K := (2 * ρ 5)) (R := (ρ 4)) p2 (by omega) (by omega) (by omega) (by omega) (by omega) (by omega) (by omega) (by omega) (by omega) (by omega)
  have q67 := q167_9 p1 (by omega) (by omega)
  have q := g_afN hR (by omega) (by omega)
  refine ⟨_, List.mem_cons_self, ρ, fun _ _ => rfl, fun q hq => absurd hq List.not_mem_nil, trivial, fun f hf => ?_, fun q hq => absurd hq List.not_mem_nil, fun q hq => absurd hq List.not_mem_nil, fun q hq => absurd hq List.not_mem_nil, fun q hq => ?_⟩
  · exact absurd hf List.not_mem_nil
  · simp only [List.mem_cons, List.not_mem_nil, or_false] at hq
    subst hq
    show (qRC 43 (tB (vw C h))) (((-268435456) + ((1) * ρ 1 + ((2048) * ρ 2 + ((268435456) * ρ 3 + ((4398046511104) * ρ 4 + ((4294967296) * ρ 5 + 0))))))) (((0) + ((1) * ρ 6 + 0)))
    refine c2 (P := (qRC 43 (tB (vw C h)))) (r := ρ 1 + 2048 * ρ 2 + 268435456 * ρ 3 + 4398046511104 * ρ 4 + 4294967296 * ρ 5 + (-268435456)) (c := ρ 6) ?_ (by omega) (by omega)
    show (qRC 43 (tB (vw C h))) (ρ 1 + 2048 * ρ 2 + 268435456 * ρ 3 + 4398046511104 * ρ 4 + 4294967296 * ρ 5 + (-268435456)) (ρ 6)
    exact rc_in (n := ρ 1) (s := ρ 2) (d := (ρ 3 + (-1))) (K := (ρ 5)) (R := (ρ 4)) (by omega) (by omega) (by omega) (by omega) (by omega) (by omega) (by omega) (by omega) (by omega) (by omega) q (by omega) (by omega) (by omega) (by omega) (by omega)
/-- afPM -/
theorem lem_561_ok (hU : uqG G C) : lem_561.1.2.1 = [] ∧ lemOK (PRd G C D xs) G rgs lem_561 := by
  refine ⟨rfl, fun ρ h ha hT => ?_⟩
  obtain ⟨-, -, hF, hG, hH, hA, hP⟩ := ha
  have f0 : (0 : Int) ≤ ((0) + ((1) * ρ 1 + 0)) := hF _ (List.mem_of_getElem? (i := 0) rfl)
  have f1 : (0 : Int) ≤ ((1200) + ((-1) * ρ 1 + 0)) := hF _ (List.mem_of_getElem? (i := 1) rfl)
  have f2 : (0 : Int) ≤ ((0) + ((1) * ρ 2 + 0)) := hF _ (List.mem_of_getElem? (i := 2) rfl)
  have f3 : (0 : Int) ≤ ((0) + ((1) * ρ 1 + ((-1) * ρ 2 + 0))) := hF _ (List.mem_of_getElem? (i := 3) rfl)
  have f4 : (0 : Int) ≤ ((0) + ((1) * ρ 4 + 0)) := hF _ (List.mem_of_getElem? (i := 4) rfl)
  have f5 : (0 : Int) ≤ ((8191) + ((-1) * ρ 4 + 0)) := hF _ (List.mem_of_getElem? (i := 5) rfl)
  have f6 : (0 : Int) ≤ ((0) + ((1) * ρ 5 + 0)) := hF _ (List.mem_of_getElem? (i := 6) rfl)
  have f7 : (0 : Int) ≤ ((1023) + ((-1) * ρ 5 + 0)) := hF _ (List.mem_of_getElem? (i := 7) rfl)
  have f8 : (0 : Int) ≤ ((-1) + ((1) * ρ 3 + 0)) := hF _ (List.mem_of_getElem? (i := 8) rfl)
  have f9 : (0 : Int) ≤ ((11) + ((-1) * ρ 3 + 0)) := hF _ (List.mem_of_getElem? (i := 9) rfl)
  have f10 : (0 : Int) ≤ ((0) + ((1) * ρ 6 + 0)) := hF _ (List.mem_of_getElem? (i := 10) rfl)
  have f11 : (0 : Int) ≤ ((0) + ((1) * ρ 1 + ((-1) * ρ 6 + 0))) := hF _ (List.mem_of_getElem? (i := 11) rfl)
  have f12 : (0 : Int) ≤ ((10) + ((-1) * ρ 3 + 0)) := hF _ (List.mem_of_getElem? (i := 12) rfl)
  have f13 : (0 : Int) ≤ ((511) + ((-1) * ρ 5 + 0)) := hF _ (List.mem_of_getElem? (i := 13) rfl)
  have g0 : G (ρ 0).toNat = 22 := by
    have q := (hG _ (List.mem_of_getElem? (i := 0) rfl)).2
    rwa [show ev ρ (0, [(0, 1)]) = ρ 0 from ev_v] at q
  have h0 : (0 : Int) ≤ ρ 1 ∧ ρ 1 ≤ 1200 := hf_rg hT (hH _ (List.mem_of_getElem? (i := 0) rfl)) ev_v g0 rfl rfl rfl ev_v
  have h1 : (0 : Int) ≤ ρ 2 ∧ ρ 2 ≤ 1200 := hf_rg hT (hH _ (List.mem_of_getElem? (i := 1) rfl)) ev_v g0 rfl rfl rfl ev_v
  have h2 : (0 : Int) ≤ ρ 3 ∧ ρ 3 ≤ 10 := hf_rg hT (hH _ (List.mem_of_getElem? (i := 2) rfl)) ev_v g0 rfl rfl rfl ev_v
  have p0 : True := c2 (P := (fun (_ _ : Int) => True)) (r := 0) (r' := 0) (c := 0) (c' := 0) (show True from hP _ (List.mem_of_getElem? (i := 0) rfl)) rfl rfl
  have p1 : q167 (2 * ρ 3 + (-2)) (ρ 5) := c2 (P := q167) (show q167 (((-2) + ((2) * ρ 3 + 0))) (((0) + ((1) * ρ 5 + 0))) from hP _ (List.mem_of_getElem? (i := 1) rfl)) (by omega) (by omega)
  have p2 : q158 (tB (vw C h)) (ρ 1 + 2048 * ρ 2) (ρ 6) := c2 (P := q158 (tB (vw C h))) (show q158 (tB (vw C h)) (((0) + ((1) * ρ 1 + ((2048) * ρ 2 + 0)))) (((0) + ((1) * ρ 6 + 0))) from hP _ (List.mem_of_getElem? (i := 2) rfl)) (by omega) (by omega)
  have p3 : q160 (tB (vw C h)) (ρ 1 + 2048 * ρ 6 + 171966464) ((1 : Int)) := c2 (P := q160 (tB (vw C h))) (show q160 (tB (vw C h)) (((171966464) + ((1) * ρ 1 + ((2048) * ρ 6 + 0)))) (((1) + 0)) from hP _ (List.mem_of_getElem? (i := 3) rfl)) (by omega) (by omega)
  have p4 : q159 (tB (vw C h)) (ρ 1 + 2048 * ρ 6 + 58720256) ((0 : Int)) := c2 (P := q159 (tB (vw C h))) (show q159 (tB (vw C h)) (((58720256) + ((1) * ρ 1 + ((2048) * ρ 6 + 0)))) (((0) + 0)) from hP _ (List.mem_of_getElem? (i := 4) rfl)) (by omega) (by omega)
  have p5 : q159 (tB (vw C h)) (ρ 1 + 2048 * ρ 6 + 62914560) ((0 : Int)) := c2 (P := q159 (tB (vw C h))) (show q159 (tB (vw C h)) (((62914560) + ((1) * ρ 1 + ((2048) * ρ 6 + 0)))) (((0) + 0)) from hP _ (List.mem_of_getElem? (i := 5) rfl)) (by omega) (by omega)
  have p6 : (qRC 43 (tB (vw C h))) (ρ 1 + 268435456 * ρ 3 + 4398046511104 * ρ 4 + 8589934592 * ρ 5 + 2048 * ρ 6 + 4294967296) (ρ 7) := c2 (P := (qRC 43 (tB (vw C h)))) (show (qRC 43 (tB (vw C h))) (((4294967296) + ((1) * ρ 1 + ((268435456) * ρ 3 + ((4398046511104) * ρ 4 + ((8589934592) * ρ 5 + ((2048) * ρ 6 + 0))))))) (((0) + ((1) * ρ 7 + 0))) from hP _ (List.mem_of_getElem? (i := 6) rfl)) (by omega) (by omega)
  have is41 : tSgB (tB (vw C h)) (ρ 1).toNat (ρ 6).toNat 41 = true := b01_1 (k160 (n := ρ 1) (s := ρ 6) (c := 41) (by omega) (by omega) (by omega) (by omega) (by omega) (by omega) p3)
  have hkd := (sg_el.mp is41).1
  have iw14 : tIsB (tB (vw C h)) (ρ 1).toNat (ρ 6).toNat (wd 14) = false := b01_0 (k159 (n := ρ 1) (s := ρ 6) (w := 14) (by omega) (by omega) (by omega) (by omega) (by omega) (by omega) p4)
  have iw15 : tIsB (tB (vw C h)) (ρ 1).toNat (ρ 6).toNat (wd 15) = false := b01_0 (k159 (n := ρ 1) (s := ρ 6) (w := 15) (by omega) (by omega) (by omega) (by omega) (by omega) (by omega) p5)
  have nx := k158 (n := ρ 1) (s := ρ 6) (t := ρ 2) (by omega) (by omega) (by omega) (by omega) (by omega) (by omega) p2
  have ng := nx_gt (B := (tB (vw C h))) (n := (ρ 1).toNat) (s := (ρ 6).toNat) (by omega)
  have hc0 := p6.1
  have hR := rc_el (n := ρ 1) (s := ρ 6) (d := (ρ 3)) (K := (2 * ρ 5 + 1)) (R := (ρ 4)) p6 (by omega) (by omega) (by omega) (by omega) (by omega) (by omega) (by omega) (by omega) (by omega) (by omega)
  have q67 := q167_9 p1 (by omega) (by omega)
  have q := g_afP hR (by omega) (by omega) (by unfold tAo; rw [iw14, iw15]; rfl) is41
  refine ⟨_, List.mem_cons_self, ρ, fun _ _ => rfl, fun q hq => absurd hq List.not_mem_nil, trivial, fun f hf => ?_, fun q hq => absurd hq List.not_mem_nil, fun q hq => absurd hq List.not_mem_nil, fun q hq => absurd hq List.not_mem_nil, fun q hq => ?_⟩
  · simp only [List.mem_cons, List.not_mem_nil, or_false] at hf
    subst hf
    show (0 : Int) ≤ ((-1) + ((1) * ρ 2 + ((-1) * ρ 6 + 0)))
    omega
  · simp only [List.mem_cons, List.not_mem_nil, or_false] at hq
    subst hq
    show (qRC 43 (tB (vw C h))) (((-268435456) + ((1) * ρ 1 + ((2048) * ρ 2 + ((268435456) * ρ 3 + ((4398046511104) * ρ 4 + ((4294967296) * ρ 5 + 0))))))) (((0) + ((1) * ρ 7 + 0)))
    refine c2 (P := (qRC 43 (tB (vw C h)))) (r := ρ 1 + 2048 * ρ 2 + 268435456 * ρ 3 + 4398046511104 * ρ 4 + 4294967296 * ρ 5 + (-268435456)) (c := ρ 7) ?_ (by omega) (by omega)
    show (qRC 43 (tB (vw C h))) (ρ 1 + 2048 * ρ 2 + 268435456 * ρ 3 + 4398046511104 * ρ 4 + 4294967296 * ρ 5 + (-268435456)) (ρ 7)
    exact rc_in (n := ρ 1) (s := ρ 2) (d := (ρ 3 + (-1))) (K := (ρ 5)) (R := (ρ 4)) (by omega) (by omega) (by omega) (by omega) (by omega) (by omega) (by omega) (by omega) (by omega) (by omega) q (by omega) (by omega) (by omega) (by omega) (by omega)
/-- afXM -/
theorem lem_562_ok (hU : uqG G C) : lem_562.1.2.1 = [] ∧ lemOK (PRd G C D xs) G rgs lem_562 := by
  refine ⟨rfl, fun ρ h ha hT => ?_⟩
  obtain ⟨-, -, hF, hG, hH, hA, hP⟩ := ha
  have f0 : (0 : Int) ≤ ((0) + ((1) * ρ 1 + 0)) := hF _ (List.mem_of_getElem? (i := 0) rfl)
  have f1 : (0 : Int) ≤ ((1200) + ((-1) * ρ 1 + 0)) := hF _ (List.mem_of_getElem? (i := 1) rfl)
  have f2 : (0 : Int) ≤ ((0) + ((1) * ρ 2 + 0)) := hF _ (List.mem_of_getElem? (i := 2) rfl)
  have f3 : (0 : Int) ≤ ((0) + ((1) * ρ 1 + ((-1) * ρ 2 + 0))) := hF _ (List.mem_of_getElem? (i := 3) rfl)
  have f4 : (0 : Int) ≤ ((0) + ((1) * ρ 4 + 0)) := hF _ (List.mem_of_getElem? (i := 4) rfl)
  have f5 : (0 : Int) ≤ ((8191) + ((-1) * ρ 4 + 0)) := hF _ (List.mem_of_getElem? (i := 5) rfl)
  have f6 : (0 : Int) ≤ ((0) + ((1) * ρ 5 + 0)) := hF _ (List.mem_of_getElem? (i := 6) rfl)
  have f7 : (0 : Int) ≤ ((1023) + ((-1) * ρ 5 + 0)) := hF _ (List.mem_of_getElem? (i := 7) rfl)
  have f8 : (0 : Int) ≤ ((-1) + ((1) * ρ 3 + 0)) := hF _ (List.mem_of_getElem? (i := 8) rfl)
  have f9 : (0 : Int) ≤ ((11) + ((-1) * ρ 3 + 0)) := hF _ (List.mem_of_getElem? (i := 9) rfl)
  have f10 : (0 : Int) ≤ ((10) + ((-1) * ρ 3 + 0)) := hF _ (List.mem_of_getElem? (i := 10) rfl)
  have f11 : (0 : Int) ≤ ((511) + ((-1) * ρ 5 + 0)) := hF _ (List.mem_of_getElem? (i := 11) rfl)
  have g0 : G (ρ 0).toNat = 22 := by
    have q := (hG _ (List.mem_of_getElem? (i := 0) rfl)).2
    rwa [show ev ρ (0, [(0, 1)]) = ρ 0 from ev_v] at q
  have h0 : (0 : Int) ≤ ρ 1 ∧ ρ 1 ≤ 1200 := hf_rg hT (hH _ (List.mem_of_getElem? (i := 0) rfl)) ev_v g0 rfl rfl rfl ev_v
  have h1 : (0 : Int) ≤ ρ 2 ∧ ρ 2 ≤ 1200 := hf_rg hT (hH _ (List.mem_of_getElem? (i := 1) rfl)) ev_v g0 rfl rfl rfl ev_v
  have h2 : (0 : Int) ≤ ρ 3 ∧ ρ 3 ≤ 10 := hf_rg hT (hH _ (List.mem_of_getElem? (i := 2) rfl)) ev_v g0 rfl rfl rfl ev_v
  have p0 : True := c2 (P := (fun (_ _ : Int) => True)) (r := 0) (r' := 0) (c := 0) (c' := 0) (show True from hP _ (List.mem_of_getElem? (i := 0) rfl)) rfl rfl
  have p1 : q167 (2 * ρ 3 + (-2)) (ρ 5) := c2 (P := q167) (show q167 (((-2) + ((2) * ρ 3 + 0))) (((0) + ((1) * ρ 5 + 0))) from hP _ (List.mem_of_getElem? (i := 1) rfl)) (by omega) (by omega)
  have p2 : q160 (tB (vw C h)) (ρ 1 + 2048 * ρ 2 + 171966464) ((0 : Int)) := c2 (P := q160 (tB (vw C h))) (show q160 (tB (vw C h)) (((171966464) + ((1) * ρ 1 + ((2048) * ρ 2 + 0)))) (((0) + 0)) from hP _ (List.mem_of_getElem? (i := 2) rfl)) (by omega) (by omega)
  have p3 : q159 (tB (vw C h)) (ρ 1 + 2048 * ρ 2 + 58720256) ((0 : Int)) := c2 (P := q159 (tB (vw C h))) (show q159 (tB (vw C h)) (((58720256) + ((1) * ρ 1 + ((2048) * ρ 2 + 0)))) (((0) + 0)) from hP _ (List.mem_of_getElem? (i := 3) rfl)) (by omega) (by omega)
  have p4 : q159 (tB (vw C h)) (ρ 1 + 2048 * ρ 2 + 62914560) ((0 : Int)) := c2 (P := q159 (tB (vw C h))) (show q159 (tB (vw C h)) (((62914560) + ((1) * ρ 1 + ((2048) * ρ 2 + 0)))) (((0) + 0)) from hP _ (List.mem_of_getElem? (i := 4) rfl)) (by omega) (by omega)
  have p5 : (qRC 43 (tB (vw C h))) (ρ 1 + 2048 * ρ 2 + 268435456 * ρ 3 + 4398046511104 * ρ 4 + 8589934592 * ρ 5 + 4294967296) (ρ 6) := c2 (P := (qRC 43 (tB (vw C h)))) (show (qRC 43 (tB (vw C h))) (((4294967296) + ((1) * ρ 1 + ((2048) * ρ 2 + ((268435456) * ρ 3 + ((4398046511104) * ρ 4 + ((8589934592) * ρ 5 + 0))))))) (((0) + ((1) * ρ 6 + 0))) from hP _ (List.mem_of_getElem? (i := 5) rfl)) (by omega) (by omega)
  have is41 : tSgB (tB (vw C h)) (ρ 1).toNat (ρ 2).toNat 41 = false := b01_0 (k160 (n := ρ 1) (s := ρ 2) (c := 41) (by omega) (by omega) (by omega) (by omega) (by omega) (by omega) p2)
  have iw14 : tIsB (tB (vw C h)) (ρ 1).toNat (ρ 2).toNat (wd 14) = false := b01_0 (k159 (n := ρ 1) (s := ρ 2) (w := 14) (by omega) (by omega) (by omega) (by omega) (by omega) (by omega) p3)
  have iw15 : tIsB (tB (vw C h)) (ρ 1).toNat (ρ 2).toNat (wd 15) = false := b01_0 (k159 (n := ρ 1) (s := ρ 2) (w := 15) (by omega) (by omega) (by omega) (by omega) (by omega) (by omega) p4)
  have hc0 := p5.1
  have hR := rc_el (n := ρ 1) (s := ρ 2) (d := (ρ 3)) (K := (2 * ρ 5 + 1)) (R := (ρ 4)) p5 (by omega) (by omega) (by omega) (by omega) (by omega) (by omega) (by omega) (by omega) (by omega) (by omega)
  have q := o_afX hR (by omega) (by omega) (by unfold tAo; rw [iw14, iw15]; rfl) is41
  refine ⟨_, List.mem_cons_self, ρ, fun _ _ => rfl, fun q hq => absurd hq List.not_mem_nil, trivial, fun f hf => ?_, fun q hq => absurd hq List.not_mem_nil, fun q hq => absurd hq List.not_mem_nil, fun q hq => absurd hq List.not_mem_nil, fun q hq => ?_⟩
  · exact absurd hf List.not_mem_nil
  · simp only [List.mem_cons, List.not_mem_nil, or_false] at hq
    subst hq
    show q166 (tB (vw C h)) (((0) + ((1) * ρ 1 + 0))) (((4096) + ((1) * ρ 2 + 0)))
    refine c2 (P := q166 (tB (vw C h))) (r := ρ 1) (c := ρ 2 + 4096) ?_ (by omega) (by omega)
    show q166 (tB (vw C h)) (ρ 1) (ρ 2 + 4096)
    exact o166 (k := 4096) (n := ρ 1) (s := ρ 2) (by omega) q (by omega) rfl (by omega)
/-- op42M -/
theorem lem_563_ok (hU : uqG G C) : lem_563.1.2.1 = [] ∧ lemOK (PRd G C D xs) G rgs lem_563 := by
  refine ⟨rfl, fun ρ h ha hT => ?_⟩
  obtain ⟨-, -, hF, hG, hH, hA, hP⟩ := ha
  have f0 : (0 : Int) ≤ ((0) + ((1) * ρ 1 + 0)) := hF _ (List.mem_of_getElem? (i := 0) rfl)
  have f1 : (0 : Int) ≤ ((1200) + ((-1) * ρ 1 + 0)) := hF _ (List.mem_of_getElem? (i := 1) rfl)
  have f2 : (0 : Int) ≤ ((0) + ((1) * ρ 2 + 0)) := hF _ (List.mem_of_getElem? (i := 2) rfl)
  have f3 : (0 : Int) ≤ ((0) + ((1) * ρ 1 + ((-1) * ρ 2 + 0))) := hF _ (List.mem_of_getElem? (i := 3) rfl)
  have f4 : (0 : Int) ≤ ((0) + ((1) * ρ 4 + 0)) := hF _ (List.mem_of_getElem? (i := 4) rfl)
  have f5 : (0 : Int) ≤ ((8191) + ((-1) * ρ 4 + 0)) := hF _ (List.mem_of_getElem? (i := 5) rfl)
  have f6 : (0 : Int) ≤ ((0) + ((1) * ρ 5 + 0)) := hF _ (List.mem_of_getElem? (i := 6) rfl)
  have f7 : (0 : Int) ≤ ((1023) + ((-1) * ρ 5 + 0)) := hF _ (List.mem_of_getElem? (i := 7) rfl)
  have f8 : (0 : Int) ≤ ((-1) + ((1) * ρ 3 + 0)) := hF _ (List.mem_of_getElem? (i := 8) rfl)
  have f9 : (0 : Int) ≤ ((11) + ((-1) * ρ 3 + 0)) := hF _ (List.mem_of_getElem? (i := 9) rfl)
  have g0 : G (ρ 0).toNat = 22 := by
    have q := (hG _ (List.mem_of_getElem? (i := 0) rfl)).2
    rwa [show ev ρ (0, [(0, 1)]) = ρ 0 from ev_v] at q
  have h0 : (0 : Int) ≤ ρ 1 ∧ ρ 1 ≤ 1200 := hf_rg hT (hH _ (List.mem_of_getElem? (i := 0) rfl)) ev_v g0 rfl rfl rfl ev_v
  have h1 : (0 : Int) ≤ ρ 2 ∧ ρ 2 ≤ 1200 := hf_rg hT (hH _ (List.mem_of_getElem? (i := 1) rfl)) ev_v g0 rfl rfl rfl ev_v
  have h2 : (0 : Int) ≤ ρ 3 ∧ ρ 3 ≤ 10 := hf_rg hT (hH _ (List.mem_of_getElem? (i := 2) rfl)) ev_v g0 rfl rfl rfl ev_v
  have p0 : True := c2 (P := (fun (_ _ : Int) => True)) (r := 0) (r' := 0) (c := 0) (c' := 0) (show True from hP _ (List.mem_of_getElem? (i := 0) rfl)) rfl rfl
  have p1 : q167 (2 * ρ 3 + (-2)) (ρ 5) := c2 (P := q167) (show q167 (((-2) + ((2) * ρ 3 + 0))) (((0) + ((1) * ρ 5 + 0))) from hP _ (List.mem_of_getElem? (i := 1) rfl)) (by omega) (by omega)
  have p2 : (qRC 42 (tB (vw C h))) (ρ 1 + 2048 * ρ 2 + 268435456 * ρ 3 + 4398046511104 * ρ 4 + 4294967296 * ρ 5 + (-268435456)) (ρ 6) := c2 (P := (qRC 42 (tB (vw C h)))) (show (qRC 42 (tB (vw C h))) (((-268435456) + ((1) * ρ 1 + ((2048) * ρ 2 + ((268435456) * ρ 3 + ((4398046511104) * ρ 4 + ((4294967296) * ρ 5 + 0))))))) (((0) + ((1) * ρ 6 + 0))) from hP _ (List.mem_of_getElem? (i := 2) rfl)) (by omega) (by omega)
  have hc0 := p2.1
  have hR := rc_el (n := ρ 1) (s := ρ 2) (d := (ρ 3 + (-1))) (K := (ρ 5)) (R := (ρ 4)) p2 (by omega) (by omega) (by omega) (by omega) (by omega) (by omega) (by omega) (by omega) (by omega) (by omega)
  refine ⟨_, List.mem_cons_self, ρ, fun _ _ => rfl, fun q hq => absurd hq List.not_mem_nil, trivial, fun f hf => ?_, fun q hq => absurd hq List.not_mem_nil, fun q hq => absurd hq List.not_mem_nil, fun q hq => absurd hq List.not_mem_nil, fun q hq => ?_⟩
  · exact absurd hf List.not_mem_nil
  · simp only [List.mem_cons, List.not_mem_nil, or_false] at hq
    subst hq
    show q163 (tB (vw C h)) (((687194767360000) + ((1) * ρ 1 + ((2048) * ρ 2 + 0))))
    refine c2 (P := (fun r (_ : Int) => q163 (tB (vw C h)) r)) (c := 0) (c' := 0) (r := ρ 1 + 2048 * ρ 2 + 687194767360000) ?_ (by omega) rfl
    show q163 (tB (vw C h)) (ρ 1 + 2048 * ρ 2 + 687194767360000)
    exact o163 (n := ρ 1) (s := ρ 2) (lo := 0) (hi := 9999) (by omega) (by omega) (by omega) (by omega) (by omega) (by omega) (by omega) (fn_42 hR)
/-- st42M -/
theorem lem_564_ok (hU : uqG G C) : lem_564.1.2.1 = [] ∧ lemOK (PRd G C D xs) G rgs lem_564 := by
  refine ⟨rfl, fun ρ h ha hT => ?_⟩
  obtain ⟨-, -, hF, hG, hH, hA, hP⟩ := ha
  have f0 : (0 : Int) ≤ ((0) + ((1) * ρ 1 + 0)) := hF _ (List.mem_of_getElem? (i := 0) rfl)
  have f1 : (0 : Int) ≤ ((1200) + ((-1) * ρ 1 + 0)) := hF _ (List.mem_of_getElem? (i := 1) rfl)
  have f2 : (0 : Int) ≤ ((0) + ((1) * ρ 2 + 0)) := hF _ (List.mem_of_getElem? (i := 2) rfl)
  have f3 : (0 : Int) ≤ ((0) + ((1) * ρ 1 + ((-1) * ρ 2 + 0))) := hF _ (List.mem_of_getElem? (i := 3) rfl)
  have f4 : (0 : Int) ≤ ((0) + ((1) * ρ 4 + 0)) := hF _ (List.mem_of_getElem? (i := 4) rfl)
  have f5 : (0 : Int) ≤ ((8191) + ((-1) * ρ 4 + 0)) := hF _ (List.mem_of_getElem? (i := 5) rfl)
  have f6 : (0 : Int) ≤ ((0) + ((1) * ρ 5 + 0)) := hF _ (List.mem_of_getElem? (i := 6) rfl)
  have f7 : (0 : Int) ≤ ((1023) + ((-1) * ρ 5 + 0)) := hF _ (List.mem_of_getElem? (i := 7) rfl)
  have f8 : (0 : Int) ≤ ((-1) + ((1) * ρ 3 + 0)) := hF _ (List.mem_of_getElem? (i := 8) rfl)
  have f9 : (0 : Int) ≤ ((11) + ((-1) * ρ 3 + 0)) := hF _ (List.mem_of_getElem? (i := 9) rfl)
  have f10 : (0 : Int) ≤ ((0) + ((1) * ρ 6 + 0)) := hF _ (List.mem_of_getElem? (i := 10) rfl)
  have f11 : (0 : Int) ≤ ((0) + ((1) * ρ 1 + ((-1) * ρ 6 + 0))) := hF _ (List.mem_of_getElem? (i := 11) rfl)
  have f12 : (0 : Int) ≤ ((0) + ((1) * ρ 7 + 0)) := hF _ (List.mem_of_getElem? (i := 12) rfl)
  have f13 : (0 : Int) ≤ ((9999) + ((-1) * ρ 7 + 0)) := hF _ (List.mem_of_getElem? (i := 13) rfl)
  have g0 : G (ρ 0).toNat = 22 := by
    have q := (hG _ (List.mem_of_getElem? (i := 0) rfl)).2
    rwa [show ev ρ (0, [(0, 1)]) = ρ 0 from ev_v] at q
  have h0 : (0 : Int) ≤ ρ 1 ∧ ρ 1 ≤ 1200 := hf_rg hT (hH _ (List.mem_of_getElem? (i := 0) rfl)) ev_v g0 rfl rfl rfl ev_v
  have h1 : (0 : Int) ≤ ρ 2 ∧ ρ 2 ≤ 1200 := hf_rg hT (hH _ (List.mem_of_getElem? (i := 1) rfl)) ev_v g0 rfl rfl rfl ev_v
  have h2 : (0 : Int) ≤ ρ 3 ∧ ρ 3 ≤ 10 := hf_rg hT (hH _ (List.mem_of_getElem? (i := 2) rfl)) ev_v g0 rfl rfl rfl ev_v
  have p0 : True := c2 (P := (fun (_ _ : Int) => True)) (r := 0) (r' := 0) (c := 0) (c' := 0) (show True from hP _ (List.mem_of_getElem? (i := 0) rfl)) rfl rfl
  have p1 : q167 (2 * ρ 3 + (-2)) (ρ 5) := c2 (P := q167) (show q167 (((-2) + ((2) * ρ 3 + 0))) (((0) + ((1) * ρ 5 + 0))) from hP _ (List.mem_of_getElem? (i := 1) rfl)) (by omega) (by omega)
  have p2 : q158 (tB (vw C h)) (ρ 1 + 2048 * ρ 2) (ρ 6) := c2 (P := q158 (tB (vw C h))) (show q158 (tB (vw C h)) (((0) + ((1) * ρ 1 + ((2048) * ρ 2 + 0)))) (((0) + ((1) * ρ 6 + 0))) from hP _ (List.mem_of_getElem? (i := 2) rfl)) (by omega) (by omega)
  have p3 : q164 (tB (vw C h)) (ρ 1 + 2048 * ρ 6) (ρ 7) := c2 (P := q164 (tB (vw C h))) (show q164 (tB (vw C h)) (((0) + ((1) * ρ 1 + ((2048) * ρ 6 + 0)))) (((0) + ((1) * ρ 7 + 0))) from hP _ (List.mem_of_getElem? (i := 3) rfl)) (by omega) (by omega)
  have p4 : (qRC 42 (tB (vw C h))) (ρ 1 + 268435456 * ρ 3 + 4398046511104 * ρ 4 + 4294967296 * ρ 5 + 2048 * ρ 6 + (-268435456)) (ρ 8) := c2 (P := (qRC 42 (tB (vw C h)))) (show (qRC 42 (tB (vw C h))) (((-268435456) + ((1) * ρ 1 + ((268435456) * ρ 3 + ((4398046511104) * ρ 4 + ((4294967296) * ρ 5 + ((2048) * ρ 6 + 0))))))) (((0) + ((1) * ρ 8 + 0))) from hP _ (List.mem_of_getElem? (i := 4) rfl)) (by omega) (by omega)
  obtain ⟨hkd, nv⟩ := k164 (n := ρ 1) (s := ρ 6) (by omega) (by omega) (by omega) (by omega) (by omega) p3
  have nx := k158 (n := ρ 1) (s := ρ 6) (t := ρ 2) (by omega) (by omega) (by omega) (by omega) (by omega) (by omega) p2
  have ng := nx_gt (B := (tB (vw C h))) (n := (ρ 1).toNat) (s := (ρ 6).toNat) (by omega)
  have hc0 := p4.1
  have hR := rc_el (n := ρ 1) (s := ρ 6) (d := (ρ 3 + (-1))) (K := (ρ 5)) (R := (ρ 4)) p4 (by omega) (by omega) (by omega) (by omega) (by omega) (by omega) (by omega) (by omega) (by omega) (by omega)
  have q := sn_42 hR hkd (by omega) (by omega)
  refine ⟨_, List.mem_cons_self, ρ, fun _ _ => rfl, fun q hq => absurd hq List.not_mem_nil, trivial, fun f hf => ?_, fun q hq => absurd hq List.not_mem_nil, fun q hq => absurd hq List.not_mem_nil, fun q hq => absurd hq List.not_mem_nil, fun q hq => ?_⟩
  · simp only [List.mem_cons, List.not_mem_nil, or_false] at hf
    subst hf
    show (0 : Int) ≤ ((-1) + ((1) * ρ 2 + ((-1) * ρ 6 + 0)))
    omega
  · simp only [List.mem_cons, List.not_mem_nil, or_false] at hq
    subst hq
    show (qRC 43 (tB (vw C h))) (((-268435456) + ((1) * ρ 1 + ((2048) * ρ 2 + ((268435456) * ρ 3 + ((4398046511104) * ρ 4 + ((4294967296) * ρ 5 + 0))))))) (((0) + ((1) * ρ 8 + 0)))
    refine c2 (P := (qRC 43 (tB (vw C h)))) (r := ρ 1 + 2048 * ρ 2 + 268435456 * ρ 3 + 4398046511104 * ρ 4 + 4294967296 * ρ 5 + (-268435456)) (c := ρ 8) ?_ (by omega) (by omega)
    show (qRC 43 (tB (vw C h))) (ρ 1 + 2048 * ρ 2 + 268435456 * ρ 3 + 4398046511104 * ρ 4 + 4294967296 * ρ 5 + (-268435456)) (ρ 8)
    exact rc_in (n := ρ 1) (s := ρ 2) (d := (ρ 3 + (-1))) (K := (ρ 5)) (R := (ρ 4)) (by omega) (by omega) (by omega) (by omega) (by omega) (by omega) (by omega) (by omega) (by omega) (by omega) q (by omega) (by omega) (by omega) (by omega) (by omega)
/-- iv_daysM -/
theorem lem_565_ok (hU : uqG G C) : lem_565.1.2.1 = [] ∧ lemOK (PRd G C D xs) G rgs lem_565 := by
  refine ⟨rfl, fun ρ h ha hT => ?_⟩
  obtain ⟨-, -, hF, hG, hH, hA, hP⟩ := ha
  have f0 : (0 : Int) ≤ ((0) + ((1) * ρ 1 + 0)) := hF _ (List.mem_of_getElem? (i := 0) rfl)
  have f1 : (0 : Int) ≤ ((1200) + ((-1) * ρ 1 + 0)) := hF _ (List.mem_of_getElem? (i := 1) rfl)
  have f2 : (0 : Int) ≤ ((0) + ((1) * ρ 2 + 0)) := hF _ (List.mem_of_getElem? (i := 2) rfl)
  have f3 : (0 : Int) ≤ ((0) + ((1) * ρ 1 + ((-1) * ρ 2 + 0))) := hF _ (List.mem_of_getElem? (i := 3) rfl)
  have g0 : G (ρ 0).toNat = 22 := by
    have q := (hG _ (List.mem_of_getElem? (i := 0) rfl)).2
    rwa [show ev ρ (0, [(0, 1)]) = ρ 0 from ev_v] at q
  have h0 : (0 : Int) ≤ ρ 1 ∧ ρ 1 ≤ 1200 := hf_rg hT (hH _ (List.mem_of_getElem? (i := 0) rfl)) ev_v g0 rfl rfl rfl ev_v
  have h1 : (0 : Int) ≤ ρ 2 ∧ ρ 2 ≤ 1200 := hf_rg hT (hH _ (List.mem_of_getElem? (i := 1) rfl)) ev_v g0 rfl rfl rfl ev_v
  have p0 : q159 (tB (vw C h)) (ρ 1 + 2048 * ρ 2 + 67108864) ((1 : Int)) := c2 (P := q159 (tB (vw C h))) (show q159 (tB (vw C h)) (((67108864) + ((1) * ρ 1 + ((2048) * ρ 2 + 0)))) (((1) + 0)) from hP _ (List.mem_of_getElem? (i := 0) rfl)) (by omega) (by omega)
  have iw16 : tIsB (tB (vw C h)) (ρ 1).toNat (ρ 2).toNat (wd 16) = true := b01_1 (k159 (n := ρ 1) (s := ρ 2) (w := 16) (by omega) (by omega) (by omega) (by omega) (by omega) (by omega) p0)
  have hkd := (is_el.mp iw16).1
  have q : tIv (tB (vw C h)) (ρ 1).toNat (ρ 2).toNat = true := by unfold tIv; simp [iw16]
  refine ⟨_, List.mem_cons_self, ρ, fun _ _ => rfl, fun q hq => absurd hq List.not_mem_nil, trivial, fun f hf => ?_, fun q hq => absurd hq List.not_mem_nil, fun q hq => absurd hq List.not_mem_nil, fun q hq => absurd hq List.not_mem_nil, fun q hq => ?_⟩
  · exact absurd hf List.not_mem_nil
  · simp only [List.mem_cons, List.not_mem_nil, or_false] at hq
    subst hq
    show q191 (tB (vw C h)) (((0) + ((1) * ρ 1 + ((2048) * ρ 2 + 0)))) (((1) + 0))
    refine c2 (P := q191 (tB (vw C h))) (r := ρ 1 + 2048 * ρ 2) (c := (1 : Int)) ?_ (by omega) (by omega)
    show q191 (tB (vw C h)) (ρ 1 + 2048 * ρ 2) ((1 : Int))
    exact o191 (n := ρ 1) (s := ρ 2) (by omega) (by omega) (by omega) (by omega) (by omega) (by rw [q]; rfl)
/-- iv_cashM -/
theorem lem_566_ok (hU : uqG G C) : lem_566.1.2.1 = [] ∧ lemOK (PRd G C D xs) G rgs lem_566 := by
  refine ⟨rfl, fun ρ h ha hT => ?_⟩
  obtain ⟨-, -, hF, hG, hH, hA, hP⟩ := ha
  have f0 : (0 : Int) ≤ ((0) + ((1) * ρ 1 + 0)) := hF _ (List.mem_of_getElem? (i := 0) rfl)
  have f1 : (0 : Int) ≤ ((1200) + ((-1) * ρ 1 + 0)) := hF _ (List.mem_of_getElem? (i := 1) rfl)
  have f2 : (0 : Int) ≤ ((0) + ((1) * ρ 2 + 0)) := hF _ (List.mem_of_getElem? (i := 2) rfl)
  have f3 : (0 : Int) ≤ ((0) + ((1) * ρ 1 + ((-1) * ρ 2 + 0))) := hF _ (List.mem_of_getElem? (i := 3) rfl)
  have g0 : G (ρ 0).toNat = 22 := by
    have q := (hG _ (List.mem_of_getElem? (i := 0) rfl)).2
    rwa [show ev ρ (0, [(0, 1)]) = ρ 0 from ev_v] at q
  have h0 : (0 : Int) ≤ ρ 1 ∧ ρ 1 ≤ 1200 := hf_rg hT (hH _ (List.mem_of_getElem? (i := 0) rfl)) ev_v g0 rfl rfl rfl ev_v
  have h1 : (0 : Int) ≤ ρ 2 ∧ ρ 2 ≤ 1200 := hf_rg hT (hH _ (List.mem_of_getElem? (i := 1) rfl)) ev_v g0 rfl rfl rfl ev_v
  have p0 : q159 (tB (vw C h)) (ρ 1 + 2048 * ρ 2 + 71303168) ((1 : Int)) := c2 (P := q159 (tB (vw C h))) (show q159 (tB (vw C h)) (((71303168) + ((1) * ρ 1 + ((2048) * ρ 2 + 0)))) (((1) + 0)) from hP _ (List.mem_of_getElem? (i := 0) rfl)) (by omega) (by omega)
  have iw17 : tIsB (tB (vw C h)) (ρ 1).toNat (ρ 2).toNat (wd 17) = true := b01_1 (k159 (n := ρ 1) (s := ρ 2) (w := 17) (by omega) (by omega) (by omega) (by omega) (by omega) (by omega) p0)
  have hkd := (is_el.mp iw17).1
  have q : tIv (tB (vw C h)) (ρ 1).toNat (ρ 2).toNat = true := by unfold tIv; simp [iw17]
  refine ⟨_, List.mem_cons_self, ρ, fun _ _ => rfl, fun q hq => absurd hq List.not_mem_nil, trivial, fun f hf => ?_, fun q hq => absurd hq List.not_mem_nil, fun q hq => absurd hq List.not_mem_nil, fun q hq => absurd hq List.not_mem_nil, fun q hq => ?_⟩
  · exact absurd hf List.not_mem_nil
  · simp only [List.mem_cons, List.not_mem_nil, or_false] at hq
    subst hq
    show q191 (tB (vw C h)) (((0) + ((1) * ρ 1 + ((2048) * ρ 2 + 0)))) (((1) + 0))
    refine c2 (P := q191 (tB (vw C h))) (r := ρ 1 + 2048 * ρ 2) (c := (1 : Int)) ?_ (by omega) (by omega)
    show q191 (tB (vw C h)) (ρ 1 + 2048 * ρ 2) ((1 : Int))
    exact o191 (n := ρ 1) (s := ρ 2) (by omega) (by omega) (by omega) (by omega) (by omega) (by rw [q]; rfl)
/-- iv_weekdayM -/
theorem lem_567_ok (hU : uqG G C) : lem_567.1.2.1 = [] ∧ lemOK (PRd G C D xs) G rgs lem_567 := by
  refine ⟨rfl, fun ρ h ha hT => ?_⟩
  obtain ⟨-, -, hF, hG, hH, hA, hP⟩ := ha
  have f0 : (0 : Int) ≤ ((0) + ((1) * ρ 1 + 0)) := hF _ (List.mem_of_getElem? (i := 0) rfl)
  have f1 : (0 : Int) ≤ ((1200) + ((-1) * ρ 1 + 0)) := hF _ (List.mem_of_getElem? (i := 1) rfl)
  have f2 : (0 : Int) ≤ ((0) + ((1) * ρ 2 + 0)) := hF _ (List.mem_of_getElem? (i := 2) rfl)
  have f3 : (0 : Int) ≤ ((0) + ((1) * ρ 1 + ((-1) * ρ 2 + 0))) := hF _ (List.mem_of_getElem? (i := 3) rfl)
  have g0 : G (ρ 0).toNat = 22 := by
    have q := (hG _ (List.mem_of_getElem? (i := 0) rfl)).2
    rwa [show ev ρ (0, [(0, 1)]) = ρ 0 from ev_v] at q
  have h0 : (0 : Int) ≤ ρ 1 ∧ ρ 1 ≤ 1200 := hf_rg hT (hH _ (List.mem_of_getElem? (i := 0) rfl)) ev_v g0 rfl rfl rfl ev_v
  have h1 : (0 : Int) ≤ ρ 2 ∧ ρ 2 ≤ 1200 := hf_rg hT (hH _ (List.mem_of_getElem? (i := 1) rfl)) ev_v g0 rfl rfl rfl ev_v
  have p0 : q159 (tB (vw C h)) (ρ 1 + 2048 * ρ 2 + 75497472) ((1 : Int)) := c2 (P := q159 (tB (vw C h))) (show q159 (tB (vw C h)) (((75497472) + ((1) * ρ 1 + ((2048) * ρ 2 + 0)))) (((1) + 0)) from hP _ (List.mem_of_getElem? (i := 0) rfl)) (by omega) (by omega)
  have iw18 : tIsB (tB (vw C h)) (ρ 1).toNat (ρ 2).toNat (wd 18) = true := b01_1 (k159 (n := ρ 1) (s := ρ 2) (w := 18) (by omega) (by omega) (by omega) (by omega) (by omega) (by omega) p0)
  have hkd := (is_el.mp iw18).1
  have q : tIv (tB (vw C h)) (ρ 1).toNat (ρ 2).toNat = true := by unfold tIv; simp [iw18]
  refine ⟨_, List.mem_cons_self, ρ, fun _ _ => rfl, fun q hq => absurd hq List.not_mem_nil, trivial, fun f hf => ?_, fun q hq => absurd hq List.not_mem_nil, fun q hq => absurd hq List.not_mem_nil, fun q hq => absurd hq List.not_mem_nil, fun q hq => ?_⟩
  · exact absurd hf List.not_mem_nil
  · simp only [List.mem_cons, List.not_mem_nil, or_false] at hq
    subst hq
    show q191 (tB (vw C h)) (((0) + ((1) * ρ 1 + ((2048) * ρ 2 + 0)))) (((1) + 0))
    refine c2 (P := q191 (tB (vw C h))) (r := ρ 1 + 2048 * ρ 2) (c := (1 : Int)) ?_ (by omega) (by omega)
    show q191 (tB (vw C h)) (ρ 1 + 2048 * ρ 2) ((1 : Int))
    exact o191 (n := ρ 1) (s := ρ 2) (by omega) (by omega) (by omega) (by omega) (by omega) (by rw [q]; rfl)
/-- iv_visitsM -/
theorem lem_568_ok (hU : uqG G C) : lem_568.1.2.1 = [] ∧ lemOK (PRd G C D xs) G rgs lem_568 := by
  refine ⟨rfl, fun ρ h ha hT => ?_⟩
  obtain ⟨-, -, hF, hG, hH, hA, hP⟩ := ha
  have f0 : (0 : Int) ≤ ((0) + ((1) * ρ 1 + 0)) := hF _ (List.mem_of_getElem? (i := 0) rfl)
  have f1 : (0 : Int) ≤ ((1200) + ((-1) * ρ 1 + 0)) := hF _ (List.mem_of_getElem? (i := 1) rfl)
  have f2 : (0 : Int) ≤ ((0) + ((1) * ρ 2 + 0)) := hF _ (List.mem_of_getElem? (i := 2) rfl)
  have f3 : (0 : Int) ≤ ((0) + ((1) * ρ 1 + ((-1) * ρ 2 + 0))) := hF _ (List.mem_of_getElem? (i := 3) rfl)
  have g0 : G (ρ 0).toNat = 22 := by
    have q := (hG _ (List.mem_of_getElem? (i := 0) rfl)).2
    rwa [show ev ρ (0, [(0, 1)]) = ρ 0 from ev_v] at q
  have h0 : (0 : Int) ≤ ρ 1 ∧ ρ 1 ≤ 1200 := hf_rg hT (hH _ (List.mem_of_getElem? (i := 0) rfl)) ev_v g0 rfl rfl rfl ev_v
  have h1 : (0 : Int) ≤ ρ 2 ∧ ρ 2 ≤ 1200 := hf_rg hT (hH _ (List.mem_of_getElem? (i := 1) rfl)) ev_v g0 rfl rfl rfl ev_v
  have p0 : q159 (tB (vw C h)) (ρ 1 + 2048 * ρ 2 + 79691776) ((1 : Int)) := c2 (P := q159 (tB (vw C h))) (show q159 (tB (vw C h)) (((79691776) + ((1) * ρ 1 + ((2048) * ρ 2 + 0)))) (((1) + 0)) from hP _ (List.mem_of_getElem? (i := 0) rfl)) (by omega) (by omega)
  have iw19 : tIsB (tB (vw C h)) (ρ 1).toNat (ρ 2).toNat (wd 19) = true := b01_1 (k159 (n := ρ 1) (s := ρ 2) (w := 19) (by omega) (by omega) (by omega) (by omega) (by omega) (by omega) p0)
  have hkd := (is_el.mp iw19).1
  have q : tIv (tB (vw C h)) (ρ 1).toNat (ρ 2).toNat = true := by unfold tIv; simp [iw19]
  refine ⟨_, List.mem_cons_self, ρ, fun _ _ => rfl, fun q hq => absurd hq List.not_mem_nil, trivial, fun f hf => ?_, fun q hq => absurd hq List.not_mem_nil, fun q hq => absurd hq List.not_mem_nil, fun q hq => absurd hq List.not_mem_nil, fun q hq => ?_⟩
  · exact absurd hf List.not_mem_nil
  · simp only [List.mem_cons, List.not_mem_nil, or_false] at hq
    subst hq
    show q191 (tB (vw C h)) (((0) + ((1) * ρ 1 + ((2048) * ρ 2 + 0)))) (((1) + 0))
    refine c2 (P := q191 (tB (vw C h))) (r := ρ 1 + 2048 * ρ 2) (c := (1 : Int)) ?_ (by omega) (by omega)
    show q191 (tB (vw C h)) (ρ 1 + 2048 * ρ 2) ((1 : Int))
    exact o191 (n := ρ 1) (s := ρ 2) (by omega) (by omega) (by omega) (by omega) (by omega) (by rw [q]; rfl)
/-- iv_emptyM -/
theorem lem_569_ok (hU : uqG G C) : lem_569.1.2.1 = [] ∧ lemOK (PRd G C D xs) G rgs lem_569 := by
  refine ⟨rfl, fun ρ h ha hT => ?_⟩
  obtain ⟨-, -, hF, hG, hH, hA, hP⟩ := ha
  have f0 : (0 : Int) ≤ ((0) + ((1) * ρ 1 + 0)) := hF _ (List.mem_of_getElem? (i := 0) rfl)
  have f1 : (0 : Int) ≤ ((1200) + ((-1) * ρ 1 + 0)) := hF _ (List.mem_of_getElem? (i := 1) rfl)
  have f2 : (0 : Int) ≤ ((0) + ((1) * ρ 2 + 0)) := hF _ (List.mem_of_getElem? (i := 2) rfl)
  have f3 : (0 : Int) ≤ ((0) + ((1) * ρ 1 + ((-1) * ρ 2 + 0))) := hF _ (List.mem_of_getElem? (i := 3) rfl)
  have g0 : G (ρ 0).toNat = 22 := by
    have q := (hG _ (List.mem_of_getElem? (i := 0) rfl)).2
    rwa [show ev ρ (0, [(0, 1)]) = ρ 0 from ev_v] at q
  have h0 : (0 : Int) ≤ ρ 1 ∧ ρ 1 ≤ 1200 := hf_rg hT (hH _ (List.mem_of_getElem? (i := 0) rfl)) ev_v g0 rfl rfl rfl ev_v
  have h1 : (0 : Int) ≤ ρ 2 ∧ ρ 2 ≤ 1200 := hf_rg hT (hH _ (List.mem_of_getElem? (i := 1) rfl)) ev_v g0 rfl rfl rfl ev_v
  have p0 : q159 (tB (vw C h)) (ρ 1 + 2048 * ρ 2 + 83886080) ((1 : Int)) := c2 (P := q159 (tB (vw C h))) (show q159 (tB (vw C h)) (((83886080) + ((1) * ρ 1 + ((2048) * ρ 2 + 0)))) (((1) + 0)) from hP _ (List.mem_of_getElem? (i := 0) rfl)) (by omega) (by omega)
  have iw20 : tIsB (tB (vw C h)) (ρ 1).toNat (ρ 2).toNat (wd 20) = true := b01_1 (k159 (n := ρ 1) (s := ρ 2) (w := 20) (by omega) (by omega) (by omega) (by omega) (by omega) (by omega) p0)
  have hkd := (is_el.mp iw20).1
  have q : tIv (tB (vw C h)) (ρ 1).toNat (ρ 2).toNat = true := by unfold tIv; simp [iw20]
  refine ⟨_, List.mem_cons_self, ρ, fun _ _ => rfl, fun q hq => absurd hq List.not_mem_nil, trivial, fun f hf => ?_, fun q hq => absurd hq List.not_mem_nil, fun q hq => absurd hq List.not_mem_nil, fun q hq => absurd hq List.not_mem_nil, fun q hq => ?_⟩
  · exact absurd hf List.not_mem_nil
  · simp only [List.mem_cons, List.not_mem_nil, or_false] at hq
    subst hq
    show q191 (tB (vw C h)) (((0) + ((1) * ρ 1 + ((2048) * ρ 2 + 0)))) (((1) + 0))
    refine c2 (P := q191 (tB (vw C h))) (r := ρ 1 + 2048 * ρ 2) (c := (1 : Int)) ?_ (by omega) (by omega)
    show q191 (tB (vw C h)) (ρ 1 + 2048 * ρ 2) ((1 : Int))
    exact o191 (n := ρ 1) (s := ρ 2) (by omega) (by omega) (by omega) (by omega) (by omega) (by rw [q]; rfl)
/-- ao_andM -/
theorem lem_570_ok (hU : uqG G C) : lem_570.1.2.1 = [] ∧ lemOK (PRd G C D xs) G rgs lem_570 := by
  refine ⟨rfl, fun ρ h ha hT => ?_⟩
  obtain ⟨-, -, hF, hG, hH, hA, hP⟩ := ha
  have f0 : (0 : Int) ≤ ((0) + ((1) * ρ 1 + 0)) := hF _ (List.mem_of_getElem? (i := 0) rfl)
  have f1 : (0 : Int) ≤ ((1200) + ((-1) * ρ 1 + 0)) := hF _ (List.mem_of_getElem? (i := 1) rfl)
  have f2 : (0 : Int) ≤ ((0) + ((1) * ρ 2 + 0)) := hF _ (List.mem_of_getElem? (i := 2) rfl)
  have f3 : (0 : Int) ≤ ((0) + ((1) * ρ 1 + ((-1) * ρ 2 + 0))) := hF _ (List.mem_of_getElem? (i := 3) rfl)
  have g0 : G (ρ 0).toNat = 22 := by
    have q := (hG _ (List.mem_of_getElem? (i := 0) rfl)).2
    rwa [show ev ρ (0, [(0, 1)]) = ρ 0 from ev_v] at q
  have h0 : (0 : Int) ≤ ρ 1 ∧ ρ 1 ≤ 1200 := hf_rg hT (hH _ (List.mem_of_getElem? (i := 0) rfl)) ev_v g0 rfl rfl rfl ev_v
  have h1 : (0 : Int) ≤ ρ 2 ∧ ρ 2 ≤ 1200 := hf_rg hT (hH _ (List.mem_of_getElem? (i := 1) rfl)) ev_v g0 rfl rfl rfl ev_v
  have p0 : q159 (tB (vw C h)) (ρ 1 + 2048 * ρ 2 + 58720256) ((1 : Int)) := c2 (P := q159 (tB (vw C h))) (show q159 (tB (vw C h)) (((58720256) + ((1) * ρ 1 + ((2048) * ρ 2 + 0)))) (((1) + 0)) from hP _ (List.mem_of_getElem? (i := 0) rfl)) (by omega) (by omega)
  have iw14 : tIsB (tB (vw C h)) (ρ 1).toNat (ρ 2).toNat (wd 14) = true := b01_1 (k159 (n := ρ 1) (s := ρ 2) (w := 14) (by omega) (by omega) (by omega) (by omega) (by omega) (by omega) p0)
  have hkd := (is_el.mp iw14).1
  have q : tAo (tB (vw C h)) (ρ 1).toNat (ρ 2).toNat = true := by unfold tAo; simp [iw14]
  refine ⟨_, List.mem_cons_self, ρ, fun _ _ => rfl, fun q hq => absurd hq List.not_mem_nil, trivial, fun f hf => ?_, fun q hq => absurd hq List.not_mem_nil, fun q hq => absurd hq List.not_mem_nil, fun q hq => absurd hq List.not_mem_nil, fun q hq => ?_⟩
  · exact absurd hf List.not_mem_nil
  · simp only [List.mem_cons, List.not_mem_nil, or_false] at hq
    subst hq
    show q197 (tB (vw C h)) (((0) + ((1) * ρ 1 + ((2048) * ρ 2 + 0)))) (((1) + 0))
    refine c2 (P := q197 (tB (vw C h))) (r := ρ 1 + 2048 * ρ 2) (c := (1 : Int)) ?_ (by omega) (by omega)
    show q197 (tB (vw C h)) (ρ 1 + 2048 * ρ 2) ((1 : Int))
    exact o197 (n := ρ 1) (s := ρ 2) (by omega) (by omega) (by omega) (by omega) (by omega) (by rw [q]; rfl)
/-- ao_orM -/
theorem lem_571_ok (hU : uqG G C) : lem_571.1.2.1 = [] ∧ lemOK (PRd G C D xs) G rgs lem_571 := by
  refine ⟨rfl, fun ρ h ha hT => ?_⟩
  obtain ⟨-, -, hF, hG, hH, hA, hP⟩ := ha
  have f0 : (0 : Int) ≤ ((0) + ((1) * ρ 1 + 0)) := hF _ (List.mem_of_getElem? (i := 0) rfl)
  have f1 : (0 : Int) ≤ ((1200) + ((-1) * ρ 1 + 0)) := hF _ (List.mem_of_getElem? (i := 1) rfl)
  have f2 : (0 : Int) ≤ ((0) + ((1) * ρ 2 + 0)) := hF _ (List.mem_of_getElem? (i := 2) rfl)
  have f3 : (0 : Int) ≤ ((0) + ((1) * ρ 1 + ((-1) * ρ 2 + 0))) := hF _ (List.mem_of_getElem? (i := 3) rfl)
  have g0 : G (ρ 0).toNat = 22 := by
    have q := (hG _ (List.mem_of_getElem? (i := 0) rfl)).2
    rwa [show ev ρ (0, [(0, 1)]) = ρ 0 from ev_v] at q
  have h0 : (0 : Int) ≤ ρ 1 ∧ ρ 1 ≤ 1200 := hf_rg hT (hH _ (List.mem_of_getElem? (i := 0) rfl)) ev_v g0 rfl rfl rfl ev_v
  have h1 : (0 : Int) ≤ ρ 2 ∧ ρ 2 ≤ 1200 := hf_rg hT (hH _ (List.mem_of_getElem? (i := 1) rfl)) ev_v g0 rfl rfl rfl ev_v
  have p0 : q159 (tB (vw C h)) (ρ 1 + 2048 * ρ 2 + 62914560) ((1 : Int)) := c2 (P := q159 (tB (vw C h))) (show q159 (tB (vw C h)) (((62914560) + ((1) * ρ 1 + ((2048) * ρ 2 + 0)))) (((1) + 0)) from hP _ (List.mem_of_getElem? (i := 0) rfl)) (by omega) (by omega)
  have iw15 : tIsB (tB (vw C h)) (ρ 1).toNat (ρ 2).toNat (wd 15) = true := b01_1 (k159 (n := ρ 1) (s := ρ 2) (w := 15) (by omega) (by omega) (by omega) (by omega) (by omega) (by omega) p0)
  have hkd := (is_el.mp iw15).1
  have q : tAo (tB (vw C h)) (ρ 1).toNat (ρ 2).toNat = true := by unfold tAo; simp [iw15]
  refine ⟨_, List.mem_cons_self, ρ, fun _ _ => rfl, fun q hq => absurd hq List.not_mem_nil, trivial, fun f hf => ?_, fun q hq => absurd hq List.not_mem_nil, fun q hq => absurd hq List.not_mem_nil, fun q hq => absurd hq List.not_mem_nil, fun q hq => ?_⟩
  · exact absurd hf List.not_mem_nil
  · simp only [List.mem_cons, List.not_mem_nil, or_false] at hq
    subst hq
    show q197 (tB (vw C h)) (((0) + ((1) * ρ 1 + ((2048) * ρ 2 + 0)))) (((1) + 0))
    refine c2 (P := q197 (tB (vw C h))) (r := ρ 1 + 2048 * ρ 2) (c := (1 : Int)) ?_ (by omega) (by omega)
    show q197 (tB (vw C h)) (ρ 1 + 2048 * ρ 2) ((1 : Int))
    exact o197 (n := ρ 1) (s := ρ 2) (by omega) (by omega) (by omega) (by omega) (by omega) (by rw [q]; rfl)
/-- ts_aoM -/
theorem lem_572_ok (hU : uqG G C) : lem_572.1.2.1 = [] ∧ lemOK (PRd G C D xs) G rgs lem_572 := by
  refine ⟨rfl, fun ρ h ha hT => ?_⟩
  obtain ⟨-, -, hF, hG, hH, hA, hP⟩ := ha
  have f0 : (0 : Int) ≤ ((0) + ((1) * ρ 1 + 0)) := hF _ (List.mem_of_getElem? (i := 0) rfl)
  have f1 : (0 : Int) ≤ ((1200) + ((-1) * ρ 1 + 0)) := hF _ (List.mem_of_getElem? (i := 1) rfl)
  have f2 : (0 : Int) ≤ ((0) + ((1) * ρ 2 + 0)) := hF _ (List.mem_of_getElem? (i := 2) rfl)
  have f3 : (0 : Int) ≤ ((0) + ((1) * ρ 1 + ((-1) * ρ 2 + 0))) := hF _ (List.mem_of_getElem? (i := 3) rfl)
  have f4 : (0 : Int) ≤ ((0) + ((1) * ρ 4 + 0)) := hF _ (List.mem_of_getElem? (i := 4) rfl)
  have f5 : (0 : Int) ≤ ((8191) + ((-1) * ρ 4 + 0)) := hF _ (List.mem_of_getElem? (i := 5) rfl)
  have f6 : (0 : Int) ≤ ((0) + ((1) * ρ 5 + 0)) := hF _ (List.mem_of_getElem? (i := 6) rfl)
  have f7 : (0 : Int) ≤ ((1023) + ((-1) * ρ 5 + 0)) := hF _ (List.mem_of_getElem? (i := 7) rfl)
  have f8 : (0 : Int) ≤ ((0) + ((1) * ρ 3 + 0)) := hF _ (List.mem_of_getElem? (i := 8) rfl)
  have f9 : (0 : Int) ≤ ((10) + ((-1) * ρ 3 + 0)) := hF _ (List.mem_of_getElem? (i := 9) rfl)
  have f10 : (0 : Int) ≤ ((0) + ((1) * ρ 6 + 0)) := hF _ (List.mem_of_getElem? (i := 10) rfl)
  have f11 : (0 : Int) ≤ ((0) + ((1) * ρ 1 + ((-1) * ρ 6 + 0))) := hF _ (List.mem_of_getElem? (i := 11) rfl)
  have g0 : G (ρ 0).toNat = 22 := by
    have q := (hG _ (List.mem_of_getElem? (i := 0) rfl)).2
    rwa [show ev ρ (0, [(0, 1)]) = ρ 0 from ev_v] at q
  have h0 : (0 : Int) ≤ ρ 1 ∧ ρ 1 ≤ 1200 := hf_rg hT (hH _ (List.mem_of_getElem? (i := 0) rfl)) ev_v g0 rfl rfl rfl ev_v
  have h1 : (0 : Int) ≤ ρ 2 ∧ ρ 2 ≤ 1200 := hf_rg hT (hH _ (List.mem_of_getElem? (i := 1) rfl)) ev_v g0 rfl rfl rfl ev_v
  have h2 : (0 : Int) ≤ ρ 3 ∧ ρ 3 ≤ 10 := hf_rg hT (hH _ (List.mem_of_getElem? (i := 2) rfl)) ev_v g0 rfl rfl rfl ev_v
  have p0 : True := c2 (P := (fun (_ _ : Int) => True)) (r := 0) (r' := 0) (c := 0) (c' := 0) (show True from hP _ (List.mem_of_getElem? (i := 0) rfl)) rfl rfl
  have p1 : q167 (2 * ρ 3 + 1) (ρ 5) := c2 (P := q167) (show q167 (((1) + ((2) * ρ 3 + 0))) (((0) + ((1) * ρ 5 + 0))) from hP _ (List.mem_of_getElem? (i := 1) rfl)) (by omega) (by omega)
  have p2 : q158 (tB (vw C h)) (ρ 1 + 2048 * ρ 2) (ρ 6) := c2 (P := q158 (tB (vw C h))) (show q158 (tB (vw C h)) (((0) + ((1) * ρ 1 + ((2048) * ρ 2 + 0)))) (((0) + ((1) * ρ 6 + 0))) from hP _ (List.mem_of_getElem? (i := 2) rfl)) (by omega) (by omega)
  have p3 : q197 (tB (vw C h)) (ρ 1 + 2048 * ρ 6) ((1 : Int)) := c2 (P := q197 (tB (vw C h))) (show q197 (tB (vw C h)) (((0) + ((1) * ρ 1 + ((2048) * ρ 6 + 0)))) (((1) + 0)) from hP _ (List.mem_of_getElem? (i := 3) rfl)) (by omega) (by omega)
  have p4 : (qRC 43 (tB (vw C h))) (ρ 1 + 268435456 * ρ 3 + 4398046511104 * ρ 4 + 4294967296 * ρ 5 + 2048 * ρ 6) (ρ 7) := c2 (P := (qRC 43 (tB (vw C h)))) (show (qRC 43 (tB (vw C h))) (((0) + ((1) * ρ 1 + ((268435456) * ρ 3 + ((4398046511104) * ρ 4 + ((4294967296) * ρ 5 + ((2048) * ρ 6 + 0))))))) (((0) + ((1) * ρ 7 + 0))) from hP _ (List.mem_of_getElem? (i := 4) rfl)) (by omega) (by omega)
  have ao : tAo (tB (vw C h)) (ρ 1).toNat (ρ 6).toNat = true := b01_1 (k197 (n := ρ 1) (s := ρ 6) (by omega) (by omega) (by omega) (by omega) (by omega) p3)
  have hkd := ao_kd ao
  have nx := k158 (n := ρ 1) (s := ρ 6) (t := ρ 2) (by omega) (by omega) (by omega) (by omega) (by omega) (by omega) p2
  have ng := nx_gt (B := (tB (vw C h))) (n := (ρ 1).toNat) (s := (ρ 6).toNat) (by omega)
  have hc0 := p4.1
  have hR := rc_el (n := ρ 1) (s := ρ 6) (d := (ρ 3)) (K := (ρ 5)) (R := (ρ 4)) p4 (by omega) (by omega) (by omega) (by omega) (by omega) (by omega) (by omega) (by omega) (by omega) (by omega)
  have q := g_ao hR (by have q := p1.2.2 (by omega); omega) ao
  refine ⟨_, List.mem_cons_self, ρ, fun _ _ => rfl, fun q hq => absurd hq List.not_mem_nil, trivial, fun f hf => ?_, fun q hq => absurd hq List.not_mem_nil, fun q hq => absurd hq List.not_mem_nil, fun q hq => absurd hq List.not_mem_nil, fun q hq => ?_⟩
  · simp only [List.mem_cons, List.not_mem_nil, or_false] at hf
    subst hf
    show (0 : Int) ≤ ((-1) + ((1) * ρ 2 + ((-1) * ρ 6 + 0)))
    omega
  · simp only [List.mem_cons, List.not_mem_nil, or_false] at hq
    subst hq
    show (qRC 40 (tB (vw C h))) (((0) + ((1) * ρ 1 + ((2048) * ρ 2 + ((268435456) * ρ 3 + ((4398046511104) * ρ 4 + ((4294967296) * ρ 5 + 0))))))) (((0) + ((1) * ρ 7 + 0)))
    refine c2 (P := (qRC 40 (tB (vw C h)))) (r := ρ 1 + 2048 * ρ 2 + 268435456 * ρ 3 + 4398046511104 * ρ 4 + 4294967296 * ρ 5) (c := ρ 7) ?_ (by omega) (by omega)
    show (qRC 40 (tB (vw C h))) (ρ 1 + 2048 * ρ 2 + 268435456 * ρ 3 + 4398046511104 * ρ 4 + 4294967296 * ρ 5) (ρ 7)
    exact rc_in (n := ρ 1) (s := ρ 2) (d := (ρ 3)) (K := (ρ 5)) (R := (ρ 4)) (by omega) (by omega) (by omega) (by omega) (by omega) (by omega) (by omega) (by omega) (by omega) (by omega) q (by omega) (by omega) (by omega) (by omega) (by omega)
/-- ivXM -/
theorem lem_573_ok (hU : uqG G C) : lem_573.1.2.1 = [] ∧ lemOK (PRd G C D xs) G rgs lem_573 := by
  refine ⟨rfl, fun ρ h ha hT => ?_⟩
  obtain ⟨-, -, hF, hG, hH, hA, hP⟩ := ha
  have f0 : (0 : Int) ≤ ((0) + ((1) * ρ 1 + 0)) := hF _ (List.mem_of_getElem? (i := 0) rfl)
  have f1 : (0 : Int) ≤ ((1200) + ((-1) * ρ 1 + 0)) := hF _ (List.mem_of_getElem? (i := 1) rfl)
  have f2 : (0 : Int) ≤ ((0) + ((1) * ρ 2 + 0)) := hF _ (List.mem_of_getElem? (i := 2) rfl)
  have f3 : (0 : Int) ≤ ((0) + ((1) * ρ 1 + ((-1) * ρ 2 + 0))) := hF _ (List.mem_of_getElem? (i := 3) rfl)
  have g0 : G (ρ 0).toNat = 22 := by
    have q := (hG _ (List.mem_of_getElem? (i := 0) rfl)).2
    rwa [show ev ρ (0, [(0, 1)]) = ρ 0 from ev_v] at q
  have h0 : (0 : Int) ≤ ρ 1 ∧ ρ 1 ≤ 1200 := hf_rg hT (hH _ (List.mem_of_getElem? (i := 0) rfl)) ev_v g0 rfl rfl rfl ev_v
  have h1 : (0 : Int) ≤ ρ 2 ∧ ρ 2 ≤ 1200 := hf_rg hT (hH _ (List.mem_of_getElem? (i := 1) rfl)) ev_v g0 rfl rfl rfl ev_v
  have p0 : q159 (tB (vw C h)) (ρ 1 + 2048 * ρ 2 + 54525952) ((1 : Int)) := c2 (P := q159 (tB (vw C h))) (show q159 (tB (vw C h)) (((54525952) + ((1) * ρ 1 + ((2048) * ρ 2 + 0)))) (((1) + 0)) from hP _ (List.mem_of_getElem? (i := 0) rfl)) (by omega) (by omega)
  have p1 : q191 (tB (vw C h)) (ρ 1 + 2048 * ρ 2) ((1 : Int)) := c2 (P := q191 (tB (vw C h))) (show q191 (tB (vw C h)) (((0) + ((1) * ρ 1 + ((2048) * ρ 2 + 0)))) (((1) + 0)) from hP _ (List.mem_of_getElem? (i := 1) rfl)) (by omega) (by omega)
  have iw13 : tIsB (tB (vw C h)) (ρ 1).toNat (ρ 2).toNat (wd 13) = true := b01_1 (k159 (n := ρ 1) (s := ρ 2) (w := 13) (by omega) (by omega) (by omega) (by omega) (by omega) (by omega) p0)
  have hkd := (is_el.mp iw13).1
  have iv : tIv (tB (vw C h)) (ρ 1).toNat (ρ 2).toNat = true := b01_1 (k191 (n := ρ 1) (s := ρ 2) (by omega) (by omega) (by omega) (by omega) (by omega) p1)
  have hkd := (iv_kd iv).1
  have q := (iv_kd iv).2
  rw [iw13] at q
  cases q
/-- ivNoM -/
theorem lem_574_ok (hU : uqG G C) : lem_574.1.2.1 = [] ∧ lemOK (PRd G C D xs) G rgs lem_574 := by
  refine ⟨rfl, fun ρ h ha hT => ?_⟩
  obtain ⟨-, -, hF, hG, hH, hA, hP⟩ := ha
  have f0 : (0 : Int) ≤ ((0) + ((1) * ρ 1 + 0)) := hF _ (List.mem_of_getElem? (i := 0) rfl)
  have f1 : (0 : Int) ≤ ((1200) + ((-1) * ρ 1 + 0)) := hF _ (List.mem_of_getElem? (i := 1) rfl)
  have f2 : (0 : Int) ≤ ((0) + ((1) * ρ 2 + 0)) := hF _ (List.mem_of_getElem? (i := 2) rfl)
  have f3 : (0 : Int) ≤ ((0) + ((1) * ρ 1 + ((-1) * ρ 2 + 0))) := hF _ (List.mem_of_getElem? (i := 3) rfl)
  have g0 : G (ρ 0).toNat = 22 := by
    have q := (hG _ (List.mem_of_getElem? (i := 0) rfl)).2
    rwa [show ev ρ (0, [(0, 1)]) = ρ 0 from ev_v] at q
  have h0 : (0 : Int) ≤ ρ 1 ∧ ρ 1 ≤ 1200 := hf_rg hT (hH _ (List.mem_of_getElem? (i := 0) rfl)) ev_v g0 rfl rfl rfl ev_v
  have h1 : (0 : Int) ≤ ρ 2 ∧ ρ 2 ≤ 1200 := hf_rg hT (hH _ (List.mem_of_getElem? (i := 1) rfl)) ev_v g0 rfl rfl rfl ev_v
  have p0 : q159 (tB (vw C h)) (ρ 1 + 2048 * ρ 2 + 67108864) ((0 : Int)) := c2 (P := q159 (tB (vw C h))) (show q159 (tB (vw C h)) (((67108864) + ((1) * ρ 1 + ((2048) * ρ 2 + 0)))) (((0) + 0)) from hP _ (List.mem_of_getElem? (i := 0) rfl)) (by omega) (by omega)
  have p1 : q159 (tB (vw C h)) (ρ 1 + 2048 * ρ 2 + 71303168) ((0 : Int)) := c2 (P := q159 (tB (vw C h))) (show q159 (tB (vw C h)) (((71303168) + ((1) * ρ 1 + ((2048) * ρ 2 + 0)))) (((0) + 0)) from hP _ (List.mem_of_getElem? (i := 1) rfl)) (by omega) (by omega)
  have p2 : q159 (tB (vw C h)) (ρ 1 + 2048 * ρ 2 + 75497472) ((0 : Int)) := c2 (P := q159 (tB (vw C h))) (show q159 (tB (vw C h)) (((75497472) + ((1) * ρ 1 + ((2048) * ρ 2 + 0)))) (((0) + 0)) from hP _ (List.mem_of_getElem? (i := 2) rfl)) (by omega) (by omega)
  have p3 : q159 (tB (vw C h)) (ρ 1 + 2048 * ρ 2 + 79691776) ((0 : Int)) := c2 (P := q159 (tB (vw C h))) (show q159 (tB (vw C h)) (((79691776) + ((1) * ρ 1 + ((2048) * ρ 2 + 0)))) (((0) + 0)) from hP _ (List.mem_of_getElem? (i := 3) rfl)) (by omega) (by omega)
  have p4 : q159 (tB (vw C h)) (ρ 1 + 2048 * ρ 2 + 83886080) ((0 : Int)) := c2 (P := q159 (tB (vw C h))) (show q159 (tB (vw C h)) (((83886080) + ((1) * ρ 1 + ((2048) * ρ 2 + 0)))) (((0) + 0)) from hP _ (List.mem_of_getElem? (i := 4) rfl)) (by omega) (by omega)
  have iw16 : tIsB (tB (vw C h)) (ρ 1).toNat (ρ 2).toNat (wd 16) = false := b01_0 (k159 (n := ρ 1) (s := ρ 2) (w := 16) (by omega) (by omega) (by omega) (by omega) (by omega) (by omega) p0)
  have iw17 : tIsB (tB (vw C h)) (ρ 1).toNat (ρ 2).toNat (wd 17) = false := b01_0 (k159 (n := ρ 1) (s := ρ 2) (w := 17) (by omega) (by omega) (by omega) (by omega) (by omega) (by omega) p1)
  have iw18 : tIsB (tB (vw C h)) (ρ 1).toNat (ρ 2).toNat (wd 18) = false := b01_0 (k159 (n := ρ 1) (s := ρ 2) (w := 18) (by omega) (by omega) (by omega) (by omega) (by omega) (by omega) p2)
  have iw19 : tIsB (tB (vw C h)) (ρ 1).toNat (ρ 2).toNat (wd 19) = false := b01_0 (k159 (n := ρ 1) (s := ρ 2) (w := 19) (by omega) (by omega) (by omega) (by omega) (by omega) (by omega) p3)
  have iw20 : tIsB (tB (vw C h)) (ρ 1).toNat (ρ 2).toNat (wd 20) = false := b01_0 (k159 (n := ρ 1) (s := ρ 2) (w := 20) (by omega) (by omega) (by omega) (by omega) (by omega) (by omega) p4)
  have q : tIv (tB (vw C h)) (ρ 1).toNat (ρ 2).toNat = false := by unfold tIv; rw [iw16, iw17, iw18, iw19, iw20]; rfl
  refine ⟨_, List.mem_cons_self, ρ, fun _ _ => rfl, fun q hq => absurd hq List.not_mem_nil, trivial, fun f hf => ?_, fun q hq => absurd hq List.not_mem_nil, fun q hq => absurd hq List.not_mem_nil, fun q hq => absurd hq List.not_mem_nil, fun q hq => ?_⟩
  · exact absurd hf List.not_mem_nil
  · simp only [List.mem_cons, List.not_mem_nil, or_false] at hq
    subst hq
    show q191 (tB (vw C h)) (((0) + ((1) * ρ 1 + ((2048) * ρ 2 + 0)))) (((0) + 0))
    refine c2 (P := q191 (tB (vw C h))) (r := ρ 1 + 2048 * ρ 2) (c := (0 : Int)) ?_ (by omega) (by omega)
    show q191 (tB (vw C h)) (ρ 1 + 2048 * ρ 2) ((0 : Int))
    exact o191 (n := ρ 1) (s := ρ 2) (by omega) (by omega) (by omega) (by omega) (by omega) (by rw [q]; rfl)
/-- rl15M -/
theorem lem_575_ok (hU : uqG G C) : lem_575.1.2.1 = [] ∧ lemOK (PRd G C D xs) G rgs lem_575 := by
  refine ⟨rfl, fun ρ h ha hT => ?_⟩
  obtain ⟨-, -, hF, hG, hH, hA, hP⟩ := ha
  have f0 : (0 : Int) ≤ ((0) + ((1) * ρ 1 + 0)) := hF _ (List.mem_of_getElem? (i := 0) rfl)
  have f1 : (0 : Int) ≤ ((1200) + ((-1) * ρ 1 + 0)) := hF _ (List.mem_of_getElem? (i := 1) rfl)
  have f2 : (0 : Int) ≤ ((0) + ((1) * ρ 2 + 0)) := hF _ (List.mem_of_getElem? (i := 2) rfl)
  have f3 : (0 : Int) ≤ ((0) + ((1) * ρ 1 + ((-1) * ρ 2 + 0))) := hF _ (List.mem_of_getElem? (i := 3) rfl)
  have f4 : (0 : Int) ≤ ((3) + ((-1) * ρ 6 + 0)) := hF _ (List.mem_of_getElem? (i := 4) rfl)
  have f5 : (0 : Int) ≤ ((0) + ((1) * ρ 4 + 0)) := hF _ (List.mem_of_getElem? (i := 5) rfl)
  have f6 : (0 : Int) ≤ ((6) + ((-1) * ρ 4 + 0)) := hF _ (List.mem_of_getElem? (i := 6) rfl)
  have f7 : (0 : Int) ≤ ((0) + ((1) * ρ 5 + 0)) := hF _ (List.mem_of_getElem? (i := 7) rfl)
  have f8 : (0 : Int) ≤ ((8) + ((-1) * ρ 5 + 0)) := hF _ (List.mem_of_getElem? (i := 8) rfl)
  have f9 : (0 : Int) ≤ ((0) + ((1) * ρ 7 + 0)) := hF _ (List.mem_of_getElem? (i := 9) rfl)
  have f10 : (0 : Int) ≤ ((5) + ((-1) * ρ 7 + 0)) := hF _ (List.mem_of_getElem? (i := 10) rfl)
  have f11 : (0 : Int) ≤ ((0) + ((1) * ρ 6 + 0)) := hF _ (List.mem_of_getElem? (i := 11) rfl)
  have f12 : (0 : Int) ≤ ((4) + ((-1) * ρ 6 + 0)) := hF _ (List.mem_of_getElem? (i := 12) rfl)
  have g0 : G (ρ 0).toNat = 22 := by
    have q := (hG _ (List.mem_of_getElem? (i := 0) rfl)).2
    rwa [show ev ρ (0, [(0, 1)]) = ρ 0 from ev_v] at q
  have g1 : G (ρ 3).toNat = 124 := by
    have q := (hG _ (List.mem_of_getElem? (i := 1) rfl)).2
    rwa [show ev ρ (0, [(3, 1)]) = ρ 3 from ev_v] at q
  have h0 : (0 : Int) ≤ ρ 1 ∧ ρ 1 ≤ 1200 := hf_rg hT (hH _ (List.mem_of_getElem? (i := 0) rfl)) ev_v g0 rfl rfl rfl ev_v
  have h1 : (0 : Int) ≤ ρ 2 ∧ ρ 2 ≤ 1200 := hf_rg hT (hH _ (List.mem_of_getElem? (i := 1) rfl)) ev_v g0 rfl rfl rfl ev_v
  have b0 : (0 : Int) ≤ ((6) + 0) := b_aA (hA _ (List.mem_of_getElem? (i := 0) rfl))
  have b1 : (0 : Int) ≤ ((7) + 0) := b_aA (hA _ (List.mem_of_getElem? (i := 1) rfl))
  have b2 : (0 : Int) ≤ ((50) + 0) := b_aA (hA _ (List.mem_of_getElem? (i := 2) rfl))
  have a0 : vw C h 124 (6) = ρ 4 := vw_aA hU (hA _ (List.mem_of_getElem? (i := 0) rfl)) ev_v g1 (by omega) (by omega) (i := 6) (show (((6 : Nat)) : Int) = ((6) + 0) by omega) ev_v
  have a1 : vw C h 124 (7) = ρ 5 := vw_aA hU (hA _ (List.mem_of_getElem? (i := 1) rfl)) ev_v g1 (by omega) (by omega) (i := 7) (show (((7 : Nat)) : Int) = ((7) + 0) by omega) ev_v
  have a2 : vw C h 124 (50) = ρ 6 := vw_aA hU (hA _ (List.mem_of_getElem? (i := 2) rfl)) ev_v g1 (by omega) (by omega) (i := 50) (show (((50 : Nat)) : Int) = ((50) + 0) by omega) ev_v
  have p0 : P183 (vw C h) (ρ 5) (ρ 7) := c2 (P := P183 (vw C h)) (show P183 (vw C h) (((0) + ((1) * ρ 5 + 0))) (((0) + ((1) * ρ 7 + 0))) from hP _ (List.mem_of_getElem? (i := 0) rfl)) (by omega) (by omega)
  have p1 : q159 (tB (vw C h)) (ρ 1 + 2048 * ρ 2 + 58720256) ((0 : Int)) := c2 (P := q159 (tB (vw C h))) (show q159 (tB (vw C h)) (((58720256) + ((1) * ρ 1 + ((2048) * ρ 2 + 0)))) (((0) + 0)) from hP _ (List.mem_of_getElem? (i := 1) rfl)) (by omega) (by omega)
  have p2 : q159 (tB (vw C h)) (ρ 1 + 2048 * ρ 2 + 62914560) ((0 : Int)) := c2 (P := q159 (tB (vw C h))) (show q159 (tB (vw C h)) (((62914560) + ((1) * ρ 1 + ((2048) * ρ 2 + 0)))) (((0) + 0)) from hP _ (List.mem_of_getElem? (i := 2) rfl)) (by omega) (by omega)
  have p3 : (qRC 43 (tB (vw C h))) (ρ 1 + 2048 * ρ 2 + 4398046511104 * ρ 4 + 35184372088832 * ρ 5 + 4503599627370496 * ρ 6 + 562949953421312 * ρ 7) (ρ 8) := c2 (P := (qRC 43 (tB (vw C h)))) (show (qRC 43 (tB (vw C h))) (((0) + ((1) * ρ 1 + ((2048) * ρ 2 + ((4398046511104) * ρ 4 + ((35184372088832) * ρ 5 + ((4503599627370496) * ρ 6 + ((562949953421312) * ρ 7 + 0)))))))) (((0) + ((1) * ρ 8 + 0))) from hP _ (List.mem_of_getElem? (i := 3) rfl)) (by omega) (by omega)
  have iw14 : tIsB (tB (vw C h)) (ρ 1).toNat (ρ 2).toNat (wd 14) = false := b01_0 (k159 (n := ρ 1) (s := ρ 2) (w := 14) (by omega) (by omega) (by omega) (by omega) (by omega) (by omega) p1)
  have iw15 : tIsB (tB (vw C h)) (ρ 1).toNat (ρ 2).toNat (wd 15) = false := b01_0 (k159 (n := ρ 1) (s := ρ 2) (w := 15) (by omega) (by omega) (by omega) (by omega) (by omega) (by omega) p2)
  have hc0 := p3.1
  have hR := rc_el (n := ρ 1) (s := ρ 2) (d := (0 : Int)) (K := (0 : Int)) (R := (ρ 4 + 8 * ρ 5 + 1024 * ρ 6 + 128 * ρ 7)) p3 (by omega) (by omega) (by omega) (by omega) (by omega) (by omega) (by omega) (by omega) (by omega) (by omega)
  have q := g_rl hR (by omega) (by unfold tAo; rw [iw14, iw15]; rfl)
  refine ⟨_, List.mem_cons_self, ρ, fun _ _ => rfl, fun q hq => absurd hq List.not_mem_nil, trivial, fun f hf => ?_, fun q hq => absurd hq List.not_mem_nil, fun q hq => absurd hq List.not_mem_nil, fun q hq => absurd hq List.not_mem_nil, fun q hq => ?_⟩
  · exact absurd hf List.not_mem_nil
  · simp only [List.mem_cons, List.not_mem_nil, or_false] at hq
    subst hq
    show (qRC 15 (tB (vw C h))) (((4503599627370496) + ((1) * ρ 1 + ((2048) * ρ 2 + ((4398046511104) * ρ 4 + ((35184372088832) * ρ 5 + ((4503599627370496) * ρ 6 + ((562949953421312) * ρ 7 + 0)))))))) (((0) + ((1) * ρ 8 + 0)))
    refine c2 (P := (qRC 15 (tB (vw C h)))) (r := ρ 1 + 2048 * ρ 2 + 4398046511104 * ρ 4 + 35184372088832 * ρ 5 + 4503599627370496 * ρ 6 + 562949953421312 * ρ 7 + 4503599627370496) (c := ρ 8) ?_ (by omega) (by omega)
    show (qRC 15 (tB (vw C h))) (ρ 1 + 2048 * ρ 2 + 4398046511104 * ρ 4 + 35184372088832 * ρ 5 + 4503599627370496 * ρ 6 + 562949953421312 * ρ 7 + 4503599627370496) (ρ 8)
    exact rc_in (n := ρ 1) (s := ρ 2) (d := (0 : Int)) (K := (0 : Int)) (R := (ρ 4 + 8 * ρ 5 + 1024 * ρ 6 + 128 * ρ 7 + 1024)) (by omega) (by omega) (by omega) (by omega) (by omega) (by omega) (by omega) (by omega) (by omega) (by omega) q (by omega) (by omega) (by omega) (by omega) (by omega)
/-- slZero -/
theorem lem_576_ok (hU : uqG G C) : lem_576.1.2.1 = [] ∧ lemOK (PRd G C D xs) G rgs lem_576 := by
  refine ⟨rfl, fun ρ h ha hT => ?_⟩
  obtain ⟨-, -, hF, hG, hH, hA, hP⟩ := ha
  have f0 : (0 : Int) ≤ ((0) + ((-1) * ρ 2 + 0)) := hF _ (List.mem_of_getElem? (i := 0) rfl)
  have f1 : (0 : Int) ≤ ((0) + ((1) * ρ 2 + 0)) := hF _ (List.mem_of_getElem? (i := 1) rfl)
  have g0 : G (ρ 0).toNat = 14 := by
    have q := (hG _ (List.mem_of_getElem? (i := 0) rfl)).2
    rwa [show ev ρ (0, [(0, 1)]) = ρ 0 from ev_v] at q
  have g1 : G (ρ 1).toNat = 20 := by
    have q := (hG _ (List.mem_of_getElem? (i := 1) rfl)).2
    rwa [show ev ρ (0, [(1, 1)]) = ρ 1 from ev_v] at q
  have h1 : (0 : Int) ≤ ρ 2 ∧ ρ 2 ≤ 8 := hf_rg hT (hH _ (List.mem_of_getElem? (i := 1) rfl)) ev_v g1 rfl rfl rfl ev_v
  refine ⟨_, List.mem_cons_self, ρ, fun _ _ => rfl, fun q hq => absurd hq List.not_mem_nil, trivial, fun f hf => ?_, fun q hq => absurd hq List.not_mem_nil, fun q hq => absurd hq List.not_mem_nil, fun q hq => absurd hq List.not_mem_nil, fun q hq => ?_⟩
  · exact absurd hf List.not_mem_nil
  · simp only [List.mem_cons, List.not_mem_nil, or_false] at hq
    subst hq
    show q176 G h (((0) + ((16) * ρ 1 + 0))) (((0) + 0))
    refine c2 (P := q176 G h) (r := 16 * ρ 1) (c := (0 : Int)) ?_ (by omega) (by omega)
    show q176 G h (16 * ρ 1) ((0 : Int))
    exact Or.inl ⟨by omega, by omega⟩
/-- slNew -/
theorem lem_577_ok (hU : uqG G C) : lem_577.1.2.1 = [] ∧ lemOK (PRd G C D xs) G rgs lem_577 := by
  refine ⟨rfl, fun ρ h ha hT => ?_⟩
  obtain ⟨-, -, hF, hG, hH, hA, hP⟩ := ha
  have f0 : (0 : Int) ≤ ((-1) + ((1) * ρ 4 + 0)) := hF _ (List.mem_of_getElem? (i := 0) rfl)
  have f1 : (0 : Int) ≤ ((8) + ((-1) * ρ 4 + 0)) := hF _ (List.mem_of_getElem? (i := 1) rfl)
  have g0 : G (ρ 0).toNat = 14 := by
    have q := (hG _ (List.mem_of_getElem? (i := 0) rfl)).2
    rwa [show ev ρ (0, [(0, 1)]) = ρ 0 from ev_v] at q
  have g1 : G (ρ 2).toNat = 20 := by
    have q := (hG _ (List.mem_of_getElem? (i := 1) rfl)).2
    rwa [show ev ρ (0, [(2, 1)]) = ρ 2 from ev_v] at q
  have g2 : G (ρ 3).toNat = 115 := by
    have q := (hG _ (List.mem_of_getElem? (i := 2) rfl)).2
    rwa [show ev ρ (0, [(3, 1)]) = ρ 3 from ev_v] at q
  have g3 : G (ρ 1).toNat = 13 := by
    have q := (hG _ (List.mem_of_getElem? (i := 3) rfl)).2
    rwa [show ev ρ (0, [(1, 1)]) = ρ 1 from ev_v] at q
  have h2 : (0 : Int) ≤ ρ 4 ∧ ρ 4 ≤ 8 := hf_rg hT (hH _ (List.mem_of_getElem? (i := 2) rfl)) ev_v g1 rfl rfl rfl ev_v
  have h3 : (0 : Int) ≤ ρ 5 ∧ ρ 5 ≤ 5 := hf_rg hT (hH _ (List.mem_of_getElem? (i := 3) rfl)) ev_v g3 rfl rfl rfl ev_v
  have b0 : (0 : Int) ≤ ((-1) + ((1) * ρ 4 + 0)) := b_aA (hA _ (List.mem_of_getElem? (i := 0) rfl))
  have y1 := ob_rf hT (hH _ (List.mem_of_getElem? (i := 1) rfl)) ev_v g1 rfl ev_v
  have y2 := ar_rf (j := ρ 4 - 1) (hA _ (List.mem_of_getElem? (i := 0) rfl)) ev_v (show ρ 4 - 1 = ((-1) + ((1) * ρ 4 + 0)) by omega) ev_v
  have y3 := ob_in hT (hH _ (List.mem_of_getElem? (i := 3) rfl)) ev_v g3 rfl ev_v
  have yS : 0 ≤ ρ 2 := by
    have q := (hG _ (List.mem_of_getElem? (i := 1) rfl)).1
    rwa [show ev ρ (0, [(2, 1)]) = ρ 2 from ev_v] at q
  refine ⟨_, List.mem_cons_self, ρ, fun _ _ => rfl, fun q hq => absurd hq List.not_mem_nil, trivial, fun f hf => ?_, fun q hq => absurd hq List.not_mem_nil, fun q hq => absurd hq List.not_mem_nil, fun q hq => absurd hq List.not_mem_nil, fun q hq => ?_⟩
  · exact absurd hf List.not_mem_nil
  · simp only [List.mem_cons, List.not_mem_nil, or_false] at hq
    subst hq
    show q176 G h (((0) + ((16) * ρ 2 + ((1) * ρ 4 + 0)))) (((0) + ((1) * ρ 5 + 0)))
    refine c2 (P := q176 G h) (r := 16 * ρ 2 + ρ 4) (c := ρ 5) ?_ (by omega) (by omega)
    show q176 G h (16 * ρ 2 + ρ 4) (ρ 5)
    exact sl_new (S := ρ 2) (A := ρ 3) (N := ρ 1) (mc := ρ 4) (by omega) (by omega) (by omega) (by omega) g1 g2 g3 y1 y2 y3
/-- slSame -/
theorem lem_578_ok (hU : uqG G C) : lem_578.1.2.1 = [] ∧ lemOK (PRd G C D xs) G rgs lem_578 := by
  refine ⟨rfl, fun ρ h ha hT => ?_⟩
  obtain ⟨-, -, hF, hG, hH, hA, hP⟩ := ha
  have f0 : (0 : Int) ≤ ((-1) + ((1) * ρ 4 + 0)) := hF _ (List.mem_of_getElem? (i := 0) rfl)
  have f1 : (0 : Int) ≤ ((8) + ((-1) * ρ 4 + 0)) := hF _ (List.mem_of_getElem? (i := 1) rfl)
  have g0 : G (ρ 0).toNat = 14 := by
    have q := (hG _ (List.mem_of_getElem? (i := 0) rfl)).2
    rwa [show ev ρ (0, [(0, 1)]) = ρ 0 from ev_v] at q
  have g1 : G (ρ 2).toNat = 20 := by
    have q := (hG _ (List.mem_of_getElem? (i := 1) rfl)).2
    rwa [show ev ρ (0, [(2, 1)]) = ρ 2 from ev_v] at q
  have g2 : G (ρ 3).toNat = 115 := by
    have q := (hG _ (List.mem_of_getElem? (i := 2) rfl)).2
    rwa [show ev ρ (0, [(3, 1)]) = ρ 3 from ev_v] at q
  have g3 : G (ρ 1).toNat = 13 := by
    have q := (hG _ (List.mem_of_getElem? (i := 3) rfl)).2
    rwa [show ev ρ (0, [(1, 1)]) = ρ 1 from ev_v] at q
  have h2 : (0 : Int) ≤ ρ 4 ∧ ρ 4 ≤ 8 := hf_rg hT (hH _ (List.mem_of_getElem? (i := 2) rfl)) ev_v g1 rfl rfl rfl ev_v
  have h3 : (0 : Int) ≤ ρ 5 ∧ ρ 5 ≤ 5 := hf_rg hT (hH _ (List.mem_of_getElem? (i := 3) rfl)) ev_v g3 rfl rfl rfl ev_v
  have b0 : (0 : Int) ≤ ((-1) + ((1) * ρ 4 + 0)) := b_aA (hA _ (List.mem_of_getElem? (i := 0) rfl))
  have p0 : q176 G h (16 * ρ 2 + ρ 4) (ρ 6) := c2 (P := q176 G h) (show q176 G h (((0) + ((16) * ρ 2 + ((1) * ρ 4 + 0)))) (((0) + ((1) * ρ 6 + 0))) from hP _ (List.mem_of_getElem? (i := 0) rfl)) (by omega) (by omega)
  have y1 := ob_rf hT (hH _ (List.mem_of_getElem? (i := 1) rfl)) ev_v g1 rfl ev_v
  have y2 := ar_rf (j := ρ 4 - 1) (hA _ (List.mem_of_getElem? (i := 0) rfl)) ev_v (show ρ 4 - 1 = ((-1) + ((1) * ρ 4 + 0)) by omega) ev_v
  have y3 := ob_in hT (hH _ (List.mem_of_getElem? (i := 3) rfl)) ev_v g3 rfl ev_v
  have yS : 0 ≤ ρ 2 := by
    have q := (hG _ (List.mem_of_getElem? (i := 1) rfl)).1
    rwa [show ev ρ (0, [(2, 1)]) = ρ 2 from ev_v] at q
  have q := sl_same (S := ρ 2) (A := ρ 3) (N := ρ 1) (mc := ρ 4) (by omega) (by omega) (by omega) (by omega) y1 y2 y3 p0
  refine ⟨_, List.mem_cons_self, ρ, fun _ _ => rfl, fun q hq => absurd hq List.not_mem_nil, trivial, fun f hf => ?_, fun q hq => absurd hq List.not_mem_nil, fun q hq => absurd hq List.not_mem_nil, fun q hq => absurd hq List.not_mem_nil, fun q hq => ?_⟩
  · simp only [List.mem_cons, List.not_mem_nil, or_false] at hf
    rcases hf with rfl | rfl
    · show (0 : Int) ≤ ((0) + ((-1) * ρ 5 + ((1) * ρ 6 + 0)))
      omega
    · show (0 : Int) ≤ ((0) + ((1) * ρ 5 + ((-1) * ρ 6 + 0)))
      omega
  · exact absurd hq List.not_mem_nil
/-- slZeroM -/
theorem lem_579_ok (hU : uqG G C) : lem_579.1.2.1 = [] ∧ lemOK (PRd G C D xs) G rgs lem_579 := by
  refine ⟨rfl, fun ρ h ha hT => ?_⟩
  obtain ⟨-, -, hF, hG, hH, hA, hP⟩ := ha
  have f0 : (0 : Int) ≤ ((0) + ((-1) * ρ 2 + 0)) := hF _ (List.mem_of_getElem? (i := 0) rfl)
  have f1 : (0 : Int) ≤ ((0) + ((1) * ρ 2 + 0)) := hF _ (List.mem_of_getElem? (i := 1) rfl)
  have g0 : G (ρ 0).toNat = 22 := by
    have q := (hG _ (List.mem_of_getElem? (i := 0) rfl)).2
    rwa [show ev ρ (0, [(0, 1)]) = ρ 0 from ev_v] at q
  have g1 : G (ρ 1).toNat = 124 := by
    have q := (hG _ (List.mem_of_getElem? (i := 1) rfl)).2
    rwa [show ev ρ (0, [(1, 1)]) = ρ 1 from ev_v] at q
  have b0 : (0 : Int) ≤ ((7) + 0) := b_aA (hA _ (List.mem_of_getElem? (i := 0) rfl))
  have a0 : vw C h 124 (7) = ρ 2 := vw_aA hU (hA _ (List.mem_of_getElem? (i := 0) rfl)) ev_v g1 (by omega) (by omega) (i := 7) (show (((7 : Nat)) : Int) = ((7) + 0) by omega) ev_v
  refine ⟨_, List.mem_cons_self, ρ, fun _ _ => rfl, fun q hq => absurd hq List.not_mem_nil, trivial, fun f hf => ?_, fun q hq => absurd hq List.not_mem_nil, fun q hq => absurd hq List.not_mem_nil, fun q hq => absurd hq List.not_mem_nil, fun q hq => ?_⟩
  · exact absurd hf List.not_mem_nil
  · simp only [List.mem_cons, List.not_mem_nil, or_false] at hq
    subst hq
    show P183 (vw C h) (((0) + ((1) * ρ 2 + 0))) (((0) + 0))
    refine c2 (P := P183 (vw C h)) (r := ρ 2) (c := (0 : Int)) ?_ (by omega) (by omega)
    show P183 (vw C h) (ρ 2) ((0 : Int))
    exact Or.inl ⟨by omega, by omega⟩
/-- slNewM -/
theorem lem_580_ok (hU : uqG G C) : lem_580.1.2.1 = [] ∧ lemOK (PRd G C D xs) G rgs lem_580 := by
  refine ⟨rfl, fun ρ h ha hT => ?_⟩
  obtain ⟨-, -, hF, hG, hH, hA, hP⟩ := ha
  have f0 : (0 : Int) ≤ ((0) + ((1) * ρ 1 + 0)) := hF _ (List.mem_of_getElem? (i := 0) rfl)
  have f1 : (0 : Int) ≤ ((7) + ((-1) * ρ 1 + 0)) := hF _ (List.mem_of_getElem? (i := 1) rfl)
  have g0 : G (ρ 0).toNat = 22 := by
    have q := (hG _ (List.mem_of_getElem? (i := 0) rfl)).2
    rwa [show ev ρ (0, [(0, 1)]) = ρ 0 from ev_v] at q
  have g1 : G (ρ 2).toNat = 124 := by
    have q := (hG _ (List.mem_of_getElem? (i := 1) rfl)).2
    rwa [show ev ρ (0, [(2, 1)]) = ρ 2 from ev_v] at q
  have b0 : (0 : Int) ≤ ((24) + ((1) * ρ 1 + 0)) := b_aA (hA _ (List.mem_of_getElem? (i := 0) rfl))
  have a0 : vw C h 124 (24 + (ρ 1).toNat) = ρ 3 := vw_aA hU (hA _ (List.mem_of_getElem? (i := 0) rfl)) ev_v g1 (by omega) (by omega) (i := 24 + (ρ 1).toNat) (show (((24 + (ρ 1).toNat : Nat)) : Int) = ((24) + ((1) * ρ 1 + 0)) by omega) ev_v
  refine ⟨_, List.mem_cons_self, ρ, fun _ _ => rfl, fun q hq => absurd hq List.not_mem_nil, trivial, fun f hf => ?_, fun q hq => absurd hq List.not_mem_nil, fun q hq => absurd hq List.not_mem_nil, fun q hq => absurd hq List.not_mem_nil, fun q hq => ?_⟩
  · exact absurd hf List.not_mem_nil
  · simp only [List.mem_cons, List.not_mem_nil, or_false] at hq
    subst hq
    show P183 (vw C h) (((1) + ((1) * ρ 1 + 0))) (((0) + ((1) * ρ 3 + 0)))
    refine c2 (P := P183 (vw C h)) (r := ρ 1 + 1) (c := ρ 3) ?_ (by omega) (by omega)
    show P183 (vw C h) (ρ 1 + 1) (ρ 3)
    refine Or.inr ⟨by omega, by omega, ?_⟩
    rw [← a0]
    congr 1
    omega
/-- slSameM -/
theorem lem_581_ok (hU : uqG G C) : lem_581.1.2.1 = [] ∧ lemOK (PRd G C D xs) G rgs lem_581 := by
  refine ⟨rfl, fun ρ h ha hT => ?_⟩
  obtain ⟨-, -, hF, hG, hH, hA, hP⟩ := ha
  have f0 : (0 : Int) ≤ ((0) + ((1) * ρ 1 + 0)) := hF _ (List.mem_of_getElem? (i := 0) rfl)
  have f1 : (0 : Int) ≤ ((7) + ((-1) * ρ 1 + 0)) := hF _ (List.mem_of_getElem? (i := 1) rfl)
  have g0 : G (ρ 0).toNat = 22 := by
    have q := (hG _ (List.mem_of_getElem? (i := 0) rfl)).2
    rwa [show ev ρ (0, [(0, 1)]) = ρ 0 from ev_v] at q
  have g1 : G (ρ 2).toNat = 124 := by
    have q := (hG _ (List.mem_of_getElem? (i := 1) rfl)).2
    rwa [show ev ρ (0, [(2, 1)]) = ρ 2 from ev_v] at q
  have b0 : (0 : Int) ≤ ((24) + ((1) * ρ 1 + 0)) := b_aA (hA _ (List.mem_of_getElem? (i := 0) rfl))
  have a0 : vw C h 124 (24 + (ρ 1).toNat) = ρ 3 := vw_aA hU (hA _ (List.mem_of_getElem? (i := 0) rfl)) ev_v g1 (by omega) (by omega) (i := 24 + (ρ 1).toNat) (show (((24 + (ρ 1).toNat : Nat)) : Int) = ((24) + ((1) * ρ 1 + 0)) by omega) ev_v
  have p0 : P183 (vw C h) (ρ 1 + 1) (ρ 4) := c2 (P := P183 (vw C h)) (show P183 (vw C h) (((1) + ((1) * ρ 1 + 0))) (((0) + ((1) * ρ 4 + 0))) from hP _ (List.mem_of_getElem? (i := 0) rfl)) (by omega) (by omega)
  have q : ρ 3 = ρ 4 := by
    rcases p0 with ⟨q1, -⟩ | ⟨-, -, q1⟩
    · omega
    · rw [← q1, ← a0]
      congr 1
      omega
  refine ⟨_, List.mem_cons_self, ρ, fun _ _ => rfl, fun q hq => absurd hq List.not_mem_nil, trivial, fun f hf => ?_, fun q hq => absurd hq List.not_mem_nil, fun q hq => absurd hq List.not_mem_nil, fun q hq => absurd hq List.not_mem_nil, fun q hq => ?_⟩
  · simp only [List.mem_cons, List.not_mem_nil, or_false] at hf
    rcases hf with rfl | rfl
    · show (0 : Int) ≤ ((0) + ((-1) * ρ 3 + ((1) * ρ 4 + 0)))
      omega
    · show (0 : Int) ≤ ((0) + ((1) * ρ 3 + ((-1) * ρ 4 + 0)))
      omega
  · exact absurd hq List.not_mem_nil
/-- advC -/
theorem lem_582_ok (hU : uqG G C) : lem_582.1.2.1 = [] ∧ lemOK (PRd G C D xs) G rgs lem_582 := by
  refine ⟨rfl, fun ρ h ha hT => ?_⟩
  obtain ⟨-, -, hF, hG, hH, hA, hP⟩ := ha
  have f0 : (0 : Int) ≤ ((0) + ((1) * ρ 1 + 0)) := hF _ (List.mem_of_getElem? (i := 0) rfl)
  have f1 : (0 : Int) ≤ ((1200) + ((-1) * ρ 1 + 0)) := hF _ (List.mem_of_getElem? (i := 1) rfl)
  have f2 : (0 : Int) ≤ ((0) + ((1) * ρ 3 + 0)) := hF _ (List.mem_of_getElem? (i := 2) rfl)
  have f3 : (0 : Int) ≤ ((0) + ((1) * ρ 1 + ((-1) * ρ 3 + 0))) := hF _ (List.mem_of_getElem? (i := 3) rfl)
  have f4 : (0 : Int) ≤ ((-1) + ((1) * ρ 4 + 0)) := hF _ (List.mem_of_getElem? (i := 4) rfl)
  have g0 : G (ρ 0).toNat = 17 := by
    have q := (hG _ (List.mem_of_getElem? (i := 0) rfl)).2
    rwa [show ev ρ (0, [(0, 1)]) = ρ 0 from ev_v] at q
  have h0 : (0 : Int) ≤ ρ 1 ∧ ρ 1 ≤ 1200 := hf_rg hT (hH _ (List.mem_of_getElem? (i := 0) rfl)) ev_v g0 rfl rfl rfl ev_v
  have h1 : (0 : Int) ≤ ρ 2 ∧ ρ 2 ≤ 1200 := hf_rg hT (hH _ (List.mem_of_getElem? (i := 1) rfl)) ev_v g0 rfl rfl rfl ev_v
  have h2 : (0 : Int) ≤ ρ 3 ∧ ρ 3 ≤ 1200 := hf_rg hT (hH _ (List.mem_of_getElem? (i := 2) rfl)) ev_v g0 rfl rfl rfl ev_v
  have p0 : q155 (tB (vw C h)) (ρ 1 + 2048 * ρ 3) (ρ 4) := c2 (P := q155 (tB (vw C h))) (show q155 (tB (vw C h)) (((0) + ((1) * ρ 1 + ((2048) * ρ 3 + 0)))) (((0) + ((1) * ρ 4 + 0))) from hP _ (List.mem_of_getElem? (i := 0) rfl)) (by omega) (by omega)
  have p1 : q156 (tB (vw C h)) (ρ 1 + 2048 * ρ 2) (ρ 3) := c2 (P := q156 (tB (vw C h))) (show q156 (tB (vw C h)) (((0) + ((1) * ρ 1 + ((2048) * ρ 2 + 0)))) (((0) + ((1) * ρ 3 + 0))) from hP _ (List.mem_of_getElem? (i := 1) rfl)) (by omega) (by omega)
  have kk := k155 (n := ρ 1) (s := ρ 3) (by omega) (by omega) (by omega) (by omega) (by omega) p0
  have ke := k156 (n := ρ 1) (s := ρ 3) (e := ρ 2) (by omega) (by omega) (by omega) (by omega) (by omega) (by omega) p1
  have q := (en_gt (B := (tB (vw C h))) (n := (ρ 1).toNat) (s := (ρ 3).toNat) (by omega)).2
  refine ⟨_, List.mem_cons_self, ρ, fun _ _ => rfl, fun q hq => absurd hq List.not_mem_nil, trivial, fun f hf => ?_, fun q hq => absurd hq List.not_mem_nil, fun q hq => absurd hq List.not_mem_nil, fun q hq => absurd hq List.not_mem_nil, fun q hq => ?_⟩
  · simp only [List.mem_cons, List.not_mem_nil, or_false] at hf
    subst hf
    show (0 : Int) ≤ ((-1) + ((1) * ρ 2 + ((-1) * ρ 3 + 0)))
    omega
  · exact absurd hq List.not_mem_nil
/-- advLoM -/
theorem lem_583_ok (hU : uqG G C) : lem_583.1.2.1 = [] ∧ lemOK (PRd G C D xs) G rgs lem_583 := by
  refine ⟨rfl, fun ρ h ha hT => ?_⟩
  obtain ⟨-, -, hF, hG, hH, hA, hP⟩ := ha
  have f0 : (0 : Int) ≤ ((0) + ((1) * ρ 1 + 0)) := hF _ (List.mem_of_getElem? (i := 0) rfl)
  have f1 : (0 : Int) ≤ ((1200) + ((-1) * ρ 1 + 0)) := hF _ (List.mem_of_getElem? (i := 1) rfl)
  have f2 : (0 : Int) ≤ ((0) + ((1) * ρ 3 + 0)) := hF _ (List.mem_of_getElem? (i := 2) rfl)
  have f3 : (0 : Int) ≤ ((0) + ((1) * ρ 1 + ((-1) * ρ 3 + 0))) := hF _ (List.mem_of_getElem? (i := 3) rfl)
  have f4 : (0 : Int) ≤ ((0) + ((-1) * ρ 4 + 0)) := hF _ (List.mem_of_getElem? (i := 4) rfl)
  have g0 : G (ρ 0).toNat = 22 := by
    have q := (hG _ (List.mem_of_getElem? (i := 0) rfl)).2
    rwa [show ev ρ (0, [(0, 1)]) = ρ 0 from ev_v] at q
  have h0 : (0 : Int) ≤ ρ 1 ∧ ρ 1 ≤ 1200 := hf_rg hT (hH _ (List.mem_of_getElem? (i := 0) rfl)) ev_v g0 rfl rfl rfl ev_v
  have h1 : (0 : Int) ≤ ρ 2 ∧ ρ 2 ≤ 1200 := hf_rg hT (hH _ (List.mem_of_getElem? (i := 1) rfl)) ev_v g0 rfl rfl rfl ev_v
  have h2 : (0 : Int) ≤ ρ 3 ∧ ρ 3 ≤ 1200 := hf_rg hT (hH _ (List.mem_of_getElem? (i := 2) rfl)) ev_v g0 rfl rfl rfl ev_v
  have p0 : q180 (tB (vw C h)) (ρ 1 + 2048 * ρ 3) (ρ 4) := c2 (P := q180 (tB (vw C h))) (show q180 (tB (vw C h)) (((0) + ((1) * ρ 1 + ((2048) * ρ 3 + 0)))) (((0) + ((1) * ρ 4 + 0))) from hP _ (List.mem_of_getElem? (i := 0) rfl)) (by omega) (by omega)
  have p1 : q156 (tB (vw C h)) (ρ 1 + 2048 * ρ 2) (ρ 3) := c2 (P := q156 (tB (vw C h))) (show q156 (tB (vw C h)) (((0) + ((1) * ρ 1 + ((2048) * ρ 2 + 0)))) (((0) + ((1) * ρ 3 + 0))) from hP _ (List.mem_of_getElem? (i := 1) rfl)) (by omega) (by omega)
  obtain ⟨kk, kx⟩ := k180 (n := ρ 1) (s := ρ 3) (by omega) (by omega) (by omega) (by omega) (by omega) p0
  have ke := k156 (n := ρ 1) (s := ρ 3) (e := ρ 2) (by omega) (by omega) (by omega) (by omega) (by omega) (by omega) p1
  have q := (en_gt (B := (tB (vw C h))) (n := (ρ 1).toNat) (s := (ρ 3).toNat) (by omega)).2
  refine ⟨_, List.mem_cons_self, ρ, fun _ _ => rfl, fun q hq => absurd hq List.not_mem_nil, trivial, fun f hf => ?_, fun q hq => absurd hq List.not_mem_nil, fun q hq => absurd hq List.not_mem_nil, fun q hq => absurd hq List.not_mem_nil, fun q hq => ?_⟩
  · simp only [List.mem_cons, List.not_mem_nil, or_false] at hf
    subst hf
    show (0 : Int) ≤ ((-1) + ((1) * ρ 2 + ((-1) * ρ 3 + 0)))
    omega
  · exact absurd hq List.not_mem_nil
/-- advHiM -/
theorem lem_584_ok (hU : uqG G C) : lem_584.1.2.1 = [] ∧ lemOK (PRd G C D xs) G rgs lem_584 := by
  refine ⟨rfl, fun ρ h ha hT => ?_⟩
  obtain ⟨-, -, hF, hG, hH, hA, hP⟩ := ha
  have f0 : (0 : Int) ≤ ((0) + ((1) * ρ 1 + 0)) := hF _ (List.mem_of_getElem? (i := 0) rfl)
  have f1 : (0 : Int) ≤ ((1200) + ((-1) * ρ 1 + 0)) := hF _ (List.mem_of_getElem? (i := 1) rfl)
  have f2 : (0 : Int) ≤ ((0) + ((1) * ρ 3 + 0)) := hF _ (List.mem_of_getElem? (i := 2) rfl)
  have f3 : (0 : Int) ≤ ((0) + ((1) * ρ 1 + ((-1) * ρ 3 + 0))) := hF _ (List.mem_of_getElem? (i := 3) rfl)
  have f4 : (0 : Int) ≤ ((-2) + ((1) * ρ 4 + 0)) := hF _ (List.mem_of_getElem? (i := 4) rfl)
  have g0 : G (ρ 0).toNat = 22 := by
    have q := (hG _ (List.mem_of_getElem? (i := 0) rfl)).2
    rwa [show ev ρ (0, [(0, 1)]) = ρ 0 from ev_v] at q
  have h0 : (0 : Int) ≤ ρ 1 ∧ ρ 1 ≤ 1200 := hf_rg hT (hH _ (List.mem_of_getElem? (i := 0) rfl)) ev_v g0 rfl rfl rfl ev_v
  have h1 : (0 : Int) ≤ ρ 2 ∧ ρ 2 ≤ 1200 := hf_rg hT (hH _ (List.mem_of_getElem? (i := 1) rfl)) ev_v g0 rfl rfl rfl ev_v
  have h2 : (0 : Int) ≤ ρ 3 ∧ ρ 3 ≤ 1200 := hf_rg hT (hH _ (List.mem_of_getElem? (i := 2) rfl)) ev_v g0 rfl rfl rfl ev_v
  have p0 : q180 (tB (vw C h)) (ρ 1 + 2048 * ρ 3) (ρ 4) := c2 (P := q180 (tB (vw C h))) (show q180 (tB (vw C h)) (((0) + ((1) * ρ 1 + ((2048) * ρ 3 + 0)))) (((0) + ((1) * ρ 4 + 0))) from hP _ (List.mem_of_getElem? (i := 0) rfl)) (by omega) (by omega)
  have p1 : q156 (tB (vw C h)) (ρ 1 + 2048 * ρ 2) (ρ 3) := c2 (P := q156 (tB (vw C h))) (show q156 (tB (vw C h)) (((0) + ((1) * ρ 1 + ((2048) * ρ 2 + 0)))) (((0) + ((1) * ρ 3 + 0))) from hP _ (List.mem_of_getElem? (i := 1) rfl)) (by omega) (by omega)
  obtain ⟨kk, kx⟩ := k180 (n := ρ 1) (s := ρ 3) (by omega) (by omega) (by omega) (by omega) (by omega) p0
  have ke := k156 (n := ρ 1) (s := ρ 3) (e := ρ 2) (by omega) (by omega) (by omega) (by omega) (by omega) (by omega) p1
  have q := (en_gt (B := (tB (vw C h))) (n := (ρ 1).toNat) (s := (ρ 3).toNat) (by omega)).2
  refine ⟨_, List.mem_cons_self, ρ, fun _ _ => rfl, fun q hq => absurd hq List.not_mem_nil, trivial, fun f hf => ?_, fun q hq => absurd hq List.not_mem_nil, fun q hq => absurd hq List.not_mem_nil, fun q hq => absurd hq List.not_mem_nil, fun q hq => ?_⟩
  · simp only [List.mem_cons, List.not_mem_nil, or_false] at hf
    subst hf
    show (0 : Int) ≤ ((-1) + ((1) * ρ 2 + ((-1) * ρ 3 + 0)))
    omega
  · exact absurd hq List.not_mem_nil
/-- startC -/
theorem lem_585_ok (hU : uqG G C) : lem_585.1.2.1 = [] ∧ lemOK (PRd G C D xs) G rgs lem_585 := by
  refine ⟨rfl, fun ρ h ha hT => ?_⟩
  obtain ⟨-, -, hF, hG, hH, hA, hP⟩ := ha
  have f0 : (0 : Int) ≤ ((0) + ((1) * ρ 2 + 0)) := hF _ (List.mem_of_getElem? (i := 0) rfl)
  have f1 : (0 : Int) ≤ ((1200) + ((-1) * ρ 2 + 0)) := hF _ (List.mem_of_getElem? (i := 1) rfl)
  have f2 : (0 : Int) ≤ ((0) + ((1) * ρ 3 + 0)) := hF _ (List.mem_of_getElem? (i := 2) rfl)
  have f3 : (0 : Int) ≤ ((0) + ((1) * ρ 2 + ((-1) * ρ 3 + 0))) := hF _ (List.mem_of_getElem? (i := 3) rfl)
  have g0 : G (ρ 0).toNat = 14 := by
    have q := (hG _ (List.mem_of_getElem? (i := 0) rfl)).2
    rwa [show ev ρ (0, [(0, 1)]) = ρ 0 from ev_v] at q
  have g1 : G (ρ 1).toNat = 17 := by
    have q := (hG _ (List.mem_of_getElem? (i := 1) rfl)).2
    rwa [show ev ρ (0, [(1, 1)]) = ρ 1 from ev_v] at q
  have h1 : (0 : Int) ≤ ρ 2 ∧ ρ 2 ≤ 1200 := hf_rg hT (hH _ (List.mem_of_getElem? (i := 1) rfl)) ev_v g1 rfl rfl rfl ev_v
  have h2 : (0 : Int) ≤ ρ 3 ∧ ρ 3 ≤ 1200 := hf_rg hT (hH _ (List.mem_of_getElem? (i := 2) rfl)) ev_v g1 rfl rfl rfl ev_v
  have p0 : q158 (tB (vw C h)) (ρ 2 + 2048 * ρ 3) (((-1) : Int)) := c2 (P := q158 (tB (vw C h))) (show q158 (tB (vw C h)) (((0) + ((1) * ρ 2 + ((2048) * ρ 3 + 0)))) (((-1) + 0)) from hP _ (List.mem_of_getElem? (i := 0) rfl)) (by omega) (by omega)
  have nx := k158s (n := ρ 2) (t := ρ 3) (by omega) (by omega) (by omega) (by omega) (by omega) (by omega) p0
  refine ⟨_, List.mem_cons_self, ρ, fun _ _ => rfl, fun q hq => absurd hq List.not_mem_nil, trivial, fun f hf => ?_, fun q hq => absurd hq List.not_mem_nil, fun q hq => absurd hq List.not_mem_nil, fun q hq => absurd hq List.not_mem_nil, fun q hq => ?_⟩
  · exact absurd hf List.not_mem_nil
  · simp only [List.mem_cons, List.not_mem_nil, or_false] at hq
    subst hq
    show (qRC 0 (tB (vw C h))) (((0) + ((1) * ρ 2 + ((2048) * ρ 3 + 0)))) (((0) + 0))
    refine c2 (P := (qRC 0 (tB (vw C h)))) (r := ρ 2 + 2048 * ρ 3) (c := (0 : Int)) ?_ (by omega) (by omega)
    show (qRC 0 (tB (vw C h))) (ρ 2 + 2048 * ρ 3) ((0 : Int))
    exact rc_in (n := ρ 2) (s := ρ 3) (d := 0) (K := 0) (R := 0) (by omega) (by omega) (by omega) (by omega) (by omega) (by omega) (by omega) (by omega) (by omega) (by omega) rch0 (by omega) (by omega) (by omega) (by omega) (by omega)
/-- startM -/
theorem lem_586_ok (hU : uqG G C) : lem_586.1.2.1 = [] ∧ lemOK (PRd G C D xs) G rgs lem_586 := by
  refine ⟨rfl, fun ρ h ha hT => ?_⟩
  obtain ⟨-, -, hF, hG, hH, hA, hP⟩ := ha
  have f0 : (0 : Int) ≤ ((0) + ((1) * ρ 1 + 0)) := hF _ (List.mem_of_getElem? (i := 0) rfl)
  have f1 : (0 : Int) ≤ ((1200) + ((-1) * ρ 1 + 0)) := hF _ (List.mem_of_getElem? (i := 1) rfl)
  have f2 : (0 : Int) ≤ ((0) + ((1) * ρ 2 + 0)) := hF _ (List.mem_of_getElem? (i := 2) rfl)
  have f3 : (0 : Int) ≤ ((0) + ((1) * ρ 1 + ((-1) * ρ 2 + 0))) := hF _ (List.mem_of_getElem? (i := 3) rfl)
  have g0 : G (ρ 0).toNat = 22 := by
    have q := (hG _ (List.mem_of_getElem? (i := 0) rfl)).2
    rwa [show ev ρ (0, [(0, 1)]) = ρ 0 from ev_v] at q
  have h0 : (0 : Int) ≤ ρ 1 ∧ ρ 1 ≤ 1200 := hf_rg hT (hH _ (List.mem_of_getElem? (i := 0) rfl)) ev_v g0 rfl rfl rfl ev_v
  have h1 : (0 : Int) ≤ ρ 2 ∧ ρ 2 ≤ 1200 := hf_rg hT (hH _ (List.mem_of_getElem? (i := 1) rfl)) ev_v g0 rfl rfl rfl ev_v
  have p0 : q158 (tB (vw C h)) (ρ 1 + 2048 * ρ 2) (((-1) : Int)) := c2 (P := q158 (tB (vw C h))) (show q158 (tB (vw C h)) (((0) + ((1) * ρ 1 + ((2048) * ρ 2 + 0)))) (((-1) + 0)) from hP _ (List.mem_of_getElem? (i := 0) rfl)) (by omega) (by omega)
  have nx := k158s (n := ρ 1) (t := ρ 2) (by omega) (by omega) (by omega) (by omega) (by omega) (by omega) p0
  refine ⟨_, List.mem_cons_self, ρ, fun _ _ => rfl, fun q hq => absurd hq List.not_mem_nil, trivial, fun f hf => ?_, fun q hq => absurd hq List.not_mem_nil, fun q hq => absurd hq List.not_mem_nil, fun q hq => absurd hq List.not_mem_nil, fun q hq => ?_⟩
  · exact absurd hf List.not_mem_nil
  · simp only [List.mem_cons, List.not_mem_nil, or_false] at hq
    subst hq
    show (qRC 0 (tB (vw C h))) (((0) + ((1) * ρ 1 + ((2048) * ρ 2 + 0)))) (((0) + 0))
    refine c2 (P := (qRC 0 (tB (vw C h)))) (r := ρ 1 + 2048 * ρ 2) (c := (0 : Int)) ?_ (by omega) (by omega)
    show (qRC 0 (tB (vw C h))) (ρ 1 + 2048 * ρ 2) ((0 : Int))
    exact rc_in (n := ρ 1) (s := ρ 2) (d := 0) (K := 0) (R := 0) (by omega) (by omega) (by omega) (by omega) (by omega) (by omega) (by omega) (by omega) (by omega) (by omega) rch0 (by omega) (by omega) (by omega) (by omega) (by omega)
/-- dep0 -/
theorem lem_587_ok (hU : uqG G C) (hD : 700 ≤ D) : lem_587.1.2.1 = [] ∧ lemOK (PRd G C D xs) G rgs lem_587 := by
  refine ⟨rfl, fun ρ h ha hT => ?_⟩
  obtain ⟨-, -, hF, hG, hH, hA, hP⟩ := ha
  refine ⟨_, List.mem_cons_self, ρ, fun _ _ => rfl, fun q hq => absurd hq List.not_mem_nil, trivial, fun f hf => ?_, fun q hq => absurd hq List.not_mem_nil, fun q hq => absurd hq List.not_mem_nil, fun q hq => absurd hq List.not_mem_nil, fun q hq => ?_⟩
  · exact absurd hf List.not_mem_nil
  · simp only [List.mem_cons, List.not_mem_nil, or_false] at hq
    subst hq
    show ((11) + 0) ≤ (D : Int)
    omega
/-- dep -/
theorem lem_588_ok (hU : uqG G C) : lem_588.1.2.1 = [] ∧ lemOK (PRd G C D xs) G rgs lem_588 := by
  refine ⟨rfl, fun ρ h ha hT => ?_⟩
  obtain ⟨-, -, hF, hG, hH, hA, hP⟩ := ha
  have p0 : ((11) + ((-1) * ρ 0 + 0)) ≤ (D : Int) := hP _ (List.mem_of_getElem? (i := 0) rfl)
  refine ⟨_, List.mem_cons_self, ρ, fun _ _ => rfl, fun q hq => absurd hq List.not_mem_nil, trivial, fun f hf => ?_, fun q hq => absurd hq List.not_mem_nil, fun q hq => absurd hq List.not_mem_nil, fun q hq => absurd hq List.not_mem_nil, fun q hq => ?_⟩
  · exact absurd hf List.not_mem_nil
  · simp only [List.mem_cons, List.not_mem_nil, or_false] at hq
    subst hq
    show ((10) + ((-1) * ρ 0 + 0)) + 1 ≤ (D : Int)
    omega
/-- stu -/
theorem lem_589_ok (hU : uqG G C) : lem_589.1.2.1 = [] ∧ lemOK (PRd G C D xs) G rgs lem_589 := by
  refine ⟨rfl, fun ρ h ha hT => ?_⟩
  obtain ⟨-, -, hF, hG, hH, hA, hP⟩ := ha
  have p0 : q167 (2 * ρ 0 + 1) (ρ 1) := c2 (P := q167) (show q167 (((1) + ((2) * ρ 0 + 0))) (((0) + ((1) * ρ 1 + 0))) from hP _ (List.mem_of_getElem? (i := 0) rfl)) (by omega) (by omega)
  refine ⟨_, List.mem_cons_self, ρ, fun _ _ => rfl, fun q hq => absurd hq List.not_mem_nil, trivial, fun f hf => ?_, fun q hq => absurd hq List.not_mem_nil, fun q hq => absurd hq List.not_mem_nil, fun q hq => absurd hq List.not_mem_nil, fun q hq => ?_⟩
  · exact absurd hf List.not_mem_nil
  · simp only [List.mem_cons, List.not_mem_nil, or_false] at hq
    subst hq
    show q167 (((0) + ((2) * ρ 0 + 0))) (((0) + ((1) * ρ 1 + 0)))
    refine c2 (P := q167) (r := 2 * ρ 0) (c := ρ 1) ?_ (by omega) (by omega)
    show q167 (2 * ρ 0) (ρ 1)
    exact q167_dn p0 (by omega) (by omega)
/-- advP -/
theorem lem_590_ok (hU : uqG G C) : lem_590.1.2.1 = [] ∧ lemOK (PRd G C D xs) G rgs lem_590 := by
  refine ⟨rfl, fun ρ h ha hT => ?_⟩
  obtain ⟨-, -, hF, hG, hH, hA, hP⟩ := ha
  have f0 : (0 : Int) ≤ ((0) + ((1) * ρ 2 + 0)) := hF _ (List.mem_of_getElem? (i := 0) rfl)
  have f1 : (0 : Int) ≤ ((1200) + ((-1) * ρ 2 + 0)) := hF _ (List.mem_of_getElem? (i := 1) rfl)
  have f2 : (0 : Int) ≤ ((0) + ((1) * ρ 4 + 0)) := hF _ (List.mem_of_getElem? (i := 2) rfl)
  have f3 : (0 : Int) ≤ ((0) + ((1) * ρ 2 + ((-1) * ρ 4 + 0))) := hF _ (List.mem_of_getElem? (i := 3) rfl)
  have f4 : (0 : Int) ≤ ((-1) + ((1) * ρ 5 + 0)) := hF _ (List.mem_of_getElem? (i := 4) rfl)
  have g0 : G (ρ 0).toNat = 14 := by
    have q := (hG _ (List.mem_of_getElem? (i := 0) rfl)).2
    rwa [show ev ρ (0, [(0, 1)]) = ρ 0 from ev_v] at q
  have g1 : G (ρ 1).toNat = 17 := by
    have q := (hG _ (List.mem_of_getElem? (i := 1) rfl)).2
    rwa [show ev ρ (0, [(1, 1)]) = ρ 1 from ev_v] at q
  have h1 : (0 : Int) ≤ ρ 2 ∧ ρ 2 ≤ 1200 := hf_rg hT (hH _ (List.mem_of_getElem? (i := 1) rfl)) ev_v g1 rfl rfl rfl ev_v
  have h2 : (0 : Int) ≤ ρ 3 ∧ ρ 3 ≤ 1200 := hf_rg hT (hH _ (List.mem_of_getElem? (i := 2) rfl)) ev_v g1 rfl rfl rfl ev_v
  have h3 : (0 : Int) ≤ ρ 4 ∧ ρ 4 ≤ 1200 := hf_rg hT (hH _ (List.mem_of_getElem? (i := 3) rfl)) ev_v g1 rfl rfl rfl ev_v
  have p0 : q155 (tB (vw C h)) (ρ 2 + 2048 * ρ 4) (ρ 5) := c2 (P := q155 (tB (vw C h))) (show q155 (tB (vw C h)) (((0) + ((1) * ρ 2 + ((2048) * ρ 4 + 0)))) (((0) + ((1) * ρ 5 + 0))) from hP _ (List.mem_of_getElem? (i := 0) rfl)) (by omega) (by omega)
  have p1 : q156 (tB (vw C h)) (ρ 2 + 2048 * ρ 3) (ρ 4) := c2 (P := q156 (tB (vw C h))) (show q156 (tB (vw C h)) (((0) + ((1) * ρ 2 + ((2048) * ρ 3 + 0)))) (((0) + ((1) * ρ 4 + 0))) from hP _ (List.mem_of_getElem? (i := 1) rfl)) (by omega) (by omega)
  have kk := k155 (n := ρ 2) (s := ρ 4) (by omega) (by omega) (by omega) (by omega) (by omega) p0
  have ke := k156 (n := ρ 2) (s := ρ 4) (e := ρ 3) (by omega) (by omega) (by omega) (by omega) (by omega) (by omega) p1
  have q := (en_gt (B := (tB (vw C h))) (n := (ρ 2).toNat) (s := (ρ 4).toNat) (by omega)).2
  refine ⟨_, List.mem_cons_self, ρ, fun _ _ => rfl, fun q hq => absurd hq List.not_mem_nil, trivial, fun f hf => ?_, fun q hq => absurd hq List.not_mem_nil, fun q hq => absurd hq List.not_mem_nil, fun q hq => absurd hq List.not_mem_nil, fun q hq => ?_⟩
  · simp only [List.mem_cons, List.not_mem_nil, or_false] at hf
    subst hf
    show (0 : Int) ≤ ((-1) + ((1) * ρ 3 + ((-1) * ρ 4 + 0)))
    omega
  · exact absurd hq List.not_mem_nil
/-- sg0P -/
theorem lem_591_ok (hU : uqG G C) : lem_591.1.2.1 = [] ∧ lemOK (PRd G C D xs) G rgs lem_591 := by
  refine ⟨rfl, fun ρ h ha hT => ?_⟩
  obtain ⟨-, -, hF, hG, hH, hA, hP⟩ := ha
  have f0 : (0 : Int) ≤ ((0) + ((1) * ρ 2 + 0)) := hF _ (List.mem_of_getElem? (i := 0) rfl)
  have f1 : (0 : Int) ≤ ((1200) + ((-1) * ρ 2 + 0)) := hF _ (List.mem_of_getElem? (i := 1) rfl)
  have f2 : (0 : Int) ≤ ((0) + ((1) * ρ 4 + 0)) := hF _ (List.mem_of_getElem? (i := 2) rfl)
  have f3 : (0 : Int) ≤ ((0) + ((1) * ρ 2 + ((-1) * ρ 4 + 0))) := hF _ (List.mem_of_getElem? (i := 3) rfl)
  have f4 : (0 : Int) ≤ ((0) + ((-1) * ρ 5 + 0)) := hF _ (List.mem_of_getElem? (i := 4) rfl)
  have f5 : (0 : Int) ≤ ((0) + ((1) * ρ 5 + 0)) := hF _ (List.mem_of_getElem? (i := 5) rfl)
  have g0 : G (ρ 0).toNat = 14 := by
    have q := (hG _ (List.mem_of_getElem? (i := 0) rfl)).2
    rwa [show ev ρ (0, [(0, 1)]) = ρ 0 from ev_v] at q
  have g1 : G (ρ 1).toNat = 17 := by
    have q := (hG _ (List.mem_of_getElem? (i := 1) rfl)).2
    rwa [show ev ρ (0, [(1, 1)]) = ρ 1 from ev_v] at q
  have h1 : (0 : Int) ≤ ρ 2 ∧ ρ 2 ≤ 1200 := hf_rg hT (hH _ (List.mem_of_getElem? (i := 1) rfl)) ev_v g1 rfl rfl rfl ev_v
  have h2 : (0 : Int) ≤ ρ 3 ∧ ρ 3 ≤ 1200 := hf_rg hT (hH _ (List.mem_of_getElem? (i := 2) rfl)) ev_v g1 rfl rfl rfl ev_v
  have h3 : (0 : Int) ≤ ρ 4 ∧ ρ 4 ≤ 1200 := hf_rg hT (hH _ (List.mem_of_getElem? (i := 3) rfl)) ev_v g1 rfl rfl rfl ev_v
  have p0 : q155 (tB (vw C h)) (ρ 2 + 2048 * ρ 4) (ρ 5) := c2 (P := q155 (tB (vw C h))) (show q155 (tB (vw C h)) (((0) + ((1) * ρ 2 + ((2048) * ρ 4 + 0)))) (((0) + ((1) * ρ 5 + 0))) from hP _ (List.mem_of_getElem? (i := 0) rfl)) (by omega) (by omega)
  have kk := k155 (n := ρ 2) (s := ρ 4) (by omega) (by omega) (by omega) (by omega) (by omega) p0
  refine ⟨_, List.mem_cons_self, ρ, fun _ _ => rfl, fun q hq => absurd hq List.not_mem_nil, trivial, fun f hf => ?_, fun q hq => absurd hq List.not_mem_nil, fun q hq => absurd hq List.not_mem_nil, fun q hq => absurd hq List.not_mem_nil, fun q hq => ?_⟩
  · exact absurd hf List.not_mem_nil
  · simp only [List.mem_cons, List.not_mem_nil, or_false] at hq
    subst hq
    show q160 (tB (vw C h)) (((247463936) + ((1) * ρ 2 + ((2048) * ρ 4 + 0)))) (((0) + 0))
    refine c2 (P := q160 (tB (vw C h))) (r := ρ 2 + 2048 * ρ 4 + 247463936) (c := (0 : Int)) ?_ (by omega) (by omega)
    show q160 (tB (vw C h)) (ρ 2 + 2048 * ρ 4 + 247463936) ((0 : Int))
    exact o160 (n := ρ 2) (s := ρ 4) (c := 59) (by omega) (by omega) (by omega) (by omega) (by omega) (by omega) (by have q := sg_kno (B := (tB (vw C h))) (n := (ρ 2).toNat) (s := (ρ 4).toNat) (v := 59) (by omega); omega)
/-- noTok -/
theorem lem_592_ok (hU : uqG G C) : lem_592.1.2.1 = [] ∧ lemOK (PRd G C D xs) G rgs lem_592 := by
  refine ⟨rfl, fun ρ h ha hT => ?_⟩
  obtain ⟨-, -, hF, hG, hH, hA, hP⟩ := ha
  have f0 : (0 : Int) ≤ ((0) + ((1) * ρ 2 + 0)) := hF _ (List.mem_of_getElem? (i := 0) rfl)
  have f1 : (0 : Int) ≤ ((1200) + ((-1) * ρ 2 + 0)) := hF _ (List.mem_of_getElem? (i := 1) rfl)
  have f2 : (0 : Int) ≤ ((0) + ((-1) * ρ 2 + ((1) * ρ 4 + 0))) := hF _ (List.mem_of_getElem? (i := 2) rfl)
  have f3 : (0 : Int) ≤ ((0) + ((1) * ρ 2 + ((-1) * ρ 4 + 0))) := hF _ (List.mem_of_getElem? (i := 3) rfl)
  have f4 : (0 : Int) ≤ ((-1) + ((1) * ρ 5 + 0)) := hF _ (List.mem_of_getElem? (i := 4) rfl)
  have g0 : G (ρ 0).toNat = 14 := by
    have q := (hG _ (List.mem_of_getElem? (i := 0) rfl)).2
    rwa [show ev ρ (0, [(0, 1)]) = ρ 0 from ev_v] at q
  have g1 : G (ρ 1).toNat = 17 := by
    have q := (hG _ (List.mem_of_getElem? (i := 1) rfl)).2
    rwa [show ev ρ (0, [(1, 1)]) = ρ 1 from ev_v] at q
  have h1 : (0 : Int) ≤ ρ 2 ∧ ρ 2 ≤ 1200 := hf_rg hT (hH _ (List.mem_of_getElem? (i := 1) rfl)) ev_v g1 rfl rfl rfl ev_v
  have h2 : (0 : Int) ≤ ρ 3 ∧ ρ 3 ≤ 1200 := hf_rg hT (hH _ (List.mem_of_getElem? (i := 2) rfl)) ev_v g1 rfl rfl rfl ev_v
  have h3 : (0 : Int) ≤ ρ 4 ∧ ρ 4 ≤ 1200 := hf_rg hT (hH _ (List.mem_of_getElem? (i := 3) rfl)) ev_v g1 rfl rfl rfl ev_v
  have p0 : q155 (tB (vw C h)) (ρ 2 + 2048 * ρ 4) (ρ 5) := c2 (P := q155 (tB (vw C h))) (show q155 (tB (vw C h)) (((0) + ((1) * ρ 2 + ((2048) * ρ 4 + 0)))) (((0) + ((1) * ρ 5 + 0))) from hP _ (List.mem_of_getElem? (i := 0) rfl)) (by omega) (by omega)
  have kk := k155 (n := ρ 2) (s := ρ 4) (by omega) (by omega) (by omega) (by omega) (by omega) p0
  have k2 := pos_end (B := (tB (vw C h))) (n := (ρ 2).toNat) (s := (ρ 4).toNat) (by omega)
  omega
/-- reg9C -/
theorem lem_593_ok (hU : uqG G C) : lem_593.1.2.1 = [] ∧ lemOK (PRd G C D xs) G rgs lem_593 := by
  refine ⟨rfl, fun ρ h ha hT => ?_⟩
  obtain ⟨-, -, hF, hG, hH, hA, hP⟩ := ha
  have g0 : G (ρ 0).toNat = 14 := by
    have q := (hG _ (List.mem_of_getElem? (i := 0) rfl)).2
    rwa [show ev ρ (0, [(0, 1)]) = ρ 0 from ev_v] at q
  have g1 : G (ρ 1).toNat = 17 := by
    have q := (hG _ (List.mem_of_getElem? (i := 1) rfl)).2
    rwa [show ev ρ (0, [(1, 1)]) = ρ 1 from ev_v] at q
  have h1 : (0 : Int) ≤ ρ 2 ∧ ρ 2 ≤ 1200 := hf_rg hT (hH _ (List.mem_of_getElem? (i := 1) rfl)) ev_v g1 rfl rfl rfl ev_v
  have h2 : (0 : Int) ≤ ρ 3 ∧ ρ 3 ≤ 1200 := hf_rg hT (hH _ (List.mem_of_getElem? (i := 2) rfl)) ev_v g1 rfl rfl rfl ev_v
  refine ⟨_, List.mem_cons_self, ρ, fun _ _ => rfl, fun q hq => absurd hq List.not_mem_nil, trivial, fun f hf => ?_, fun q hq => absurd hq List.not_mem_nil, fun q hq => absurd hq List.not_mem_nil, fun q hq => absurd hq List.not_mem_nil, fun q hq => ?_⟩
  · exact absurd hf List.not_mem_nil
  · simp only [List.mem_cons, List.not_mem_nil, or_false] at hq
    subst hq
    show True
    refine c2 (P := (fun (_ _ : Int) => True)) (r := 0) (r' := 0) (c := 0) (c' := 0) ?_ rfl rfl
    show True
    trivial
/-- progC -/
theorem lem_594_ok (hU : uqG G C) : lem_594.1.2.1 = [] ∧ lemOK (PRd G C D xs) G rgs lem_594 := by
  refine ⟨rfl, fun ρ h ha hT => ?_⟩
  obtain ⟨-, -, hF, hG, hH, hA, hP⟩ := ha
  have f0 : (0 : Int) ≤ ((0) + ((1) * ρ 2 + 0)) := hF _ (List.mem_of_getElem? (i := 0) rfl)
  have f1 : (0 : Int) ≤ ((1200) + ((-1) * ρ 2 + 0)) := hF _ (List.mem_of_getElem? (i := 1) rfl)
  have f2 : (0 : Int) ≤ ((0) + ((1) * ρ 3 + 0)) := hF _ (List.mem_of_getElem? (i := 2) rfl)
  have f3 : (0 : Int) ≤ ((0) + ((1) * ρ 2 + ((-1) * ρ 3 + 0))) := hF _ (List.mem_of_getElem? (i := 3) rfl)
  have f4 : (0 : Int) ≤ ((-1) + ((1) * ρ 4 + ((-1) * ρ 5 + 0))) := hF _ (List.mem_of_getElem? (i := 4) rfl)
  have f5 : (0 : Int) ≤ ((0) + ((1) * ρ 5 + 0)) := hF _ (List.mem_of_getElem? (i := 5) rfl)
  have g0 : G (ρ 0).toNat = 14 := by
    have q := (hG _ (List.mem_of_getElem? (i := 0) rfl)).2
    rwa [show ev ρ (0, [(0, 1)]) = ρ 0 from ev_v] at q
  have g1 : G (ρ 1).toNat = 17 := by
    have q := (hG _ (List.mem_of_getElem? (i := 1) rfl)).2
    rwa [show ev ρ (0, [(1, 1)]) = ρ 1 from ev_v] at q
  have h1 : (0 : Int) ≤ ρ 2 ∧ ρ 2 ≤ 1200 := hf_rg hT (hH _ (List.mem_of_getElem? (i := 1) rfl)) ev_v g1 rfl rfl rfl ev_v
  have h2 : (0 : Int) ≤ ρ 3 ∧ ρ 3 ≤ 1200 := hf_rg hT (hH _ (List.mem_of_getElem? (i := 2) rfl)) ev_v g1 rfl rfl rfl ev_v
  have p0 : q158 (tB (vw C h)) (ρ 2 + 2048 * ρ 3) (ρ 4) := c2 (P := q158 (tB (vw C h))) (show q158 (tB (vw C h)) (((0) + ((1) * ρ 2 + ((2048) * ρ 3 + 0)))) (((0) + ((1) * ρ 4 + 0))) from hP _ (List.mem_of_getElem? (i := 0) rfl)) (by omega) (by omega)
  have p1 : True := c2 (P := (fun (_ _ : Int) => True)) (r := 0) (r' := 0) (c := 0) (c' := 0) (show True from hP _ (List.mem_of_getElem? (i := 1) rfl)) rfl rfl
  have nx := k158 (n := ρ 2) (s := ρ 4) (t := ρ 3) (by omega) (by omega) (by omega) (by omega) (by omega) (by omega) p0
  have q := nx_ge (B := (tB (vw C h))) (n := (ρ 2).toNat) (s := (ρ 4).toNat)
  refine ⟨_, List.mem_cons_self, ρ, fun _ _ => rfl, fun q hq => absurd hq List.not_mem_nil, trivial, fun f hf => ?_, fun q hq => absurd hq List.not_mem_nil, fun q hq => absurd hq List.not_mem_nil, fun q hq => absurd hq List.not_mem_nil, fun q hq => ?_⟩
  · simp only [List.mem_cons, List.not_mem_nil, or_false] at hf
    subst hf
    show (0 : Int) ≤ ((-1) + ((1) * ρ 3 + ((-1) * ρ 5 + 0)))
    omega
  · exact absurd hq List.not_mem_nil
/-- reg9M -/
theorem lem_595_ok (hU : uqG G C) : lem_595.1.2.1 = [] ∧ lemOK (PRd G C D xs) G rgs lem_595 := by
  refine ⟨rfl, fun ρ h ha hT => ?_⟩
  obtain ⟨-, -, hF, hG, hH, hA, hP⟩ := ha
  have g0 : G (ρ 0).toNat = 22 := by
    have q := (hG _ (List.mem_of_getElem? (i := 0) rfl)).2
    rwa [show ev ρ (0, [(0, 1)]) = ρ 0 from ev_v] at q
  have h0 : (0 : Int) ≤ ρ 1 ∧ ρ 1 ≤ 1200 := hf_rg hT (hH _ (List.mem_of_getElem? (i := 0) rfl)) ev_v g0 rfl rfl rfl ev_v
  have h1 : (0 : Int) ≤ ρ 2 ∧ ρ 2 ≤ 1200 := hf_rg hT (hH _ (List.mem_of_getElem? (i := 1) rfl)) ev_v g0 rfl rfl rfl ev_v
  refine ⟨_, List.mem_cons_self, ρ, fun _ _ => rfl, fun q hq => absurd hq List.not_mem_nil, trivial, fun f hf => ?_, fun q hq => absurd hq List.not_mem_nil, fun q hq => absurd hq List.not_mem_nil, fun q hq => absurd hq List.not_mem_nil, fun q hq => ?_⟩
  · exact absurd hf List.not_mem_nil
  · simp only [List.mem_cons, List.not_mem_nil, or_false] at hq
    subst hq
    show True
    refine c2 (P := (fun (_ _ : Int) => True)) (r := 0) (r' := 0) (c := 0) (c' := 0) ?_ rfl rfl
    show True
    trivial
/-- progM -/
theorem lem_596_ok (hU : uqG G C) : lem_596.1.2.1 = [] ∧ lemOK (PRd G C D xs) G rgs lem_596 := by
  refine ⟨rfl, fun ρ h ha hT => ?_⟩
  obtain ⟨-, -, hF, hG, hH, hA, hP⟩ := ha
  have f0 : (0 : Int) ≤ ((0) + ((1) * ρ 1 + 0)) := hF _ (List.mem_of_getElem? (i := 0) rfl)
  have f1 : (0 : Int) ≤ ((1200) + ((-1) * ρ 1 + 0)) := hF _ (List.mem_of_getElem? (i := 1) rfl)
  have f2 : (0 : Int) ≤ ((0) + ((1) * ρ 2 + 0)) := hF _ (List.mem_of_getElem? (i := 2) rfl)
  have f3 : (0 : Int) ≤ ((0) + ((1) * ρ 1 + ((-1) * ρ 2 + 0))) := hF _ (List.mem_of_getElem? (i := 3) rfl)
  have f4 : (0 : Int) ≤ ((-1) + ((1) * ρ 3 + ((-1) * ρ 4 + 0))) := hF _ (List.mem_of_getElem? (i := 4) rfl)
  have f5 : (0 : Int) ≤ ((0) + ((1) * ρ 4 + 0)) := hF _ (List.mem_of_getElem? (i := 5) rfl)
  have g0 : G (ρ 0).toNat = 22 := by
    have q := (hG _ (List.mem_of_getElem? (i := 0) rfl)).2
    rwa [show ev ρ (0, [(0, 1)]) = ρ 0 from ev_v] at q
  have h0 : (0 : Int) ≤ ρ 1 ∧ ρ 1 ≤ 1200 := hf_rg hT (hH _ (List.mem_of_getElem? (i := 0) rfl)) ev_v g0 rfl rfl rfl ev_v
  have h1 : (0 : Int) ≤ ρ 2 ∧ ρ 2 ≤ 1200 := hf_rg hT (hH _ (List.mem_of_getElem? (i := 1) rfl)) ev_v g0 rfl rfl rfl ev_v
  have p0 : q158 (tB (vw C h)) (ρ 1 + 2048 * ρ 2) (ρ 3) := c2 (P := q158 (tB (vw C h))) (show q158 (tB (vw C h)) (((0) + ((1) * ρ 1 + ((2048) * ρ 2 + 0)))) (((0) + ((1) * ρ 3 + 0))) from hP _ (List.mem_of_getElem? (i := 0) rfl)) (by omega) (by omega)
  have p1 : True := c2 (P := (fun (_ _ : Int) => True)) (r := 0) (r' := 0) (c := 0) (c' := 0) (show True from hP _ (List.mem_of_getElem? (i := 1) rfl)) rfl rfl
  have nx := k158 (n := ρ 1) (s := ρ 3) (t := ρ 2) (by omega) (by omega) (by omega) (by omega) (by omega) (by omega) p0
  have q := nx_ge (B := (tB (vw C h))) (n := (ρ 1).toNat) (s := (ρ 3).toNat)
  refine ⟨_, List.mem_cons_self, ρ, fun _ _ => rfl, fun q hq => absurd hq List.not_mem_nil, trivial, fun f hf => ?_, fun q hq => absurd hq List.not_mem_nil, fun q hq => absurd hq List.not_mem_nil, fun q hq => absurd hq List.not_mem_nil, fun q hq => ?_⟩
  · simp only [List.mem_cons, List.not_mem_nil, or_false] at hf
    subst hf
    show (0 : Int) ≤ ((-1) + ((1) * ρ 2 + ((-1) * ρ 4 + 0)))
    omega
  · exact absurd hq List.not_mem_nil
/-- cnt0M -/
theorem lem_597_ok (hU : uqG G C) : lem_597.1.2.1 = [] ∧ lemOK (PRd G C D xs) G rgs lem_597 := by
  refine ⟨rfl, fun ρ h ha hT => ?_⟩
  obtain ⟨-, -, hF, hG, hH, hA, hP⟩ := ha
  have f0 : (0 : Int) ≤ ((0) + ((1) * ρ 1 + 0)) := hF _ (List.mem_of_getElem? (i := 0) rfl)
  have f1 : (0 : Int) ≤ ((1200) + ((-1) * ρ 1 + 0)) := hF _ (List.mem_of_getElem? (i := 1) rfl)
  have f2 : (0 : Int) ≤ ((0) + ((1) * ρ 2 + 0)) := hF _ (List.mem_of_getElem? (i := 2) rfl)
  have f3 : (0 : Int) ≤ ((0) + ((1) * ρ 1 + ((-1) * ρ 2 + 0))) := hF _ (List.mem_of_getElem? (i := 3) rfl)
  have f4 : (0 : Int) ≤ ((0) + ((-1) * ρ 4 + 0)) := hF _ (List.mem_of_getElem? (i := 4) rfl)
  have f5 : (0 : Int) ≤ ((0) + ((1) * ρ 4 + 0)) := hF _ (List.mem_of_getElem? (i := 5) rfl)
  have f6 : (0 : Int) ≤ ((0) + ((-1) * ρ 5 + 0)) := hF _ (List.mem_of_getElem? (i := 6) rfl)
  have f7 : (0 : Int) ≤ ((0) + ((1) * ρ 5 + 0)) := hF _ (List.mem_of_getElem? (i := 7) rfl)
  have f8 : (0 : Int) ≤ ((0) + ((-1) * ρ 6 + 0)) := hF _ (List.mem_of_getElem? (i := 8) rfl)
  have f9 : (0 : Int) ≤ ((0) + ((1) * ρ 6 + 0)) := hF _ (List.mem_of_getElem? (i := 9) rfl)
  have g0 : G (ρ 0).toNat = 22 := by
    have q := (hG _ (List.mem_of_getElem? (i := 0) rfl)).2
    rwa [show ev ρ (0, [(0, 1)]) = ρ 0 from ev_v] at q
  have g1 : G (ρ 3).toNat = 124 := by
    have q := (hG _ (List.mem_of_getElem? (i := 1) rfl)).2
    rwa [show ev ρ (0, [(3, 1)]) = ρ 3 from ev_v] at q
  have h0 : (0 : Int) ≤ ρ 1 ∧ ρ 1 ≤ 1200 := hf_rg hT (hH _ (List.mem_of_getElem? (i := 0) rfl)) ev_v g0 rfl rfl rfl ev_v
  have h1 : (0 : Int) ≤ ρ 2 ∧ ρ 2 ≤ 1200 := hf_rg hT (hH _ (List.mem_of_getElem? (i := 1) rfl)) ev_v g0 rfl rfl rfl ev_v
  have b0 : (0 : Int) ≤ ((6) + 0) := b_aA (hA _ (List.mem_of_getElem? (i := 0) rfl))
  have b1 : (0 : Int) ≤ ((7) + 0) := b_aA (hA _ (List.mem_of_getElem? (i := 1) rfl))
  have b2 : (0 : Int) ≤ ((50) + 0) := b_aA (hA _ (List.mem_of_getElem? (i := 2) rfl))
  have a0 : vw C h 124 (6) = ρ 4 := vw_aA hU (hA _ (List.mem_of_getElem? (i := 0) rfl)) ev_v g1 (by omega) (by omega) (i := 6) (show (((6 : Nat)) : Int) = ((6) + 0) by omega) ev_v
  have a1 : vw C h 124 (7) = ρ 5 := vw_aA hU (hA _ (List.mem_of_getElem? (i := 1) rfl)) ev_v g1 (by omega) (by omega) (i := 7) (show (((7 : Nat)) : Int) = ((7) + 0) by omega) ev_v
  have a2 : vw C h 124 (50) = ρ 6 := vw_aA hU (hA _ (List.mem_of_getElem? (i := 2) rfl)) ev_v g1 (by omega) (by omega) (i := 50) (show (((50 : Nat)) : Int) = ((50) + 0) by omega) ev_v
  have p0 : (qRC 15 (tB (vw C h))) (ρ 1 + 2048 * ρ 2) (ρ 7) := c2 (P := (qRC 15 (tB (vw C h)))) (show (qRC 15 (tB (vw C h))) (((0) + ((1) * ρ 1 + ((2048) * ρ 2 + 0)))) (((0) + ((1) * ρ 7 + 0))) from hP _ (List.mem_of_getElem? (i := 0) rfl)) (by omega) (by omega)
  refine ⟨_, List.mem_cons_self, ρ, fun _ _ => rfl, fun q hq => absurd hq List.not_mem_nil, trivial, fun f hf => ?_, fun q hq => absurd hq List.not_mem_nil, fun q hq => absurd hq List.not_mem_nil, fun q hq => absurd hq List.not_mem_nil, fun q hq => ?_⟩
  · exact absurd hf List.not_mem_nil
  · simp only [List.mem_cons, List.not_mem_nil, or_false] at hq
    rcases hq with rfl | rfl
    · show (qRC 15 (tB (vw C h))) (((0) + ((1) * ρ 1 + ((2048) * ρ 2 + ((4398046511104) * ρ 4 + ((35184372088832) * ρ 5 + ((4503599627370496) * ρ 6 + 0))))))) (((0) + ((1) * ρ 7 + 0)))
      refine c2 (P := (qRC 15 (tB (vw C h)))) (r := ρ 1 + 2048 * ρ 2 + 4398046511104 * ρ 4 + 35184372088832 * ρ 5 + 4503599627370496 * ρ 6) (c := ρ 7) ?_ (by omega) (by omega)
      show (qRC 15 (tB (vw C h))) (ρ 1 + 2048 * ρ 2 + 4398046511104 * ρ 4 + 35184372088832 * ρ 5 + 4503599627370496 * ρ 6) (ρ 7)
      exact c2 (P := (qRC 15 (tB (vw C h)))) p0 (by omega) (by omega)
    · show P183 (vw C h) (((0) + ((1) * ρ 5 + 0))) (((0) + 0))
      refine c2 (P := P183 (vw C h)) (r := ρ 5) (c := (0 : Int)) ?_ (by omega) (by omega)
      show P183 (vw C h) (ρ 5) ((0 : Int))
      exact Or.inl ⟨by omega, by omega⟩
/-- zeroCnt -/
theorem lem_598_ok (hU : uqG G C) : lem_598.1.2.1 = [] ∧ lemOK (PRd G C D xs) G rgs lem_598 := by
  refine ⟨rfl, fun ρ h ha hT => ?_⟩
  obtain ⟨-, -, hF, hG, hH, hA, hP⟩ := ha
  have g0 : G (ρ 0).toNat = 22 := by
    have q := (hG _ (List.mem_of_getElem? (i := 0) rfl)).2
    rwa [show ev ρ (0, [(0, 1)]) = ρ 0 from ev_v] at q
  have g1 : G (ρ 1).toNat = 124 := by
    have q := (hG _ (List.mem_of_getElem? (i := 1) rfl)).2
    rwa [show ev ρ (0, [(1, 1)]) = ρ 1 from ev_v] at q
  have b0 : (0 : Int) ≤ ((6) + 0) := b_aA (hA _ (List.mem_of_getElem? (i := 0) rfl))
  have b1 : (0 : Int) ≤ ((7) + 0) := b_aA (hA _ (List.mem_of_getElem? (i := 1) rfl))
  have b2 : (0 : Int) ≤ ((50) + 0) := b_aA (hA _ (List.mem_of_getElem? (i := 2) rfl))
  have a0 : vw C h 124 (6) = ρ 2 := vw_aA hU (hA _ (List.mem_of_getElem? (i := 0) rfl)) ev_v g1 (by omega) (by omega) (i := 6) (show (((6 : Nat)) : Int) = ((6) + 0) by omega) ev_v
  have a1 : vw C h 124 (7) = ρ 3 := vw_aA hU (hA _ (List.mem_of_getElem? (i := 1) rfl)) ev_v g1 (by omega) (by omega) (i := 7) (show (((7 : Nat)) : Int) = ((7) + 0) by omega) ev_v
  have a2 : vw C h 124 (50) = ρ 4 := vw_aA hU (hA _ (List.mem_of_getElem? (i := 2) rfl)) ev_v g1 (by omega) (by omega) (i := 50) (show (((50 : Nat)) : Int) = ((50) + 0) by omega) ev_v
  have p0 : P47 (vw C h) ((55) + 0) := hP _ (List.mem_of_getElem? (i := 0) rfl)
  have q0 := p0 6 (by omega) (by omega)
  have q1 := p0 7 (by omega) (by omega)
  have q2 := p0 50 (by omega) (by omega)
  refine ⟨_, List.mem_cons_self, ρ, fun _ _ => rfl, fun q hq => absurd hq List.not_mem_nil, trivial, fun f hf => ?_, fun q hq => absurd hq List.not_mem_nil, fun q hq => absurd hq List.not_mem_nil, fun q hq => absurd hq List.not_mem_nil, fun q hq => ?_⟩
  · simp only [List.mem_cons, List.not_mem_nil, or_false] at hf
    rcases hf with rfl | rfl | rfl | rfl | rfl | rfl
    · show (0 : Int) ≤ ((0) + ((-1) * ρ 2 + 0))
      omega
    · show (0 : Int) ≤ ((0) + ((1) * ρ 2 + 0))
      omega
    · show (0 : Int) ≤ ((0) + ((-1) * ρ 3 + 0))
      omega
    · show (0 : Int) ≤ ((0) + ((1) * ρ 3 + 0))
      omega
    · show (0 : Int) ≤ ((0) + ((-1) * ρ 4 + 0))
      omega
    · show (0 : Int) ≤ ((0) + ((1) * ρ 4 + 0))
      omega
  · simp only [List.mem_cons, List.not_mem_nil, or_false] at hq
    subst hq
    show P190 (vw C h) (((0) + 0))
    refine c2 (P := (fun r (_ : Int) => P190 (vw C h) r)) (c := 0) (c' := 0) (r := (0 : Int)) ?_ (by omega) rfl
    show P190 (vw C h) ((0 : Int))
    exact fun j _ h2 => p0 (24 + j) (by omega) (by omega)
/-- slzM -/
theorem lem_599_ok (hU : uqG G C) : lem_599.1.2.1 = [] ∧ lemOK (PRd G C D xs) G rgs lem_599 := by
  refine ⟨rfl, fun ρ h ha hT => ?_⟩
  obtain ⟨-, -, hF, hG, hH, hA, hP⟩ := ha
  have f0 : (0 : Int) ≤ ((0) + ((1) * ρ 1 + 0)) := hF _ (List.mem_of_getElem? (i := 0) rfl)
  have f1 : (0 : Int) ≤ ((7) + ((-1) * ρ 1 + 0)) := hF _ (List.mem_of_getElem? (i := 1) rfl)
  have g0 : G (ρ 0).toNat = 22 := by
    have q := (hG _ (List.mem_of_getElem? (i := 0) rfl)).2
    rwa [show ev ρ (0, [(0, 1)]) = ρ 0 from ev_v] at q
  have g1 : G (ρ 2).toNat = 124 := by
    have q := (hG _ (List.mem_of_getElem? (i := 1) rfl)).2
    rwa [show ev ρ (0, [(2, 1)]) = ρ 2 from ev_v] at q
  have p0 : P190 (vw C h) (ρ 1) := c2 (P := (fun r (_ : Int) => P190 (vw C h) r)) (c := 0) (c' := 0) (show P190 (vw C h) (((0) + ((1) * ρ 1 + 0))) from hP _ (List.mem_of_getElem? (i := 0) rfl)) (by omega) rfl
  refine ⟨_, List.mem_cons_self, ρ, fun _ _ => rfl, fun q hq => absurd hq List.not_mem_nil, trivial, fun f hf => ?_, fun q hq => absurd hq List.not_mem_nil, fun q hq => absurd hq List.not_mem_nil, fun q hq => absurd hq List.not_mem_nil, fun q hq => ?_⟩
  · exact absurd hf List.not_mem_nil
  · simp only [List.mem_cons, List.not_mem_nil, or_false] at hq
    rcases hq with rfl | rfl
    · show P183 (vw C h) (((1) + ((1) * ρ 1 + 0))) (((0) + 0))
      refine c2 (P := P183 (vw C h)) (r := ρ 1 + 1) (c := (0 : Int)) ?_ (by omega) (by omega)
      show P183 (vw C h) (ρ 1 + 1) ((0 : Int))
      refine Or.inr ⟨by omega, by omega, ?_⟩
      have q := p0 (ρ 1).toNat (by omega) (by omega)
      rw [← q]
      congr 1
      omega
    · show P190 (vw C h) (((1) + ((1) * ρ 1 + 0)))
      refine c2 (P := (fun r (_ : Int) => P190 (vw C h) r)) (c := 0) (c' := 0) (r := ρ 1 + 1) ?_ (by omega) rfl
      show P190 (vw C h) (ρ 1 + 1)
      exact fun j h1 h2 => p0 j (by omega) h2
/-- noTokLoM -/
theorem lem_600_ok (hU : uqG G C) : lem_600.1.2.1 = [] ∧ lemOK (PRd G C D xs) G rgs lem_600 := by
  refine ⟨rfl, fun ρ h ha hT => ?_⟩
  obtain ⟨-, -, hF, hG, hH, hA, hP⟩ := ha
  have f0 : (0 : Int) ≤ ((0) + ((1) * ρ 1 + 0)) := hF _ (List.mem_of_getElem? (i := 0) rfl)
  have f1 : (0 : Int) ≤ ((1200) + ((-1) * ρ 1 + 0)) := hF _ (List.mem_of_getElem? (i := 1) rfl)
  have f2 : (0 : Int) ≤ ((0) + ((-1) * ρ 1 + ((1) * ρ 2 + 0))) := hF _ (List.mem_of_getElem? (i := 2) rfl)
  have f3 : (0 : Int) ≤ ((0) + ((1) * ρ 1 + ((-1) * ρ 2 + 0))) := hF _ (List.mem_of_getElem? (i := 3) rfl)
  have f4 : (0 : Int) ≤ ((0) + ((-1) * ρ 3 + 0)) := hF _ (List.mem_of_getElem? (i := 4) rfl)
  have g0 : G (ρ 0).toNat = 22 := by
    have q := (hG _ (List.mem_of_getElem? (i := 0) rfl)).2
    rwa [show ev ρ (0, [(0, 1)]) = ρ 0 from ev_v] at q
  have h0 : (0 : Int) ≤ ρ 1 ∧ ρ 1 ≤ 1200 := hf_rg hT (hH _ (List.mem_of_getElem? (i := 0) rfl)) ev_v g0 rfl rfl rfl ev_v
  have h1 : (0 : Int) ≤ ρ 2 ∧ ρ 2 ≤ 1200 := hf_rg hT (hH _ (List.mem_of_getElem? (i := 1) rfl)) ev_v g0 rfl rfl rfl ev_v
  have p0 : q180 (tB (vw C h)) (ρ 1 + 2048 * ρ 2) (ρ 3) := c2 (P := q180 (tB (vw C h))) (show q180 (tB (vw C h)) (((0) + ((1) * ρ 1 + ((2048) * ρ 2 + 0)))) (((0) + ((1) * ρ 3 + 0))) from hP _ (List.mem_of_getElem? (i := 0) rfl)) (by omega) (by omega)
  obtain ⟨kk, kx⟩ := k180 (n := ρ 1) (s := ρ 2) (by omega) (by omega) (by omega) (by omega) (by omega) p0
  have k2 := pos_end (B := (tB (vw C h))) (n := (ρ 1).toNat) (s := (ρ 2).toNat) (by omega)
  omega
/-- noTokHiM -/
theorem lem_601_ok (hU : uqG G C) : lem_601.1.2.1 = [] ∧ lemOK (PRd G C D xs) G rgs lem_601 := by
  refine ⟨rfl, fun ρ h ha hT => ?_⟩
  obtain ⟨-, -, hF, hG, hH, hA, hP⟩ := ha
  have f0 : (0 : Int) ≤ ((0) + ((1) * ρ 1 + 0)) := hF _ (List.mem_of_getElem? (i := 0) rfl)
  have f1 : (0 : Int) ≤ ((1200) + ((-1) * ρ 1 + 0)) := hF _ (List.mem_of_getElem? (i := 1) rfl)
  have f2 : (0 : Int) ≤ ((0) + ((-1) * ρ 1 + ((1) * ρ 2 + 0))) := hF _ (List.mem_of_getElem? (i := 2) rfl)
  have f3 : (0 : Int) ≤ ((0) + ((1) * ρ 1 + ((-1) * ρ 2 + 0))) := hF _ (List.mem_of_getElem? (i := 3) rfl)
  have f4 : (0 : Int) ≤ ((-2) + ((1) * ρ 3 + 0)) := hF _ (List.mem_of_getElem? (i := 4) rfl)
  have g0 : G (ρ 0).toNat = 22 := by
    have q := (hG _ (List.mem_of_getElem? (i := 0) rfl)).2
    rwa [show ev ρ (0, [(0, 1)]) = ρ 0 from ev_v] at q
  have h0 : (0 : Int) ≤ ρ 1 ∧ ρ 1 ≤ 1200 := hf_rg hT (hH _ (List.mem_of_getElem? (i := 0) rfl)) ev_v g0 rfl rfl rfl ev_v
  have h1 : (0 : Int) ≤ ρ 2 ∧ ρ 2 ≤ 1200 := hf_rg hT (hH _ (List.mem_of_getElem? (i := 1) rfl)) ev_v g0 rfl rfl rfl ev_v
  have p0 : q180 (tB (vw C h)) (ρ 1 + 2048 * ρ 2) (ρ 3) := c2 (P := q180 (tB (vw C h))) (show q180 (tB (vw C h)) (((0) + ((1) * ρ 1 + ((2048) * ρ 2 + 0)))) (((0) + ((1) * ρ 3 + 0))) from hP _ (List.mem_of_getElem? (i := 0) rfl)) (by omega) (by omega)
  obtain ⟨kk, kx⟩ := k180 (n := ρ 1) (s := ρ 2) (by omega) (by omega) (by omega) (by omega) (by omega) p0
  have k2 := pos_end (B := (tB (vw C h))) (n := (ρ 1).toNat) (s := (ρ 2).toNat) (by omega)
  omega
/-- pv0M -/
theorem lem_602_ok (hU : uqG G C) : lem_602.1.2.1 = [] ∧ lemOK (PRd G C D xs) G rgs lem_602 := by
  refine ⟨rfl, fun ρ h ha hT => ?_⟩
  obtain ⟨-, -, hF, hG, hH, hA, hP⟩ := ha
  have f0 : (0 : Int) ≤ ((0) + ((1) * ρ 1 + 0)) := hF _ (List.mem_of_getElem? (i := 0) rfl)
  have f1 : (0 : Int) ≤ ((1200) + ((-1) * ρ 1 + 0)) := hF _ (List.mem_of_getElem? (i := 1) rfl)
  have g0 : G (ρ 0).toNat = 22 := by
    have q := (hG _ (List.mem_of_getElem? (i := 0) rfl)).2
    rwa [show ev ρ (0, [(0, 1)]) = ρ 0 from ev_v] at q
  have h0 : (0 : Int) ≤ ρ 1 ∧ ρ 1 ≤ 1200 := hf_rg hT (hH _ (List.mem_of_getElem? (i := 0) rfl)) ev_v g0 rfl rfl rfl ev_v
  refine ⟨_, List.mem_cons_self, ρ, fun _ _ => rfl, fun q hq => absurd hq List.not_mem_nil, trivial, fun f hf => ?_, fun q hq => absurd hq List.not_mem_nil, fun q hq => absurd hq List.not_mem_nil, fun q hq => absurd hq List.not_mem_nil, fun q hq => ?_⟩
  · exact absurd hf List.not_mem_nil
  · simp only [List.mem_cons, List.not_mem_nil, or_false] at hq
    subst hq
    show q156 (tB (vw C h)) (((0) + ((1) * ρ 1 + 0))) (((-1) + 0))
    refine c2 (P := q156 (tB (vw C h))) (r := ρ 1) (c := ((-1) : Int)) ?_ (by omega) (by omega)
    show q156 (tB (vw C h)) (ρ 1) (((-1) : Int))
    exact Or.inl ⟨by omega, by unfold ts; omega⟩
/-- stuM -/
theorem lem_603_ok (hU : uqG G C) : lem_603.1.2.1 = [] ∧ lemOK (PRd G C D xs) G rgs lem_603 := by
  refine ⟨rfl, fun ρ h ha hT => ?_⟩
  obtain ⟨-, -, hF, hG, hH, hA, hP⟩ := ha
  have g0 : G (ρ 0).toNat = 22 := by
    have q := (hG _ (List.mem_of_getElem? (i := 0) rfl)).2
    rwa [show ev ρ (0, [(0, 1)]) = ρ 0 from ev_v] at q
  have h0 : (0 : Int) ≤ ρ 1 ∧ ρ 1 ≤ 10 := hf_rg hT (hH _ (List.mem_of_getElem? (i := 0) rfl)) ev_v g0 rfl rfl rfl ev_v
  have p0 : q167 (2 * ρ 1 + 1) (ρ 2) := c2 (P := q167) (show q167 (((1) + ((2) * ρ 1 + 0))) (((0) + ((1) * ρ 2 + 0))) from hP _ (List.mem_of_getElem? (i := 0) rfl)) (by omega) (by omega)
  refine ⟨_, List.mem_cons_self, ρ, fun _ _ => rfl, fun q hq => absurd hq List.not_mem_nil, trivial, fun f hf => ?_, fun q hq => absurd hq List.not_mem_nil, fun q hq => absurd hq List.not_mem_nil, fun q hq => absurd hq List.not_mem_nil, fun q hq => ?_⟩
  · exact absurd hf List.not_mem_nil
  · simp only [List.mem_cons, List.not_mem_nil, or_false] at hq
    subst hq
    show q167 (((0) + ((2) * ρ 1 + 0))) (((0) + ((1) * ρ 2 + 0)))
    refine c2 (P := q167) (r := 2 * ρ 1) (c := ρ 2) ?_ (by omega) (by omega)
    show q167 (2 * ρ 1) (ρ 2)
    exact q167_dn p0 (by omega) (by omega)
/-- depM -/
theorem lem_604_ok (hU : uqG G C) : lem_604.1.2.1 = [] ∧ lemOK (PRd G C D xs) G rgs lem_604 := by
  refine ⟨rfl, fun ρ h ha hT => ?_⟩
  obtain ⟨-, -, hF, hG, hH, hA, hP⟩ := ha
  have g0 : G (ρ 0).toNat = 22 := by
    have q := (hG _ (List.mem_of_getElem? (i := 0) rfl)).2
    rwa [show ev ρ (0, [(0, 1)]) = ρ 0 from ev_v] at q
  have h0 : (0 : Int) ≤ ρ 1 ∧ ρ 1 ≤ 10 := hf_rg hT (hH _ (List.mem_of_getElem? (i := 0) rfl)) ev_v g0 rfl rfl rfl ev_v
  have p0 : ((12) + ((-1) * ρ 1 + 0)) ≤ (D : Int) := hP _ (List.mem_of_getElem? (i := 0) rfl)
  refine ⟨_, List.mem_cons_self, ρ, fun _ _ => rfl, fun q hq => absurd hq List.not_mem_nil, trivial, fun f hf => ?_, fun q hq => absurd hq List.not_mem_nil, fun q hq => absurd hq List.not_mem_nil, fun q hq => absurd hq List.not_mem_nil, fun q hq => ?_⟩
  · exact absurd hf List.not_mem_nil
  · simp only [List.mem_cons, List.not_mem_nil, or_false] at hq
    subst hq
    show ((11) + ((-1) * ρ 1 + 0)) + 1 ≤ (D : Int)
    omega
/-- noWdM -/
theorem lem_605_ok (hU : uqG G C) : lem_605.1.2.1 = [] ∧ lemOK (PRd G C D xs) G rgs lem_605 := by
  refine ⟨rfl, fun ρ h ha hT => ?_⟩
  obtain ⟨-, -, hF, hG, hH, hA, hP⟩ := ha
  have f0 : (0 : Int) ≤ ((0) + ((1) * ρ 2 + 0)) := hF _ (List.mem_of_getElem? (i := 0) rfl)
  have f1 : (0 : Int) ≤ ((1200) + ((-1) * ρ 2 + 0)) := hF _ (List.mem_of_getElem? (i := 1) rfl)
  have f2 : (0 : Int) ≤ ((0) + ((1) * ρ 3 + 0)) := hF _ (List.mem_of_getElem? (i := 2) rfl)
  have f3 : (0 : Int) ≤ ((0) + ((1) * ρ 2 + ((-1) * ρ 3 + 0))) := hF _ (List.mem_of_getElem? (i := 3) rfl)
  have f4 : (0 : Int) ≤ ((0) + ((1) * ρ 1 + 0)) := hF _ (List.mem_of_getElem? (i := 4) rfl)
  have g0 : G (ρ 0).toNat = 22 := by
    have q := (hG _ (List.mem_of_getElem? (i := 0) rfl)).2
    rwa [show ev ρ (0, [(0, 1)]) = ρ 0 from ev_v] at q
  have h0 : (0 : Int) ≤ ρ 2 ∧ ρ 2 ≤ 1200 := hf_rg hT (hH _ (List.mem_of_getElem? (i := 0) rfl)) ev_v g0 rfl rfl rfl ev_v
  have h1 : (0 : Int) ≤ ρ 3 ∧ ρ 3 ≤ 1200 := hf_rg hT (hH _ (List.mem_of_getElem? (i := 1) rfl)) ev_v g0 rfl rfl rfl ev_v
  have p0 : q159 (tB (vw C h)) (4194304 * ρ 1 + ρ 2 + 2048 * ρ 3) ((0 : Int)) := c2 (P := q159 (tB (vw C h))) (show q159 (tB (vw C h)) (((0) + ((4194304) * ρ 1 + ((1) * ρ 2 + ((2048) * ρ 3 + 0))))) (((0) + 0)) from hP _ (List.mem_of_getElem? (i := 0) rfl)) (by omega) (by omega)
  have p1 : q159 (tB (vw C h)) (4194304 * ρ 1 + ρ 2 + 2048 * ρ 3) ((1 : Int)) := c2 (P := q159 (tB (vw C h))) (show q159 (tB (vw C h)) (((0) + ((4194304) * ρ 1 + ((1) * ρ 2 + ((2048) * ρ 3 + 0))))) (((1) + 0)) from hP _ (List.mem_of_getElem? (i := 1) rfl)) (by omega) (by omega)
  have q1 := k159 (n := ρ 2) (s := ρ 3) (w := ρ 1) (by omega) (by omega) (by omega) (by omega) (by omega) (by omega) p0
  have q2 := k159 (n := ρ 2) (s := ρ 3) (w := ρ 1) (by omega) (by omega) (by omega) (by omega) (by omega) (by omega) p1
  omega
/-- bufPart -/
theorem lem_606_ok (hU : uqG G C) : lem_606.1.2.1 = [] ∧ lemOK (PRd G C D xs) G rgs lem_606 := by
  refine ⟨rfl, fun ρ h ha hT => ?_⟩
  obtain ⟨-, -, hF, hG, hH, hA, hP⟩ := ha
  have f0 : (0 : Int) ≤ ((0) + ((-1) * ρ 1 + ((1) * ρ 2 + 0))) := hF _ (List.mem_of_getElem? (i := 0) rfl)
  have g0 : G (ρ 0).toNat = 22 := by
    have q := (hG _ (List.mem_of_getElem? (i := 0) rfl)).2
    rwa [show ev ρ (0, [(0, 1)]) = ρ 0 from ev_v] at q
  have h0 : (0 : Int) ≤ ρ 2 ∧ ρ 2 ≤ 1200 := hf_rg hT (hH _ (List.mem_of_getElem? (i := 0) rfl)) ev_v g0 rfl rfl rfl ev_v
  have p0 : P170 (vw C h) (ρ 2) := c2 (P := (fun r (_ : Int) => P170 (vw C h) r)) (c := 0) (c' := 0) (show P170 (vw C h) (((0) + ((1) * ρ 2 + 0))) from hP _ (List.mem_of_getElem? (i := 0) rfl)) (by omega) rfl
  refine ⟨_, List.mem_cons_self, ρ, fun _ _ => rfl, fun q hq => absurd hq List.not_mem_nil, trivial, fun f hf => ?_, fun q hq => absurd hq List.not_mem_nil, fun q hq => absurd hq List.not_mem_nil, fun q hq => absurd hq List.not_mem_nil, fun q hq => ?_⟩
  · exact absurd hf List.not_mem_nil
  · simp only [List.mem_cons, List.not_mem_nil, or_false] at hq
    subst hq
    show P170 (vw C h) (((0) + ((1) * ρ 1 + 0)))
    refine c2 (P := (fun r (_ : Int) => P170 (vw C h) r)) (c := 0) (c' := 0) (r := ρ 1) ?_ (by omega) rfl
    show P170 (vw C h) (ρ 1)
    exact fun i h1 h2 => p0 i (by omega) h2
/-- planMc -/
theorem lem_607_ok (hU : uqG G C) : lem_607.1.2.1 = [] ∧ lemOK (PRd G C D xs) G rgs lem_607 := by
  refine ⟨rfl, fun ρ h ha hT => ?_⟩
  obtain ⟨-, -, hF, hG, hH, hA, hP⟩ := ha
  have g0 : G (ρ 0).toNat = 22 := by
    have q := (hG _ (List.mem_of_getElem? (i := 0) rfl)).2
    rwa [show ev ρ (0, [(0, 1)]) = ρ 0 from ev_v] at q
  have g1 : G (ρ 1).toNat = 123 := by
    have q := (hG _ (List.mem_of_getElem? (i := 1) rfl)).2
    rwa [show ev ρ (0, [(1, 1)]) = ρ 1 from ev_v] at q
  have g2 : G (ρ 2).toNat = 124 := by
    have q := (hG _ (List.mem_of_getElem? (i := 2) rfl)).2
    rwa [show ev ρ (0, [(2, 1)]) = ρ 2 from ev_v] at q
  have b0 : (0 : Int) ≤ ((7) + 0) := b_aA (hA _ (List.mem_of_getElem? (i := 0) rfl))
  have b1 : (0 : Int) ≤ ((7) + 0) := b_aA (hA _ (List.mem_of_getElem? (i := 1) rfl))
  have a0 : vw C h 123 (7) = ρ 3 := vw_aA hU (hA _ (List.mem_of_getElem? (i := 0) rfl)) ev_v g1 (by omega) (by omega) (i := 7) (show (((7 : Nat)) : Int) = ((7) + 0) by omega) ev_v
  have a1 : vw C h 124 (7) = ρ 4 := vw_aA hU (hA _ (List.mem_of_getElem? (i := 1) rfl)) ev_v g2 (by omega) (by omega) (i := 7) (show (((7 : Nat)) : Int) = ((7) + 0) by omega) ev_v
  have p0 : P46 (vw C h) ((55) + 0) := hP _ (List.mem_of_getElem? (i := 0) rfl)
  have q := p0 7 (by omega) (by omega)
  refine ⟨_, List.mem_cons_self, ρ, fun _ _ => rfl, fun q hq => absurd hq List.not_mem_nil, trivial, fun f hf => ?_, fun q hq => absurd hq List.not_mem_nil, fun q hq => absurd hq List.not_mem_nil, fun q hq => absurd hq List.not_mem_nil, fun q hq => ?_⟩
  · simp only [List.mem_cons, List.not_mem_nil, or_false] at hf
    rcases hf with rfl | rfl
    · show (0 : Int) ≤ ((0) + ((-1) * ρ 3 + ((1) * ρ 4 + 0)))
      omega
    · show (0 : Int) ≤ ((0) + ((1) * ρ 3 + ((-1) * ρ 4 + 0)))
      omega
  · exact absurd hq List.not_mem_nil
/-- word4C -/
theorem lem_608_ok (hU : uqG G C) : lem_608.1.2.1 = [] ∧ lemOK (PRd G C D xs) G rgs lem_608 := by
  refine ⟨rfl, fun ρ h ha hT => ?_⟩
  obtain ⟨-, -, hF, hG, hH, hA, hP⟩ := ha
  have f0 : (0 : Int) ≤ ((-4) + ((1) * ρ 2 + 0)) := hF _ (List.mem_of_getElem? (i := 0) rfl)
  have f1 : (0 : Int) ≤ ((1200) + ((-1) * ρ 2 + 0)) := hF _ (List.mem_of_getElem? (i := 1) rfl)
  have f2 : (0 : Int) ≤ ((0) + ((-64) * ρ 11 + ((1) * ρ 12 + 0))) := hF _ (List.mem_of_getElem? (i := 2) rfl)
  have f3 : (0 : Int) ≤ ((4) + ((64) * ρ 11 + ((-1) * ρ 12 + 0))) := hF _ (List.mem_of_getElem? (i := 3) rfl)
  have f4 : (0 : Int) ≤ ((0) + ((1) * ρ 11 + 0)) := hF _ (List.mem_of_getElem? (i := 4) rfl)
  have g0 : G (ρ 0).toNat = 21 := by
    have q := (hG _ (List.mem_of_getElem? (i := 0) rfl)).2
    rwa [show ev ρ (0, [(0, 1)]) = ρ 0 from ev_v] at q
  have g1 : G (ρ 3).toNat = 100 := by
    have q := (hG _ (List.mem_of_getElem? (i := 1) rfl)).2
    rwa [show ev ρ (0, [(3, 1)]) = ρ 3 from ev_v] at q
  have h0 : (0 : Int) ≤ ρ 2 ∧ ρ 2 ≤ 1200 := hf_rg hT (hH _ (List.mem_of_getElem? (i := 0) rfl)) ev_v g0 rfl rfl rfl ev_v
  have b0 : (0 : Int) ≤ ((-4) + ((1) * ρ 2 + 0)) := b_aA (hA _ (List.mem_of_getElem? (i := 0) rfl))
  have b1 : (0 : Int) ≤ ((-3) + ((1) * ρ 2 + 0)) := b_aA (hA _ (List.mem_of_getElem? (i := 1) rfl))
  have b2 : (0 : Int) ≤ ((-2) + ((1) * ρ 2 + 0)) := b_aA (hA _ (List.mem_of_getElem? (i := 2) rfl))
  have b3 : (0 : Int) ≤ ((-1) + ((1) * ρ 2 + 0)) := b_aA (hA _ (List.mem_of_getElem? (i := 3) rfl))
  have a0 : vw C h 100 ((ρ 2 + (-4)).toNat) = ρ 4 := vw_aA hU (hA _ (List.mem_of_getElem? (i := 0) rfl)) ev_v g1 (by omega) (by omega) (i := (ρ 2 + (-4)).toNat) (show ((((ρ 2 + (-4)).toNat : Nat)) : Int) = ((-4) + ((1) * ρ 2 + 0)) by omega) ev_v
  have a1 : vw C h 100 ((ρ 2 + (-3)).toNat) = ρ 5 := vw_aA hU (hA _ (List.mem_of_getElem? (i := 1) rfl)) ev_v g1 (by omega) (by omega) (i := (ρ 2 + (-3)).toNat) (show ((((ρ 2 + (-3)).toNat : Nat)) : Int) = ((-3) + ((1) * ρ 2 + 0)) by omega) ev_v
  have a2 : vw C h 100 ((ρ 2 + (-2)).toNat) = ρ 6 := vw_aA hU (hA _ (List.mem_of_getElem? (i := 2) rfl)) ev_v g1 (by omega) (by omega) (i := (ρ 2 + (-2)).toNat) (show ((((ρ 2 + (-2)).toNat : Nat)) : Int) = ((-2) + ((1) * ρ 2 + 0)) by omega) ev_v
  have a3 : vw C h 100 ((ρ 2 + (-1)).toNat) = ρ 7 := vw_aA hU (hA _ (List.mem_of_getElem? (i := 3) rfl)) ev_v g1 (by omega) (by omega) (i := (ρ 2 + (-1)).toNat) (show ((((ρ 2 + (-1)).toNat : Nat)) : Int) = ((-1) + ((1) * ρ 2 + 0)) by omega) ev_v
  have p0 : q169 (ρ 1 + 26388279066624) (ρ 8) := c2 (P := q169) (show q169 (((26388279066624) + ((1) * ρ 1 + 0))) (((0) + ((1) * ρ 8 + 0))) from hP _ (List.mem_of_getElem? (i := 0) rfl)) (by omega) (by omega)
  have p1 : q169 (ρ 1 + 17592186044416) (ρ 9) := c2 (P := q169) (show q169 (((17592186044416) + ((1) * ρ 1 + 0))) (((0) + ((1) * ρ 9 + 0))) from hP _ (List.mem_of_getElem? (i := 1) rfl)) (by omega) (by omega)
  have p2 : q169 (ρ 1 + 8796093022208) (ρ 10) := c2 (P := q169) (show q169 (((8796093022208) + ((1) * ρ 1 + 0))) (((0) + ((1) * ρ 10 + 0))) from hP _ (List.mem_of_getElem? (i := 2) rfl)) (by omega) (by omega)
  have p3 : (ρ 4) = (ρ 8).bmod 256 := c2 (P := (fun r c => c = r.bmod 256)) (show (((0) + ((1) * ρ 4 + 0))) = (((0) + ((1) * ρ 8 + 0))).bmod 256 from hP _ (List.mem_of_getElem? (i := 3) rfl)) (by omega) (by omega)
  have p4 : (ρ 5) = (ρ 9).bmod 256 := c2 (P := (fun r c => c = r.bmod 256)) (show (((0) + ((1) * ρ 5 + 0))) = (((0) + ((1) * ρ 9 + 0))).bmod 256 from hP _ (List.mem_of_getElem? (i := 4) rfl)) (by omega) (by omega)
  have p5 : (ρ 6) = (ρ 10).bmod 256 := c2 (P := (fun r c => c = r.bmod 256)) (show (((0) + ((1) * ρ 6 + 0))) = (((0) + ((1) * ρ 10 + 0))).bmod 256 from hP _ (List.mem_of_getElem? (i := 5) rfl)) (by omega) (by omega)
  have p6 : (ρ 7) = (ρ 1).bmod 256 := c2 (P := (fun r c => c = r.bmod 256)) (show (((0) + ((1) * ρ 7 + 0))) = (((0) + ((1) * ρ 1 + 0))).bmod 256 from hP _ (List.mem_of_getElem? (i := 6) rfl)) (by omega) (by omega)
  have p7 : ((0) + ((1) * ρ 1 + 0)) = (xs (((0) + ((1) * ρ 11 + 0))).toNat).toInt := hP _ (List.mem_of_getElem? (i := 7) rfl)
  have p8 : P194 xs (vw C h) (ρ 2 + (-4)) (ρ 12) := c2 (P := P194 xs (vw C h)) (show P194 xs (vw C h) (((-4) + ((1) * ρ 2 + 0))) (((0) + ((1) * ρ 12 + 0))) from hP _ (List.mem_of_getElem? (i := 8) rfl)) (by omega) (by omega)
  refine ⟨_, List.mem_cons_self, ρ, fun _ _ => rfl, fun q hq => absurd hq List.not_mem_nil, trivial, fun f hf => ?_, fun q hq => absurd hq List.not_mem_nil, fun q hq => absurd hq List.not_mem_nil, fun q hq => absurd hq List.not_mem_nil, fun q hq => ?_⟩
  · exact absurd hf List.not_mem_nil
  · simp only [List.mem_cons, List.not_mem_nil, or_false] at hq
    subst hq
    show P194 xs (vw C h) (((0) + ((1) * ρ 2 + 0))) (((65) + ((1) * ρ 12 + 0)))
    refine c2 (P := P194 xs (vw C h)) (r := ρ 2) (c := ρ 12 + 65) ?_ (by omega) (by omega)
    show P194 xs (vw C h) (ρ 2) (ρ 12 + 65)
    exact wd4C (xs := xs) (e := ρ 2) (ix := ρ 11) (x := ρ 1) (c2 (P := P194 xs (vw C h)) p8 (by omega) rfl) (by omega) (by omega) (by omega) (by omega) (by omega) (by omega) (c2 (P := fun r c => c = (xs r.toNat).toInt) p7 (by omega) (by omega)) (by rw [show (ρ 2 - 4).toNat = (ρ 2 + (-4)).toNat by omega]; exact a0) (by rw [show (ρ 2 - 3).toNat = (ρ 2 + (-3)).toNat by omega]; exact a1) (by rw [show (ρ 2 - 2).toNat = (ρ 2 + (-2)).toNat by omega]; exact a2) (by rw [show (ρ 2 - 1).toNat = (ρ 2 + (-1)).toNat by omega]; exact a3) (c2 (P := q169) p0 (by omega) rfl) (c2 (P := q169) p1 (by omega) rfl) (c2 (P := q169) p2 (by omega) rfl) p3 p4 p5 p6
/-- word0C -/
theorem lem_609_ok (hU : uqG G C) : lem_609.1.2.1 = [] ∧ lemOK (PRd G C D xs) G rgs lem_609 := by
  refine ⟨rfl, fun ρ h ha hT => ?_⟩
  obtain ⟨-, -, hF, hG, hH, hA, hP⟩ := ha
  have f0 : (0 : Int) ≤ ((0) + ((1) * ρ 2 + 0)) := hF _ (List.mem_of_getElem? (i := 0) rfl)
  have f1 : (0 : Int) ≤ ((1200) + ((-1) * ρ 2 + 0)) := hF _ (List.mem_of_getElem? (i := 1) rfl)
  have g0 : G (ρ 0).toNat = 21 := by
    have q := (hG _ (List.mem_of_getElem? (i := 0) rfl)).2
    rwa [show ev ρ (0, [(0, 1)]) = ρ 0 from ev_v] at q
  have h0 : (0 : Int) ≤ ρ 2 ∧ ρ 2 ≤ 1200 := hf_rg hT (hH _ (List.mem_of_getElem? (i := 0) rfl)) ev_v g0 rfl rfl rfl ev_v
  have p0 : ((0) + ((1) * ρ 1 + 0)) = (xs (((0) + ((1) * ρ 3 + 0))).toNat).toInt := hP _ (List.mem_of_getElem? (i := 0) rfl)
  refine ⟨_, List.mem_cons_self, ρ, fun _ _ => rfl, fun q hq => absurd hq List.not_mem_nil, trivial, fun f hf => ?_, fun q hq => absurd hq List.not_mem_nil, fun q hq => absurd hq List.not_mem_nil, fun q hq => absurd hq List.not_mem_nil, fun q hq => ?_⟩
  · exact absurd hf List.not_mem_nil
  · simp only [List.mem_cons, List.not_mem_nil, or_false] at hq
    subst hq
    show P194 xs (vw C h) (((0) + ((1) * ρ 2 + 0))) (((0) + ((64) * ρ 3 + 0)))
    refine c2 (P := P194 xs (vw C h)) (r := ρ 2) (c := 64 * ρ 3) ?_ (by omega) (by omega)
    show P194 xs (vw C h) (ρ 2) (64 * ρ 3)
    exact ⟨by omega, fun k hk => by omega⟩
/-- word4M -/
theorem lem_610_ok (hU : uqG G C) : lem_610.1.2.1 = [] ∧ lemOK (PRd G C D xs) G rgs lem_610 := by
  refine ⟨rfl, fun ρ h ha hT => ?_⟩
  obtain ⟨-, -, hF, hG, hH, hA, hP⟩ := ha
  have f0 : (0 : Int) ≤ ((-4) + ((1) * ρ 2 + 0)) := hF _ (List.mem_of_getElem? (i := 0) rfl)
  have f1 : (0 : Int) ≤ ((1200) + ((-1) * ρ 2 + 0)) := hF _ (List.mem_of_getElem? (i := 1) rfl)
  have f2 : (0 : Int) ≤ ((0) + ((-64) * ρ 11 + ((1) * ρ 12 + 0))) := hF _ (List.mem_of_getElem? (i := 2) rfl)
  have f3 : (0 : Int) ≤ ((4) + ((64) * ρ 11 + ((-1) * ρ 12 + 0))) := hF _ (List.mem_of_getElem? (i := 3) rfl)
  have f4 : (0 : Int) ≤ ((0) + ((1) * ρ 11 + 0)) := hF _ (List.mem_of_getElem? (i := 4) rfl)
  have g0 : G (ρ 0).toNat = 22 := by
    have q := (hG _ (List.mem_of_getElem? (i := 0) rfl)).2
    rwa [show ev ρ (0, [(0, 1)]) = ρ 0 from ev_v] at q
  have g1 : G (ρ 3).toNat = 125 := by
    have q := (hG _ (List.mem_of_getElem? (i := 1) rfl)).2
    rwa [show ev ρ (0, [(3, 1)]) = ρ 3 from ev_v] at q
  have h0 : (0 : Int) ≤ ρ 2 ∧ ρ 2 ≤ 1200 := hf_rg hT (hH _ (List.mem_of_getElem? (i := 0) rfl)) ev_v g0 rfl rfl rfl ev_v
  have b0 : (0 : Int) ≤ ((-4) + ((1) * ρ 2 + 0)) := b_aA (hA _ (List.mem_of_getElem? (i := 0) rfl))
  have b1 : (0 : Int) ≤ ((-3) + ((1) * ρ 2 + 0)) := b_aA (hA _ (List.mem_of_getElem? (i := 1) rfl))
  have b2 : (0 : Int) ≤ ((-2) + ((1) * ρ 2 + 0)) := b_aA (hA _ (List.mem_of_getElem? (i := 2) rfl))
  have b3 : (0 : Int) ≤ ((-1) + ((1) * ρ 2 + 0)) := b_aA (hA _ (List.mem_of_getElem? (i := 3) rfl))
  have a0 : vw C h 125 ((ρ 2 + (-4)).toNat) = ρ 4 := vw_aA hU (hA _ (List.mem_of_getElem? (i := 0) rfl)) ev_v g1 (by omega) (by omega) (i := (ρ 2 + (-4)).toNat) (show ((((ρ 2 + (-4)).toNat : Nat)) : Int) = ((-4) + ((1) * ρ 2 + 0)) by omega) ev_v
  have a1 : vw C h 125 ((ρ 2 + (-3)).toNat) = ρ 5 := vw_aA hU (hA _ (List.mem_of_getElem? (i := 1) rfl)) ev_v g1 (by omega) (by omega) (i := (ρ 2 + (-3)).toNat) (show ((((ρ 2 + (-3)).toNat : Nat)) : Int) = ((-3) + ((1) * ρ 2 + 0)) by omega) ev_v
  have a2 : vw C h 125 ((ρ 2 + (-2)).toNat) = ρ 6 := vw_aA hU (hA _ (List.mem_of_getElem? (i := 2) rfl)) ev_v g1 (by omega) (by omega) (i := (ρ 2 + (-2)).toNat) (show ((((ρ 2 + (-2)).toNat : Nat)) : Int) = ((-2) + ((1) * ρ 2 + 0)) by omega) ev_v
  have a3 : vw C h 125 ((ρ 2 + (-1)).toNat) = ρ 7 := vw_aA hU (hA _ (List.mem_of_getElem? (i := 3) rfl)) ev_v g1 (by omega) (by omega) (i := (ρ 2 + (-1)).toNat) (show ((((ρ 2 + (-1)).toNat : Nat)) : Int) = ((-1) + ((1) * ρ 2 + 0)) by omega) ev_v
  have p0 : q169 (ρ 1 + 26388279066624) (ρ 8) := c2 (P := q169) (show q169 (((26388279066624) + ((1) * ρ 1 + 0))) (((0) + ((1) * ρ 8 + 0))) from hP _ (List.mem_of_getElem? (i := 0) rfl)) (by omega) (by omega)
  have p1 : q169 (ρ 1 + 17592186044416) (ρ 9) := c2 (P := q169) (show q169 (((17592186044416) + ((1) * ρ 1 + 0))) (((0) + ((1) * ρ 9 + 0))) from hP _ (List.mem_of_getElem? (i := 1) rfl)) (by omega) (by omega)
  have p2 : q169 (ρ 1 + 8796093022208) (ρ 10) := c2 (P := q169) (show q169 (((8796093022208) + ((1) * ρ 1 + 0))) (((0) + ((1) * ρ 10 + 0))) from hP _ (List.mem_of_getElem? (i := 2) rfl)) (by omega) (by omega)
  have p3 : (ρ 4) = (ρ 8) % 256 := c2 (P := (fun r c => c = r % 256)) (show (((0) + ((1) * ρ 4 + 0))) = (((0) + ((1) * ρ 8 + 0))) % 256 from hP _ (List.mem_of_getElem? (i := 3) rfl)) (by omega) (by omega)
  have p4 : (ρ 5) = (ρ 9) % 256 := c2 (P := (fun r c => c = r % 256)) (show (((0) + ((1) * ρ 5 + 0))) = (((0) + ((1) * ρ 9 + 0))) % 256 from hP _ (List.mem_of_getElem? (i := 4) rfl)) (by omega) (by omega)
  have p5 : (ρ 6) = (ρ 10) % 256 := c2 (P := (fun r c => c = r % 256)) (show (((0) + ((1) * ρ 6 + 0))) = (((0) + ((1) * ρ 10 + 0))) % 256 from hP _ (List.mem_of_getElem? (i := 5) rfl)) (by omega) (by omega)
  have p6 : (ρ 7) = (ρ 1) % 256 := c2 (P := (fun r c => c = r % 256)) (show (((0) + ((1) * ρ 7 + 0))) = (((0) + ((1) * ρ 1 + 0))) % 256 from hP _ (List.mem_of_getElem? (i := 6) rfl)) (by omega) (by omega)
  have p7 : ((0) + ((1) * ρ 1 + 0)) = (xs (((0) + ((1) * ρ 11 + 0))).toNat).toInt := hP _ (List.mem_of_getElem? (i := 7) rfl)
  have p8 : P195 xs (vw C h) (ρ 2 + (-4)) (ρ 12) := c2 (P := P195 xs (vw C h)) (show P195 xs (vw C h) (((-4) + ((1) * ρ 2 + 0))) (((0) + ((1) * ρ 12 + 0))) from hP _ (List.mem_of_getElem? (i := 8) rfl)) (by omega) (by omega)
  refine ⟨_, List.mem_cons_self, ρ, fun _ _ => rfl, fun q hq => absurd hq List.not_mem_nil, trivial, fun f hf => ?_, fun q hq => absurd hq List.not_mem_nil, fun q hq => absurd hq List.not_mem_nil, fun q hq => absurd hq List.not_mem_nil, fun q hq => ?_⟩
  · exact absurd hf List.not_mem_nil
  · simp only [List.mem_cons, List.not_mem_nil, or_false] at hq
    subst hq
    show P195 xs (vw C h) (((0) + ((1) * ρ 2 + 0))) (((65) + ((1) * ρ 12 + 0)))
    refine c2 (P := P195 xs (vw C h)) (r := ρ 2) (c := ρ 12 + 65) ?_ (by omega) (by omega)
    show P195 xs (vw C h) (ρ 2) (ρ 12 + 65)
    exact wd4M (xs := xs) (e := ρ 2) (ix := ρ 11) (x := ρ 1) (c2 (P := P195 xs (vw C h)) p8 (by omega) rfl) (by omega) (by omega) (by omega) (by omega) (by omega) (by omega) (c2 (P := fun r c => c = (xs r.toNat).toInt) p7 (by omega) (by omega)) (by rw [show (ρ 2 - 4).toNat = (ρ 2 + (-4)).toNat by omega]; exact a0) (by rw [show (ρ 2 - 3).toNat = (ρ 2 + (-3)).toNat by omega]; exact a1) (by rw [show (ρ 2 - 2).toNat = (ρ 2 + (-2)).toNat by omega]; exact a2) (by rw [show (ρ 2 - 1).toNat = (ρ 2 + (-1)).toNat by omega]; exact a3) (c2 (P := q169) p0 (by omega) rfl) (c2 (P := q169) p1 (by omega) rfl) (c2 (P := q169) p2 (by omega) rfl) p3 p4 p5 p6
/-- word0M -/
theorem lem_611_ok (hU : uqG G C) : lem_611.1.2.1 = [] ∧ lemOK (PRd G C D xs) G rgs lem_611 := by
  refine ⟨rfl, fun ρ h ha hT => ?_⟩
  obtain ⟨-, -, hF, hG, hH, hA, hP⟩ := ha
  have f0 : (0 : Int) ≤ ((0) + ((1) * ρ 2 + 0)) := hF _ (List.mem_of_getElem? (i := 0) rfl)
  have f1 : (0 : Int) ≤ ((1200) + ((-1) * ρ 2 + 0)) := hF _ (List.mem_of_getElem? (i := 1) rfl)
  have g0 : G (ρ 0).toNat = 22 := by
    have q := (hG _ (List.mem_of_getElem? (i := 0) rfl)).2
    rwa [show ev ρ (0, [(0, 1)]) = ρ 0 from ev_v] at q
  have h0 : (0 : Int) ≤ ρ 2 ∧ ρ 2 ≤ 1200 := hf_rg hT (hH _ (List.mem_of_getElem? (i := 0) rfl)) ev_v g0 rfl rfl rfl ev_v
  have p0 : ((0) + ((1) * ρ 1 + 0)) = (xs (((0) + ((1) * ρ 3 + 0))).toNat).toInt := hP _ (List.mem_of_getElem? (i := 0) rfl)
  refine ⟨_, List.mem_cons_self, ρ, fun _ _ => rfl, fun q hq => absurd hq List.not_mem_nil, trivial, fun f hf => ?_, fun q hq => absurd hq List.not_mem_nil, fun q hq => absurd hq List.not_mem_nil, fun q hq => absurd hq List.not_mem_nil, fun q hq => ?_⟩
  · exact absurd hf List.not_mem_nil
  · simp only [List.mem_cons, List.not_mem_nil, or_false] at hq
    subst hq
    show P195 xs (vw C h) (((0) + ((1) * ρ 2 + 0))) (((0) + ((64) * ρ 3 + 0)))
    refine c2 (P := P195 xs (vw C h)) (r := ρ 2) (c := 64 * ρ 3) ?_ (by omega) (by omega)
    show P195 xs (vw C h) (ρ 2) (64 * ρ 3)
    exact ⟨by omega, fun k hk => by omega⟩
/-- eqb20 -/
theorem lem_612_ok (hU : uqG G C) : lem_612.1.2.1 = [] ∧ lemOK (PRd G C D xs) G rgs lem_612 := by
  refine ⟨rfl, fun ρ h ha hT => ?_⟩
  obtain ⟨-, -, hF, hG, hH, hA, hP⟩ := ha
  have f0 : (0 : Int) ≤ ((-20) + ((1) * ρ 2 + 0)) := hF _ (List.mem_of_getElem? (i := 0) rfl)
  have f1 : (0 : Int) ≤ ((1200) + ((-1) * ρ 2 + 0)) := hF _ (List.mem_of_getElem? (i := 1) rfl)
  have f2 : (0 : Int) ≤ ((0) + ((-1) * ρ 2 + ((1) * ρ 3 + 0))) := hF _ (List.mem_of_getElem? (i := 2) rfl)
  have f3 : (0 : Int) ≤ ((0) + ((1) * ρ 2 + ((-1) * ρ 3 + 0))) := hF _ (List.mem_of_getElem? (i := 3) rfl)
  have g0 : G (ρ 0).toNat = 21 := by
    have q := (hG _ (List.mem_of_getElem? (i := 0) rfl)).2
    rwa [show ev ρ (0, [(0, 1)]) = ρ 0 from ev_v] at q
  have g1 : G (ρ 1).toNat = 22 := by
    have q := (hG _ (List.mem_of_getElem? (i := 1) rfl)).2
    rwa [show ev ρ (0, [(1, 1)]) = ρ 1 from ev_v] at q
  have h0 : (0 : Int) ≤ ρ 2 ∧ ρ 2 ≤ 1200 := hf_rg hT (hH _ (List.mem_of_getElem? (i := 0) rfl)) ev_v g0 rfl rfl rfl ev_v
  have h1 : (0 : Int) ≤ ρ 3 ∧ ρ 3 ≤ 1200 := hf_rg hT (hH _ (List.mem_of_getElem? (i := 1) rfl)) ev_v g1 rfl rfl rfl ev_v
  have p0 : P170 (vw C h) (ρ 2 + (-20)) := c2 (P := (fun r (_ : Int) => P170 (vw C h) r)) (c := 0) (c' := 0) (show P170 (vw C h) (((-20) + ((1) * ρ 2 + 0))) from hP _ (List.mem_of_getElem? (i := 0) rfl)) (by omega) rfl
  have p1 : True := c2 (P := (fun (_ _ : Int) => True)) (r := 0) (r' := 0) (c := 0) (c' := 0) (show True from hP _ (List.mem_of_getElem? (i := 1) rfl)) rfl rfl
  have p2 : P194 xs (vw C h) (ρ 2) (64 * ρ 4 + 325) := c2 (P := P194 xs (vw C h)) (show P194 xs (vw C h) (((0) + ((1) * ρ 2 + 0))) (((325) + ((64) * ρ 4 + 0))) from hP _ (List.mem_of_getElem? (i := 2) rfl)) (by omega) (by omega)
  have p3 : P195 xs (vw C h) (ρ 3) (64 * ρ 4 + 325) := c2 (P := P195 xs (vw C h)) (show P195 xs (vw C h) (((0) + ((1) * ρ 3 + 0))) (((325) + ((64) * ρ 4 + 0))) from hP _ (List.mem_of_getElem? (i := 3) rfl)) (by omega) (by omega)
  refine ⟨_, List.mem_cons_self, ρ, fun _ _ => rfl, fun q hq => absurd hq List.not_mem_nil, trivial, fun f hf => ?_, fun q hq => absurd hq List.not_mem_nil, fun q hq => absurd hq List.not_mem_nil, fun q hq => absurd hq List.not_mem_nil, fun q hq => ?_⟩
  · exact absurd hf List.not_mem_nil
  · simp only [List.mem_cons, List.not_mem_nil, or_false] at hq
    subst hq
    show P170 (vw C h) (((0) + ((1) * ρ 3 + 0)))
    refine c2 (P := (fun r (_ : Int) => P170 (vw C h) r)) (c := 0) (c' := 0) (r := ρ 3) ?_ (by omega) rfl
    show P170 (vw C h) (ρ 3)
    exact eqb20_ok (e := ρ 2) (d := ρ 3) (ix := ρ 4) (c2 (P := (fun r (_ : Int) => P170 (vw C h) r)) (c := 0) (c' := 0) p0 (by omega) rfl) p2 p3 (by omega) (by omega) (by omega) (by omega)
/-- regX -/
theorem lem_613_ok (hU : uqG G C) : lem_613.1.2.1 = [] ∧ lemOK (PRd G C D xs) G rgs lem_613 := by
  refine ⟨rfl, fun ρ h ha hT => ?_⟩
  obtain ⟨-, -, hF, hG, hH, hA, hP⟩ := ha
  have p0 : ((0) + ((1) * ρ 0 + 0)) = (xs (((0) + ((1) * ρ 1 + 0))).toNat).toInt := hP _ (List.mem_of_getElem? (i := 0) rfl)
  refine ⟨_, List.mem_cons_self, ρ, fun _ _ => rfl, fun q hq => absurd hq List.not_mem_nil, trivial, fun f hf => ?_, fun q hq => absurd hq List.not_mem_nil, fun q hq => absurd hq List.not_mem_nil, fun q hq => absurd hq List.not_mem_nil, fun q hq => ?_⟩
  · exact absurd hf List.not_mem_nil
  · simp only [List.mem_cons, List.not_mem_nil, or_false] at hq
    subst hq
    show True
    refine c2 (P := (fun (_ _ : Int) => True)) (r := 0) (r' := 0) (c := 0) (c' := 0) ?_ rfl rfl
    show True
    trivial
/-- regN -/
theorem lem_614_ok (hU : uqG G C) : lem_614.1.2.1 = [] ∧ lemOK (PRd G C D xs) G rgs lem_614 := by
  refine ⟨rfl, fun ρ h ha hT => ?_⟩
  obtain ⟨-, -, hF, hG, hH, hA, hP⟩ := ha
  refine ⟨_, List.mem_cons_self, ρ, fun _ _ => rfl, fun q hq => absurd hq List.not_mem_nil, trivial, fun f hf => ?_, fun q hq => absurd hq List.not_mem_nil, fun q hq => absurd hq List.not_mem_nil, fun q hq => absurd hq List.not_mem_nil, fun q hq => ?_⟩
  · exact absurd hf List.not_mem_nil
  · simp only [List.mem_cons, List.not_mem_nil, or_false] at hq
    subst hq
    show True
    refine c2 (P := (fun (_ _ : Int) => True)) (r := 0) (r' := 0) (c := 0) (c' := 0) ?_ rfl rfl
    show True
    trivial
/-- lawErr -/
theorem lem_615_ok (hU : uqG G C) : lem_615.1.2.1 = [] ∧ lemOK (PRd G C D xs) G rgs lem_615 := by
  refine ⟨rfl, fun ρ h ha hT => ?_⟩
  obtain ⟨-, -, hF, hG, hH, hA, hP⟩ := ha
  have f0 : (0 : Int) ≤ ((-1) + ((1) * ρ 5 + 0)) := hF _ (List.mem_of_getElem? (i := 0) rfl)
  have f1 : (0 : Int) ≤ ((6) + ((-1) * ρ 5 + 0)) := hF _ (List.mem_of_getElem? (i := 1) rfl)
  have f2 : (0 : Int) ≤ ((0) + ((1) * ρ 6 + 0)) := hF _ (List.mem_of_getElem? (i := 2) rfl)
  have f3 : (0 : Int) ≤ ((1200) + ((-1) * ρ 6 + 0)) := hF _ (List.mem_of_getElem? (i := 3) rfl)
  have g0 : G (ρ 0).toNat = 21 := by
    have q := (hG _ (List.mem_of_getElem? (i := 0) rfl)).2
    rwa [show ev ρ (0, [(0, 1)]) = ρ 0 from ev_v] at q
  have g1 : G (ρ 2).toNat = 14 := by
    have q := (hG _ (List.mem_of_getElem? (i := 1) rfl)).2
    rwa [show ev ρ (0, [(2, 1)]) = ρ 2 from ev_v] at q
  have g2 : G (ρ 1).toNat = 22 := by
    have q := (hG _ (List.mem_of_getElem? (i := 2) rfl)).2
    rwa [show ev ρ (0, [(1, 1)]) = ρ 1 from ev_v] at q
  have h3 : (0 : Int) ≤ ρ 5 ∧ ρ 5 ≤ 6 := hf_rg hT (hH _ (List.mem_of_getElem? (i := 3) rfl)) ev_v g2 rfl rfl rfl ev_v
  have p0 : True := c2 (P := (fun (_ _ : Int) => True)) (r := 0) (r' := 0) (c := 0) (c' := 0) (show True from hP _ (List.mem_of_getElem? (i := 0) rfl)) rfl rfl
  have p1 : q199 C h (ρ 7) := c2 (P := (fun (_ : Int) c => q199 C h c)) (r := 0) (r' := 0) (show q199 C h (((0) + ((1) * ρ 7 + 0))) from hP _ (List.mem_of_getElem? (i := 1) rfl)) rfl (by omega)
  have p2 : q166 (tB (vw C h)) (ρ 7) (4096 * ρ 5 + ρ 6) := c2 (P := q166 (tB (vw C h))) (show q166 (tB (vw C h)) (((0) + ((1) * ρ 7 + 0))) (((0) + ((4096) * ρ 5 + ((1) * ρ 6 + 0)))) from hP _ (List.mem_of_getElem? (i := 2) rfl)) (by omega) (by omega)
  have y1 := ob_in hT (hH _ (List.mem_of_getElem? (i := 1) rfl)) ev_v g1 rfl ev_v
  have y2 := ob_in hT (hH _ (List.mem_of_getElem? (i := 2) rfl)) ev_v g1 rfl ev_v
  obtain ⟨o1, o2, o3⟩ := p199 hU g1 y1 y2 p1
  have q := outB_det o1 (show outB (tB (vw C h)) (ρ 7).toNat (4096 * ρ 5 + ρ 6) from p2)
  refine ⟨_, List.mem_cons_self, ρ, fun _ _ => rfl, fun q hq => absurd hq List.not_mem_nil, trivial, fun f hf => ?_, fun q hq => absurd hq List.not_mem_nil, fun q hq => absurd hq List.not_mem_nil, fun q hq => absurd hq List.not_mem_nil, fun q hq => ?_⟩
  · simp only [List.mem_cons, List.not_mem_nil, or_false] at hf
    rcases hf with rfl | rfl | rfl | rfl
    · show (0 : Int) ≤ ((0) + ((-1) * ρ 3 + ((1) * ρ 5 + 0)))
      omega
    · show (0 : Int) ≤ ((0) + ((1) * ρ 3 + ((-1) * ρ 5 + 0)))
      omega
    · show (0 : Int) ≤ ((0) + ((-1) * ρ 4 + ((1) * ρ 6 + 0)))
      omega
    · show (0 : Int) ≤ ((0) + ((1) * ρ 4 + ((-1) * ρ 6 + 0)))
      omega
  · exact absurd hq List.not_mem_nil
/-- lawBad1 -/
theorem lem_616_ok (hU : uqG G C) : lem_616.1.2.1 = [] ∧ lemOK (PRd G C D xs) G rgs lem_616 := by
  refine ⟨rfl, fun ρ h ha hT => ?_⟩
  obtain ⟨-, -, hF, hG, hH, hA, hP⟩ := ha
  have p0 : True := c2 (P := (fun (_ _ : Int) => True)) (r := 0) (r' := 0) (c := 0) (c' := 0) (show True from hP _ (List.mem_of_getElem? (i := 0) rfl)) rfl rfl
  have p1 : q199 C h (ρ 1) := c2 (P := (fun (_ : Int) c => q199 C h c)) (r := 0) (r' := 0) (show q199 C h (((0) + ((1) * ρ 1 + 0))) from hP _ (List.mem_of_getElem? (i := 1) rfl)) rfl (by omega)
  have p2 : q192 (tB (vw C h)) (ρ 1) (ρ 2) := c2 (P := q192 (tB (vw C h))) (show q192 (tB (vw C h)) (((0) + ((1) * ρ 1 + 0))) (((0) + ((1) * ρ 2 + 0))) from hP _ (List.mem_of_getElem? (i := 2) rfl)) (by omega) (by omega)
  obtain ⟨fs, x, y, x1, x2, x3, x4, x5, x6, x7⟩ := p1
  obtain ⟨R, z1, z2⟩ := p2
  have q := outB_det x4 z1
  omega
/-- lawBad2 -/
theorem lem_617_ok (hU : uqG G C) : lem_617.1.2.1 = [] ∧ lemOK (PRd G C D xs) G rgs lem_617 := by
  refine ⟨rfl, fun ρ h ha hT => ?_⟩
  obtain ⟨-, -, hF, hG, hH, hA, hP⟩ := ha
  have f0 : (0 : Int) ≤ ((-1) + ((1) * ρ 1 + 0)) := hF _ (List.mem_of_getElem? (i := 0) rfl)
  have f1 : (0 : Int) ≤ ((0) + ((1) * ρ 2 + 0)) := hF _ (List.mem_of_getElem? (i := 1) rfl)
  have g0 : G (ρ 0).toNat = 22 := by
    have q := (hG _ (List.mem_of_getElem? (i := 0) rfl)).2
    rwa [show ev ρ (0, [(0, 1)]) = ρ 0 from ev_v] at q
  have h0 : (0 : Int) ≤ ρ 1 ∧ ρ 1 ≤ 6 := hf_rg hT (hH _ (List.mem_of_getElem? (i := 0) rfl)) ev_v g0 rfl rfl rfl ev_v
  have p0 : True := c2 (P := (fun (_ _ : Int) => True)) (r := 0) (r' := 0) (c := 0) (c' := 0) (show True from hP _ (List.mem_of_getElem? (i := 0) rfl)) rfl rfl
  have p1 : q192 (tB (vw C h)) (ρ 3) (ρ 4) := c2 (P := q192 (tB (vw C h))) (show q192 (tB (vw C h)) (((0) + ((1) * ρ 3 + 0))) (((0) + ((1) * ρ 4 + 0))) from hP _ (List.mem_of_getElem? (i := 1) rfl)) (by omega) (by omega)
  have p2 : q166 (tB (vw C h)) (ρ 3) (4096 * ρ 1 + ρ 2) := c2 (P := q166 (tB (vw C h))) (show q166 (tB (vw C h)) (((0) + ((1) * ρ 3 + 0))) (((0) + ((4096) * ρ 1 + ((1) * ρ 2 + 0)))) from hP _ (List.mem_of_getElem? (i := 2) rfl)) (by omega) (by omega)
  obtain ⟨R, z1, z2⟩ := p1
  have q := outB_det (show outB (tB (vw C h)) (ρ 3).toNat (4096 * ρ 1 + ρ 2) from p2) z1
  omega
/-- lawOK -/
theorem lem_618_ok (hU : uqG G C) : lem_618.1.2.1 = [] ∧ lemOK (PRd G C D xs) G rgs lem_618 := by
  refine ⟨rfl, fun ρ h ha hT => ?_⟩
  obtain ⟨-, -, hF, hG, hH, hA, hP⟩ := ha
  have p0 : True := c2 (P := (fun (_ _ : Int) => True)) (r := 0) (r' := 0) (c := 0) (c' := 0) (show True from hP _ (List.mem_of_getElem? (i := 0) rfl)) rfl rfl
  have p1 : q192 (tB (vw C h)) (ρ 1) (ρ 2) := c2 (P := q192 (tB (vw C h))) (show q192 (tB (vw C h)) (((0) + ((1) * ρ 1 + 0))) (((0) + ((1) * ρ 2 + 0))) from hP _ (List.mem_of_getElem? (i := 1) rfl)) (by omega) (by omega)
  have p2 : q192 (tB (vw C h)) (ρ 1) (ρ 3) := c2 (P := q192 (tB (vw C h))) (show q192 (tB (vw C h)) (((0) + ((1) * ρ 1 + 0))) (((0) + ((1) * ρ 3 + 0))) from hP _ (List.mem_of_getElem? (i := 2) rfl)) (by omega) (by omega)
  obtain ⟨R, z1, z2⟩ := p1
  obtain ⟨R2, z3, z4⟩ := p2
  have q := outB_det z1 z3
  refine ⟨_, List.mem_cons_self, ρ, fun _ _ => rfl, fun q hq => absurd hq List.not_mem_nil, trivial, fun f hf => ?_, fun q hq => absurd hq List.not_mem_nil, fun q hq => absurd hq List.not_mem_nil, fun q hq => absurd hq List.not_mem_nil, fun q hq => ?_⟩
  · simp only [List.mem_cons, List.not_mem_nil, or_false] at hf
    rcases hf with rfl | rfl
    · show (0 : Int) ≤ ((0) + ((-1) * ρ 2 + ((1) * ρ 3 + 0)))
      omega
    · show (0 : Int) ≤ ((0) + ((1) * ρ 2 + ((-1) * ρ 3 + 0)))
      omega
  · exact absurd hq List.not_mem_nil
/-- eqb0 -/
theorem lem_619_ok (hU : uqG G C) : lem_619.1.2.1 = [] ∧ lemOK (PRd G C D xs) G rgs lem_619 := by
  refine ⟨rfl, fun ρ h ha hT => ?_⟩
  obtain ⟨-, -, hF, hG, hH, hA, hP⟩ := ha
  have f0 : (0 : Int) ≤ ((0) + ((-1) * ρ 1 + 0)) := hF _ (List.mem_of_getElem? (i := 0) rfl)
  have g0 : G (ρ 0).toNat = 22 := by
    have q := (hG _ (List.mem_of_getElem? (i := 0) rfl)).2
    rwa [show ev ρ (0, [(0, 1)]) = ρ 0 from ev_v] at q
  have h0 : (0 : Int) ≤ ρ 1 ∧ ρ 1 ≤ 1200 := hf_rg hT (hH _ (List.mem_of_getElem? (i := 0) rfl)) ev_v g0 rfl rfl rfl ev_v
  refine ⟨_, List.mem_cons_self, ρ, fun _ _ => rfl, fun q hq => absurd hq List.not_mem_nil, trivial, fun f hf => ?_, fun q hq => absurd hq List.not_mem_nil, fun q hq => absurd hq List.not_mem_nil, fun q hq => absurd hq List.not_mem_nil, fun q hq => ?_⟩
  · exact absurd hf List.not_mem_nil
  · simp only [List.mem_cons, List.not_mem_nil, or_false] at hq
    subst hq
    show P170 (vw C h) (((0) + ((1) * ρ 1 + 0)))
    refine c2 (P := (fun r (_ : Int) => P170 (vw C h) r)) (c := 0) (c' := 0) (r := ρ 1) ?_ (by omega) rfl
    show P170 (vw C h) (ρ 1)
    exact fun i h1 h2 => by omega
/-- rbk -/
theorem lem_620_ok (hU : uqG G C) : lem_620.1.2.1 = [] ∧ lemOK (PRd G C D xs) G rgs lem_620 := by
  refine ⟨rfl, fun ρ h ha hT => ?_⟩
  obtain ⟨-, -, hF, hG, hH, hA, hP⟩ := ha
  have g0 : G (ρ 0).toNat = 21 := by
    have q := (hG _ (List.mem_of_getElem? (i := 0) rfl)).2
    rwa [show ev ρ (0, [(0, 1)]) = ρ 0 from ev_v] at q
  have g1 : G (ρ 1).toNat = 11 := by
    have q := (hG _ (List.mem_of_getElem? (i := 1) rfl)).2
    rwa [show ev ρ (0, [(1, 1)]) = ρ 1 from ev_v] at q
  have g2 : G (ρ 2).toNat = 16 := by
    have q := (hG _ (List.mem_of_getElem? (i := 2) rfl)).2
    rwa [show ev ρ (0, [(2, 1)]) = ρ 2 from ev_v] at q
  have p0 : q203 G (rfv h) := c2 (P := (fun (_ _ : Int) => q203 G (rfv h))) (r := 0) (r' := 0) (c := 0) (c' := 0) (show q203 G (rfv h) from hP _ (List.mem_of_getElem? (i := 0) rfl)) rfl rfl
  have cB : 0 ≤ ρ 1 := by
    have q := (hG _ (List.mem_of_getElem? (i := 1) rfl)).1
    rwa [show ev ρ (0, [(1, 1)]) = ρ 1 from ev_v] at q
  have cR : 0 ≤ ρ 2 := by
    have q := (hG _ (List.mem_of_getElem? (i := 2) rfl)).1
    rwa [show ev ρ (0, [(2, 1)]) = ρ 2 from ev_v] at q
  obtain ⟨yf, y1, y2⟩ := ob_rf hT (hH _ (List.mem_of_getElem? (i := 1) rfl)) ev_v g1 rfl ev_v
  have y1 : h[(ρ 1).toNat]? = some (.inr (1, yf)) := y1
  have y2 : yf[10]? = some (.ref (ρ 2).toNat) := y2
  have e := eq_rf ((p0 _ g1).symm.trans (rfv_of y1 y2))
  refine ⟨_, List.mem_cons_self, ρ, fun _ _ => rfl, fun q hq => absurd hq List.not_mem_nil, trivial, fun f hf => ?_, fun q hq => absurd hq List.not_mem_nil, fun q hq => absurd hq List.not_mem_nil, fun q hq => absurd hq List.not_mem_nil, fun q hq => ?_⟩
  · simp only [List.mem_cons, List.not_mem_nil, or_false] at hf
    rcases hf with rfl | rfl
    · show (0 : Int) ≤ ((6) + ((1) * ρ 1 + ((-1) * ρ 2 + 0)))
      omega
    · show (0 : Int) ≤ ((-6) + ((-1) * ρ 1 + ((1) * ρ 2 + 0)))
      omega
  · exact absurd hq List.not_mem_nil
/-- mk204 -/
theorem lem_621_ok (hU : uqG G C) : lem_621.1.2.1 = [] ∧ lemOK (PRd G C D xs) G rgs lem_621 := by
  refine ⟨rfl, fun ρ h ha hT => ?_⟩
  obtain ⟨-, -, hF, hG, hH, hA, hP⟩ := ha
  have f0 : (0 : Int) ≤ ((297) + ((-1) * ρ 1 + ((-1) * ρ 2 + 0))) := hF _ (List.mem_of_getElem? (i := 0) rfl)
  have f1 : (0 : Int) ≤ ((-297) + ((1) * ρ 1 + ((1) * ρ 2 + 0))) := hF _ (List.mem_of_getElem? (i := 1) rfl)
  have f2 : (0 : Int) ≤ ((6) + ((1) * ρ 1 + ((-1) * ρ 4 + 0))) := hF _ (List.mem_of_getElem? (i := 2) rfl)
  have f3 : (0 : Int) ≤ ((-6) + ((-1) * ρ 1 + ((1) * ρ 4 + 0))) := hF _ (List.mem_of_getElem? (i := 3) rfl)
  have g0 : G (ρ 0).toNat = 21 := by
    have q := (hG _ (List.mem_of_getElem? (i := 0) rfl)).2
    rwa [show ev ρ (0, [(0, 1)]) = ρ 0 from ev_v] at q
  have g1 : G (ρ 1).toNat = 11 := by
    have q := (hG _ (List.mem_of_getElem? (i := 1) rfl)).2
    rwa [show ev ρ (0, [(1, 1)]) = ρ 1 from ev_v] at q
  have g2 : G (ρ 2).toNat = 11 := by
    have q := (hG _ (List.mem_of_getElem? (i := 2) rfl)).2
    rwa [show ev ρ (0, [(2, 1)]) = ρ 2 from ev_v] at q
  have g3 : G (ρ 4).toNat = 16 := by
    have q := (hG _ (List.mem_of_getElem? (i := 3) rfl)).2
    rwa [show ev ρ (0, [(4, 1)]) = ρ 4 from ev_v] at q
  have h2 : (0 : Int) ≤ ρ 3 ∧ ρ 3 ≤ 6 := hf_rg hT (hH _ (List.mem_of_getElem? (i := 2) rfl)) ev_v g1 rfl rfl rfl ev_v
  have h4 : (0 : Int) ≤ ρ 5 ∧ ρ 5 ≤ 4 := hf_rg hT (hH _ (List.mem_of_getElem? (i := 4) rfl)) ev_v g3 rfl rfl rfl ev_v
  have cT : 0 ≤ ρ 0 := by
    have q := (hG _ (List.mem_of_getElem? (i := 0) rfl)).1
    rwa [show ev ρ (0, [(0, 1)]) = ρ 0 from ev_v] at q
  have cA : 0 ≤ ρ 1 := by
    have q := (hG _ (List.mem_of_getElem? (i := 1) rfl)).1
    rwa [show ev ρ (0, [(1, 1)]) = ρ 1 from ev_v] at q
  have cB : 0 ≤ ρ 2 := by
    have q := (hG _ (List.mem_of_getElem? (i := 2) rfl)).1
    rwa [show ev ρ (0, [(2, 1)]) = ρ 2 from ev_v] at q
  have cR : 0 ≤ ρ 4 := by
    have q := (hG _ (List.mem_of_getElem? (i := 3) rfl)).1
    rwa [show ev ρ (0, [(4, 1)]) = ρ 4 from ev_v] at q
  obtain ⟨yf, y1, y2⟩ := ob_rf hT (hH _ (List.mem_of_getElem? (i := 0) rfl)) ev_v g0 rfl ev_v
  have y1 : h[(ρ 0).toNat]? = some (.inr (11, yf)) := y1
  have y2 : yf[5]? = some (.ref (ρ 1).toNat) := y2
  obtain ⟨wf, w1, w2⟩ := ob_rf hT (hH _ (List.mem_of_getElem? (i := 1) rfl)) ev_v g0 rfl ev_v
  have w1 : h[(ρ 0).toNat]? = some (.inr (11, wf)) := w1
  have w2 : wf[6]? = some (.ref (ρ 2).toNat) := w2
  obtain ⟨uf, uz, u1, u2, u3⟩ := ob_in hT (hH _ (List.mem_of_getElem? (i := 2) rfl)) ev_v g1 rfl ev_v
  have u1 : h[(ρ 1).toNat]? = some (.inr (1, uf)) := u1
  have u2 : uf[6]? = some (.int uz) := u2
  have u3 : uz.toInt = ρ 3 := u3
  obtain ⟨vf, vz, v1, v2, v3⟩ := ob_in hT (hH _ (List.mem_of_getElem? (i := 4) rfl)) ev_v g3 rfl ev_v
  have v1 : h[(ρ 4).toNat]? = some (.inr (6, vf)) := v1
  have v2 : vf[3]? = some (.int vz) := v2
  have v3 : vz.toInt = ρ 5 := v3
  have e1 : (ρ 2).toNat = (297 - ρ 1).toNat := by omega
  have e2 : (ρ 4).toNat = (ρ 1).toNat + 6 := by omega
  rw [e1] at w2
  rw [e2] at v1
  have gR : G ((ρ 1).toNat + 6) = 16 := by rw [← e2]; exact g3
  refine ⟨_, List.mem_cons_self, ρ, fun _ _ => rfl, fun q hq => absurd hq List.not_mem_nil, trivial, fun f hf => ?_, fun q hq => absurd hq List.not_mem_nil, fun q hq => absurd hq List.not_mem_nil, fun q hq => absurd hq List.not_mem_nil, fun q hq => ?_⟩
  · exact absurd hf List.not_mem_nil
  · simp only [List.mem_cons, List.not_mem_nil, or_false] at hq
    rcases hq with rfl | rfl | rfl
    · show q204 G (((0) + ((1) * ρ 0 + 0))) (((0) + ((1) * ρ 1 + 0))) (rfv h)
      refine c2 (P := (fun r c => q204 G r c (rfv h))) (r := ρ 0) (c := ρ 1) ?_ (by omega) (by omega)
      show q204 G (ρ 0) (ρ 1) (rfv h)
      exact ⟨cT, g0, cA, by omega, rfv_of y1 y2, rfv_of w1 w2⟩
    · show q201 G (((0) + ((1) * ρ 1 + 0))) (((0) + ((1) * ρ 3 + 0))) (rfv h)
      refine c2 (P := (fun r c => q201 G r c (rfv h))) (r := ρ 1) (c := ρ 3) ?_ (by omega) (by omega)
      show q201 G (ρ 1) (ρ 3) (rfv h)
      exact ⟨cA, g1, _, rfv_of u1 u2, u3⟩
    · show q202 G (((0) + ((1) * ρ 1 + 0))) (((0) + ((1) * ρ 5 + 0))) (rfv h)
      refine c2 (P := (fun r c => q202 G r c (rfv h))) (r := ρ 1) (c := ρ 5) ?_ (by omega) (by omega)
      show q202 G (ρ 1) (ρ 5) (rfv h)
      exact ⟨cA, gR, _, rfv_of v1 v2, v3⟩
/-- get204 -/
theorem lem_622_ok (hU : uqG G C) : lem_622.1.2.1 = [] ∧ lemOK (PRd G C D xs) G rgs lem_622 := by
  refine ⟨rfl, fun ρ h ha hT => ?_⟩
  obtain ⟨-, -, hF, hG, hH, hA, hP⟩ := ha
  have g0 : G (ρ 0).toNat = 21 := by
    have q := (hG _ (List.mem_of_getElem? (i := 0) rfl)).2
    rwa [show ev ρ (0, [(0, 1)]) = ρ 0 from ev_v] at q
  have g1 : G (ρ 1).toNat = 11 := by
    have q := (hG _ (List.mem_of_getElem? (i := 1) rfl)).2
    rwa [show ev ρ (0, [(1, 1)]) = ρ 1 from ev_v] at q
  have g2 : G (ρ 2).toNat = 11 := by
    have q := (hG _ (List.mem_of_getElem? (i := 2) rfl)).2
    rwa [show ev ρ (0, [(2, 1)]) = ρ 2 from ev_v] at q
  have p0 : q204 G (ρ 0) (ρ 3) (rfv h) := c2 (P := (fun r c => q204 G r c (rfv h))) (show q204 G (((0) + ((1) * ρ 0 + 0))) (((0) + ((1) * ρ 3 + 0))) (rfv h) from hP _ (List.mem_of_getElem? (i := 0) rfl)) (by omega) (by omega)
  have cA : 0 ≤ ρ 1 := by
    have q := (hG _ (List.mem_of_getElem? (i := 1) rfl)).1
    rwa [show ev ρ (0, [(1, 1)]) = ρ 1 from ev_v] at q
  have cB : 0 ≤ ρ 2 := by
    have q := (hG _ (List.mem_of_getElem? (i := 2) rfl)).1
    rwa [show ev ρ (0, [(2, 1)]) = ρ 2 from ev_v] at q
  obtain ⟨z0, zg, z1, z2, z3, z4⟩ := p0
  obtain ⟨yf, y1, y2⟩ := ob_rf hT (hH _ (List.mem_of_getElem? (i := 0) rfl)) ev_v g0 rfl ev_v
  have y1 : h[(ρ 0).toNat]? = some (.inr (11, yf)) := y1
  have y2 : yf[5]? = some (.ref (ρ 1).toNat) := y2
  obtain ⟨wf, w1, w2⟩ := ob_rf hT (hH _ (List.mem_of_getElem? (i := 1) rfl)) ev_v g0 rfl ev_v
  have w1 : h[(ρ 0).toNat]? = some (.inr (11, wf)) := w1
  have w2 : wf[6]? = some (.ref (ρ 2).toNat) := w2
  have e1 := eq_rf (z3.symm.trans (rfv_of y1 y2))
  have e2 := eq_rf (z4.symm.trans (rfv_of w1 w2))
  refine ⟨_, List.mem_cons_self, ρ, fun _ _ => rfl, fun q hq => absurd hq List.not_mem_nil, trivial, fun f hf => ?_, fun q hq => absurd hq List.not_mem_nil, fun q hq => absurd hq List.not_mem_nil, fun q hq => absurd hq List.not_mem_nil, fun q hq => ?_⟩
  · simp only [List.mem_cons, List.not_mem_nil, or_false] at hf
    rcases hf with rfl | rfl | rfl | rfl
    · show (0 : Int) ≤ ((0) + ((-1) * ρ 1 + ((1) * ρ 3 + 0)))
      omega
    · show (0 : Int) ≤ ((0) + ((1) * ρ 1 + ((-1) * ρ 3 + 0)))
      omega
    · show (0 : Int) ≤ ((297) + ((-1) * ρ 1 + ((-1) * ρ 2 + 0)))
      omega
    · show (0 : Int) ≤ ((-297) + ((1) * ρ 1 + ((1) * ρ 2 + 0)))
      omega
  · exact absurd hq List.not_mem_nil
/-- fl201 -/
theorem lem_623_ok (hU : uqG G C) : lem_623.1.2.1 = [] ∧ lemOK (PRd G C D xs) G rgs lem_623 := by
  refine ⟨rfl, fun ρ h ha hT => ?_⟩
  obtain ⟨-, -, hF, hG, hH, hA, hP⟩ := ha
  have g0 : G (ρ 0).toNat = 21 := by
    have q := (hG _ (List.mem_of_getElem? (i := 0) rfl)).2
    rwa [show ev ρ (0, [(0, 1)]) = ρ 0 from ev_v] at q
  have g1 : G (ρ 1).toNat = 11 := by
    have q := (hG _ (List.mem_of_getElem? (i := 1) rfl)).2
    rwa [show ev ρ (0, [(1, 1)]) = ρ 1 from ev_v] at q
  have h1 : (0 : Int) ≤ ρ 2 ∧ ρ 2 ≤ 6 := hf_rg hT (hH _ (List.mem_of_getElem? (i := 1) rfl)) ev_v g1 rfl rfl rfl ev_v
  have p0 : q201 G (ρ 1) (ρ 3) (rfv h) := c2 (P := (fun r c => q201 G r c (rfv h))) (show q201 G (((0) + ((1) * ρ 1 + 0))) (((0) + ((1) * ρ 3 + 0))) (rfv h) from hP _ (List.mem_of_getElem? (i := 0) rfl)) (by omega) (by omega)
  obtain ⟨z0, zg, z, z1, z2⟩ := p0
  obtain ⟨yf, yz, y1, y2, y3⟩ := ob_in hT (hH _ (List.mem_of_getElem? (i := 1) rfl)) ev_v g1 rfl ev_v
  have y1 : h[(ρ 1).toNat]? = some (.inr (1, yf)) := y1
  have y2 : yf[6]? = some (.int yz) := y2
  have y3 : yz.toInt = ρ 2 := y3
  have e1 := eq_in (z1.symm.trans (rfv_of y1 y2))
  rw [e1] at z2
  refine ⟨_, List.mem_cons_self, ρ, fun _ _ => rfl, fun q hq => absurd hq List.not_mem_nil, trivial, fun f hf => ?_, fun q hq => absurd hq List.not_mem_nil, fun q hq => absurd hq List.not_mem_nil, fun q hq => absurd hq List.not_mem_nil, fun q hq => ?_⟩
  · simp only [List.mem_cons, List.not_mem_nil, or_false] at hf
    rcases hf with rfl | rfl
    · show (0 : Int) ≤ ((0) + ((-1) * ρ 2 + ((1) * ρ 3 + 0)))
      omega
    · show (0 : Int) ≤ ((0) + ((1) * ρ 2 + ((-1) * ρ 3 + 0)))
      omega
  · exact absurd hq List.not_mem_nil
/-- fl202 -/
theorem lem_624_ok (hU : uqG G C) : lem_624.1.2.1 = [] ∧ lemOK (PRd G C D xs) G rgs lem_624 := by
  refine ⟨rfl, fun ρ h ha hT => ?_⟩
  obtain ⟨-, -, hF, hG, hH, hA, hP⟩ := ha
  have g0 : G (ρ 0).toNat = 21 := by
    have q := (hG _ (List.mem_of_getElem? (i := 0) rfl)).2
    rwa [show ev ρ (0, [(0, 1)]) = ρ 0 from ev_v] at q
  have g1 : G (ρ 1).toNat = 11 := by
    have q := (hG _ (List.mem_of_getElem? (i := 1) rfl)).2
    rwa [show ev ρ (0, [(1, 1)]) = ρ 1 from ev_v] at q
  have g2 : G (ρ 2).toNat = 16 := by
    have q := (hG _ (List.mem_of_getElem? (i := 2) rfl)).2
    rwa [show ev ρ (0, [(2, 1)]) = ρ 2 from ev_v] at q
  have h2 : (0 : Int) ≤ ρ 3 ∧ ρ 3 ≤ 4 := hf_rg hT (hH _ (List.mem_of_getElem? (i := 2) rfl)) ev_v g2 rfl rfl rfl ev_v
  have p0 : q202 G (ρ 1) (ρ 4) (rfv h) := c2 (P := (fun r c => q202 G r c (rfv h))) (show q202 G (((0) + ((1) * ρ 1 + 0))) (((0) + ((1) * ρ 4 + 0))) (rfv h) from hP _ (List.mem_of_getElem? (i := 0) rfl)) (by omega) (by omega)
  have p1 : q203 G (rfv h) := c2 (P := (fun (_ _ : Int) => q203 G (rfv h))) (r := 0) (r' := 0) (c := 0) (c' := 0) (show q203 G (rfv h) from hP _ (List.mem_of_getElem? (i := 1) rfl)) rfl rfl
  have cA : 0 ≤ ρ 1 := by
    have q := (hG _ (List.mem_of_getElem? (i := 1) rfl)).1
    rwa [show ev ρ (0, [(1, 1)]) = ρ 1 from ev_v] at q
  have cR : 0 ≤ ρ 2 := by
    have q := (hG _ (List.mem_of_getElem? (i := 2) rfl)).1
    rwa [show ev ρ (0, [(2, 1)]) = ρ 2 from ev_v] at q
  obtain ⟨z0, zg, z, z1, z2⟩ := p0
  obtain ⟨wf, w1, w2⟩ := ob_rf hT (hH _ (List.mem_of_getElem? (i := 1) rfl)) ev_v g1 rfl ev_v
  have w1 : h[(ρ 1).toNat]? = some (.inr (1, wf)) := w1
  have w2 : wf[10]? = some (.ref (ρ 2).toNat) := w2
  obtain ⟨yf, yz, y1, y2, y3⟩ := ob_in hT (hH _ (List.mem_of_getElem? (i := 2) rfl)) ev_v g2 rfl ev_v
  have y1 : h[(ρ 2).toNat]? = some (.inr (6, yf)) := y1
  have y2 : yf[3]? = some (.int yz) := y2
  have y3 : yz.toInt = ρ 3 := y3
  have e0 := eq_rf ((p1 _ g1).symm.trans (rfv_of w1 w2))
  rw [← e0] at y1
  have e1 := eq_in (z1.symm.trans (rfv_of y1 y2))
  rw [e1] at z2
  refine ⟨_, List.mem_cons_self, ρ, fun _ _ => rfl, fun q hq => absurd hq List.not_mem_nil, trivial, fun f hf => ?_, fun q hq => absurd hq List.not_mem_nil, fun q hq => absurd hq List.not_mem_nil, fun q hq => absurd hq List.not_mem_nil, fun q hq => ?_⟩
  · simp only [List.mem_cons, List.not_mem_nil, or_false] at hf
    rcases hf with rfl | rfl
    · show (0 : Int) ≤ ((0) + ((-1) * ρ 3 + ((1) * ρ 4 + 0)))
      omega
    · show (0 : Int) ≤ ((0) + ((1) * ρ 3 + ((-1) * ρ 4 + 0)))
      omega
  · exact absurd hq List.not_mem_nil
/-- planPc -/
theorem lem_625_ok (hU : uqG G C) : lem_625.1.2.1 = [] ∧ lemOK (PRd G C D xs) G rgs lem_625 := by
  refine ⟨rfl, fun ρ h ha hT => ?_⟩
  obtain ⟨-, -, hF, hG, hH, hA, hP⟩ := ha
  have g0 : G (ρ 0).toNat = 22 := by
    have q := (hG _ (List.mem_of_getElem? (i := 0) rfl)).2
    rwa [show ev ρ (0, [(0, 1)]) = ρ 0 from ev_v] at q
  have g1 : G (ρ 1).toNat = 123 := by
    have q := (hG _ (List.mem_of_getElem? (i := 1) rfl)).2
    rwa [show ev ρ (0, [(1, 1)]) = ρ 1 from ev_v] at q
  have g2 : G (ρ 2).toNat = 124 := by
    have q := (hG _ (List.mem_of_getElem? (i := 2) rfl)).2
    rwa [show ev ρ (0, [(2, 1)]) = ρ 2 from ev_v] at q
  have b0 : (0 : Int) ≤ ((6) + 0) := b_aA (hA _ (List.mem_of_getElem? (i := 0) rfl))
  have b1 : (0 : Int) ≤ ((6) + 0) := b_aA (hA _ (List.mem_of_getElem? (i := 1) rfl))
  have a0 : vw C h 123 (6) = ρ 3 := vw_aA hU (hA _ (List.mem_of_getElem? (i := 0) rfl)) ev_v g1 (by omega) (by omega) (i := 6) (show (((6 : Nat)) : Int) = ((6) + 0) by omega) ev_v
  have a1 : vw C h 124 (6) = ρ 4 := vw_aA hU (hA _ (List.mem_of_getElem? (i := 1) rfl)) ev_v g2 (by omega) (by omega) (i := 6) (show (((6 : Nat)) : Int) = ((6) + 0) by omega) ev_v
  have p0 : P46 (vw C h) ((55) + 0) := hP _ (List.mem_of_getElem? (i := 0) rfl)
  have q := p0 6 (by omega) (by omega)
  refine ⟨_, List.mem_cons_self, ρ, fun _ _ => rfl, fun q hq => absurd hq List.not_mem_nil, trivial, fun f hf => ?_, fun q hq => absurd hq List.not_mem_nil, fun q hq => absurd hq List.not_mem_nil, fun q hq => absurd hq List.not_mem_nil, fun q hq => ?_⟩
  · simp only [List.mem_cons, List.not_mem_nil, or_false] at hf
    rcases hf with rfl | rfl
    · show (0 : Int) ≤ ((0) + ((-1) * ρ 3 + ((1) * ρ 4 + 0)))
      omega
    · show (0 : Int) ≤ ((0) + ((1) * ρ 3 + ((-1) * ρ 4 + 0)))
      omega
  · exact absurd hq List.not_mem_nil
/-- planRc -/
theorem lem_626_ok (hU : uqG G C) : lem_626.1.2.1 = [] ∧ lemOK (PRd G C D xs) G rgs lem_626 := by
  refine ⟨rfl, fun ρ h ha hT => ?_⟩
  obtain ⟨-, -, hF, hG, hH, hA, hP⟩ := ha
  have g0 : G (ρ 0).toNat = 22 := by
    have q := (hG _ (List.mem_of_getElem? (i := 0) rfl)).2
    rwa [show ev ρ (0, [(0, 1)]) = ρ 0 from ev_v] at q
  have g1 : G (ρ 1).toNat = 123 := by
    have q := (hG _ (List.mem_of_getElem? (i := 1) rfl)).2
    rwa [show ev ρ (0, [(1, 1)]) = ρ 1 from ev_v] at q
  have g2 : G (ρ 2).toNat = 124 := by
    have q := (hG _ (List.mem_of_getElem? (i := 2) rfl)).2
    rwa [show ev ρ (0, [(2, 1)]) = ρ 2 from ev_v] at q
  have b0 : (0 : Int) ≤ ((50) + 0) := b_aA (hA _ (List.mem_of_getElem? (i := 0) rfl))
  have b1 : (0 : Int) ≤ ((50) + 0) := b_aA (hA _ (List.mem_of_getElem? (i := 1) rfl))
  have a0 : vw C h 123 (50) = ρ 3 := vw_aA hU (hA _ (List.mem_of_getElem? (i := 0) rfl)) ev_v g1 (by omega) (by omega) (i := 50) (show (((50 : Nat)) : Int) = ((50) + 0) by omega) ev_v
  have a1 : vw C h 124 (50) = ρ 4 := vw_aA hU (hA _ (List.mem_of_getElem? (i := 1) rfl)) ev_v g2 (by omega) (by omega) (i := 50) (show (((50 : Nat)) : Int) = ((50) + 0) by omega) ev_v
  have p0 : P46 (vw C h) ((55) + 0) := hP _ (List.mem_of_getElem? (i := 0) rfl)
  have q := p0 50 (by omega) (by omega)
  refine ⟨_, List.mem_cons_self, ρ, fun _ _ => rfl, fun q hq => absurd hq List.not_mem_nil, trivial, fun f hf => ?_, fun q hq => absurd hq List.not_mem_nil, fun q hq => absurd hq List.not_mem_nil, fun q hq => absurd hq List.not_mem_nil, fun q hq => ?_⟩
  · simp only [List.mem_cons, List.not_mem_nil, or_false] at hf
    rcases hf with rfl | rfl
    · show (0 : Int) ≤ ((0) + ((-1) * ρ 3 + ((1) * ρ 4 + 0)))
      omega
    · show (0 : Int) ≤ ((0) + ((1) * ρ 3 + ((-1) * ρ 4 + 0)))
      omega
  · exact absurd hq List.not_mem_nil
/-- lawPc -/
theorem lem_627_ok (hU : uqG G C) : lem_627.1.2.1 = [] ∧ lemOK (PRd G C D xs) G rgs lem_627 := by
  refine ⟨rfl, fun ρ h ha hT => ?_⟩
  obtain ⟨-, -, hF, hG, hH, hA, hP⟩ := ha
  have p0 : True := c2 (P := (fun (_ _ : Int) => True)) (r := 0) (r' := 0) (c := 0) (c' := 0) (show True from hP _ (List.mem_of_getElem? (i := 0) rfl)) rfl rfl
  have p1 : q186 (tB (vw C h)) (ρ 1) (ρ 2) := c2 (P := q186 (tB (vw C h))) (show q186 (tB (vw C h)) (((0) + ((1) * ρ 1 + 0))) (((0) + ((1) * ρ 2 + 0))) from hP _ (List.mem_of_getElem? (i := 1) rfl)) (by omega) (by omega)
  have p2 : q186 (tB (vw C h)) (ρ 1) (ρ 3) := c2 (P := q186 (tB (vw C h))) (show q186 (tB (vw C h)) (((0) + ((1) * ρ 1 + 0))) (((0) + ((1) * ρ 3 + 0))) from hP _ (List.mem_of_getElem? (i := 2) rfl)) (by omega) (by omega)
  obtain ⟨R, z1, z2⟩ := p1
  obtain ⟨R2, z3, z4⟩ := p2
  have q := outB_det z1 z3
  refine ⟨_, List.mem_cons_self, ρ, fun _ _ => rfl, fun q hq => absurd hq List.not_mem_nil, trivial, fun f hf => ?_, fun q hq => absurd hq List.not_mem_nil, fun q hq => absurd hq List.not_mem_nil, fun q hq => absurd hq List.not_mem_nil, fun q hq => ?_⟩
  · simp only [List.mem_cons, List.not_mem_nil, or_false] at hf
    rcases hf with rfl | rfl
    · show (0 : Int) ≤ ((0) + ((-1) * ρ 2 + ((1) * ρ 3 + 0)))
      omega
    · show (0 : Int) ≤ ((0) + ((1) * ρ 2 + ((-1) * ρ 3 + 0)))
      omega
  · exact absurd hq List.not_mem_nil
/-- lawRc -/
theorem lem_628_ok (hU : uqG G C) : lem_628.1.2.1 = [] ∧ lemOK (PRd G C D xs) G rgs lem_628 := by
  refine ⟨rfl, fun ρ h ha hT => ?_⟩
  obtain ⟨-, -, hF, hG, hH, hA, hP⟩ := ha
  have p0 : True := c2 (P := (fun (_ _ : Int) => True)) (r := 0) (r' := 0) (c := 0) (c' := 0) (show True from hP _ (List.mem_of_getElem? (i := 0) rfl)) rfl rfl
  have p1 : q187 (tB (vw C h)) (ρ 1) (ρ 2) := c2 (P := q187 (tB (vw C h))) (show q187 (tB (vw C h)) (((0) + ((1) * ρ 1 + 0))) (((0) + ((1) * ρ 2 + 0))) from hP _ (List.mem_of_getElem? (i := 1) rfl)) (by omega) (by omega)
  have p2 : q187 (tB (vw C h)) (ρ 1) (ρ 3) := c2 (P := q187 (tB (vw C h))) (show q187 (tB (vw C h)) (((0) + ((1) * ρ 1 + 0))) (((0) + ((1) * ρ 3 + 0))) from hP _ (List.mem_of_getElem? (i := 2) rfl)) (by omega) (by omega)
  obtain ⟨R, z1, z2⟩ := p1
  obtain ⟨R2, z3, z4⟩ := p2
  have q := outB_det z1 z3
  refine ⟨_, List.mem_cons_self, ρ, fun _ _ => rfl, fun q hq => absurd hq List.not_mem_nil, trivial, fun f hf => ?_, fun q hq => absurd hq List.not_mem_nil, fun q hq => absurd hq List.not_mem_nil, fun q hq => absurd hq List.not_mem_nil, fun q hq => ?_⟩
  · simp only [List.mem_cons, List.not_mem_nil, or_false] at hf
    rcases hf with rfl | rfl
    · show (0 : Int) ≤ ((0) + ((-1) * ρ 2 + ((1) * ρ 3 + 0)))
      omega
    · show (0 : Int) ≤ ((0) + ((1) * ρ 2 + ((-1) * ρ 3 + 0)))
      omega
  · exact absurd hq List.not_mem_nil
/-- lawMc -/
theorem lem_629_ok (hU : uqG G C) : lem_629.1.2.1 = [] ∧ lemOK (PRd G C D xs) G rgs lem_629 := by
  refine ⟨rfl, fun ρ h ha hT => ?_⟩
  obtain ⟨-, -, hF, hG, hH, hA, hP⟩ := ha
  have p0 : True := c2 (P := (fun (_ _ : Int) => True)) (r := 0) (r' := 0) (c := 0) (c' := 0) (show True from hP _ (List.mem_of_getElem? (i := 0) rfl)) rfl rfl
  have p1 : q192 (tB (vw C h)) (ρ 1) (ρ 2) := c2 (P := q192 (tB (vw C h))) (show q192 (tB (vw C h)) (((0) + ((1) * ρ 1 + 0))) (((0) + ((1) * ρ 2 + 0))) from hP _ (List.mem_of_getElem? (i := 1) rfl)) (by omega) (by omega)
  have p2 : q192 (tB (vw C h)) (ρ 1) (ρ 3) := c2 (P := q192 (tB (vw C h))) (show q192 (tB (vw C h)) (((0) + ((1) * ρ 1 + 0))) (((0) + ((1) * ρ 3 + 0))) from hP _ (List.mem_of_getElem? (i := 2) rfl)) (by omega) (by omega)
  obtain ⟨R, z1, z2⟩ := p1
  obtain ⟨R2, z3, z4⟩ := p2
  have q := outB_det z1 z3
  refine ⟨_, List.mem_cons_self, ρ, fun _ _ => rfl, fun q hq => absurd hq List.not_mem_nil, trivial, fun f hf => ?_, fun q hq => absurd hq List.not_mem_nil, fun q hq => absurd hq List.not_mem_nil, fun q hq => absurd hq List.not_mem_nil, fun q hq => ?_⟩
  · simp only [List.mem_cons, List.not_mem_nil, or_false] at hf
    rcases hf with rfl | rfl
    · show (0 : Int) ≤ ((0) + ((-1) * ρ 2 + ((1) * ρ 3 + 0)))
      omega
    · show (0 : Int) ≤ ((0) + ((1) * ρ 2 + ((-1) * ρ 3 + 0)))
      omega
  · exact absurd hq List.not_mem_nil
/-- hd -/
theorem lem_630_ok (hU : uqG G C) : lem_630.1.2.1 = [] ∧ lemOK (PRd G C D xs) G rgs lem_630 := by
  refine ⟨rfl, fun ρ h ha hT => ?_⟩
  obtain ⟨-, -, hF, hG, hH, hA, hP⟩ := ha
  have f0 : (0 : Int) ≤ ((0) + ((1) * ρ 4 + 0)) := hF _ (List.mem_of_getElem? (i := 0) rfl)
  have f1 : (0 : Int) ≤ ((5) + ((-1) * ρ 4 + 0)) := hF _ (List.mem_of_getElem? (i := 1) rfl)
  have g0 : G (ρ 0).toNat = 12 := by
    have q := (hG _ (List.mem_of_getElem? (i := 0) rfl)).2
    rwa [show ev ρ (0, [(0, 1)]) = ρ 0 from ev_v] at q
  have g1 : G (ρ 3).toNat = 116 := by
    have q := (hG _ (List.mem_of_getElem? (i := 1) rfl)).2
    rwa [show ev ρ (0, [(3, 1)]) = ρ 3 from ev_v] at q
  have g2 : G (ρ 2).toNat = 20 := by
    have q := (hG _ (List.mem_of_getElem? (i := 2) rfl)).2
    rwa [show ev ρ (0, [(2, 1)]) = ρ 2 from ev_v] at q
  have g3 : G (ρ 1).toNat = 20 := by
    have q := (hG _ (List.mem_of_getElem? (i := 3) rfl)).2
    rwa [show ev ρ (0, [(1, 1)]) = ρ 1 from ev_v] at q
  have h1 : (0 : Int) ≤ ρ 4 ∧ ρ 4 ≤ 6 := hf_rg hT (hH _ (List.mem_of_getElem? (i := 1) rfl)) ev_v g0 rfl rfl rfl ev_v
  have b0 : (0 : Int) ≤ ((0) + ((1) * ρ 4 + 0)) := b_aA (hA _ (List.mem_of_getElem? (i := 0) rfl))
  have p0 : q206 G := c2 (P := (fun (_ _ : Int) => q206 G)) (r := 0) (r' := 0) (c := 0) (c' := 0) (show q206 G from hP _ (List.mem_of_getElem? (i := 0) rfl)) rfl rfl
  have p1 : q241 G (ρ 1) (elv h) := c2 (P := (fun r (_ : Int) => q241 G r (elv h))) (c := 0) (c' := 0) (show q241 G (((0) + ((1) * ρ 1 + 0))) (elv h) from hP _ (List.mem_of_getElem? (i := 1) rfl)) (by omega) rfl
  have p2 : q240 G (ρ 4) (ρ 5) (rfv h) (elv h) := c2 (P := (fun r c => q240 G r c (rfv h) (elv h))) (show q240 G (((0) + ((1) * ρ 4 + 0))) (((0) + ((1) * ρ 5 + 0))) (rfv h) (elv h) from hP _ (List.mem_of_getElem? (i := 2) rfl)) (by omega) (by omega)
  have cT : 0 ≤ ρ 0 := by
    have q := (hG _ (List.mem_of_getElem? (i := 0) rfl)).1
    rwa [show ev ρ (0, [(0, 1)]) = ρ 0 from ev_v] at q
  have cA : 0 ≤ ρ 3 := by
    have q := (hG _ (List.mem_of_getElem? (i := 1) rfl)).1
    rwa [show ev ρ (0, [(3, 1)]) = ρ 3 from ev_v] at q
  have cC : 0 ≤ ρ 2 := by
    have q := (hG _ (List.mem_of_getElem? (i := 2) rfl)).1
    rwa [show ev ρ (0, [(2, 1)]) = ρ 2 from ev_v] at q
  have cX : 0 ≤ ρ 1 := by
    have q := (hG _ (List.mem_of_getElem? (i := 3) rfl)).1
    rwa [show ev ρ (0, [(1, 1)]) = ρ 1 from ev_v] at q
  have y0 : rfv h (ρ 0).toNat 0 = some (.ref (ρ 3).toNat) := ob_v hT (hH _ (List.mem_of_getElem? (i := 0) rfl)) ev_v g0 rfl ev_v
  have y1 : hasI (rfv h (ρ 0).toNat 1) (ρ 4) := ob_i hT (hH _ (List.mem_of_getElem? (i := 1) rfl)) ev_v g0 rfl ev_v
  have z0 : elv h (ρ 3).toNat (ρ 4).toNat = some (.ref (ρ 2).toNat) := ar_v (j := ρ 4) (hA _ (List.mem_of_getElem? (i := 0) rfl)) ev_v (show (ρ 4 : Int) = ((0) + ((1) * ρ 4 + 0)) by omega) ev_v
  obtain ⟨r1, r2, r3, r4⟩ := s_hd g1 cC (by omega) (by omega) z0 p1 p2
  rcases r4 with hc | hc
  · refine ⟨_, List.mem_cons_self, ρ, fun _ _ => rfl, fun q hq => absurd hq List.not_mem_nil, trivial, fun f hf => ?_, fun q hq => absurd hq List.not_mem_nil, fun q hq => absurd hq List.not_mem_nil, fun q hq => absurd hq List.not_mem_nil, fun q hq => ?_⟩
    · simp only [List.mem_cons, List.not_mem_nil, or_false] at hf
      rcases hf with rfl | rfl | rfl
      · show (0 : Int) ≤ ((577) + ((-1) * ρ 2 + 0))
        omega
      · show (0 : Int) ≤ ((-162) + ((1) * ρ 2 + 0))
        omega
      · show (0 : Int) ≤ ((-59) + ((1) * ρ 1 + ((-1) * ρ 2 + 0)))
        omega
    · simp only [List.mem_cons, List.not_mem_nil, or_false] at hq
      subst hq
      show q246 G (((0) + ((1) * ρ 2 + 0))) (((0) + ((1) * ρ 4 + ((16) * ρ 5 + 0)))) (rfv h) (elv h)
      refine c2 (P := (fun r c => q246 G r c (rfv h) (elv h))) (r := ρ 2) (c := ρ 4 + 16 * ρ 5) ?_ (by omega) (by omega)
      show q246 G (ρ 2) (ρ 4 + 16 * ρ 5) (rfv h) (elv h)
      exact (c2 (P := (fun r c => q246 G r c (rfv h) (elv h))) (r1) (by omega) (by omega))
  · refine ⟨_, (List.mem_cons_of_mem _ List.mem_cons_self), ρ, fun _ _ => rfl, fun q hq => absurd hq List.not_mem_nil, trivial, fun f hf => ?_, fun q hq => absurd hq List.not_mem_nil, fun q hq => absurd hq List.not_mem_nil, fun q hq => absurd hq List.not_mem_nil, fun q hq => ?_⟩
    · simp only [List.mem_cons, List.not_mem_nil, or_false] at hf
      rcases hf with rfl | rfl | rfl
      · show (0 : Int) ≤ ((577) + ((-1) * ρ 2 + 0))
        omega
      · show (0 : Int) ≤ ((-162) + ((1) * ρ 2 + 0))
        omega
      · show (0 : Int) ≤ ((-59) + ((-1) * ρ 1 + ((1) * ρ 2 + 0)))
        omega
    · simp only [List.mem_cons, List.not_mem_nil, or_false] at hq
      subst hq
      show q246 G (((0) + ((1) * ρ 2 + 0))) (((0) + ((1) * ρ 4 + ((16) * ρ 5 + 0)))) (rfv h) (elv h)
      refine c2 (P := (fun r c => q246 G r c (rfv h) (elv h))) (r := ρ 2) (c := ρ 4 + 16 * ρ 5) ?_ (by omega) (by omega)
      show q246 G (ρ 2) (ρ 4 + 16 * ρ 5) (rfv h) (elv h)
      exact (c2 (P := (fun r c => q246 G r c (rfv h) (elv h))) (r1) (by omega) (by omega))
end LMT
