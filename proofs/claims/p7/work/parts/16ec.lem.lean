section LMT
variable {G C : Nat → Nat} {h : mH} {D : Nat} {xs : Nat → Int32}
/-- st19C -/
theorem lem_411_ok (hU : uqG G C) : lem_411.1.2.1 = [] ∧ lemOK (PRd G C D xs) G rgs lem_411 := by
  refine ⟨rfl, fun ρ h ha hT => ?_⟩
  obtain ⟨-, -, hF, hG, hH, hA, hP⟩ := ha
  have f0 : (0 : Int) ≤ ((0) + ((1) * ρ 2 + 0)) := hF _ (List.mem_of_getElem? (i := 0) rfl)
  have f1 : (0 : Int) ≤ ((1200) + ((-1) * ρ 2 + 0)) := hF _ (List.mem_of_getElem? (i := 1) rfl)
  have f2 : (0 : Int) ≤ ((0) + ((1) * ρ 3 + 0)) := hF _ (List.mem_of_getElem? (i := 2) rfl)
  have f3 : (0 : Int) ≤ ((0) + ((1) * ρ 2 + ((-1) * ρ 3 + 0))) := hF _ (List.mem_of_getElem? (i := 3) rfl)
  have f4 : (0 : Int) ≤ ((0) + ((1) * ρ 11 + 0)) := hF _ (List.mem_of_getElem? (i := 4) rfl)
  have f5 : (0 : Int) ≤ ((0) + ((1) * ρ 2 + ((-1) * ρ 11 + 0))) := hF _ (List.mem_of_getElem? (i := 5) rfl)
  have f6 : (0 : Int) ≤ ((0) + ((1) * ρ 12 + 0)) := hF _ (List.mem_of_getElem? (i := 6) rfl)
  have f7 : (0 : Int) ≤ ((999) + ((-1) * ρ 12 + 0)) := hF _ (List.mem_of_getElem? (i := 7) rfl)
  have f8 : (0 : Int) ≤ ((0) + ((1) * ρ 5 + 0)) := hF _ (List.mem_of_getElem? (i := 8) rfl)
  have f9 : (0 : Int) ≤ ((6) + ((-1) * ρ 5 + 0)) := hF _ (List.mem_of_getElem? (i := 9) rfl)
  have f10 : (0 : Int) ≤ ((0) + ((1) * ρ 7 + 0)) := hF _ (List.mem_of_getElem? (i := 10) rfl)
  have f11 : (0 : Int) ≤ ((8) + ((-1) * ρ 7 + 0)) := hF _ (List.mem_of_getElem? (i := 11) rfl)
  have f12 : (0 : Int) ≤ ((0) + ((1) * ρ 10 + 0)) := hF _ (List.mem_of_getElem? (i := 12) rfl)
  have f13 : (0 : Int) ≤ ((5) + ((-1) * ρ 10 + 0)) := hF _ (List.mem_of_getElem? (i := 13) rfl)
  have f14 : (0 : Int) ≤ ((0) + ((1) * ρ 9 + 0)) := hF _ (List.mem_of_getElem? (i := 14) rfl)
  have f15 : (0 : Int) ≤ ((4) + ((-1) * ρ 9 + 0)) := hF _ (List.mem_of_getElem? (i := 15) rfl)
  have g0 : G (ρ 0).toNat = 14 := by
    have q := (hG _ (List.mem_of_getElem? (i := 0) rfl)).2
    rwa [show ev ρ (0, [(0, 1)]) = ρ 0 from ev_v] at q
  have g1 : G (ρ 1).toNat = 17 := by
    have q := (hG _ (List.mem_of_getElem? (i := 1) rfl)).2
    rwa [show ev ρ (0, [(1, 1)]) = ρ 1 from ev_v] at q
  have g2 : G (ρ 4).toNat = 11 := by
    have q := (hG _ (List.mem_of_getElem? (i := 2) rfl)).2
    rwa [show ev ρ (0, [(4, 1)]) = ρ 4 from ev_v] at q
  have g3 : G (ρ 6).toNat = 20 := by
    have q := (hG _ (List.mem_of_getElem? (i := 3) rfl)).2
    rwa [show ev ρ (0, [(6, 1)]) = ρ 6 from ev_v] at q
  have g4 : G (ρ 8).toNat = 16 := by
    have q := (hG _ (List.mem_of_getElem? (i := 4) rfl)).2
    rwa [show ev ρ (0, [(8, 1)]) = ρ 8 from ev_v] at q
  have h1 : (0 : Int) ≤ ρ 2 ∧ ρ 2 ≤ 1200 := hf_rg hT (hH _ (List.mem_of_getElem? (i := 1) rfl)) ev_v g1 rfl rfl rfl ev_v
  have h2 : (0 : Int) ≤ ρ 3 ∧ ρ 3 ≤ 1200 := hf_rg hT (hH _ (List.mem_of_getElem? (i := 2) rfl)) ev_v g1 rfl rfl rfl ev_v
  have h4 : (0 : Int) ≤ ρ 5 ∧ ρ 5 ≤ 6 := hf_rg hT (hH _ (List.mem_of_getElem? (i := 4) rfl)) ev_v g2 rfl rfl rfl ev_v
  have h6 : (0 : Int) ≤ ρ 7 ∧ ρ 7 ≤ 8 := hf_rg hT (hH _ (List.mem_of_getElem? (i := 6) rfl)) ev_v g3 rfl rfl rfl ev_v
  have h8 : (0 : Int) ≤ ρ 9 ∧ ρ 9 ≤ 4 := hf_rg hT (hH _ (List.mem_of_getElem? (i := 8) rfl)) ev_v g4 rfl rfl rfl ev_v
  have p0 : q176 G h (16 * ρ 6 + ρ 7) (ρ 10) := c2 (P := q176 G h) (show q176 G h (((0) + ((16) * ρ 6 + ((1) * ρ 7 + 0)))) (((0) + ((1) * ρ 10 + 0))) from hP _ (List.mem_of_getElem? (i := 0) rfl)) (by omega) (by omega)
  have p1 : q158 (tB (vw C h)) (ρ 2 + 2048 * ρ 3) (ρ 11) := c2 (P := q158 (tB (vw C h))) (show q158 (tB (vw C h)) (((0) + ((1) * ρ 2 + ((2048) * ρ 3 + 0)))) (((0) + ((1) * ρ 11 + 0))) from hP _ (List.mem_of_getElem? (i := 1) rfl)) (by omega) (by omega)
  have p2 : q164 (tB (vw C h)) (ρ 2 + 2048 * ρ 11) (ρ 12) := c2 (P := q164 (tB (vw C h))) (show q164 (tB (vw C h)) (((0) + ((1) * ρ 2 + ((2048) * ρ 11 + 0)))) (((0) + ((1) * ρ 12 + 0))) from hP _ (List.mem_of_getElem? (i := 2) rfl)) (by omega) (by omega)
  have p3 : (qRC 19 (tB (vw C h))) (ρ 2 + 4398046511104 * ρ 5 + 35184372088832 * ρ 7 + 4503599627370496 * ρ 9 + 562949953421312 * ρ 10 + 2048 * ρ 11) (ρ 13) := c2 (P := (qRC 19 (tB (vw C h)))) (show (qRC 19 (tB (vw C h))) (((0) + ((1) * ρ 2 + ((4398046511104) * ρ 5 + ((35184372088832) * ρ 7 + ((4503599627370496) * ρ 9 + ((562949953421312) * ρ 10 + ((2048) * ρ 11 + 0)))))))) (((0) + ((1) * ρ 13 + 0))) from hP _ (List.mem_of_getElem? (i := 3) rfl)) (by omega) (by omega)
  obtain ⟨hkd, nv⟩ := k164 (n := ρ 2) (s := ρ 11) (by omega) (by omega) (by omega) (by omega) (by omega) p2
  have nx := k158 (n := ρ 2) (s := ρ 11) (t := ρ 3) (by omega) (by omega) (by omega) (by omega) (by omega) (by omega) p1
  have ng := nx_gt (B := (tB (vw C h))) (n := (ρ 2).toNat) (s := (ρ 11).toNat) (by omega)
  have hc0 := p3.1
  have hR := rc_el (n := ρ 2) (s := ρ 11) (d := (0 : Int)) (K := (0 : Int)) (R := (ρ 5 + 8 * ρ 7 + 1024 * ρ 9 + 128 * ρ 10)) p3 (by omega) (by omega) (by omega) (by omega) (by omega) (by omega) (by omega) (by omega) (by omega) (by omega)
  have q := sn_19 hR hkd (by omega) (by omega)
  refine ⟨_, List.mem_cons_self, ρ, fun _ _ => rfl, fun q hq => absurd hq List.not_mem_nil, trivial, fun f hf => ?_, fun q hq => absurd hq List.not_mem_nil, fun q hq => absurd hq List.not_mem_nil, fun q hq => absurd hq List.not_mem_nil, fun q hq => ?_⟩
  · simp only [List.mem_cons, List.not_mem_nil, or_false] at hf
    subst hf
    show (0 : Int) ≤ ((-1) + ((1) * ρ 3 + ((-1) * ρ 11 + 0)))
    omega
  · simp only [List.mem_cons, List.not_mem_nil, or_false] at hq
    subst hq
    show (qRC 15 (tB (vw C h))) (((4398046511104) + ((1) * ρ 2 + ((2048) * ρ 3 + ((4398046511104) * ρ 5 + ((35184372088832) * ρ 7 + ((4503599627370496) * ρ 9 + ((562949953421312) * ρ 10 + 0)))))))) (((0) + ((1) * ρ 13 + 0)))
    refine c2 (P := (qRC 15 (tB (vw C h)))) (r := ρ 2 + 2048 * ρ 3 + 4398046511104 * ρ 5 + 35184372088832 * ρ 7 + 4503599627370496 * ρ 9 + 562949953421312 * ρ 10 + 4398046511104) (c := ρ 13) ?_ (by omega) (by omega)
    show (qRC 15 (tB (vw C h))) (ρ 2 + 2048 * ρ 3 + 4398046511104 * ρ 5 + 35184372088832 * ρ 7 + 4503599627370496 * ρ 9 + 562949953421312 * ρ 10 + 4398046511104) (ρ 13)
    exact rc_in (n := ρ 2) (s := ρ 3) (d := (0 : Int)) (K := (0 : Int)) (R := (ρ 5 + 8 * ρ 7 + 1024 * ρ 9 + 128 * ρ 10 + 1)) (by omega) (by omega) (by omega) (by omega) (by omega) (by omega) (by omega) (by omega) (by omega) (by omega) q (by omega) (by omega) (by omega) (by omega) (by omega)
/-- op20C -/
theorem lem_412_ok (hU : uqG G C) : lem_412.1.2.1 = [] ∧ lemOK (PRd G C D xs) G rgs lem_412 := by
  refine ⟨rfl, fun ρ h ha hT => ?_⟩
  obtain ⟨-, -, hF, hG, hH, hA, hP⟩ := ha
  have f0 : (0 : Int) ≤ ((0) + ((1) * ρ 2 + 0)) := hF _ (List.mem_of_getElem? (i := 0) rfl)
  have f1 : (0 : Int) ≤ ((1200) + ((-1) * ρ 2 + 0)) := hF _ (List.mem_of_getElem? (i := 1) rfl)
  have f2 : (0 : Int) ≤ ((0) + ((1) * ρ 3 + 0)) := hF _ (List.mem_of_getElem? (i := 2) rfl)
  have f3 : (0 : Int) ≤ ((0) + ((1) * ρ 2 + ((-1) * ρ 3 + 0))) := hF _ (List.mem_of_getElem? (i := 3) rfl)
  have f4 : (0 : Int) ≤ ((0) + ((1) * ρ 5 + 0)) := hF _ (List.mem_of_getElem? (i := 4) rfl)
  have f5 : (0 : Int) ≤ ((6) + ((-1) * ρ 5 + 0)) := hF _ (List.mem_of_getElem? (i := 5) rfl)
  have f6 : (0 : Int) ≤ ((0) + ((1) * ρ 7 + 0)) := hF _ (List.mem_of_getElem? (i := 6) rfl)
  have f7 : (0 : Int) ≤ ((8) + ((-1) * ρ 7 + 0)) := hF _ (List.mem_of_getElem? (i := 7) rfl)
  have f8 : (0 : Int) ≤ ((0) + ((1) * ρ 10 + 0)) := hF _ (List.mem_of_getElem? (i := 8) rfl)
  have f9 : (0 : Int) ≤ ((5) + ((-1) * ρ 10 + 0)) := hF _ (List.mem_of_getElem? (i := 9) rfl)
  have f10 : (0 : Int) ≤ ((0) + ((1) * ρ 9 + 0)) := hF _ (List.mem_of_getElem? (i := 10) rfl)
  have f11 : (0 : Int) ≤ ((4) + ((-1) * ρ 9 + 0)) := hF _ (List.mem_of_getElem? (i := 11) rfl)
  have g0 : G (ρ 0).toNat = 14 := by
    have q := (hG _ (List.mem_of_getElem? (i := 0) rfl)).2
    rwa [show ev ρ (0, [(0, 1)]) = ρ 0 from ev_v] at q
  have g1 : G (ρ 1).toNat = 17 := by
    have q := (hG _ (List.mem_of_getElem? (i := 1) rfl)).2
    rwa [show ev ρ (0, [(1, 1)]) = ρ 1 from ev_v] at q
  have g2 : G (ρ 4).toNat = 11 := by
    have q := (hG _ (List.mem_of_getElem? (i := 2) rfl)).2
    rwa [show ev ρ (0, [(4, 1)]) = ρ 4 from ev_v] at q
  have g3 : G (ρ 6).toNat = 20 := by
    have q := (hG _ (List.mem_of_getElem? (i := 3) rfl)).2
    rwa [show ev ρ (0, [(6, 1)]) = ρ 6 from ev_v] at q
  have g4 : G (ρ 8).toNat = 16 := by
    have q := (hG _ (List.mem_of_getElem? (i := 4) rfl)).2
    rwa [show ev ρ (0, [(8, 1)]) = ρ 8 from ev_v] at q
  have h1 : (0 : Int) ≤ ρ 2 ∧ ρ 2 ≤ 1200 := hf_rg hT (hH _ (List.mem_of_getElem? (i := 1) rfl)) ev_v g1 rfl rfl rfl ev_v
  have h2 : (0 : Int) ≤ ρ 3 ∧ ρ 3 ≤ 1200 := hf_rg hT (hH _ (List.mem_of_getElem? (i := 2) rfl)) ev_v g1 rfl rfl rfl ev_v
  have h4 : (0 : Int) ≤ ρ 5 ∧ ρ 5 ≤ 6 := hf_rg hT (hH _ (List.mem_of_getElem? (i := 4) rfl)) ev_v g2 rfl rfl rfl ev_v
  have h6 : (0 : Int) ≤ ρ 7 ∧ ρ 7 ≤ 8 := hf_rg hT (hH _ (List.mem_of_getElem? (i := 6) rfl)) ev_v g3 rfl rfl rfl ev_v
  have h8 : (0 : Int) ≤ ρ 9 ∧ ρ 9 ≤ 4 := hf_rg hT (hH _ (List.mem_of_getElem? (i := 8) rfl)) ev_v g4 rfl rfl rfl ev_v
  have p0 : q176 G h (16 * ρ 6 + ρ 7) (ρ 10) := c2 (P := q176 G h) (show q176 G h (((0) + ((16) * ρ 6 + ((1) * ρ 7 + 0)))) (((0) + ((1) * ρ 10 + 0))) from hP _ (List.mem_of_getElem? (i := 0) rfl)) (by omega) (by omega)
  have p1 : (qRC 20 (tB (vw C h))) (ρ 2 + 2048 * ρ 3 + 4398046511104 * ρ 5 + 35184372088832 * ρ 7 + 4503599627370496 * ρ 9 + 562949953421312 * ρ 10) (ρ 11) := c2 (P := (qRC 20 (tB (vw C h)))) (show (qRC 20 (tB (vw C h))) (((0) + ((1) * ρ 2 + ((2048) * ρ 3 + ((4398046511104) * ρ 5 + ((35184372088832) * ρ 7 + ((4503599627370496) * ρ 9 + ((562949953421312) * ρ 10 + 0)))))))) (((0) + ((1) * ρ 11 + 0))) from hP _ (List.mem_of_getElem? (i := 1) rfl)) (by omega) (by omega)
  have hc0 := p1.1
  have hR := rc_el (n := ρ 2) (s := ρ 3) (d := (0 : Int)) (K := (0 : Int)) (R := (ρ 5 + 8 * ρ 7 + 1024 * ρ 9 + 128 * ρ 10)) p1 (by omega) (by omega) (by omega) (by omega) (by omega) (by omega) (by omega) (by omega) (by omega) (by omega)
  refine ⟨_, List.mem_cons_self, ρ, fun _ _ => rfl, fun q hq => absurd hq List.not_mem_nil, trivial, fun f hf => ?_, fun q hq => absurd hq List.not_mem_nil, fun q hq => absurd hq List.not_mem_nil, fun q hq => absurd hq List.not_mem_nil, fun q hq => ?_⟩
  · exact absurd hf List.not_mem_nil
  · simp only [List.mem_cons, List.not_mem_nil, or_false] at hq
    subst hq
    show q163 (tB (vw C h)) (((6871947673600) + ((1) * ρ 2 + ((2048) * ρ 3 + 0))))
    refine c2 (P := (fun r (_ : Int) => q163 (tB (vw C h)) r)) (c := 0) (c' := 0) (r := ρ 2 + 2048 * ρ 3 + 6871947673600) ?_ (by omega) rfl
    show q163 (tB (vw C h)) (ρ 2 + 2048 * ρ 3 + 6871947673600)
    exact o163 (n := ρ 2) (s := ρ 3) (lo := 0) (hi := 99) (by omega) (by omega) (by omega) (by omega) (by omega) (by omega) (by omega) (fn_20 hR)
/-- st20C -/
theorem lem_413_ok (hU : uqG G C) : lem_413.1.2.1 = [] ∧ lemOK (PRd G C D xs) G rgs lem_413 := by
  refine ⟨rfl, fun ρ h ha hT => ?_⟩
  obtain ⟨-, -, hF, hG, hH, hA, hP⟩ := ha
  have f0 : (0 : Int) ≤ ((0) + ((1) * ρ 2 + 0)) := hF _ (List.mem_of_getElem? (i := 0) rfl)
  have f1 : (0 : Int) ≤ ((1200) + ((-1) * ρ 2 + 0)) := hF _ (List.mem_of_getElem? (i := 1) rfl)
  have f2 : (0 : Int) ≤ ((0) + ((1) * ρ 3 + 0)) := hF _ (List.mem_of_getElem? (i := 2) rfl)
  have f3 : (0 : Int) ≤ ((0) + ((1) * ρ 2 + ((-1) * ρ 3 + 0))) := hF _ (List.mem_of_getElem? (i := 3) rfl)
  have f4 : (0 : Int) ≤ ((0) + ((1) * ρ 11 + 0)) := hF _ (List.mem_of_getElem? (i := 4) rfl)
  have f5 : (0 : Int) ≤ ((0) + ((1) * ρ 2 + ((-1) * ρ 11 + 0))) := hF _ (List.mem_of_getElem? (i := 5) rfl)
  have f6 : (0 : Int) ≤ ((0) + ((1) * ρ 12 + 0)) := hF _ (List.mem_of_getElem? (i := 6) rfl)
  have f7 : (0 : Int) ≤ ((99) + ((-1) * ρ 12 + 0)) := hF _ (List.mem_of_getElem? (i := 7) rfl)
  have f8 : (0 : Int) ≤ ((0) + ((1) * ρ 5 + 0)) := hF _ (List.mem_of_getElem? (i := 8) rfl)
  have f9 : (0 : Int) ≤ ((6) + ((-1) * ρ 5 + 0)) := hF _ (List.mem_of_getElem? (i := 9) rfl)
  have f10 : (0 : Int) ≤ ((0) + ((1) * ρ 7 + 0)) := hF _ (List.mem_of_getElem? (i := 10) rfl)
  have f11 : (0 : Int) ≤ ((8) + ((-1) * ρ 7 + 0)) := hF _ (List.mem_of_getElem? (i := 11) rfl)
  have f12 : (0 : Int) ≤ ((0) + ((1) * ρ 10 + 0)) := hF _ (List.mem_of_getElem? (i := 12) rfl)
  have f13 : (0 : Int) ≤ ((5) + ((-1) * ρ 10 + 0)) := hF _ (List.mem_of_getElem? (i := 13) rfl)
  have f14 : (0 : Int) ≤ ((0) + ((1) * ρ 9 + 0)) := hF _ (List.mem_of_getElem? (i := 14) rfl)
  have f15 : (0 : Int) ≤ ((4) + ((-1) * ρ 9 + 0)) := hF _ (List.mem_of_getElem? (i := 15) rfl)
  have g0 : G (ρ 0).toNat = 14 := by
    have q := (hG _ (List.mem_of_getElem? (i := 0) rfl)).2
    rwa [show ev ρ (0, [(0, 1)]) = ρ 0 from ev_v] at q
  have g1 : G (ρ 1).toNat = 17 := by
    have q := (hG _ (List.mem_of_getElem? (i := 1) rfl)).2
    rwa [show ev ρ (0, [(1, 1)]) = ρ 1 from ev_v] at q
  have g2 : G (ρ 4).toNat = 11 := by
    have q := (hG _ (List.mem_of_getElem? (i := 2) rfl)).2
    rwa [show ev ρ (0, [(4, 1)]) = ρ 4 from ev_v] at q
  have g3 : G (ρ 6).toNat = 20 := by
    have q := (hG _ (List.mem_of_getElem? (i := 3) rfl)).2
    rwa [show ev ρ (0, [(6, 1)]) = ρ 6 from ev_v] at q
  have g4 : G (ρ 8).toNat = 16 := by
    have q := (hG _ (List.mem_of_getElem? (i := 4) rfl)).2
    rwa [show ev ρ (0, [(8, 1)]) = ρ 8 from ev_v] at q
  have h1 : (0 : Int) ≤ ρ 2 ∧ ρ 2 ≤ 1200 := hf_rg hT (hH _ (List.mem_of_getElem? (i := 1) rfl)) ev_v g1 rfl rfl rfl ev_v
  have h2 : (0 : Int) ≤ ρ 3 ∧ ρ 3 ≤ 1200 := hf_rg hT (hH _ (List.mem_of_getElem? (i := 2) rfl)) ev_v g1 rfl rfl rfl ev_v
  have h4 : (0 : Int) ≤ ρ 5 ∧ ρ 5 ≤ 6 := hf_rg hT (hH _ (List.mem_of_getElem? (i := 4) rfl)) ev_v g2 rfl rfl rfl ev_v
  have h6 : (0 : Int) ≤ ρ 7 ∧ ρ 7 ≤ 8 := hf_rg hT (hH _ (List.mem_of_getElem? (i := 6) rfl)) ev_v g3 rfl rfl rfl ev_v
  have h8 : (0 : Int) ≤ ρ 9 ∧ ρ 9 ≤ 4 := hf_rg hT (hH _ (List.mem_of_getElem? (i := 8) rfl)) ev_v g4 rfl rfl rfl ev_v
  have p0 : q176 G h (16 * ρ 6 + ρ 7) (ρ 10) := c2 (P := q176 G h) (show q176 G h (((0) + ((16) * ρ 6 + ((1) * ρ 7 + 0)))) (((0) + ((1) * ρ 10 + 0))) from hP _ (List.mem_of_getElem? (i := 0) rfl)) (by omega) (by omega)
  have p1 : q158 (tB (vw C h)) (ρ 2 + 2048 * ρ 3) (ρ 11) := c2 (P := q158 (tB (vw C h))) (show q158 (tB (vw C h)) (((0) + ((1) * ρ 2 + ((2048) * ρ 3 + 0)))) (((0) + ((1) * ρ 11 + 0))) from hP _ (List.mem_of_getElem? (i := 1) rfl)) (by omega) (by omega)
  have p2 : q164 (tB (vw C h)) (ρ 2 + 2048 * ρ 11) (ρ 12) := c2 (P := q164 (tB (vw C h))) (show q164 (tB (vw C h)) (((0) + ((1) * ρ 2 + ((2048) * ρ 11 + 0)))) (((0) + ((1) * ρ 12 + 0))) from hP _ (List.mem_of_getElem? (i := 2) rfl)) (by omega) (by omega)
  have p3 : (qRC 20 (tB (vw C h))) (ρ 2 + 4398046511104 * ρ 5 + 35184372088832 * ρ 7 + 4503599627370496 * ρ 9 + 562949953421312 * ρ 10 + 2048 * ρ 11) (ρ 13) := c2 (P := (qRC 20 (tB (vw C h)))) (show (qRC 20 (tB (vw C h))) (((0) + ((1) * ρ 2 + ((4398046511104) * ρ 5 + ((35184372088832) * ρ 7 + ((4503599627370496) * ρ 9 + ((562949953421312) * ρ 10 + ((2048) * ρ 11 + 0)))))))) (((0) + ((1) * ρ 13 + 0))) from hP _ (List.mem_of_getElem? (i := 3) rfl)) (by omega) (by omega)
  obtain ⟨hkd, nv⟩ := k164 (n := ρ 2) (s := ρ 11) (by omega) (by omega) (by omega) (by omega) (by omega) p2
  have nx := k158 (n := ρ 2) (s := ρ 11) (t := ρ 3) (by omega) (by omega) (by omega) (by omega) (by omega) (by omega) p1
  have ng := nx_gt (B := (tB (vw C h))) (n := (ρ 2).toNat) (s := (ρ 11).toNat) (by omega)
  have hc0 := p3.1
  have hR := rc_el (n := ρ 2) (s := ρ 11) (d := (0 : Int)) (K := (0 : Int)) (R := (ρ 5 + 8 * ρ 7 + 1024 * ρ 9 + 128 * ρ 10)) p3 (by omega) (by omega) (by omega) (by omega) (by omega) (by omega) (by omega) (by omega) (by omega) (by omega)
  have q := sn_20 hR hkd (by omega) (by omega)
  refine ⟨_, List.mem_cons_self, ρ, fun _ _ => rfl, fun q hq => absurd hq List.not_mem_nil, trivial, fun f hf => ?_, fun q hq => absurd hq List.not_mem_nil, fun q hq => absurd hq List.not_mem_nil, fun q hq => absurd hq List.not_mem_nil, fun q hq => ?_⟩
  · simp only [List.mem_cons, List.not_mem_nil, or_false] at hf
    subst hf
    show (0 : Int) ≤ ((-1) + ((1) * ρ 3 + ((-1) * ρ 11 + 0)))
    omega
  · simp only [List.mem_cons, List.not_mem_nil, or_false] at hq
    subst hq
    show (qRC 21 (tB (vw C h))) (((0) + ((1) * ρ 2 + ((2048) * ρ 3 + ((4398046511104) * ρ 5 + ((35184372088832) * ρ 7 + ((4503599627370496) * ρ 9 + ((562949953421312) * ρ 10 + 0)))))))) (((0) + ((1) * ρ 13 + 0)))
    refine c2 (P := (qRC 21 (tB (vw C h)))) (r := ρ 2 + 2048 * ρ 3 + 4398046511104 * ρ 5 + 35184372088832 * ρ 7 + 4503599627370496 * ρ 9 + 562949953421312 * ρ 10) (c := ρ 13) ?_ (by omega) (by omega)
    show (qRC 21 (tB (vw C h))) (ρ 2 + 2048 * ρ 3 + 4398046511104 * ρ 5 + 35184372088832 * ρ 7 + 4503599627370496 * ρ 9 + 562949953421312 * ρ 10) (ρ 13)
    exact rc_in (n := ρ 2) (s := ρ 3) (d := (0 : Int)) (K := (0 : Int)) (R := (ρ 5 + 8 * ρ 7 + 1024 * ρ 9 + 128 * ρ 10)) (by omega) (by omega) (by omega) (by omega) (by omega) (by omega) (by omega) (by omega) (by omega) (by omega) q (by omega) (by omega) (by omega) (by omega) (by omega)
/-- op21C -/
theorem lem_414_ok (hU : uqG G C) : lem_414.1.2.1 = [] ∧ lemOK (PRd G C D xs) G rgs lem_414 := by
  refine ⟨rfl, fun ρ h ha hT => ?_⟩
  obtain ⟨-, -, hF, hG, hH, hA, hP⟩ := ha
  have f0 : (0 : Int) ≤ ((0) + ((1) * ρ 2 + 0)) := hF _ (List.mem_of_getElem? (i := 0) rfl)
  have f1 : (0 : Int) ≤ ((1200) + ((-1) * ρ 2 + 0)) := hF _ (List.mem_of_getElem? (i := 1) rfl)
  have f2 : (0 : Int) ≤ ((0) + ((1) * ρ 3 + 0)) := hF _ (List.mem_of_getElem? (i := 2) rfl)
  have f3 : (0 : Int) ≤ ((0) + ((1) * ρ 2 + ((-1) * ρ 3 + 0))) := hF _ (List.mem_of_getElem? (i := 3) rfl)
  have f4 : (0 : Int) ≤ ((0) + ((1) * ρ 5 + 0)) := hF _ (List.mem_of_getElem? (i := 4) rfl)
  have f5 : (0 : Int) ≤ ((6) + ((-1) * ρ 5 + 0)) := hF _ (List.mem_of_getElem? (i := 5) rfl)
  have f6 : (0 : Int) ≤ ((0) + ((1) * ρ 7 + 0)) := hF _ (List.mem_of_getElem? (i := 6) rfl)
  have f7 : (0 : Int) ≤ ((8) + ((-1) * ρ 7 + 0)) := hF _ (List.mem_of_getElem? (i := 7) rfl)
  have f8 : (0 : Int) ≤ ((0) + ((1) * ρ 10 + 0)) := hF _ (List.mem_of_getElem? (i := 8) rfl)
  have f9 : (0 : Int) ≤ ((5) + ((-1) * ρ 10 + 0)) := hF _ (List.mem_of_getElem? (i := 9) rfl)
  have f10 : (0 : Int) ≤ ((0) + ((1) * ρ 9 + 0)) := hF _ (List.mem_of_getElem? (i := 10) rfl)
  have f11 : (0 : Int) ≤ ((4) + ((-1) * ρ 9 + 0)) := hF _ (List.mem_of_getElem? (i := 11) rfl)
  have g0 : G (ρ 0).toNat = 14 := by
    have q := (hG _ (List.mem_of_getElem? (i := 0) rfl)).2
    rwa [show ev ρ (0, [(0, 1)]) = ρ 0 from ev_v] at q
  have g1 : G (ρ 1).toNat = 17 := by
    have q := (hG _ (List.mem_of_getElem? (i := 1) rfl)).2
    rwa [show ev ρ (0, [(1, 1)]) = ρ 1 from ev_v] at q
  have g2 : G (ρ 4).toNat = 11 := by
    have q := (hG _ (List.mem_of_getElem? (i := 2) rfl)).2
    rwa [show ev ρ (0, [(4, 1)]) = ρ 4 from ev_v] at q
  have g3 : G (ρ 6).toNat = 20 := by
    have q := (hG _ (List.mem_of_getElem? (i := 3) rfl)).2
    rwa [show ev ρ (0, [(6, 1)]) = ρ 6 from ev_v] at q
  have g4 : G (ρ 8).toNat = 16 := by
    have q := (hG _ (List.mem_of_getElem? (i := 4) rfl)).2
    rwa [show ev ρ (0, [(8, 1)]) = ρ 8 from ev_v] at q
  have h1 : (0 : Int) ≤ ρ 2 ∧ ρ 2 ≤ 1200 := hf_rg hT (hH _ (List.mem_of_getElem? (i := 1) rfl)) ev_v g1 rfl rfl rfl ev_v
  have h2 : (0 : Int) ≤ ρ 3 ∧ ρ 3 ≤ 1200 := hf_rg hT (hH _ (List.mem_of_getElem? (i := 2) rfl)) ev_v g1 rfl rfl rfl ev_v
  have h4 : (0 : Int) ≤ ρ 5 ∧ ρ 5 ≤ 6 := hf_rg hT (hH _ (List.mem_of_getElem? (i := 4) rfl)) ev_v g2 rfl rfl rfl ev_v
  have h6 : (0 : Int) ≤ ρ 7 ∧ ρ 7 ≤ 8 := hf_rg hT (hH _ (List.mem_of_getElem? (i := 6) rfl)) ev_v g3 rfl rfl rfl ev_v
  have h8 : (0 : Int) ≤ ρ 9 ∧ ρ 9 ≤ 4 := hf_rg hT (hH _ (List.mem_of_getElem? (i := 8) rfl)) ev_v g4 rfl rfl rfl ev_v
  have p0 : q176 G h (16 * ρ 6 + ρ 7) (ρ 10) := c2 (P := q176 G h) (show q176 G h (((0) + ((16) * ρ 6 + ((1) * ρ 7 + 0)))) (((0) + ((1) * ρ 10 + 0))) from hP _ (List.mem_of_getElem? (i := 0) rfl)) (by omega) (by omega)
  have p1 : (qRC 21 (tB (vw C h))) (ρ 2 + 2048 * ρ 3 + 4398046511104 * ρ 5 + 35184372088832 * ρ 7 + 4503599627370496 * ρ 9 + 562949953421312 * ρ 10) (ρ 11) := c2 (P := (qRC 21 (tB (vw C h)))) (show (qRC 21 (tB (vw C h))) (((0) + ((1) * ρ 2 + ((2048) * ρ 3 + ((4398046511104) * ρ 5 + ((35184372088832) * ρ 7 + ((4503599627370496) * ρ 9 + ((562949953421312) * ρ 10 + 0)))))))) (((0) + ((1) * ρ 11 + 0))) from hP _ (List.mem_of_getElem? (i := 1) rfl)) (by omega) (by omega)
  have hc0 := p1.1
  have hR := rc_el (n := ρ 2) (s := ρ 3) (d := (0 : Int)) (K := (0 : Int)) (R := (ρ 5 + 8 * ρ 7 + 1024 * ρ 9 + 128 * ρ 10)) p1 (by omega) (by omega) (by omega) (by omega) (by omega) (by omega) (by omega) (by omega) (by omega) (by omega)
  refine ⟨_, List.mem_cons_self, ρ, fun _ _ => rfl, fun q hq => absurd hq List.not_mem_nil, trivial, fun f hf => ?_, fun q hq => absurd hq List.not_mem_nil, fun q hq => absurd hq List.not_mem_nil, fun q hq => absurd hq List.not_mem_nil, fun q hq => ?_⟩
  · exact absurd hf List.not_mem_nil
  · simp only [List.mem_cons, List.not_mem_nil, or_false] at hq
    subst hq
    show q163 (tB (vw C h)) (((6871947673600) + ((1) * ρ 2 + ((2048) * ρ 3 + 0))))
    refine c2 (P := (fun r (_ : Int) => q163 (tB (vw C h)) r)) (c := 0) (c' := 0) (r := ρ 2 + 2048 * ρ 3 + 6871947673600) ?_ (by omega) rfl
    show q163 (tB (vw C h)) (ρ 2 + 2048 * ρ 3 + 6871947673600)
    exact o163 (n := ρ 2) (s := ρ 3) (lo := 0) (hi := 99) (by omega) (by omega) (by omega) (by omega) (by omega) (by omega) (by omega) (fn_21 hR)
/-- st21C -/
theorem lem_415_ok (hU : uqG G C) : lem_415.1.2.1 = [] ∧ lemOK (PRd G C D xs) G rgs lem_415 := by
  refine ⟨rfl, fun ρ h ha hT => ?_⟩
  obtain ⟨-, -, hF, hG, hH, hA, hP⟩ := ha
  have f0 : (0 : Int) ≤ ((0) + ((1) * ρ 2 + 0)) := hF _ (List.mem_of_getElem? (i := 0) rfl)
  have f1 : (0 : Int) ≤ ((1200) + ((-1) * ρ 2 + 0)) := hF _ (List.mem_of_getElem? (i := 1) rfl)
  have f2 : (0 : Int) ≤ ((0) + ((1) * ρ 3 + 0)) := hF _ (List.mem_of_getElem? (i := 2) rfl)
  have f3 : (0 : Int) ≤ ((0) + ((1) * ρ 2 + ((-1) * ρ 3 + 0))) := hF _ (List.mem_of_getElem? (i := 3) rfl)
  have f4 : (0 : Int) ≤ ((0) + ((1) * ρ 11 + 0)) := hF _ (List.mem_of_getElem? (i := 4) rfl)
  have f5 : (0 : Int) ≤ ((0) + ((1) * ρ 2 + ((-1) * ρ 11 + 0))) := hF _ (List.mem_of_getElem? (i := 5) rfl)
  have f6 : (0 : Int) ≤ ((0) + ((1) * ρ 12 + 0)) := hF _ (List.mem_of_getElem? (i := 6) rfl)
  have f7 : (0 : Int) ≤ ((99) + ((-1) * ρ 12 + 0)) := hF _ (List.mem_of_getElem? (i := 7) rfl)
  have f8 : (0 : Int) ≤ ((0) + ((1) * ρ 5 + 0)) := hF _ (List.mem_of_getElem? (i := 8) rfl)
  have f9 : (0 : Int) ≤ ((6) + ((-1) * ρ 5 + 0)) := hF _ (List.mem_of_getElem? (i := 9) rfl)
  have f10 : (0 : Int) ≤ ((0) + ((1) * ρ 7 + 0)) := hF _ (List.mem_of_getElem? (i := 10) rfl)
  have f11 : (0 : Int) ≤ ((8) + ((-1) * ρ 7 + 0)) := hF _ (List.mem_of_getElem? (i := 11) rfl)
  have f12 : (0 : Int) ≤ ((0) + ((1) * ρ 10 + 0)) := hF _ (List.mem_of_getElem? (i := 12) rfl)
  have f13 : (0 : Int) ≤ ((5) + ((-1) * ρ 10 + 0)) := hF _ (List.mem_of_getElem? (i := 13) rfl)
  have f14 : (0 : Int) ≤ ((0) + ((1) * ρ 9 + 0)) := hF _ (List.mem_of_getElem? (i := 14) rfl)
  have f15 : (0 : Int) ≤ ((4) + ((-1) * ρ 9 + 0)) := hF _ (List.mem_of_getElem? (i := 15) rfl)
  have g0 : G (ρ 0).toNat = 14 := by
    have q := (hG _ (List.mem_of_getElem? (i := 0) rfl)).2
    rwa [show ev ρ (0, [(0, 1)]) = ρ 0 from ev_v] at q
  have g1 : G (ρ 1).toNat = 17 := by
    have q := (hG _ (List.mem_of_getElem? (i := 1) rfl)).2
    rwa [show ev ρ (0, [(1, 1)]) = ρ 1 from ev_v] at q
  have g2 : G (ρ 4).toNat = 11 := by
    have q := (hG _ (List.mem_of_getElem? (i := 2) rfl)).2
    rwa [show ev ρ (0, [(4, 1)]) = ρ 4 from ev_v] at q
  have g3 : G (ρ 6).toNat = 20 := by
    have q := (hG _ (List.mem_of_getElem? (i := 3) rfl)).2
    rwa [show ev ρ (0, [(6, 1)]) = ρ 6 from ev_v] at q
  have g4 : G (ρ 8).toNat = 16 := by
    have q := (hG _ (List.mem_of_getElem? (i := 4) rfl)).2
    rwa [show ev ρ (0, [(8, 1)]) = ρ 8 from ev_v] at q
  have h1 : (0 : Int) ≤ ρ 2 ∧ ρ 2 ≤ 1200 := hf_rg hT (hH _ (List.mem_of_getElem? (i := 1) rfl)) ev_v g1 rfl rfl rfl ev_v
  have h2 : (0 : Int) ≤ ρ 3 ∧ ρ 3 ≤ 1200 := hf_rg hT (hH _ (List.mem_of_getElem? (i := 2) rfl)) ev_v g1 rfl rfl rfl ev_v
  have h4 : (0 : Int) ≤ ρ 5 ∧ ρ 5 ≤ 6 := hf_rg hT (hH _ (List.mem_of_getElem? (i := 4) rfl)) ev_v g2 rfl rfl rfl ev_v
  have h6 : (0 : Int) ≤ ρ 7 ∧ ρ 7 ≤ 8 := hf_rg hT (hH _ (List.mem_of_getElem? (i := 6) rfl)) ev_v g3 rfl rfl rfl ev_v
  have h8 : (0 : Int) ≤ ρ 9 ∧ ρ 9 ≤ 4 := hf_rg hT (hH _ (List.mem_of_getElem? (i := 8) rfl)) ev_v g4 rfl rfl rfl ev_v
  have p0 : q176 G h (16 * ρ 6 + ρ 7) (ρ 10) := c2 (P := q176 G h) (show q176 G h (((0) + ((16) * ρ 6 + ((1) * ρ 7 + 0)))) (((0) + ((1) * ρ 10 + 0))) from hP _ (List.mem_of_getElem? (i := 0) rfl)) (by omega) (by omega)
  have p1 : q158 (tB (vw C h)) (ρ 2 + 2048 * ρ 3) (ρ 11) := c2 (P := q158 (tB (vw C h))) (show q158 (tB (vw C h)) (((0) + ((1) * ρ 2 + ((2048) * ρ 3 + 0)))) (((0) + ((1) * ρ 11 + 0))) from hP _ (List.mem_of_getElem? (i := 1) rfl)) (by omega) (by omega)
  have p2 : q164 (tB (vw C h)) (ρ 2 + 2048 * ρ 11) (ρ 12) := c2 (P := q164 (tB (vw C h))) (show q164 (tB (vw C h)) (((0) + ((1) * ρ 2 + ((2048) * ρ 11 + 0)))) (((0) + ((1) * ρ 12 + 0))) from hP _ (List.mem_of_getElem? (i := 2) rfl)) (by omega) (by omega)
  have p3 : (qRC 21 (tB (vw C h))) (ρ 2 + 4398046511104 * ρ 5 + 35184372088832 * ρ 7 + 4503599627370496 * ρ 9 + 562949953421312 * ρ 10 + 2048 * ρ 11) (ρ 13) := c2 (P := (qRC 21 (tB (vw C h)))) (show (qRC 21 (tB (vw C h))) (((0) + ((1) * ρ 2 + ((4398046511104) * ρ 5 + ((35184372088832) * ρ 7 + ((4503599627370496) * ρ 9 + ((562949953421312) * ρ 10 + ((2048) * ρ 11 + 0)))))))) (((0) + ((1) * ρ 13 + 0))) from hP _ (List.mem_of_getElem? (i := 3) rfl)) (by omega) (by omega)
  obtain ⟨hkd, nv⟩ := k164 (n := ρ 2) (s := ρ 11) (by omega) (by omega) (by omega) (by omega) (by omega) p2
  have nx := k158 (n := ρ 2) (s := ρ 11) (t := ρ 3) (by omega) (by omega) (by omega) (by omega) (by omega) (by omega) p1
  have ng := nx_gt (B := (tB (vw C h))) (n := (ρ 2).toNat) (s := (ρ 11).toNat) (by omega)
  have hc0 := p3.1
  have hR := rc_el (n := ρ 2) (s := ρ 11) (d := (0 : Int)) (K := (0 : Int)) (R := (ρ 5 + 8 * ρ 7 + 1024 * ρ 9 + 128 * ρ 10)) p3 (by omega) (by omega) (by omega) (by omega) (by omega) (by omega) (by omega) (by omega) (by omega) (by omega)
  have q := sn_21 hR hkd (by omega) (by omega)
  refine ⟨_, List.mem_cons_self, ρ, fun _ _ => rfl, fun q hq => absurd hq List.not_mem_nil, trivial, fun f hf => ?_, fun q hq => absurd hq List.not_mem_nil, fun q hq => absurd hq List.not_mem_nil, fun q hq => absurd hq List.not_mem_nil, fun q hq => ?_⟩
  · simp only [List.mem_cons, List.not_mem_nil, or_false] at hf
    subst hf
    show (0 : Int) ≤ ((-1) + ((1) * ρ 3 + ((-1) * ρ 11 + 0)))
    omega
  · simp only [List.mem_cons, List.not_mem_nil, or_false] at hq
    subst hq
    show (qRC 22 (tB (vw C h))) (((35184372088832) + ((1) * ρ 2 + ((2048) * ρ 3 + ((4398046511104) * ρ 5 + ((35184372088832) * ρ 7 + ((4503599627370496) * ρ 9 + 0))))))) (((0) + ((1) * ρ 13 + 0)))
    refine c2 (P := (qRC 22 (tB (vw C h)))) (r := ρ 2 + 2048 * ρ 3 + 4398046511104 * ρ 5 + 35184372088832 * ρ 7 + 4503599627370496 * ρ 9 + 35184372088832) (c := ρ 13) ?_ (by omega) (by omega)
    show (qRC 22 (tB (vw C h))) (ρ 2 + 2048 * ρ 3 + 4398046511104 * ρ 5 + 35184372088832 * ρ 7 + 4503599627370496 * ρ 9 + 35184372088832) (ρ 13)
    exact rc_in (n := ρ 2) (s := ρ 3) (d := (0 : Int)) (K := (0 : Int)) (R := (ρ 5 + 8 * ρ 7 + 1024 * ρ 9 + 8)) (by omega) (by omega) (by omega) (by omega) (by omega) (by omega) (by omega) (by omega) (by omega) (by omega) q (by omega) (by omega) (by omega) (by omega) (by omega)
/-- op23C -/
theorem lem_416_ok (hU : uqG G C) : lem_416.1.2.1 = [] ∧ lemOK (PRd G C D xs) G rgs lem_416 := by
  refine ⟨rfl, fun ρ h ha hT => ?_⟩
  obtain ⟨-, -, hF, hG, hH, hA, hP⟩ := ha
  have f0 : (0 : Int) ≤ ((0) + ((1) * ρ 2 + 0)) := hF _ (List.mem_of_getElem? (i := 0) rfl)
  have f1 : (0 : Int) ≤ ((1200) + ((-1) * ρ 2 + 0)) := hF _ (List.mem_of_getElem? (i := 1) rfl)
  have f2 : (0 : Int) ≤ ((0) + ((1) * ρ 3 + 0)) := hF _ (List.mem_of_getElem? (i := 2) rfl)
  have f3 : (0 : Int) ≤ ((0) + ((1) * ρ 2 + ((-1) * ρ 3 + 0))) := hF _ (List.mem_of_getElem? (i := 3) rfl)
  have f4 : (0 : Int) ≤ ((0) + ((1) * ρ 5 + 0)) := hF _ (List.mem_of_getElem? (i := 4) rfl)
  have f5 : (0 : Int) ≤ ((6) + ((-1) * ρ 5 + 0)) := hF _ (List.mem_of_getElem? (i := 5) rfl)
  have f6 : (0 : Int) ≤ ((0) + ((1) * ρ 7 + 0)) := hF _ (List.mem_of_getElem? (i := 6) rfl)
  have f7 : (0 : Int) ≤ ((8) + ((-1) * ρ 7 + 0)) := hF _ (List.mem_of_getElem? (i := 7) rfl)
  have f8 : (0 : Int) ≤ ((0) + ((1) * ρ 10 + 0)) := hF _ (List.mem_of_getElem? (i := 8) rfl)
  have f9 : (0 : Int) ≤ ((5) + ((-1) * ρ 10 + 0)) := hF _ (List.mem_of_getElem? (i := 9) rfl)
  have f10 : (0 : Int) ≤ ((0) + ((1) * ρ 9 + 0)) := hF _ (List.mem_of_getElem? (i := 10) rfl)
  have f11 : (0 : Int) ≤ ((4) + ((-1) * ρ 9 + 0)) := hF _ (List.mem_of_getElem? (i := 11) rfl)
  have g0 : G (ρ 0).toNat = 14 := by
    have q := (hG _ (List.mem_of_getElem? (i := 0) rfl)).2
    rwa [show ev ρ (0, [(0, 1)]) = ρ 0 from ev_v] at q
  have g1 : G (ρ 1).toNat = 17 := by
    have q := (hG _ (List.mem_of_getElem? (i := 1) rfl)).2
    rwa [show ev ρ (0, [(1, 1)]) = ρ 1 from ev_v] at q
  have g2 : G (ρ 4).toNat = 11 := by
    have q := (hG _ (List.mem_of_getElem? (i := 2) rfl)).2
    rwa [show ev ρ (0, [(4, 1)]) = ρ 4 from ev_v] at q
  have g3 : G (ρ 6).toNat = 20 := by
    have q := (hG _ (List.mem_of_getElem? (i := 3) rfl)).2
    rwa [show ev ρ (0, [(6, 1)]) = ρ 6 from ev_v] at q
  have g4 : G (ρ 8).toNat = 16 := by
    have q := (hG _ (List.mem_of_getElem? (i := 4) rfl)).2
    rwa [show ev ρ (0, [(8, 1)]) = ρ 8 from ev_v] at q
  have h1 : (0 : Int) ≤ ρ 2 ∧ ρ 2 ≤ 1200 := hf_rg hT (hH _ (List.mem_of_getElem? (i := 1) rfl)) ev_v g1 rfl rfl rfl ev_v
  have h2 : (0 : Int) ≤ ρ 3 ∧ ρ 3 ≤ 1200 := hf_rg hT (hH _ (List.mem_of_getElem? (i := 2) rfl)) ev_v g1 rfl rfl rfl ev_v
  have h4 : (0 : Int) ≤ ρ 5 ∧ ρ 5 ≤ 6 := hf_rg hT (hH _ (List.mem_of_getElem? (i := 4) rfl)) ev_v g2 rfl rfl rfl ev_v
  have h6 : (0 : Int) ≤ ρ 7 ∧ ρ 7 ≤ 8 := hf_rg hT (hH _ (List.mem_of_getElem? (i := 6) rfl)) ev_v g3 rfl rfl rfl ev_v
  have h8 : (0 : Int) ≤ ρ 9 ∧ ρ 9 ≤ 4 := hf_rg hT (hH _ (List.mem_of_getElem? (i := 8) rfl)) ev_v g4 rfl rfl rfl ev_v
  have p0 : q176 G h (16 * ρ 6 + ρ 7) (ρ 10) := c2 (P := q176 G h) (show q176 G h (((0) + ((16) * ρ 6 + ((1) * ρ 7 + 0)))) (((0) + ((1) * ρ 10 + 0))) from hP _ (List.mem_of_getElem? (i := 0) rfl)) (by omega) (by omega)
  have p1 : (qRC 23 (tB (vw C h))) (ρ 2 + 2048 * ρ 3 + 4398046511104 * ρ 5 + 35184372088832 * ρ 7 + 4503599627370496 * ρ 9 + 562949953421312 * ρ 10) (ρ 11) := c2 (P := (qRC 23 (tB (vw C h)))) (show (qRC 23 (tB (vw C h))) (((0) + ((1) * ρ 2 + ((2048) * ρ 3 + ((4398046511104) * ρ 5 + ((35184372088832) * ρ 7 + ((4503599627370496) * ρ 9 + ((562949953421312) * ρ 10 + 0)))))))) (((0) + ((1) * ρ 11 + 0))) from hP _ (List.mem_of_getElem? (i := 1) rfl)) (by omega) (by omega)
  have hc0 := p1.1
  have hR := rc_el (n := ρ 2) (s := ρ 3) (d := (0 : Int)) (K := (0 : Int)) (R := (ρ 5 + 8 * ρ 7 + 1024 * ρ 9 + 128 * ρ 10)) p1 (by omega) (by omega) (by omega) (by omega) (by omega) (by omega) (by omega) (by omega) (by omega) (by omega)
  refine ⟨_, List.mem_cons_self, ρ, fun _ _ => rfl, fun q hq => absurd hq List.not_mem_nil, trivial, fun f hf => ?_, fun q hq => absurd hq List.not_mem_nil, fun q hq => absurd hq List.not_mem_nil, fun q hq => absurd hq List.not_mem_nil, fun q hq => ?_⟩
  · exact absurd hf List.not_mem_nil
  · simp only [List.mem_cons, List.not_mem_nil, or_false] at hq
    subst hq
    show q163 (tB (vw C h)) (((687194767360000) + ((1) * ρ 2 + ((2048) * ρ 3 + 0))))
    refine c2 (P := (fun r (_ : Int) => q163 (tB (vw C h)) r)) (c := 0) (c' := 0) (r := ρ 2 + 2048 * ρ 3 + 687194767360000) ?_ (by omega) rfl
    show q163 (tB (vw C h)) (ρ 2 + 2048 * ρ 3 + 687194767360000)
    exact o163 (n := ρ 2) (s := ρ 3) (lo := 0) (hi := 9999) (by omega) (by omega) (by omega) (by omega) (by omega) (by omega) (by omega) (fn_23 hR)
/-- st23C -/
theorem lem_417_ok (hU : uqG G C) : lem_417.1.2.1 = [] ∧ lemOK (PRd G C D xs) G rgs lem_417 := by
  refine ⟨rfl, fun ρ h ha hT => ?_⟩
  obtain ⟨-, -, hF, hG, hH, hA, hP⟩ := ha
  have f0 : (0 : Int) ≤ ((0) + ((1) * ρ 2 + 0)) := hF _ (List.mem_of_getElem? (i := 0) rfl)
  have f1 : (0 : Int) ≤ ((1200) + ((-1) * ρ 2 + 0)) := hF _ (List.mem_of_getElem? (i := 1) rfl)
  have f2 : (0 : Int) ≤ ((0) + ((1) * ρ 3 + 0)) := hF _ (List.mem_of_getElem? (i := 2) rfl)
  have f3 : (0 : Int) ≤ ((0) + ((1) * ρ 2 + ((-1) * ρ 3 + 0))) := hF _ (List.mem_of_getElem? (i := 3) rfl)
  have f4 : (0 : Int) ≤ ((0) + ((1) * ρ 11 + 0)) := hF _ (List.mem_of_getElem? (i := 4) rfl)
  have f5 : (0 : Int) ≤ ((0) + ((1) * ρ 2 + ((-1) * ρ 11 + 0))) := hF _ (List.mem_of_getElem? (i := 5) rfl)
  have f6 : (0 : Int) ≤ ((0) + ((1) * ρ 12 + 0)) := hF _ (List.mem_of_getElem? (i := 6) rfl)
  have f7 : (0 : Int) ≤ ((9999) + ((-1) * ρ 12 + 0)) := hF _ (List.mem_of_getElem? (i := 7) rfl)
  have f8 : (0 : Int) ≤ ((0) + ((1) * ρ 5 + 0)) := hF _ (List.mem_of_getElem? (i := 8) rfl)
  have f9 : (0 : Int) ≤ ((6) + ((-1) * ρ 5 + 0)) := hF _ (List.mem_of_getElem? (i := 9) rfl)
  have f10 : (0 : Int) ≤ ((0) + ((1) * ρ 7 + 0)) := hF _ (List.mem_of_getElem? (i := 10) rfl)
  have f11 : (0 : Int) ≤ ((8) + ((-1) * ρ 7 + 0)) := hF _ (List.mem_of_getElem? (i := 11) rfl)
  have f12 : (0 : Int) ≤ ((0) + ((1) * ρ 10 + 0)) := hF _ (List.mem_of_getElem? (i := 12) rfl)
  have f13 : (0 : Int) ≤ ((5) + ((-1) * ρ 10 + 0)) := hF _ (List.mem_of_getElem? (i := 13) rfl)
  have f14 : (0 : Int) ≤ ((0) + ((1) * ρ 9 + 0)) := hF _ (List.mem_of_getElem? (i := 14) rfl)
  have f15 : (0 : Int) ≤ ((4) + ((-1) * ρ 9 + 0)) := hF _ (List.mem_of_getElem? (i := 15) rfl)
  have g0 : G (ρ 0).toNat = 14 := by
    have q := (hG _ (List.mem_of_getElem? (i := 0) rfl)).2
    rwa [show ev ρ (0, [(0, 1)]) = ρ 0 from ev_v] at q
  have g1 : G (ρ 1).toNat = 17 := by
    have q := (hG _ (List.mem_of_getElem? (i := 1) rfl)).2
    rwa [show ev ρ (0, [(1, 1)]) = ρ 1 from ev_v] at q
  have g2 : G (ρ 4).toNat = 11 := by
    have q := (hG _ (List.mem_of_getElem? (i := 2) rfl)).2
    rwa [show ev ρ (0, [(4, 1)]) = ρ 4 from ev_v] at q
  have g3 : G (ρ 6).toNat = 20 := by
    have q := (hG _ (List.mem_of_getElem? (i := 3) rfl)).2
    rwa [show ev ρ (0, [(6, 1)]) = ρ 6 from ev_v] at q
  have g4 : G (ρ 8).toNat = 16 := by
    have q := (hG _ (List.mem_of_getElem? (i := 4) rfl)).2
    rwa [show ev ρ (0, [(8, 1)]) = ρ 8 from ev_v] at q
  have h1 : (0 : Int) ≤ ρ 2 ∧ ρ 2 ≤ 1200 := hf_rg hT (hH _ (List.mem_of_getElem? (i := 1) rfl)) ev_v g1 rfl rfl rfl ev_v
  have h2 : (0 : Int) ≤ ρ 3 ∧ ρ 3 ≤ 1200 := hf_rg hT (hH _ (List.mem_of_getElem? (i := 2) rfl)) ev_v g1 rfl rfl rfl ev_v
  have h4 : (0 : Int) ≤ ρ 5 ∧ ρ 5 ≤ 6 := hf_rg hT (hH _ (List.mem_of_getElem? (i := 4) rfl)) ev_v g2 rfl rfl rfl ev_v
  have h6 : (0 : Int) ≤ ρ 7 ∧ ρ 7 ≤ 8 := hf_rg hT (hH _ (List.mem_of_getElem? (i := 6) rfl)) ev_v g3 rfl rfl rfl ev_v
  have h8 : (0 : Int) ≤ ρ 9 ∧ ρ 9 ≤ 4 := hf_rg hT (hH _ (List.mem_of_getElem? (i := 8) rfl)) ev_v g4 rfl rfl rfl ev_v
  have p0 : q176 G h (16 * ρ 6 + ρ 7) (ρ 10) := c2 (P := q176 G h) (show q176 G h (((0) + ((16) * ρ 6 + ((1) * ρ 7 + 0)))) (((0) + ((1) * ρ 10 + 0))) from hP _ (List.mem_of_getElem? (i := 0) rfl)) (by omega) (by omega)
  have p1 : q158 (tB (vw C h)) (ρ 2 + 2048 * ρ 3) (ρ 11) := c2 (P := q158 (tB (vw C h))) (show q158 (tB (vw C h)) (((0) + ((1) * ρ 2 + ((2048) * ρ 3 + 0)))) (((0) + ((1) * ρ 11 + 0))) from hP _ (List.mem_of_getElem? (i := 1) rfl)) (by omega) (by omega)
  have p2 : q164 (tB (vw C h)) (ρ 2 + 2048 * ρ 11) (ρ 12) := c2 (P := q164 (tB (vw C h))) (show q164 (tB (vw C h)) (((0) + ((1) * ρ 2 + ((2048) * ρ 11 + 0)))) (((0) + ((1) * ρ 12 + 0))) from hP _ (List.mem_of_getElem? (i := 2) rfl)) (by omega) (by omega)
  have p3 : (qRC 23 (tB (vw C h))) (ρ 2 + 4398046511104 * ρ 5 + 35184372088832 * ρ 7 + 4503599627370496 * ρ 9 + 562949953421312 * ρ 10 + 2048 * ρ 11) (ρ 13) := c2 (P := (qRC 23 (tB (vw C h)))) (show (qRC 23 (tB (vw C h))) (((0) + ((1) * ρ 2 + ((4398046511104) * ρ 5 + ((35184372088832) * ρ 7 + ((4503599627370496) * ρ 9 + ((562949953421312) * ρ 10 + ((2048) * ρ 11 + 0)))))))) (((0) + ((1) * ρ 13 + 0))) from hP _ (List.mem_of_getElem? (i := 3) rfl)) (by omega) (by omega)
  obtain ⟨hkd, nv⟩ := k164 (n := ρ 2) (s := ρ 11) (by omega) (by omega) (by omega) (by omega) (by omega) p2
  have nx := k158 (n := ρ 2) (s := ρ 11) (t := ρ 3) (by omega) (by omega) (by omega) (by omega) (by omega) (by omega) p1
  have ng := nx_gt (B := (tB (vw C h))) (n := (ρ 2).toNat) (s := (ρ 11).toNat) (by omega)
  have hc0 := p3.1
  have hR := rc_el (n := ρ 2) (s := ρ 11) (d := (0 : Int)) (K := (0 : Int)) (R := (ρ 5 + 8 * ρ 7 + 1024 * ρ 9 + 128 * ρ 10)) p3 (by omega) (by omega) (by omega) (by omega) (by omega) (by omega) (by omega) (by omega) (by omega) (by omega)
  have q := sn_23 hR hkd (by omega) (by omega)
  obtain ⟨σ, r1, r2a⟩ : ∃ σ : Va, (∀ i, i < 14 → σ i = ρ i) ∧ σ 14 = ((setC (ρ 13).toNat (19 + (ρ 5 + 8 * ρ 7 + 1024 * ρ 9 + 128 * ρ 10).toNat / 8 % 16) (ρ 12).toNat : Nat) : Int) := ⟨fun i => if i = 14 then ((setC (ρ 13).toNat (19 + (ρ 5 + 8 * ρ 7 + 1024 * ρ 9 + 128 * ρ 10).toNat / 8 % 16) (ρ 12).toNat : Nat) : Int) else ρ i, fun i hi => by dsimp only; rw [if_neg (by omega)], by dsimp only; rw [if_pos rfl]⟩
  have s0 := r1 0 (by omega)
  have s1 := r1 1 (by omega)
  have s2 := r1 2 (by omega)
  have s3 := r1 3 (by omega)
  have s4 := r1 4 (by omega)
  have s5 := r1 5 (by omega)
  have s6 := r1 6 (by omega)
  have s7 := r1 7 (by omega)
  have s8 := r1 8 (by omega)
  have s9 := r1 9 (by omega)
  have s10 := r1 10 (by omega)
  have s11 := r1 11 (by omega)
  have s12 := r1 12 (by omega)
  have s13 := r1 13 (by omega)
  refine ⟨_, List.mem_cons_self, σ, r1, fun q hq => absurd hq List.not_mem_nil, trivial, fun f hf => ?_, fun q hq => absurd hq List.not_mem_nil, fun q hq => absurd hq List.not_mem_nil, fun q hq => absurd hq List.not_mem_nil, fun q hq => ?_⟩
  · simp only [List.mem_cons, List.not_mem_nil, or_false] at hf
    subst hf
    show (0 : Int) ≤ ((-1) + ((1) * σ 3 + ((-1) * σ 11 + 0)))
    omega
  · simp only [List.mem_cons, List.not_mem_nil, or_false] at hq
    rcases hq with rfl | rfl | rfl
    · show (qRC 24 (tB (vw C h))) (((0) + ((1) * σ 2 + ((2048) * σ 3 + ((4398046511104) * σ 5 + ((35184372088832) * σ 7 + ((4503599627370496) * σ 9 + ((562949953421312) * σ 10 + ((36028797018963968) * σ 12 + 0))))))))) (((0) + ((1) * σ 14 + 0)))
      refine c2 (P := (qRC 24 (tB (vw C h)))) (r := ρ 2 + 2048 * ρ 3 + 4398046511104 * ρ 5 + 35184372088832 * ρ 7 + 4503599627370496 * ρ 9 + 562949953421312 * ρ 10 + 36028797018963968 * ρ 12) (c := ((setC (ρ 13).toNat (19 + (ρ 5 + 8 * ρ 7 + 1024 * ρ 9 + 128 * ρ 10).toNat / 8 % 16) (ρ 12).toNat : Nat) : Int)) ?_ (by omega) (by omega)
      show (qRC 24 (tB (vw C h))) (ρ 2 + 2048 * ρ 3 + 4398046511104 * ρ 5 + 35184372088832 * ρ 7 + 4503599627370496 * ρ 9 + 562949953421312 * ρ 10 + 36028797018963968 * ρ 12) (((setC (ρ 13).toNat (19 + (ρ 5 + 8 * ρ 7 + 1024 * ρ 9 + 128 * ρ 10).toNat / 8 % 16) (ρ 12).toNat : Nat) : Int))
      exact rc_in (n := ρ 2) (s := ρ 3) (d := (0 : Int)) (K := (0 : Int)) (R := (ρ 5 + 8 * ρ 7 + 1024 * ρ 9 + 128 * ρ 10 + 8192 * ρ 12)) (by omega) (by omega) (by omega) (by omega) (by omega) (by omega) (by omega) (by omega) (by omega) (by omega) q (by omega) (by omega) (by omega) (by omega) (by rw [nv])
    · show qSet (((1245184) + ((65536) * σ 7 + ((1) * σ 12 + ((16777216) * σ 13 + 0))))) (((0) + ((1) * σ 14 + 0)))
      refine c2 (P := qSet) (r := 65536 * ρ 7 + ρ 12 + 16777216 * ρ 13 + 1245184) (c := ((setC (ρ 13).toNat (19 + (ρ 5 + 8 * ρ 7 + 1024 * ρ 9 + 128 * ρ 10).toNat / 8 % 16) (ρ 12).toNat : Nat) : Int)) ?_ (by omega) (by omega)
      show qSet (65536 * ρ 7 + ρ 12 + 16777216 * ρ 13 + 1245184) (((setC (ρ 13).toNat (19 + (ρ 5 + 8 * ρ 7 + 1024 * ρ 9 + 128 * ρ 10).toNat / 8 % 16) (ρ 12).toNat : Nat) : Int))
      exact oSet (V := ρ 13) (v := ρ 12) (k := 19 + (ρ 5 + 8 * ρ 7 + 1024 * ρ 9 + 128 * ρ 10).toNat / 8 % 16) (by omega) (by omega) (by omega) (by omega) rfl
    · show True
      refine c2 (P := (fun (_ _ : Int) => True)) (r := 0) (r' := 0) (c := 0) (c' := 0) ?_ rfl rfl
      show True
      trivial
/-- op24C -/
theorem lem_418_ok (hU : uqG G C) : lem_418.1.2.1 = [] ∧ lemOK (PRd G C D xs) G rgs lem_418 := by
  refine ⟨rfl, fun ρ h ha hT => ?_⟩
  obtain ⟨-, -, hF, hG, hH, hA, hP⟩ := ha
  have f0 : (0 : Int) ≤ ((0) + ((1) * ρ 2 + 0)) := hF _ (List.mem_of_getElem? (i := 0) rfl)
  have f1 : (0 : Int) ≤ ((1200) + ((-1) * ρ 2 + 0)) := hF _ (List.mem_of_getElem? (i := 1) rfl)
  have f2 : (0 : Int) ≤ ((0) + ((1) * ρ 3 + 0)) := hF _ (List.mem_of_getElem? (i := 2) rfl)
  have f3 : (0 : Int) ≤ ((0) + ((1) * ρ 2 + ((-1) * ρ 3 + 0))) := hF _ (List.mem_of_getElem? (i := 3) rfl)
  have f4 : (0 : Int) ≤ ((0) + ((1) * ρ 11 + 0)) := hF _ (List.mem_of_getElem? (i := 4) rfl)
  have f5 : (0 : Int) ≤ ((9999) + ((-1) * ρ 11 + 0)) := hF _ (List.mem_of_getElem? (i := 5) rfl)
  have f6 : (0 : Int) ≤ ((0) + ((1) * ρ 5 + 0)) := hF _ (List.mem_of_getElem? (i := 6) rfl)
  have f7 : (0 : Int) ≤ ((6) + ((-1) * ρ 5 + 0)) := hF _ (List.mem_of_getElem? (i := 7) rfl)
  have f8 : (0 : Int) ≤ ((0) + ((1) * ρ 7 + 0)) := hF _ (List.mem_of_getElem? (i := 8) rfl)
  have f9 : (0 : Int) ≤ ((8) + ((-1) * ρ 7 + 0)) := hF _ (List.mem_of_getElem? (i := 9) rfl)
  have f10 : (0 : Int) ≤ ((0) + ((1) * ρ 10 + 0)) := hF _ (List.mem_of_getElem? (i := 10) rfl)
  have f11 : (0 : Int) ≤ ((5) + ((-1) * ρ 10 + 0)) := hF _ (List.mem_of_getElem? (i := 11) rfl)
  have f12 : (0 : Int) ≤ ((0) + ((1) * ρ 9 + 0)) := hF _ (List.mem_of_getElem? (i := 12) rfl)
  have f13 : (0 : Int) ≤ ((4) + ((-1) * ρ 9 + 0)) := hF _ (List.mem_of_getElem? (i := 13) rfl)
  have g0 : G (ρ 0).toNat = 14 := by
    have q := (hG _ (List.mem_of_getElem? (i := 0) rfl)).2
    rwa [show ev ρ (0, [(0, 1)]) = ρ 0 from ev_v] at q
  have g1 : G (ρ 1).toNat = 17 := by
    have q := (hG _ (List.mem_of_getElem? (i := 1) rfl)).2
    rwa [show ev ρ (0, [(1, 1)]) = ρ 1 from ev_v] at q
  have g2 : G (ρ 4).toNat = 11 := by
    have q := (hG _ (List.mem_of_getElem? (i := 2) rfl)).2
    rwa [show ev ρ (0, [(4, 1)]) = ρ 4 from ev_v] at q
  have g3 : G (ρ 6).toNat = 20 := by
    have q := (hG _ (List.mem_of_getElem? (i := 3) rfl)).2
    rwa [show ev ρ (0, [(6, 1)]) = ρ 6 from ev_v] at q
  have g4 : G (ρ 8).toNat = 16 := by
    have q := (hG _ (List.mem_of_getElem? (i := 4) rfl)).2
    rwa [show ev ρ (0, [(8, 1)]) = ρ 8 from ev_v] at q
  have h1 : (0 : Int) ≤ ρ 2 ∧ ρ 2 ≤ 1200 := hf_rg hT (hH _ (List.mem_of_getElem? (i := 1) rfl)) ev_v g1 rfl rfl rfl ev_v
  have h2 : (0 : Int) ≤ ρ 3 ∧ ρ 3 ≤ 1200 := hf_rg hT (hH _ (List.mem_of_getElem? (i := 2) rfl)) ev_v g1 rfl rfl rfl ev_v
  have h4 : (0 : Int) ≤ ρ 5 ∧ ρ 5 ≤ 6 := hf_rg hT (hH _ (List.mem_of_getElem? (i := 4) rfl)) ev_v g2 rfl rfl rfl ev_v
  have h6 : (0 : Int) ≤ ρ 7 ∧ ρ 7 ≤ 8 := hf_rg hT (hH _ (List.mem_of_getElem? (i := 6) rfl)) ev_v g3 rfl rfl rfl ev_v
  have h8 : (0 : Int) ≤ ρ 9 ∧ ρ 9 ≤ 4 := hf_rg hT (hH _ (List.mem_of_getElem? (i := 8) rfl)) ev_v g4 rfl rfl rfl ev_v
  have p0 : q176 G h (16 * ρ 6 + ρ 7) (ρ 10) := c2 (P := q176 G h) (show q176 G h (((0) + ((16) * ρ 6 + ((1) * ρ 7 + 0)))) (((0) + ((1) * ρ 10 + 0))) from hP _ (List.mem_of_getElem? (i := 0) rfl)) (by omega) (by omega)
  have p1 : True := c2 (P := (fun (_ _ : Int) => True)) (r := 0) (r' := 0) (c := 0) (c' := 0) (show True from hP _ (List.mem_of_getElem? (i := 1) rfl)) rfl rfl
  have p2 : (qRC 24 (tB (vw C h))) (ρ 2 + 2048 * ρ 3 + 4398046511104 * ρ 5 + 35184372088832 * ρ 7 + 4503599627370496 * ρ 9 + 562949953421312 * ρ 10 + 36028797018963968 * ρ 11) (ρ 12) := c2 (P := (qRC 24 (tB (vw C h)))) (show (qRC 24 (tB (vw C h))) (((0) + ((1) * ρ 2 + ((2048) * ρ 3 + ((4398046511104) * ρ 5 + ((35184372088832) * ρ 7 + ((4503599627370496) * ρ 9 + ((562949953421312) * ρ 10 + ((36028797018963968) * ρ 11 + 0))))))))) (((0) + ((1) * ρ 12 + 0))) from hP _ (List.mem_of_getElem? (i := 2) rfl)) (by omega) (by omega)
  have hc0 := p2.1
  have hR := rc_el (n := ρ 2) (s := ρ 3) (d := (0 : Int)) (K := (0 : Int)) (R := (ρ 5 + 8 * ρ 7 + 1024 * ρ 9 + 128 * ρ 10 + 8192 * ρ 11)) p2 (by omega) (by omega) (by omega) (by omega) (by omega) (by omega) (by omega) (by omega) (by omega) (by omega)
  refine ⟨_, List.mem_cons_self, ρ, fun _ _ => rfl, fun q hq => absurd hq List.not_mem_nil, trivial, fun f hf => ?_, fun q hq => absurd hq List.not_mem_nil, fun q hq => absurd hq List.not_mem_nil, fun q hq => absurd hq List.not_mem_nil, fun q hq => ?_⟩
  · exact absurd hf List.not_mem_nil
  · simp only [List.mem_cons, List.not_mem_nil, or_false] at hq
    subst hq
    show q163 (tB (vw C h)) (((687194767360000) + ((1) * ρ 2 + ((2048) * ρ 3 + ((4194304) * ρ 11 + 0)))))
    refine c2 (P := (fun r (_ : Int) => q163 (tB (vw C h)) r)) (c := 0) (c' := 0) (r := ρ 2 + 2048 * ρ 3 + 4194304 * ρ 11 + 687194767360000) ?_ (by omega) rfl
    show q163 (tB (vw C h)) (ρ 2 + 2048 * ρ 3 + 4194304 * ρ 11 + 687194767360000)
    exact o163 (n := ρ 2) (s := ρ 3) (lo := ρ 11) (hi := 9999) (by omega) (by omega) (by omega) (by omega) (by omega) (by omega) (by omega) (by
      have q := fn_24 hR
      rw [show ((((ρ 5 + 8 * ρ 7 + 1024 * ρ 9 + 128 * ρ 10 + 8192 * ρ 11)).toNat / 8192 : Nat) : Int) = ρ 11 by omega] at q
      exact q)
/-- st24C -/
theorem lem_419_ok (hU : uqG G C) : lem_419.1.2.1 = [] ∧ lemOK (PRd G C D xs) G rgs lem_419 := by
  refine ⟨rfl, fun ρ h ha hT => ?_⟩
  obtain ⟨-, -, hF, hG, hH, hA, hP⟩ := ha
  have f0 : (0 : Int) ≤ ((0) + ((1) * ρ 2 + 0)) := hF _ (List.mem_of_getElem? (i := 0) rfl)
  have f1 : (0 : Int) ≤ ((1200) + ((-1) * ρ 2 + 0)) := hF _ (List.mem_of_getElem? (i := 1) rfl)
  have f2 : (0 : Int) ≤ ((0) + ((1) * ρ 3 + 0)) := hF _ (List.mem_of_getElem? (i := 2) rfl)
  have f3 : (0 : Int) ≤ ((0) + ((1) * ρ 2 + ((-1) * ρ 3 + 0))) := hF _ (List.mem_of_getElem? (i := 3) rfl)
  have f4 : (0 : Int) ≤ ((0) + ((1) * ρ 12 + 0)) := hF _ (List.mem_of_getElem? (i := 4) rfl)
  have f5 : (0 : Int) ≤ ((0) + ((1) * ρ 2 + ((-1) * ρ 12 + 0))) := hF _ (List.mem_of_getElem? (i := 5) rfl)
  have f6 : (0 : Int) ≤ ((0) + ((1) * ρ 11 + 0)) := hF _ (List.mem_of_getElem? (i := 6) rfl)
  have f7 : (0 : Int) ≤ ((9999) + ((-1) * ρ 11 + 0)) := hF _ (List.mem_of_getElem? (i := 7) rfl)
  have f8 : (0 : Int) ≤ ((0) + ((-1) * ρ 11 + ((1) * ρ 13 + 0))) := hF _ (List.mem_of_getElem? (i := 8) rfl)
  have f9 : (0 : Int) ≤ ((9999) + ((-1) * ρ 13 + 0)) := hF _ (List.mem_of_getElem? (i := 9) rfl)
  have f10 : (0 : Int) ≤ ((0) + ((1) * ρ 5 + 0)) := hF _ (List.mem_of_getElem? (i := 10) rfl)
  have f11 : (0 : Int) ≤ ((6) + ((-1) * ρ 5 + 0)) := hF _ (List.mem_of_getElem? (i := 11) rfl)
  have f12 : (0 : Int) ≤ ((0) + ((1) * ρ 7 + 0)) := hF _ (List.mem_of_getElem? (i := 12) rfl)
  have f13 : (0 : Int) ≤ ((8) + ((-1) * ρ 7 + 0)) := hF _ (List.mem_of_getElem? (i := 13) rfl)
  have f14 : (0 : Int) ≤ ((0) + ((1) * ρ 10 + 0)) := hF _ (List.mem_of_getElem? (i := 14) rfl)
  have f15 : (0 : Int) ≤ ((5) + ((-1) * ρ 10 + 0)) := hF _ (List.mem_of_getElem? (i := 15) rfl)
  have f16 : (0 : Int) ≤ ((0) + ((1) * ρ 9 + 0)) := hF _ (List.mem_of_getElem? (i := 16) rfl)
  have f17 : (0 : Int) ≤ ((4) + ((-1) * ρ 9 + 0)) := hF _ (List.mem_of_getElem? (i := 17) rfl)
  have g0 : G (ρ 0).toNat = 14 := by
    have q := (hG _ (List.mem_of_getElem? (i := 0) rfl)).2
    rwa [show ev ρ (0, [(0, 1)]) = ρ 0 from ev_v] at q
  have g1 : G (ρ 1).toNat = 17 := by
    have q := (hG _ (List.mem_of_getElem? (i := 1) rfl)).2
    rwa [show ev ρ (0, [(1, 1)]) = ρ 1 from ev_v] at q
  have g2 : G (ρ 4).toNat = 11 := by
    have q := (hG _ (List.mem_of_getElem? (i := 2) rfl)).2
    rwa [show ev ρ (0, [(4, 1)]) = ρ 4 from ev_v] at q
  have g3 : G (ρ 6).toNat = 20 := by
    have q := (hG _ (List.mem_of_getElem? (i := 3) rfl)).2
    rwa [show ev ρ (0, [(6, 1)]) = ρ 6 from ev_v] at q
  have g4 : G (ρ 8).toNat = 16 := by
    have q := (hG _ (List.mem_of_getElem? (i := 4) rfl)).2
    rwa [show ev ρ (0, [(8, 1)]) = ρ 8 from ev_v] at q
  have h1 : (0 : Int) ≤ ρ 2 ∧ ρ 2 ≤ 1200 := hf_rg hT (hH _ (List.mem_of_getElem? (i := 1) rfl)) ev_v g1 rfl rfl rfl ev_v
  have h2 : (0 : Int) ≤ ρ 3 ∧ ρ 3 ≤ 1200 := hf_rg hT (hH _ (List.mem_of_getElem? (i := 2) rfl)) ev_v g1 rfl rfl rfl ev_v
  have h4 : (0 : Int) ≤ ρ 5 ∧ ρ 5 ≤ 6 := hf_rg hT (hH _ (List.mem_of_getElem? (i := 4) rfl)) ev_v g2 rfl rfl rfl ev_v
  have h6 : (0 : Int) ≤ ρ 7 ∧ ρ 7 ≤ 8 := hf_rg hT (hH _ (List.mem_of_getElem? (i := 6) rfl)) ev_v g3 rfl rfl rfl ev_v
  have h8 : (0 : Int) ≤ ρ 9 ∧ ρ 9 ≤ 4 := hf_rg hT (hH _ (List.mem_of_getElem? (i := 8) rfl)) ev_v g4 rfl rfl rfl ev_v
  have p0 : q176 G h (16 * ρ 6 + ρ 7) (ρ 10) := c2 (P := q176 G h) (show q176 G h (((0) + ((16) * ρ 6 + ((1) * ρ 7 + 0)))) (((0) + ((1) * ρ 10 + 0))) from hP _ (List.mem_of_getElem? (i := 0) rfl)) (by omega) (by omega)
  have p1 : True := c2 (P := (fun (_ _ : Int) => True)) (r := 0) (r' := 0) (c := 0) (c' := 0) (show True from hP _ (List.mem_of_getElem? (i := 1) rfl)) rfl rfl
  have p2 : q158 (tB (vw C h)) (ρ 2 + 2048 * ρ 3) (ρ 12) := c2 (P := q158 (tB (vw C h))) (show q158 (tB (vw C h)) (((0) + ((1) * ρ 2 + ((2048) * ρ 3 + 0)))) (((0) + ((1) * ρ 12 + 0))) from hP _ (List.mem_of_getElem? (i := 2) rfl)) (by omega) (by omega)
  have p3 : q164 (tB (vw C h)) (ρ 2 + 2048 * ρ 12) (ρ 13) := c2 (P := q164 (tB (vw C h))) (show q164 (tB (vw C h)) (((0) + ((1) * ρ 2 + ((2048) * ρ 12 + 0)))) (((0) + ((1) * ρ 13 + 0))) from hP _ (List.mem_of_getElem? (i := 3) rfl)) (by omega) (by omega)
  have p4 : (qRC 24 (tB (vw C h))) (ρ 2 + 4398046511104 * ρ 5 + 35184372088832 * ρ 7 + 4503599627370496 * ρ 9 + 562949953421312 * ρ 10 + 36028797018963968 * ρ 11 + 2048 * ρ 12) (ρ 14) := c2 (P := (qRC 24 (tB (vw C h)))) (show (qRC 24 (tB (vw C h))) (((0) + ((1) * ρ 2 + ((4398046511104) * ρ 5 + ((35184372088832) * ρ 7 + ((4503599627370496) * ρ 9 + ((562949953421312) * ρ 10 + ((36028797018963968) * ρ 11 + ((2048) * ρ 12 + 0))))))))) (((0) + ((1) * ρ 14 + 0))) from hP _ (List.mem_of_getElem? (i := 4) rfl)) (by omega) (by omega)
  obtain ⟨hkd, nv⟩ := k164 (n := ρ 2) (s := ρ 12) (by omega) (by omega) (by omega) (by omega) (by omega) p3
  have nx := k158 (n := ρ 2) (s := ρ 12) (t := ρ 3) (by omega) (by omega) (by omega) (by omega) (by omega) (by omega) p2
  have ng := nx_gt (B := (tB (vw C h))) (n := (ρ 2).toNat) (s := (ρ 12).toNat) (by omega)
  have hc0 := p4.1
  have hR := rc_el (n := ρ 2) (s := ρ 12) (d := (0 : Int)) (K := (0 : Int)) (R := (ρ 5 + 8 * ρ 7 + 1024 * ρ 9 + 128 * ρ 10 + 8192 * ρ 11)) p4 (by omega) (by omega) (by omega) (by omega) (by omega) (by omega) (by omega) (by omega) (by omega) (by omega)
  have q := sn_24 hR hkd (by omega) (by omega)
  obtain ⟨σ, r1, r2a⟩ : ∃ σ : Va, (∀ i, i < 15 → σ i = ρ i) ∧ σ 15 = ((setC (ρ 14).toNat (27 + (ρ 5 + 8 * ρ 7 + 1024 * ρ 9 + 128 * ρ 10 + 8192 * ρ 11).toNat / 8 % 16) (ρ 13).toNat : Nat) : Int) := ⟨fun i => if i = 15 then ((setC (ρ 14).toNat (27 + (ρ 5 + 8 * ρ 7 + 1024 * ρ 9 + 128 * ρ 10 + 8192 * ρ 11).toNat / 8 % 16) (ρ 13).toNat : Nat) : Int) else ρ i, fun i hi => by dsimp only; rw [if_neg (by omega)], by dsimp only; rw [if_pos rfl]⟩
  have s0 := r1 0 (by omega)
  have s1 := r1 1 (by omega)
  have s2 := r1 2 (by omega)
  have s3 := r1 3 (by omega)
  have s4 := r1 4 (by omega)
  have s5 := r1 5 (by omega)
  have s6 := r1 6 (by omega)
  have s7 := r1 7 (by omega)
  have s8 := r1 8 (by omega)
  have s9 := r1 9 (by omega)
  have s10 := r1 10 (by omega)
  have s11 := r1 11 (by omega)
  have s12 := r1 12 (by omega)
  have s13 := r1 13 (by omega)
  have s14 := r1 14 (by omega)
  refine ⟨_, List.mem_cons_self, σ, r1, fun q hq => absurd hq List.not_mem_nil, trivial, fun f hf => ?_, fun q hq => absurd hq List.not_mem_nil, fun q hq => absurd hq List.not_mem_nil, fun q hq => absurd hq List.not_mem_nil, fun q hq => ?_⟩
  · simp only [List.mem_cons, List.not_mem_nil, or_false] at hf
    subst hf
    show (0 : Int) ≤ ((-1) + ((1) * σ 3 + ((-1) * σ 12 + 0)))
    omega
  · simp only [List.mem_cons, List.not_mem_nil, or_false] at hq
    rcases hq with rfl | rfl
    · show (qRC 15 (tB (vw C h))) (((0) + ((1) * σ 2 + ((2048) * σ 3 + ((4398046511104) * σ 5 + ((35184372088832) * σ 7 + ((4503599627370496) * σ 9 + ((562949953421312) * σ 10 + 0)))))))) (((0) + ((1) * σ 15 + 0)))
      refine c2 (P := (qRC 15 (tB (vw C h)))) (r := ρ 2 + 2048 * ρ 3 + 4398046511104 * ρ 5 + 35184372088832 * ρ 7 + 4503599627370496 * ρ 9 + 562949953421312 * ρ 10) (c := ((setC (ρ 14).toNat (27 + (ρ 5 + 8 * ρ 7 + 1024 * ρ 9 + 128 * ρ 10 + 8192 * ρ 11).toNat / 8 % 16) (ρ 13).toNat : Nat) : Int)) ?_ (by omega) (by omega)
      show (qRC 15 (tB (vw C h))) (ρ 2 + 2048 * ρ 3 + 4398046511104 * ρ 5 + 35184372088832 * ρ 7 + 4503599627370496 * ρ 9 + 562949953421312 * ρ 10) (((setC (ρ 14).toNat (27 + (ρ 5 + 8 * ρ 7 + 1024 * ρ 9 + 128 * ρ 10 + 8192 * ρ 11).toNat / 8 % 16) (ρ 13).toNat : Nat) : Int))
      exact rc_in (n := ρ 2) (s := ρ 3) (d := (0 : Int)) (K := (0 : Int)) (R := (ρ 5 + 8 * ρ 7 + 1024 * ρ 9 + 128 * ρ 10)) (by omega) (by omega) (by omega) (by omega) (by omega) (by omega) (by omega) (by omega) (by omega) (by omega) q (by omega) (by omega) (by omega) (by omega) (by rw [nv])
    · show qSet (((1769472) + ((65536) * σ 7 + ((1) * σ 13 + ((16777216) * σ 14 + 0))))) (((0) + ((1) * σ 15 + 0)))
      refine c2 (P := qSet) (r := 65536 * ρ 7 + ρ 13 + 16777216 * ρ 14 + 1769472) (c := ((setC (ρ 14).toNat (27 + (ρ 5 + 8 * ρ 7 + 1024 * ρ 9 + 128 * ρ 10 + 8192 * ρ 11).toNat / 8 % 16) (ρ 13).toNat : Nat) : Int)) ?_ (by omega) (by omega)
      show qSet (65536 * ρ 7 + ρ 13 + 16777216 * ρ 14 + 1769472) (((setC (ρ 14).toNat (27 + (ρ 5 + 8 * ρ 7 + 1024 * ρ 9 + 128 * ρ 10 + 8192 * ρ 11).toNat / 8 % 16) (ρ 13).toNat : Nat) : Int))
      exact oSet (V := ρ 14) (v := ρ 13) (k := 27 + (ρ 5 + 8 * ρ 7 + 1024 * ρ 9 + 128 * ρ 10 + 8192 * ρ 11).toNat / 8 % 16) (by omega) (by omega) (by omega) (by omega) rfl
/-- op25C -/
theorem lem_420_ok (hU : uqG G C) : lem_420.1.2.1 = [] ∧ lemOK (PRd G C D xs) G rgs lem_420 := by
  refine ⟨rfl, fun ρ h ha hT => ?_⟩
  obtain ⟨-, -, hF, hG, hH, hA, hP⟩ := ha
  have f0 : (0 : Int) ≤ ((0) + ((1) * ρ 2 + 0)) := hF _ (List.mem_of_getElem? (i := 0) rfl)
  have f1 : (0 : Int) ≤ ((1200) + ((-1) * ρ 2 + 0)) := hF _ (List.mem_of_getElem? (i := 1) rfl)
  have f2 : (0 : Int) ≤ ((0) + ((1) * ρ 3 + 0)) := hF _ (List.mem_of_getElem? (i := 2) rfl)
  have f3 : (0 : Int) ≤ ((0) + ((1) * ρ 2 + ((-1) * ρ 3 + 0))) := hF _ (List.mem_of_getElem? (i := 3) rfl)
  have f4 : (0 : Int) ≤ ((0) + ((1) * ρ 5 + 0)) := hF _ (List.mem_of_getElem? (i := 4) rfl)
  have f5 : (0 : Int) ≤ ((6) + ((-1) * ρ 5 + 0)) := hF _ (List.mem_of_getElem? (i := 5) rfl)
  have f6 : (0 : Int) ≤ ((0) + ((1) * ρ 7 + 0)) := hF _ (List.mem_of_getElem? (i := 6) rfl)
  have f7 : (0 : Int) ≤ ((8) + ((-1) * ρ 7 + 0)) := hF _ (List.mem_of_getElem? (i := 7) rfl)
  have f8 : (0 : Int) ≤ ((0) + ((1) * ρ 10 + 0)) := hF _ (List.mem_of_getElem? (i := 8) rfl)
  have f9 : (0 : Int) ≤ ((5) + ((-1) * ρ 10 + 0)) := hF _ (List.mem_of_getElem? (i := 9) rfl)
  have f10 : (0 : Int) ≤ ((0) + ((1) * ρ 9 + 0)) := hF _ (List.mem_of_getElem? (i := 10) rfl)
  have f11 : (0 : Int) ≤ ((4) + ((-1) * ρ 9 + 0)) := hF _ (List.mem_of_getElem? (i := 11) rfl)
  have g0 : G (ρ 0).toNat = 14 := by
    have q := (hG _ (List.mem_of_getElem? (i := 0) rfl)).2
    rwa [show ev ρ (0, [(0, 1)]) = ρ 0 from ev_v] at q
  have g1 : G (ρ 1).toNat = 17 := by
    have q := (hG _ (List.mem_of_getElem? (i := 1) rfl)).2
    rwa [show ev ρ (0, [(1, 1)]) = ρ 1 from ev_v] at q
  have g2 : G (ρ 4).toNat = 11 := by
    have q := (hG _ (List.mem_of_getElem? (i := 2) rfl)).2
    rwa [show ev ρ (0, [(4, 1)]) = ρ 4 from ev_v] at q
  have g3 : G (ρ 6).toNat = 20 := by
    have q := (hG _ (List.mem_of_getElem? (i := 3) rfl)).2
    rwa [show ev ρ (0, [(6, 1)]) = ρ 6 from ev_v] at q
  have g4 : G (ρ 8).toNat = 16 := by
    have q := (hG _ (List.mem_of_getElem? (i := 4) rfl)).2
    rwa [show ev ρ (0, [(8, 1)]) = ρ 8 from ev_v] at q
  have h1 : (0 : Int) ≤ ρ 2 ∧ ρ 2 ≤ 1200 := hf_rg hT (hH _ (List.mem_of_getElem? (i := 1) rfl)) ev_v g1 rfl rfl rfl ev_v
  have h2 : (0 : Int) ≤ ρ 3 ∧ ρ 3 ≤ 1200 := hf_rg hT (hH _ (List.mem_of_getElem? (i := 2) rfl)) ev_v g1 rfl rfl rfl ev_v
  have h4 : (0 : Int) ≤ ρ 5 ∧ ρ 5 ≤ 6 := hf_rg hT (hH _ (List.mem_of_getElem? (i := 4) rfl)) ev_v g2 rfl rfl rfl ev_v
  have h6 : (0 : Int) ≤ ρ 7 ∧ ρ 7 ≤ 8 := hf_rg hT (hH _ (List.mem_of_getElem? (i := 6) rfl)) ev_v g3 rfl rfl rfl ev_v
  have h8 : (0 : Int) ≤ ρ 9 ∧ ρ 9 ≤ 4 := hf_rg hT (hH _ (List.mem_of_getElem? (i := 8) rfl)) ev_v g4 rfl rfl rfl ev_v
  have p0 : q176 G h (16 * ρ 6 + ρ 7) (ρ 10) := c2 (P := q176 G h) (show q176 G h (((0) + ((16) * ρ 6 + ((1) * ρ 7 + 0)))) (((0) + ((1) * ρ 10 + 0))) from hP _ (List.mem_of_getElem? (i := 0) rfl)) (by omega) (by omega)
  have p1 : (qRC 25 (tB (vw C h))) (ρ 2 + 2048 * ρ 3 + 4398046511104 * ρ 5 + 35184372088832 * ρ 7 + 4503599627370496 * ρ 9 + 562949953421312 * ρ 10) (ρ 11) := c2 (P := (qRC 25 (tB (vw C h)))) (show (qRC 25 (tB (vw C h))) (((0) + ((1) * ρ 2 + ((2048) * ρ 3 + ((4398046511104) * ρ 5 + ((35184372088832) * ρ 7 + ((4503599627370496) * ρ 9 + ((562949953421312) * ρ 10 + 0)))))))) (((0) + ((1) * ρ 11 + 0))) from hP _ (List.mem_of_getElem? (i := 1) rfl)) (by omega) (by omega)
  have hc0 := p1.1
  have hR := rc_el (n := ρ 2) (s := ρ 3) (d := (0 : Int)) (K := (0 : Int)) (R := (ρ 5 + 8 * ρ 7 + 1024 * ρ 9 + 128 * ρ 10)) p1 (by omega) (by omega) (by omega) (by omega) (by omega) (by omega) (by omega) (by omega) (by omega) (by omega)
  refine ⟨_, List.mem_cons_self, ρ, fun _ _ => rfl, fun q hq => absurd hq List.not_mem_nil, trivial, fun f hf => ?_, fun q hq => absurd hq List.not_mem_nil, fun q hq => absurd hq List.not_mem_nil, fun q hq => absurd hq List.not_mem_nil, fun q hq => ?_⟩
  · exact absurd hf List.not_mem_nil
  · simp only [List.mem_cons, List.not_mem_nil, or_false] at hq
    subst hq
    show q163 (tB (vw C h)) (((0) + ((1) * ρ 2 + ((2048) * ρ 3 + ((68719476736) * ρ 5 + 0)))))
    refine c2 (P := (fun r (_ : Int) => q163 (tB (vw C h)) r)) (c := 0) (c' := 0) (r := ρ 2 + 2048 * ρ 3 + 68719476736 * ρ 5) ?_ (by omega) rfl
    show q163 (tB (vw C h)) (ρ 2 + 2048 * ρ 3 + 68719476736 * ρ 5)
    exact o163 (n := ρ 2) (s := ρ 3) (lo := 0) (hi := ρ 5 - 1) (by omega) (by omega) (by omega) (by omega) (by omega) (by omega) (by omega) (by
      have q := fn_25 hR
      rw [show ((((ρ 5 + 8 * ρ 7 + 1024 * ρ 9 + 128 * ρ 10)).toNat % 8 : Nat) : Int) = ρ 5 by omega] at q
      exact q)
/-- st25C -/
theorem lem_421_ok (hU : uqG G C) : lem_421.1.2.1 = [] ∧ lemOK (PRd G C D xs) G rgs lem_421 := by
  refine ⟨rfl, fun ρ h ha hT => ?_⟩
  obtain ⟨-, -, hF, hG, hH, hA, hP⟩ := ha
  have f0 : (0 : Int) ≤ ((0) + ((1) * ρ 2 + 0)) := hF _ (List.mem_of_getElem? (i := 0) rfl)
  have f1 : (0 : Int) ≤ ((1200) + ((-1) * ρ 2 + 0)) := hF _ (List.mem_of_getElem? (i := 1) rfl)
  have f2 : (0 : Int) ≤ ((0) + ((1) * ρ 3 + 0)) := hF _ (List.mem_of_getElem? (i := 2) rfl)
  have f3 : (0 : Int) ≤ ((0) + ((1) * ρ 2 + ((-1) * ρ 3 + 0))) := hF _ (List.mem_of_getElem? (i := 3) rfl)
  have f4 : (0 : Int) ≤ ((0) + ((1) * ρ 11 + 0)) := hF _ (List.mem_of_getElem? (i := 4) rfl)
  have f5 : (0 : Int) ≤ ((0) + ((1) * ρ 2 + ((-1) * ρ 11 + 0))) := hF _ (List.mem_of_getElem? (i := 5) rfl)
  have f6 : (0 : Int) ≤ ((0) + ((1) * ρ 12 + 0)) := hF _ (List.mem_of_getElem? (i := 6) rfl)
  have f7 : (0 : Int) ≤ ((-1) + ((1) * ρ 5 + ((-1) * ρ 12 + 0))) := hF _ (List.mem_of_getElem? (i := 7) rfl)
  have f8 : (0 : Int) ≤ ((0) + ((1) * ρ 5 + 0)) := hF _ (List.mem_of_getElem? (i := 8) rfl)
  have f9 : (0 : Int) ≤ ((6) + ((-1) * ρ 5 + 0)) := hF _ (List.mem_of_getElem? (i := 9) rfl)
  have f10 : (0 : Int) ≤ ((0) + ((1) * ρ 7 + 0)) := hF _ (List.mem_of_getElem? (i := 10) rfl)
  have f11 : (0 : Int) ≤ ((8) + ((-1) * ρ 7 + 0)) := hF _ (List.mem_of_getElem? (i := 11) rfl)
  have f12 : (0 : Int) ≤ ((0) + ((1) * ρ 10 + 0)) := hF _ (List.mem_of_getElem? (i := 12) rfl)
  have f13 : (0 : Int) ≤ ((5) + ((-1) * ρ 10 + 0)) := hF _ (List.mem_of_getElem? (i := 13) rfl)
  have f14 : (0 : Int) ≤ ((0) + ((1) * ρ 9 + 0)) := hF _ (List.mem_of_getElem? (i := 14) rfl)
  have f15 : (0 : Int) ≤ ((4) + ((-1) * ρ 9 + 0)) := hF _ (List.mem_of_getElem? (i := 15) rfl)
  have g0 : G (ρ 0).toNat = 14 := by
    have q := (hG _ (List.mem_of_getElem? (i := 0) rfl)).2
    rwa [show ev ρ (0, [(0, 1)]) = ρ 0 from ev_v] at q
  have g1 : G (ρ 1).toNat = 17 := by
    have q := (hG _ (List.mem_of_getElem? (i := 1) rfl)).2
    rwa [show ev ρ (0, [(1, 1)]) = ρ 1 from ev_v] at q
  have g2 : G (ρ 4).toNat = 11 := by
    have q := (hG _ (List.mem_of_getElem? (i := 2) rfl)).2
    rwa [show ev ρ (0, [(4, 1)]) = ρ 4 from ev_v] at q
  have g3 : G (ρ 6).toNat = 20 := by
    have q := (hG _ (List.mem_of_getElem? (i := 3) rfl)).2
    rwa [show ev ρ (0, [(6, 1)]) = ρ 6 from ev_v] at q
  have g4 : G (ρ 8).toNat = 16 := by
    have q := (hG _ (List.mem_of_getElem? (i := 4) rfl)).2
    rwa [show ev ρ (0, [(8, 1)]) = ρ 8 from ev_v] at q
  have h1 : (0 : Int) ≤ ρ 2 ∧ ρ 2 ≤ 1200 := hf_rg hT (hH _ (List.mem_of_getElem? (i := 1) rfl)) ev_v g1 rfl rfl rfl ev_v
  have h2 : (0 : Int) ≤ ρ 3 ∧ ρ 3 ≤ 1200 := hf_rg hT (hH _ (List.mem_of_getElem? (i := 2) rfl)) ev_v g1 rfl rfl rfl ev_v
  have h4 : (0 : Int) ≤ ρ 5 ∧ ρ 5 ≤ 6 := hf_rg hT (hH _ (List.mem_of_getElem? (i := 4) rfl)) ev_v g2 rfl rfl rfl ev_v
  have h6 : (0 : Int) ≤ ρ 7 ∧ ρ 7 ≤ 8 := hf_rg hT (hH _ (List.mem_of_getElem? (i := 6) rfl)) ev_v g3 rfl rfl rfl ev_v
  have h8 : (0 : Int) ≤ ρ 9 ∧ ρ 9 ≤ 4 := hf_rg hT (hH _ (List.mem_of_getElem? (i := 8) rfl)) ev_v g4 rfl rfl rfl ev_v
  have p0 : q176 G h (16 * ρ 6 + ρ 7) (ρ 10) := c2 (P := q176 G h) (show q176 G h (((0) + ((16) * ρ 6 + ((1) * ρ 7 + 0)))) (((0) + ((1) * ρ 10 + 0))) from hP _ (List.mem_of_getElem? (i := 0) rfl)) (by omega) (by omega)
  have p1 : q158 (tB (vw C h)) (ρ 2 + 2048 * ρ 3) (ρ 11) := c2 (P := q158 (tB (vw C h))) (show q158 (tB (vw C h)) (((0) + ((1) * ρ 2 + ((2048) * ρ 3 + 0)))) (((0) + ((1) * ρ 11 + 0))) from hP _ (List.mem_of_getElem? (i := 1) rfl)) (by omega) (by omega)
  have p2 : q164 (tB (vw C h)) (ρ 2 + 2048 * ρ 11) (ρ 12) := c2 (P := q164 (tB (vw C h))) (show q164 (tB (vw C h)) (((0) + ((1) * ρ 2 + ((2048) * ρ 11 + 0)))) (((0) + ((1) * ρ 12 + 0))) from hP _ (List.mem_of_getElem? (i := 2) rfl)) (by omega) (by omega)
  have p3 : (qRC 25 (tB (vw C h))) (ρ 2 + 4398046511104 * ρ 5 + 35184372088832 * ρ 7 + 4503599627370496 * ρ 9 + 562949953421312 * ρ 10 + 2048 * ρ 11) (ρ 13) := c2 (P := (qRC 25 (tB (vw C h)))) (show (qRC 25 (tB (vw C h))) (((0) + ((1) * ρ 2 + ((4398046511104) * ρ 5 + ((35184372088832) * ρ 7 + ((4503599627370496) * ρ 9 + ((562949953421312) * ρ 10 + ((2048) * ρ 11 + 0)))))))) (((0) + ((1) * ρ 13 + 0))) from hP _ (List.mem_of_getElem? (i := 3) rfl)) (by omega) (by omega)
  obtain ⟨hkd, nv⟩ := k164 (n := ρ 2) (s := ρ 11) (by omega) (by omega) (by omega) (by omega) (by omega) p2
  have nx := k158 (n := ρ 2) (s := ρ 11) (t := ρ 3) (by omega) (by omega) (by omega) (by omega) (by omega) (by omega) p1
  have ng := nx_gt (B := (tB (vw C h))) (n := (ρ 2).toNat) (s := (ρ 11).toNat) (by omega)
  have hc0 := p3.1
  have hR := rc_el (n := ρ 2) (s := ρ 11) (d := (0 : Int)) (K := (0 : Int)) (R := (ρ 5 + 8 * ρ 7 + 1024 * ρ 9 + 128 * ρ 10)) p3 (by omega) (by omega) (by omega) (by omega) (by omega) (by omega) (by omega) (by omega) (by omega) (by omega)
  have q := sn_25 hR hkd (by omega) (by omega)
  refine ⟨_, List.mem_cons_self, ρ, fun _ _ => rfl, fun q hq => absurd hq List.not_mem_nil, trivial, fun f hf => ?_, fun q hq => absurd hq List.not_mem_nil, fun q hq => absurd hq List.not_mem_nil, fun q hq => absurd hq List.not_mem_nil, fun q hq => ?_⟩
  · simp only [List.mem_cons, List.not_mem_nil, or_false] at hf
    subst hf
    show (0 : Int) ≤ ((-1) + ((1) * ρ 3 + ((-1) * ρ 11 + 0)))
    omega
  · simp only [List.mem_cons, List.not_mem_nil, or_false] at hq
    subst hq
    show (qRC 26 (tB (vw C h))) (((0) + ((1) * ρ 2 + ((2048) * ρ 3 + ((4398046511104) * ρ 5 + ((35184372088832) * ρ 7 + ((4503599627370496) * ρ 9 + ((562949953421312) * ρ 10 + 0)))))))) (((0) + ((1) * ρ 13 + 0)))
    refine c2 (P := (qRC 26 (tB (vw C h)))) (r := ρ 2 + 2048 * ρ 3 + 4398046511104 * ρ 5 + 35184372088832 * ρ 7 + 4503599627370496 * ρ 9 + 562949953421312 * ρ 10) (c := ρ 13) ?_ (by omega) (by omega)
    show (qRC 26 (tB (vw C h))) (ρ 2 + 2048 * ρ 3 + 4398046511104 * ρ 5 + 35184372088832 * ρ 7 + 4503599627370496 * ρ 9 + 562949953421312 * ρ 10) (ρ 13)
    exact rc_in (n := ρ 2) (s := ρ 3) (d := (0 : Int)) (K := (0 : Int)) (R := (ρ 5 + 8 * ρ 7 + 1024 * ρ 9 + 128 * ρ 10)) (by omega) (by omega) (by omega) (by omega) (by omega) (by omega) (by omega) (by omega) (by omega) (by omega) q (by omega) (by omega) (by omega) (by omega) (by omega)
/-- op26C -/
theorem lem_422_ok (hU : uqG G C) : lem_422.1.2.1 = [] ∧ lemOK (PRd G C D xs) G rgs lem_422 := by
  refine ⟨rfl, fun ρ h ha hT => ?_⟩
  obtain ⟨-, -, hF, hG, hH, hA, hP⟩ := ha
  have f0 : (0 : Int) ≤ ((0) + ((1) * ρ 2 + 0)) := hF _ (List.mem_of_getElem? (i := 0) rfl)
  have f1 : (0 : Int) ≤ ((1200) + ((-1) * ρ 2 + 0)) := hF _ (List.mem_of_getElem? (i := 1) rfl)
  have f2 : (0 : Int) ≤ ((0) + ((1) * ρ 3 + 0)) := hF _ (List.mem_of_getElem? (i := 2) rfl)
  have f3 : (0 : Int) ≤ ((0) + ((1) * ρ 2 + ((-1) * ρ 3 + 0))) := hF _ (List.mem_of_getElem? (i := 3) rfl)
  have f4 : (0 : Int) ≤ ((0) + ((1) * ρ 5 + 0)) := hF _ (List.mem_of_getElem? (i := 4) rfl)
  have f5 : (0 : Int) ≤ ((6) + ((-1) * ρ 5 + 0)) := hF _ (List.mem_of_getElem? (i := 5) rfl)
  have f6 : (0 : Int) ≤ ((0) + ((1) * ρ 7 + 0)) := hF _ (List.mem_of_getElem? (i := 6) rfl)
  have f7 : (0 : Int) ≤ ((8) + ((-1) * ρ 7 + 0)) := hF _ (List.mem_of_getElem? (i := 7) rfl)
  have f8 : (0 : Int) ≤ ((0) + ((1) * ρ 10 + 0)) := hF _ (List.mem_of_getElem? (i := 8) rfl)
  have f9 : (0 : Int) ≤ ((5) + ((-1) * ρ 10 + 0)) := hF _ (List.mem_of_getElem? (i := 9) rfl)
  have f10 : (0 : Int) ≤ ((0) + ((1) * ρ 9 + 0)) := hF _ (List.mem_of_getElem? (i := 10) rfl)
  have f11 : (0 : Int) ≤ ((4) + ((-1) * ρ 9 + 0)) := hF _ (List.mem_of_getElem? (i := 11) rfl)
  have g0 : G (ρ 0).toNat = 14 := by
    have q := (hG _ (List.mem_of_getElem? (i := 0) rfl)).2
    rwa [show ev ρ (0, [(0, 1)]) = ρ 0 from ev_v] at q
  have g1 : G (ρ 1).toNat = 17 := by
    have q := (hG _ (List.mem_of_getElem? (i := 1) rfl)).2
    rwa [show ev ρ (0, [(1, 1)]) = ρ 1 from ev_v] at q
  have g2 : G (ρ 4).toNat = 11 := by
    have q := (hG _ (List.mem_of_getElem? (i := 2) rfl)).2
    rwa [show ev ρ (0, [(4, 1)]) = ρ 4 from ev_v] at q
  have g3 : G (ρ 6).toNat = 20 := by
    have q := (hG _ (List.mem_of_getElem? (i := 3) rfl)).2
    rwa [show ev ρ (0, [(6, 1)]) = ρ 6 from ev_v] at q
  have g4 : G (ρ 8).toNat = 16 := by
    have q := (hG _ (List.mem_of_getElem? (i := 4) rfl)).2
    rwa [show ev ρ (0, [(8, 1)]) = ρ 8 from ev_v] at q
  have h1 : (0 : Int) ≤ ρ 2 ∧ ρ 2 ≤ 1200 := hf_rg hT (hH _ (List.mem_of_getElem? (i := 1) rfl)) ev_v g1 rfl rfl rfl ev_v
  have h2 : (0 : Int) ≤ ρ 3 ∧ ρ 3 ≤ 1200 := hf_rg hT (hH _ (List.mem_of_getElem? (i := 2) rfl)) ev_v g1 rfl rfl rfl ev_v
  have h4 : (0 : Int) ≤ ρ 5 ∧ ρ 5 ≤ 6 := hf_rg hT (hH _ (List.mem_of_getElem? (i := 4) rfl)) ev_v g2 rfl rfl rfl ev_v
  have h6 : (0 : Int) ≤ ρ 7 ∧ ρ 7 ≤ 8 := hf_rg hT (hH _ (List.mem_of_getElem? (i := 6) rfl)) ev_v g3 rfl rfl rfl ev_v
  have h8 : (0 : Int) ≤ ρ 9 ∧ ρ 9 ≤ 4 := hf_rg hT (hH _ (List.mem_of_getElem? (i := 8) rfl)) ev_v g4 rfl rfl rfl ev_v
  have p0 : q176 G h (16 * ρ 6 + ρ 7) (ρ 10) := c2 (P := q176 G h) (show q176 G h (((0) + ((16) * ρ 6 + ((1) * ρ 7 + 0)))) (((0) + ((1) * ρ 10 + 0))) from hP _ (List.mem_of_getElem? (i := 0) rfl)) (by omega) (by omega)
  have p1 : (qRC 26 (tB (vw C h))) (ρ 2 + 2048 * ρ 3 + 4398046511104 * ρ 5 + 35184372088832 * ρ 7 + 4503599627370496 * ρ 9 + 562949953421312 * ρ 10) (ρ 11) := c2 (P := (qRC 26 (tB (vw C h)))) (show (qRC 26 (tB (vw C h))) (((0) + ((1) * ρ 2 + ((2048) * ρ 3 + ((4398046511104) * ρ 5 + ((35184372088832) * ρ 7 + ((4503599627370496) * ρ 9 + ((562949953421312) * ρ 10 + 0)))))))) (((0) + ((1) * ρ 11 + 0))) from hP _ (List.mem_of_getElem? (i := 1) rfl)) (by omega) (by omega)
  have hc0 := p1.1
  have hR := rc_el (n := ρ 2) (s := ρ 3) (d := (0 : Int)) (K := (0 : Int)) (R := (ρ 5 + 8 * ρ 7 + 1024 * ρ 9 + 128 * ρ 10)) p1 (by omega) (by omega) (by omega) (by omega) (by omega) (by omega) (by omega) (by omega) (by omega) (by omega)
  refine ⟨_, List.mem_cons_self, ρ, fun _ _ => rfl, fun q hq => absurd hq List.not_mem_nil, trivial, fun f hf => ?_, fun q hq => absurd hq List.not_mem_nil, fun q hq => absurd hq List.not_mem_nil, fun q hq => absurd hq List.not_mem_nil, fun q hq => ?_⟩
  · exact absurd hf List.not_mem_nil
  · simp only [List.mem_cons, List.not_mem_nil, or_false] at hq
    subst hq
    show q163 (tB (vw C h)) (((6871951867904) + ((1) * ρ 2 + ((2048) * ρ 3 + 0))))
    refine c2 (P := (fun r (_ : Int) => q163 (tB (vw C h)) r)) (c := 0) (c' := 0) (r := ρ 2 + 2048 * ρ 3 + 6871951867904) ?_ (by omega) rfl
    show q163 (tB (vw C h)) (ρ 2 + 2048 * ρ 3 + 6871951867904)
    exact o163 (n := ρ 2) (s := ρ 3) (lo := 1) (hi := 99) (by omega) (by omega) (by omega) (by omega) (by omega) (by omega) (by omega) (fn_26 hR)
/-- st26C -/
theorem lem_423_ok (hU : uqG G C) : lem_423.1.2.1 = [] ∧ lemOK (PRd G C D xs) G rgs lem_423 := by
  refine ⟨rfl, fun ρ h ha hT => ?_⟩
  obtain ⟨-, -, hF, hG, hH, hA, hP⟩ := ha
  have f0 : (0 : Int) ≤ ((0) + ((1) * ρ 2 + 0)) := hF _ (List.mem_of_getElem? (i := 0) rfl)
  have f1 : (0 : Int) ≤ ((1200) + ((-1) * ρ 2 + 0)) := hF _ (List.mem_of_getElem? (i := 1) rfl)
  have f2 : (0 : Int) ≤ ((0) + ((1) * ρ 3 + 0)) := hF _ (List.mem_of_getElem? (i := 2) rfl)
  have f3 : (0 : Int) ≤ ((0) + ((1) * ρ 2 + ((-1) * ρ 3 + 0))) := hF _ (List.mem_of_getElem? (i := 3) rfl)
  have f4 : (0 : Int) ≤ ((0) + ((1) * ρ 11 + 0)) := hF _ (List.mem_of_getElem? (i := 4) rfl)
  have f5 : (0 : Int) ≤ ((0) + ((1) * ρ 2 + ((-1) * ρ 11 + 0))) := hF _ (List.mem_of_getElem? (i := 5) rfl)
  have f6 : (0 : Int) ≤ ((-1) + ((1) * ρ 12 + 0)) := hF _ (List.mem_of_getElem? (i := 6) rfl)
  have f7 : (0 : Int) ≤ ((99) + ((-1) * ρ 12 + 0)) := hF _ (List.mem_of_getElem? (i := 7) rfl)
  have f8 : (0 : Int) ≤ ((0) + ((1) * ρ 5 + 0)) := hF _ (List.mem_of_getElem? (i := 8) rfl)
  have f9 : (0 : Int) ≤ ((6) + ((-1) * ρ 5 + 0)) := hF _ (List.mem_of_getElem? (i := 9) rfl)
  have f10 : (0 : Int) ≤ ((0) + ((1) * ρ 7 + 0)) := hF _ (List.mem_of_getElem? (i := 10) rfl)
  have f11 : (0 : Int) ≤ ((8) + ((-1) * ρ 7 + 0)) := hF _ (List.mem_of_getElem? (i := 11) rfl)
  have f12 : (0 : Int) ≤ ((0) + ((1) * ρ 10 + 0)) := hF _ (List.mem_of_getElem? (i := 12) rfl)
  have f13 : (0 : Int) ≤ ((5) + ((-1) * ρ 10 + 0)) := hF _ (List.mem_of_getElem? (i := 13) rfl)
  have f14 : (0 : Int) ≤ ((0) + ((1) * ρ 9 + 0)) := hF _ (List.mem_of_getElem? (i := 14) rfl)
  have f15 : (0 : Int) ≤ ((4) + ((-1) * ρ 9 + 0)) := hF _ (List.mem_of_getElem? (i := 15) rfl)
  have g0 : G (ρ 0).toNat = 14 := by
    have q := (hG _ (List.mem_of_getElem? (i := 0) rfl)).2
    rwa [show ev ρ (0, [(0, 1)]) = ρ 0 from ev_v] at q
  have g1 : G (ρ 1).toNat = 17 := by
    have q := (hG _ (List.mem_of_getElem? (i := 1) rfl)).2
    rwa [show ev ρ (0, [(1, 1)]) = ρ 1 from ev_v] at q
  have g2 : G (ρ 4).toNat = 11 := by
    have q := (hG _ (List.mem_of_getElem? (i := 2) rfl)).2
    rwa [show ev ρ (0, [(4, 1)]) = ρ 4 from ev_v] at q
  have g3 : G (ρ 6).toNat = 20 := by
    have q := (hG _ (List.mem_of_getElem? (i := 3) rfl)).2
    rwa [show ev ρ (0, [(6, 1)]) = ρ 6 from ev_v] at q
  have g4 : G (ρ 8).toNat = 16 := by
    have q := (hG _ (List.mem_of_getElem? (i := 4) rfl)).2
    rwa [show ev ρ (0, [(8, 1)]) = ρ 8 from ev_v] at q
  have h1 : (0 : Int) ≤ ρ 2 ∧ ρ 2 ≤ 1200 := hf_rg hT (hH _ (List.mem_of_getElem? (i := 1) rfl)) ev_v g1 rfl rfl rfl ev_v
  have h2 : (0 : Int) ≤ ρ 3 ∧ ρ 3 ≤ 1200 := hf_rg hT (hH _ (List.mem_of_getElem? (i := 2) rfl)) ev_v g1 rfl rfl rfl ev_v
  have h4 : (0 : Int) ≤ ρ 5 ∧ ρ 5 ≤ 6 := hf_rg hT (hH _ (List.mem_of_getElem? (i := 4) rfl)) ev_v g2 rfl rfl rfl ev_v
  have h6 : (0 : Int) ≤ ρ 7 ∧ ρ 7 ≤ 8 := hf_rg hT (hH _ (List.mem_of_getElem? (i := 6) rfl)) ev_v g3 rfl rfl rfl ev_v
  have h8 : (0 : Int) ≤ ρ 9 ∧ ρ 9 ≤ 4 := hf_rg hT (hH _ (List.mem_of_getElem? (i := 8) rfl)) ev_v g4 rfl rfl rfl ev_v
  have p0 : q176 G h (16 * ρ 6 + ρ 7) (ρ 10) := c2 (P := q176 G h) (show q176 G h (((0) + ((16) * ρ 6 + ((1) * ρ 7 + 0)))) (((0) + ((1) * ρ 10 + 0))) from hP _ (List.mem_of_getElem? (i := 0) rfl)) (by omega) (by omega)
  have p1 : q158 (tB (vw C h)) (ρ 2 + 2048 * ρ 3) (ρ 11) := c2 (P := q158 (tB (vw C h))) (show q158 (tB (vw C h)) (((0) + ((1) * ρ 2 + ((2048) * ρ 3 + 0)))) (((0) + ((1) * ρ 11 + 0))) from hP _ (List.mem_of_getElem? (i := 1) rfl)) (by omega) (by omega)
  have p2 : q164 (tB (vw C h)) (ρ 2 + 2048 * ρ 11) (ρ 12) := c2 (P := q164 (tB (vw C h))) (show q164 (tB (vw C h)) (((0) + ((1) * ρ 2 + ((2048) * ρ 11 + 0)))) (((0) + ((1) * ρ 12 + 0))) from hP _ (List.mem_of_getElem? (i := 2) rfl)) (by omega) (by omega)
  have p3 : (qRC 26 (tB (vw C h))) (ρ 2 + 4398046511104 * ρ 5 + 35184372088832 * ρ 7 + 4503599627370496 * ρ 9 + 562949953421312 * ρ 10 + 2048 * ρ 11) (ρ 13) := c2 (P := (qRC 26 (tB (vw C h)))) (show (qRC 26 (tB (vw C h))) (((0) + ((1) * ρ 2 + ((4398046511104) * ρ 5 + ((35184372088832) * ρ 7 + ((4503599627370496) * ρ 9 + ((562949953421312) * ρ 10 + ((2048) * ρ 11 + 0)))))))) (((0) + ((1) * ρ 13 + 0))) from hP _ (List.mem_of_getElem? (i := 3) rfl)) (by omega) (by omega)
  obtain ⟨hkd, nv⟩ := k164 (n := ρ 2) (s := ρ 11) (by omega) (by omega) (by omega) (by omega) (by omega) p2
  have nx := k158 (n := ρ 2) (s := ρ 11) (t := ρ 3) (by omega) (by omega) (by omega) (by omega) (by omega) (by omega) p1
  have ng := nx_gt (B := (tB (vw C h))) (n := (ρ 2).toNat) (s := (ρ 11).toNat) (by omega)
  have hc0 := p3.1
  have hR := rc_el (n := ρ 2) (s := ρ 11) (d := (0 : Int)) (K := (0 : Int)) (R := (ρ 5 + 8 * ρ 7 + 1024 * ρ 9 + 128 * ρ 10)) p3 (by omega) (by omega) (by omega) (by omega) (by omega) (by omega) (by omega) (by omega) (by omega) (by omega)
  have q := sn_26 hR hkd (by omega) (by omega)
  refine ⟨_, List.mem_cons_self, ρ, fun _ _ => rfl, fun q hq => absurd hq List.not_mem_nil, trivial, fun f hf => ?_, fun q hq => absurd hq List.not_mem_nil, fun q hq => absurd hq List.not_mem_nil, fun q hq => absurd hq List.not_mem_nil, fun q hq => ?_⟩
  · simp only [List.mem_cons, List.not_mem_nil, or_false] at hf
    subst hf
    show (0 : Int) ≤ ((-1) + ((1) * ρ 3 + ((-1) * ρ 11 + 0)))
    omega
  · simp only [List.mem_cons, List.not_mem_nil, or_false] at hq
    rcases hq with rfl | rfl
    · show (qRC 27 (tB (vw C h))) (((0) + ((1) * ρ 2 + ((2048) * ρ 3 + ((4398046511104) * ρ 5 + ((35184372088832) * ρ 7 + ((4503599627370496) * ρ 9 + ((562949953421312) * ρ 10 + ((36028797018963968) * ρ 12 + 0))))))))) (((0) + ((1) * ρ 13 + 0)))
      refine c2 (P := (qRC 27 (tB (vw C h)))) (r := ρ 2 + 2048 * ρ 3 + 4398046511104 * ρ 5 + 35184372088832 * ρ 7 + 4503599627370496 * ρ 9 + 562949953421312 * ρ 10 + 36028797018963968 * ρ 12) (c := ρ 13) ?_ (by omega) (by omega)
      show (qRC 27 (tB (vw C h))) (ρ 2 + 2048 * ρ 3 + 4398046511104 * ρ 5 + 35184372088832 * ρ 7 + 4503599627370496 * ρ 9 + 562949953421312 * ρ 10 + 36028797018963968 * ρ 12) (ρ 13)
      exact rc_in (n := ρ 2) (s := ρ 3) (d := (0 : Int)) (K := (0 : Int)) (R := (ρ 5 + 8 * ρ 7 + 1024 * ρ 9 + 128 * ρ 10 + 8192 * ρ 12)) (by omega) (by omega) (by omega) (by omega) (by omega) (by omega) (by omega) (by omega) (by omega) (by omega) q (by omega) (by omega) (by omega) (by omega) (by omega)
    · show True
      refine c2 (P := (fun (_ _ : Int) => True)) (r := 0) (r' := 0) (c := 0) (c' := 0) ?_ rfl rfl
      show True
      trivial
/-- op27C -/
theorem lem_424_ok (hU : uqG G C) : lem_424.1.2.1 = [] ∧ lemOK (PRd G C D xs) G rgs lem_424 := by
  refine ⟨rfl, fun ρ h ha hT => ?_⟩
  obtain ⟨-, -, hF, hG, hH, hA, hP⟩ := ha
  have f0 : (0 : Int) ≤ ((0) + ((1) * ρ 2 + 0)) := hF _ (List.mem_of_getElem? (i := 0) rfl)
  have f1 : (0 : Int) ≤ ((1200) + ((-1) * ρ 2 + 0)) := hF _ (List.mem_of_getElem? (i := 1) rfl)
  have f2 : (0 : Int) ≤ ((0) + ((1) * ρ 3 + 0)) := hF _ (List.mem_of_getElem? (i := 2) rfl)
  have f3 : (0 : Int) ≤ ((0) + ((1) * ρ 2 + ((-1) * ρ 3 + 0))) := hF _ (List.mem_of_getElem? (i := 3) rfl)
  have f4 : (0 : Int) ≤ ((0) + ((1) * ρ 11 + 0)) := hF _ (List.mem_of_getElem? (i := 4) rfl)
  have f5 : (0 : Int) ≤ ((9999) + ((-1) * ρ 11 + 0)) := hF _ (List.mem_of_getElem? (i := 5) rfl)
  have f6 : (0 : Int) ≤ ((0) + ((1) * ρ 5 + 0)) := hF _ (List.mem_of_getElem? (i := 6) rfl)
  have f7 : (0 : Int) ≤ ((6) + ((-1) * ρ 5 + 0)) := hF _ (List.mem_of_getElem? (i := 7) rfl)
  have f8 : (0 : Int) ≤ ((0) + ((1) * ρ 7 + 0)) := hF _ (List.mem_of_getElem? (i := 8) rfl)
  have f9 : (0 : Int) ≤ ((8) + ((-1) * ρ 7 + 0)) := hF _ (List.mem_of_getElem? (i := 9) rfl)
  have f10 : (0 : Int) ≤ ((0) + ((1) * ρ 10 + 0)) := hF _ (List.mem_of_getElem? (i := 10) rfl)
  have f11 : (0 : Int) ≤ ((5) + ((-1) * ρ 10 + 0)) := hF _ (List.mem_of_getElem? (i := 11) rfl)
  have f12 : (0 : Int) ≤ ((0) + ((1) * ρ 9 + 0)) := hF _ (List.mem_of_getElem? (i := 12) rfl)
  have f13 : (0 : Int) ≤ ((4) + ((-1) * ρ 9 + 0)) := hF _ (List.mem_of_getElem? (i := 13) rfl)
  have g0 : G (ρ 0).toNat = 14 := by
    have q := (hG _ (List.mem_of_getElem? (i := 0) rfl)).2
    rwa [show ev ρ (0, [(0, 1)]) = ρ 0 from ev_v] at q
  have g1 : G (ρ 1).toNat = 17 := by
    have q := (hG _ (List.mem_of_getElem? (i := 1) rfl)).2
    rwa [show ev ρ (0, [(1, 1)]) = ρ 1 from ev_v] at q
  have g2 : G (ρ 4).toNat = 11 := by
    have q := (hG _ (List.mem_of_getElem? (i := 2) rfl)).2
    rwa [show ev ρ (0, [(4, 1)]) = ρ 4 from ev_v] at q
  have g3 : G (ρ 6).toNat = 20 := by
    have q := (hG _ (List.mem_of_getElem? (i := 3) rfl)).2
    rwa [show ev ρ (0, [(6, 1)]) = ρ 6 from ev_v] at q
  have g4 : G (ρ 8).toNat = 16 := by
    have q := (hG _ (List.mem_of_getElem? (i := 4) rfl)).2
    rwa [show ev ρ (0, [(8, 1)]) = ρ 8 from ev_v] at q
  have h1 : (0 : Int) ≤ ρ 2 ∧ ρ 2 ≤ 1200 := hf_rg hT (hH _ (List.mem_of_getElem? (i := 1) rfl)) ev_v g1 rfl rfl rfl ev_v
  have h2 : (0 : Int) ≤ ρ 3 ∧ ρ 3 ≤ 1200 := hf_rg hT (hH _ (List.mem_of_getElem? (i := 2) rfl)) ev_v g1 rfl rfl rfl ev_v
  have h4 : (0 : Int) ≤ ρ 5 ∧ ρ 5 ≤ 6 := hf_rg hT (hH _ (List.mem_of_getElem? (i := 4) rfl)) ev_v g2 rfl rfl rfl ev_v
  have h6 : (0 : Int) ≤ ρ 7 ∧ ρ 7 ≤ 8 := hf_rg hT (hH _ (List.mem_of_getElem? (i := 6) rfl)) ev_v g3 rfl rfl rfl ev_v
  have h8 : (0 : Int) ≤ ρ 9 ∧ ρ 9 ≤ 4 := hf_rg hT (hH _ (List.mem_of_getElem? (i := 8) rfl)) ev_v g4 rfl rfl rfl ev_v
  have p0 : q176 G h (16 * ρ 6 + ρ 7) (ρ 10) := c2 (P := q176 G h) (show q176 G h (((0) + ((16) * ρ 6 + ((1) * ρ 7 + 0)))) (((0) + ((1) * ρ 10 + 0))) from hP _ (List.mem_of_getElem? (i := 0) rfl)) (by omega) (by omega)
  have p1 : True := c2 (P := (fun (_ _ : Int) => True)) (r := 0) (r' := 0) (c := 0) (c' := 0) (show True from hP _ (List.mem_of_getElem? (i := 1) rfl)) rfl rfl
  have p2 : (qRC 27 (tB (vw C h))) (ρ 2 + 2048 * ρ 3 + 4398046511104 * ρ 5 + 35184372088832 * ρ 7 + 4503599627370496 * ρ 9 + 562949953421312 * ρ 10 + 36028797018963968 * ρ 11) (ρ 12) := c2 (P := (qRC 27 (tB (vw C h)))) (show (qRC 27 (tB (vw C h))) (((0) + ((1) * ρ 2 + ((2048) * ρ 3 + ((4398046511104) * ρ 5 + ((35184372088832) * ρ 7 + ((4503599627370496) * ρ 9 + ((562949953421312) * ρ 10 + ((36028797018963968) * ρ 11 + 0))))))))) (((0) + ((1) * ρ 12 + 0))) from hP _ (List.mem_of_getElem? (i := 2) rfl)) (by omega) (by omega)
  have hc0 := p2.1
  have hR := rc_el (n := ρ 2) (s := ρ 3) (d := (0 : Int)) (K := (0 : Int)) (R := (ρ 5 + 8 * ρ 7 + 1024 * ρ 9 + 128 * ρ 10 + 8192 * ρ 11)) p2 (by omega) (by omega) (by omega) (by omega) (by omega) (by omega) (by omega) (by omega) (by omega) (by omega)
  refine ⟨_, List.mem_cons_self, ρ, fun _ _ => rfl, fun q hq => absurd hq List.not_mem_nil, trivial, fun f hf => ?_, fun q hq => absurd hq List.not_mem_nil, fun q hq => absurd hq List.not_mem_nil, fun q hq => absurd hq List.not_mem_nil, fun q hq => ?_⟩
  · exact absurd hf List.not_mem_nil
  · simp only [List.mem_cons, List.not_mem_nil, or_false] at hq
    subst hq
    show q163 (tB (vw C h)) (((68719476736) + ((1) * ρ 2 + ((2048) * ρ 3 + ((68719476736) * ρ 11 + 0)))))
    refine c2 (P := (fun r (_ : Int) => q163 (tB (vw C h)) r)) (c := 0) (c' := 0) (r := ρ 2 + 2048 * ρ 3 + 68719476736 * ρ 11 + 68719476736) ?_ (by omega) rfl
    show q163 (tB (vw C h)) (ρ 2 + 2048 * ρ 3 + 68719476736 * ρ 11 + 68719476736)
    exact o163 (n := ρ 2) (s := ρ 3) (lo := 0) (hi := ρ 11) (by omega) (by omega) (by omega) (by omega) (by omega) (by omega) (by omega) (by
      have q := fn_27 hR
      rw [show ((((ρ 5 + 8 * ρ 7 + 1024 * ρ 9 + 128 * ρ 10 + 8192 * ρ 11)).toNat / 8192 : Nat) : Int) = ρ 11 by omega] at q
      exact q)
/-- st27C -/
theorem lem_425_ok (hU : uqG G C) : lem_425.1.2.1 = [] ∧ lemOK (PRd G C D xs) G rgs lem_425 := by
  refine ⟨rfl, fun ρ h ha hT => ?_⟩
  obtain ⟨-, -, hF, hG, hH, hA, hP⟩ := ha
  have f0 : (0 : Int) ≤ ((0) + ((1) * ρ 2 + 0)) := hF _ (List.mem_of_getElem? (i := 0) rfl)
  have f1 : (0 : Int) ≤ ((1200) + ((-1) * ρ 2 + 0)) := hF _ (List.mem_of_getElem? (i := 1) rfl)
  have f2 : (0 : Int) ≤ ((0) + ((1) * ρ 3 + 0)) := hF _ (List.mem_of_getElem? (i := 2) rfl)
  have f3 : (0 : Int) ≤ ((0) + ((1) * ρ 2 + ((-1) * ρ 3 + 0))) := hF _ (List.mem_of_getElem? (i := 3) rfl)
  have f4 : (0 : Int) ≤ ((0) + ((1) * ρ 12 + 0)) := hF _ (List.mem_of_getElem? (i := 4) rfl)
  have f5 : (0 : Int) ≤ ((0) + ((1) * ρ 2 + ((-1) * ρ 12 + 0))) := hF _ (List.mem_of_getElem? (i := 5) rfl)
  have f6 : (0 : Int) ≤ ((0) + ((1) * ρ 11 + 0)) := hF _ (List.mem_of_getElem? (i := 6) rfl)
  have f7 : (0 : Int) ≤ ((9999) + ((-1) * ρ 11 + 0)) := hF _ (List.mem_of_getElem? (i := 7) rfl)
  have f8 : (0 : Int) ≤ ((0) + ((1) * ρ 13 + 0)) := hF _ (List.mem_of_getElem? (i := 8) rfl)
  have f9 : (0 : Int) ≤ ((0) + ((1) * ρ 11 + ((-1) * ρ 13 + 0))) := hF _ (List.mem_of_getElem? (i := 9) rfl)
  have f10 : (0 : Int) ≤ ((0) + ((1) * ρ 5 + 0)) := hF _ (List.mem_of_getElem? (i := 10) rfl)
  have f11 : (0 : Int) ≤ ((6) + ((-1) * ρ 5 + 0)) := hF _ (List.mem_of_getElem? (i := 11) rfl)
  have f12 : (0 : Int) ≤ ((0) + ((1) * ρ 7 + 0)) := hF _ (List.mem_of_getElem? (i := 12) rfl)
  have f13 : (0 : Int) ≤ ((8) + ((-1) * ρ 7 + 0)) := hF _ (List.mem_of_getElem? (i := 13) rfl)
  have f14 : (0 : Int) ≤ ((0) + ((1) * ρ 10 + 0)) := hF _ (List.mem_of_getElem? (i := 14) rfl)
  have f15 : (0 : Int) ≤ ((5) + ((-1) * ρ 10 + 0)) := hF _ (List.mem_of_getElem? (i := 15) rfl)
  have f16 : (0 : Int) ≤ ((0) + ((1) * ρ 9 + 0)) := hF _ (List.mem_of_getElem? (i := 16) rfl)
  have f17 : (0 : Int) ≤ ((4) + ((-1) * ρ 9 + 0)) := hF _ (List.mem_of_getElem? (i := 17) rfl)
  have g0 : G (ρ 0).toNat = 14 := by
    have q := (hG _ (List.mem_of_getElem? (i := 0) rfl)).2
    rwa [show ev ρ (0, [(0, 1)]) = ρ 0 from ev_v] at q
  have g1 : G (ρ 1).toNat = 17 := by
    have q := (hG _ (List.mem_of_getElem? (i := 1) rfl)).2
    rwa [show ev ρ (0, [(1, 1)]) = ρ 1 from ev_v] at q
  have g2 : G (ρ 4).toNat = 11 := by
    have q := (hG _ (List.mem_of_getElem? (i := 2) rfl)).2
    rwa [show ev ρ (0, [(4, 1)]) = ρ 4 from ev_v] at q
  have g3 : G (ρ 6).toNat = 20 := by
    have q := (hG _ (List.mem_of_getElem? (i := 3) rfl)).2
    rwa [show ev ρ (0, [(6, 1)]) = ρ 6 from ev_v] at q
  have g4 : G (ρ 8).toNat = 16 := by
    have q := (hG _ (List.mem_of_getElem? (i := 4) rfl)).2
    rwa [show ev ρ (0, [(8, 1)]) = ρ 8 from ev_v] at q
  have h1 : (0 : Int) ≤ ρ 2 ∧ ρ 2 ≤ 1200 := hf_rg hT (hH _ (List.mem_of_getElem? (i := 1) rfl)) ev_v g1 rfl rfl rfl ev_v
  have h2 : (0 : Int) ≤ ρ 3 ∧ ρ 3 ≤ 1200 := hf_rg hT (hH _ (List.mem_of_getElem? (i := 2) rfl)) ev_v g1 rfl rfl rfl ev_v
  have h4 : (0 : Int) ≤ ρ 5 ∧ ρ 5 ≤ 6 := hf_rg hT (hH _ (List.mem_of_getElem? (i := 4) rfl)) ev_v g2 rfl rfl rfl ev_v
  have h6 : (0 : Int) ≤ ρ 7 ∧ ρ 7 ≤ 8 := hf_rg hT (hH _ (List.mem_of_getElem? (i := 6) rfl)) ev_v g3 rfl rfl rfl ev_v
  have h8 : (0 : Int) ≤ ρ 9 ∧ ρ 9 ≤ 4 := hf_rg hT (hH _ (List.mem_of_getElem? (i := 8) rfl)) ev_v g4 rfl rfl rfl ev_v
  have p0 : q176 G h (16 * ρ 6 + ρ 7) (ρ 10) := c2 (P := q176 G h) (show q176 G h (((0) + ((16) * ρ 6 + ((1) * ρ 7 + 0)))) (((0) + ((1) * ρ 10 + 0))) from hP _ (List.mem_of_getElem? (i := 0) rfl)) (by omega) (by omega)
  have p1 : True := c2 (P := (fun (_ _ : Int) => True)) (r := 0) (r' := 0) (c := 0) (c' := 0) (show True from hP _ (List.mem_of_getElem? (i := 1) rfl)) rfl rfl
  have p2 : q158 (tB (vw C h)) (ρ 2 + 2048 * ρ 3) (ρ 12) := c2 (P := q158 (tB (vw C h))) (show q158 (tB (vw C h)) (((0) + ((1) * ρ 2 + ((2048) * ρ 3 + 0)))) (((0) + ((1) * ρ 12 + 0))) from hP _ (List.mem_of_getElem? (i := 2) rfl)) (by omega) (by omega)
  have p3 : q164 (tB (vw C h)) (ρ 2 + 2048 * ρ 12) (ρ 13) := c2 (P := q164 (tB (vw C h))) (show q164 (tB (vw C h)) (((0) + ((1) * ρ 2 + ((2048) * ρ 12 + 0)))) (((0) + ((1) * ρ 13 + 0))) from hP _ (List.mem_of_getElem? (i := 3) rfl)) (by omega) (by omega)
  have p4 : (qRC 27 (tB (vw C h))) (ρ 2 + 4398046511104 * ρ 5 + 35184372088832 * ρ 7 + 4503599627370496 * ρ 9 + 562949953421312 * ρ 10 + 36028797018963968 * ρ 11 + 2048 * ρ 12) (ρ 14) := c2 (P := (qRC 27 (tB (vw C h)))) (show (qRC 27 (tB (vw C h))) (((0) + ((1) * ρ 2 + ((4398046511104) * ρ 5 + ((35184372088832) * ρ 7 + ((4503599627370496) * ρ 9 + ((562949953421312) * ρ 10 + ((36028797018963968) * ρ 11 + ((2048) * ρ 12 + 0))))))))) (((0) + ((1) * ρ 14 + 0))) from hP _ (List.mem_of_getElem? (i := 4) rfl)) (by omega) (by omega)
  obtain ⟨hkd, nv⟩ := k164 (n := ρ 2) (s := ρ 12) (by omega) (by omega) (by omega) (by omega) (by omega) p3
  have nx := k158 (n := ρ 2) (s := ρ 12) (t := ρ 3) (by omega) (by omega) (by omega) (by omega) (by omega) (by omega) p2
  have ng := nx_gt (B := (tB (vw C h))) (n := (ρ 2).toNat) (s := (ρ 12).toNat) (by omega)
  have hc0 := p4.1
  have hR := rc_el (n := ρ 2) (s := ρ 12) (d := (0 : Int)) (K := (0 : Int)) (R := (ρ 5 + 8 * ρ 7 + 1024 * ρ 9 + 128 * ρ 10 + 8192 * ρ 11)) p4 (by omega) (by omega) (by omega) (by omega) (by omega) (by omega) (by omega) (by omega) (by omega) (by omega)
  have q := sn_27 hR hkd (by omega) (by omega)
  refine ⟨_, List.mem_cons_self, ρ, fun _ _ => rfl, fun q hq => absurd hq List.not_mem_nil, trivial, fun f hf => ?_, fun q hq => absurd hq List.not_mem_nil, fun q hq => absurd hq List.not_mem_nil, fun q hq => absurd hq List.not_mem_nil, fun q hq => ?_⟩
  · simp only [List.mem_cons, List.not_mem_nil, or_false] at hf
    subst hf
    show (0 : Int) ≤ ((-1) + ((1) * ρ 3 + ((-1) * ρ 12 + 0)))
    omega
  · simp only [List.mem_cons, List.not_mem_nil, or_false] at hq
    subst hq
    show (qRC 28 (tB (vw C h))) (((0) + ((1) * ρ 2 + ((2048) * ρ 3 + ((4398046511104) * ρ 5 + ((35184372088832) * ρ 7 + ((4503599627370496) * ρ 9 + ((562949953421312) * ρ 10 + 0)))))))) (((0) + ((1) * ρ 14 + 0)))
    refine c2 (P := (qRC 28 (tB (vw C h)))) (r := ρ 2 + 2048 * ρ 3 + 4398046511104 * ρ 5 + 35184372088832 * ρ 7 + 4503599627370496 * ρ 9 + 562949953421312 * ρ 10) (c := ρ 14) ?_ (by omega) (by omega)
    show (qRC 28 (tB (vw C h))) (ρ 2 + 2048 * ρ 3 + 4398046511104 * ρ 5 + 35184372088832 * ρ 7 + 4503599627370496 * ρ 9 + 562949953421312 * ρ 10) (ρ 14)
    exact rc_in (n := ρ 2) (s := ρ 3) (d := (0 : Int)) (K := (0 : Int)) (R := (ρ 5 + 8 * ρ 7 + 1024 * ρ 9 + 128 * ρ 10)) (by omega) (by omega) (by omega) (by omega) (by omega) (by omega) (by omega) (by omega) (by omega) (by omega) q (by omega) (by omega) (by omega) (by omega) (by omega)
/-- op28C -/
theorem lem_426_ok (hU : uqG G C) : lem_426.1.2.1 = [] ∧ lemOK (PRd G C D xs) G rgs lem_426 := by
  refine ⟨rfl, fun ρ h ha hT => ?_⟩
  obtain ⟨-, -, hF, hG, hH, hA, hP⟩ := ha
  have f0 : (0 : Int) ≤ ((0) + ((1) * ρ 2 + 0)) := hF _ (List.mem_of_getElem? (i := 0) rfl)
  have f1 : (0 : Int) ≤ ((1200) + ((-1) * ρ 2 + 0)) := hF _ (List.mem_of_getElem? (i := 1) rfl)
  have f2 : (0 : Int) ≤ ((0) + ((1) * ρ 3 + 0)) := hF _ (List.mem_of_getElem? (i := 2) rfl)
  have f3 : (0 : Int) ≤ ((0) + ((1) * ρ 2 + ((-1) * ρ 3 + 0))) := hF _ (List.mem_of_getElem? (i := 3) rfl)
  have f4 : (0 : Int) ≤ ((0) + ((1) * ρ 5 + 0)) := hF _ (List.mem_of_getElem? (i := 4) rfl)
  have f5 : (0 : Int) ≤ ((6) + ((-1) * ρ 5 + 0)) := hF _ (List.mem_of_getElem? (i := 5) rfl)
  have f6 : (0 : Int) ≤ ((0) + ((1) * ρ 7 + 0)) := hF _ (List.mem_of_getElem? (i := 6) rfl)
  have f7 : (0 : Int) ≤ ((8) + ((-1) * ρ 7 + 0)) := hF _ (List.mem_of_getElem? (i := 7) rfl)
  have f8 : (0 : Int) ≤ ((0) + ((1) * ρ 10 + 0)) := hF _ (List.mem_of_getElem? (i := 8) rfl)
  have f9 : (0 : Int) ≤ ((5) + ((-1) * ρ 10 + 0)) := hF _ (List.mem_of_getElem? (i := 9) rfl)
  have f10 : (0 : Int) ≤ ((0) + ((1) * ρ 9 + 0)) := hF _ (List.mem_of_getElem? (i := 10) rfl)
  have f11 : (0 : Int) ≤ ((4) + ((-1) * ρ 9 + 0)) := hF _ (List.mem_of_getElem? (i := 11) rfl)
  have g0 : G (ρ 0).toNat = 14 := by
    have q := (hG _ (List.mem_of_getElem? (i := 0) rfl)).2
    rwa [show ev ρ (0, [(0, 1)]) = ρ 0 from ev_v] at q
  have g1 : G (ρ 1).toNat = 17 := by
    have q := (hG _ (List.mem_of_getElem? (i := 1) rfl)).2
    rwa [show ev ρ (0, [(1, 1)]) = ρ 1 from ev_v] at q
  have g2 : G (ρ 4).toNat = 11 := by
    have q := (hG _ (List.mem_of_getElem? (i := 2) rfl)).2
    rwa [show ev ρ (0, [(4, 1)]) = ρ 4 from ev_v] at q
  have g3 : G (ρ 6).toNat = 20 := by
    have q := (hG _ (List.mem_of_getElem? (i := 3) rfl)).2
    rwa [show ev ρ (0, [(6, 1)]) = ρ 6 from ev_v] at q
  have g4 : G (ρ 8).toNat = 16 := by
    have q := (hG _ (List.mem_of_getElem? (i := 4) rfl)).2
    rwa [show ev ρ (0, [(8, 1)]) = ρ 8 from ev_v] at q
  have h1 : (0 : Int) ≤ ρ 2 ∧ ρ 2 ≤ 1200 := hf_rg hT (hH _ (List.mem_of_getElem? (i := 1) rfl)) ev_v g1 rfl rfl rfl ev_v
  have h2 : (0 : Int) ≤ ρ 3 ∧ ρ 3 ≤ 1200 := hf_rg hT (hH _ (List.mem_of_getElem? (i := 2) rfl)) ev_v g1 rfl rfl rfl ev_v
  have h4 : (0 : Int) ≤ ρ 5 ∧ ρ 5 ≤ 6 := hf_rg hT (hH _ (List.mem_of_getElem? (i := 4) rfl)) ev_v g2 rfl rfl rfl ev_v
  have h6 : (0 : Int) ≤ ρ 7 ∧ ρ 7 ≤ 8 := hf_rg hT (hH _ (List.mem_of_getElem? (i := 6) rfl)) ev_v g3 rfl rfl rfl ev_v
  have h8 : (0 : Int) ≤ ρ 9 ∧ ρ 9 ≤ 4 := hf_rg hT (hH _ (List.mem_of_getElem? (i := 8) rfl)) ev_v g4 rfl rfl rfl ev_v
  have p0 : q176 G h (16 * ρ 6 + ρ 7) (ρ 10) := c2 (P := q176 G h) (show q176 G h (((0) + ((16) * ρ 6 + ((1) * ρ 7 + 0)))) (((0) + ((1) * ρ 10 + 0))) from hP _ (List.mem_of_getElem? (i := 0) rfl)) (by omega) (by omega)
  have p1 : (qRC 28 (tB (vw C h))) (ρ 2 + 2048 * ρ 3 + 4398046511104 * ρ 5 + 35184372088832 * ρ 7 + 4503599627370496 * ρ 9 + 562949953421312 * ρ 10) (ρ 11) := c2 (P := (qRC 28 (tB (vw C h)))) (show (qRC 28 (tB (vw C h))) (((0) + ((1) * ρ 2 + ((2048) * ρ 3 + ((4398046511104) * ρ 5 + ((35184372088832) * ρ 7 + ((4503599627370496) * ρ 9 + ((562949953421312) * ρ 10 + 0)))))))) (((0) + ((1) * ρ 11 + 0))) from hP _ (List.mem_of_getElem? (i := 1) rfl)) (by omega) (by omega)
  have hc0 := p1.1
  have hR := rc_el (n := ρ 2) (s := ρ 3) (d := (0 : Int)) (K := (0 : Int)) (R := (ρ 5 + 8 * ρ 7 + 1024 * ρ 9 + 128 * ρ 10)) p1 (by omega) (by omega) (by omega) (by omega) (by omega) (by omega) (by omega) (by omega) (by omega) (by omega)
  refine ⟨_, List.mem_cons_self, ρ, fun _ _ => rfl, fun q hq => absurd hq List.not_mem_nil, trivial, fun f hf => ?_, fun q hq => absurd hq List.not_mem_nil, fun q hq => absurd hq List.not_mem_nil, fun q hq => absurd hq List.not_mem_nil, fun q hq => ?_⟩
  · exact absurd hf List.not_mem_nil
  · simp only [List.mem_cons, List.not_mem_nil, or_false] at hq
    subst hq
    show q163 (tB (vw C h)) (((137507672948736) + ((1) * ρ 2 + ((2048) * ρ 3 + 0))))
    refine c2 (P := (fun r (_ : Int) => q163 (tB (vw C h)) r)) (c := 0) (c' := 0) (r := ρ 2 + 2048 * ρ 3 + 137507672948736) ?_ (by omega) rfl
    show q163 (tB (vw C h)) (ρ 2 + 2048 * ρ 3 + 137507672948736)
    exact o163 (n := ρ 2) (s := ρ 3) (lo := 0) (hi := 2000) (by omega) (by omega) (by omega) (by omega) (by omega) (by omega) (by omega) (fn_28 hR)
/-- st28C -/
theorem lem_427_ok (hU : uqG G C) : lem_427.1.2.1 = [] ∧ lemOK (PRd G C D xs) G rgs lem_427 := by
  refine ⟨rfl, fun ρ h ha hT => ?_⟩
  obtain ⟨-, -, hF, hG, hH, hA, hP⟩ := ha
  have f0 : (0 : Int) ≤ ((0) + ((1) * ρ 2 + 0)) := hF _ (List.mem_of_getElem? (i := 0) rfl)
  have f1 : (0 : Int) ≤ ((1200) + ((-1) * ρ 2 + 0)) := hF _ (List.mem_of_getElem? (i := 1) rfl)
  have f2 : (0 : Int) ≤ ((0) + ((1) * ρ 3 + 0)) := hF _ (List.mem_of_getElem? (i := 2) rfl)
  have f3 : (0 : Int) ≤ ((0) + ((1) * ρ 2 + ((-1) * ρ 3 + 0))) := hF _ (List.mem_of_getElem? (i := 3) rfl)
  have f4 : (0 : Int) ≤ ((0) + ((1) * ρ 11 + 0)) := hF _ (List.mem_of_getElem? (i := 4) rfl)
  have f5 : (0 : Int) ≤ ((0) + ((1) * ρ 2 + ((-1) * ρ 11 + 0))) := hF _ (List.mem_of_getElem? (i := 5) rfl)
  have f6 : (0 : Int) ≤ ((0) + ((1) * ρ 12 + 0)) := hF _ (List.mem_of_getElem? (i := 6) rfl)
  have f7 : (0 : Int) ≤ ((2000) + ((-1) * ρ 12 + 0)) := hF _ (List.mem_of_getElem? (i := 7) rfl)
  have f8 : (0 : Int) ≤ ((0) + ((1) * ρ 5 + 0)) := hF _ (List.mem_of_getElem? (i := 8) rfl)
  have f9 : (0 : Int) ≤ ((6) + ((-1) * ρ 5 + 0)) := hF _ (List.mem_of_getElem? (i := 9) rfl)
  have f10 : (0 : Int) ≤ ((0) + ((1) * ρ 7 + 0)) := hF _ (List.mem_of_getElem? (i := 10) rfl)
  have f11 : (0 : Int) ≤ ((8) + ((-1) * ρ 7 + 0)) := hF _ (List.mem_of_getElem? (i := 11) rfl)
  have f12 : (0 : Int) ≤ ((0) + ((1) * ρ 10 + 0)) := hF _ (List.mem_of_getElem? (i := 12) rfl)
  have f13 : (0 : Int) ≤ ((5) + ((-1) * ρ 10 + 0)) := hF _ (List.mem_of_getElem? (i := 13) rfl)
  have f14 : (0 : Int) ≤ ((0) + ((1) * ρ 9 + 0)) := hF _ (List.mem_of_getElem? (i := 14) rfl)
  have f15 : (0 : Int) ≤ ((4) + ((-1) * ρ 9 + 0)) := hF _ (List.mem_of_getElem? (i := 15) rfl)
  have g0 : G (ρ 0).toNat = 14 := by
    have q := (hG _ (List.mem_of_getElem? (i := 0) rfl)).2
    rwa [show ev ρ (0, [(0, 1)]) = ρ 0 from ev_v] at q
  have g1 : G (ρ 1).toNat = 17 := by
    have q := (hG _ (List.mem_of_getElem? (i := 1) rfl)).2
    rwa [show ev ρ (0, [(1, 1)]) = ρ 1 from ev_v] at q
  have g2 : G (ρ 4).toNat = 11 := by
    have q := (hG _ (List.mem_of_getElem? (i := 2) rfl)).2
    rwa [show ev ρ (0, [(4, 1)]) = ρ 4 from ev_v] at q
  have g3 : G (ρ 6).toNat = 20 := by
    have q := (hG _ (List.mem_of_getElem? (i := 3) rfl)).2
    rwa [show ev ρ (0, [(6, 1)]) = ρ 6 from ev_v] at q
  have g4 : G (ρ 8).toNat = 16 := by
    have q := (hG _ (List.mem_of_getElem? (i := 4) rfl)).2
    rwa [show ev ρ (0, [(8, 1)]) = ρ 8 from ev_v] at q
  have h1 : (0 : Int) ≤ ρ 2 ∧ ρ 2 ≤ 1200 := hf_rg hT (hH _ (List.mem_of_getElem? (i := 1) rfl)) ev_v g1 rfl rfl rfl ev_v
  have h2 : (0 : Int) ≤ ρ 3 ∧ ρ 3 ≤ 1200 := hf_rg hT (hH _ (List.mem_of_getElem? (i := 2) rfl)) ev_v g1 rfl rfl rfl ev_v
  have h4 : (0 : Int) ≤ ρ 5 ∧ ρ 5 ≤ 6 := hf_rg hT (hH _ (List.mem_of_getElem? (i := 4) rfl)) ev_v g2 rfl rfl rfl ev_v
  have h6 : (0 : Int) ≤ ρ 7 ∧ ρ 7 ≤ 8 := hf_rg hT (hH _ (List.mem_of_getElem? (i := 6) rfl)) ev_v g3 rfl rfl rfl ev_v
  have h8 : (0 : Int) ≤ ρ 9 ∧ ρ 9 ≤ 4 := hf_rg hT (hH _ (List.mem_of_getElem? (i := 8) rfl)) ev_v g4 rfl rfl rfl ev_v
  have p0 : q176 G h (16 * ρ 6 + ρ 7) (ρ 10) := c2 (P := q176 G h) (show q176 G h (((0) + ((16) * ρ 6 + ((1) * ρ 7 + 0)))) (((0) + ((1) * ρ 10 + 0))) from hP _ (List.mem_of_getElem? (i := 0) rfl)) (by omega) (by omega)
  have p1 : q158 (tB (vw C h)) (ρ 2 + 2048 * ρ 3) (ρ 11) := c2 (P := q158 (tB (vw C h))) (show q158 (tB (vw C h)) (((0) + ((1) * ρ 2 + ((2048) * ρ 3 + 0)))) (((0) + ((1) * ρ 11 + 0))) from hP _ (List.mem_of_getElem? (i := 1) rfl)) (by omega) (by omega)
  have p2 : q164 (tB (vw C h)) (ρ 2 + 2048 * ρ 11) (ρ 12) := c2 (P := q164 (tB (vw C h))) (show q164 (tB (vw C h)) (((0) + ((1) * ρ 2 + ((2048) * ρ 11 + 0)))) (((0) + ((1) * ρ 12 + 0))) from hP _ (List.mem_of_getElem? (i := 2) rfl)) (by omega) (by omega)
  have p3 : (qRC 28 (tB (vw C h))) (ρ 2 + 4398046511104 * ρ 5 + 35184372088832 * ρ 7 + 4503599627370496 * ρ 9 + 562949953421312 * ρ 10 + 2048 * ρ 11) (ρ 13) := c2 (P := (qRC 28 (tB (vw C h)))) (show (qRC 28 (tB (vw C h))) (((0) + ((1) * ρ 2 + ((4398046511104) * ρ 5 + ((35184372088832) * ρ 7 + ((4503599627370496) * ρ 9 + ((562949953421312) * ρ 10 + ((2048) * ρ 11 + 0)))))))) (((0) + ((1) * ρ 13 + 0))) from hP _ (List.mem_of_getElem? (i := 3) rfl)) (by omega) (by omega)
  obtain ⟨hkd, nv⟩ := k164 (n := ρ 2) (s := ρ 11) (by omega) (by omega) (by omega) (by omega) (by omega) p2
  have nx := k158 (n := ρ 2) (s := ρ 11) (t := ρ 3) (by omega) (by omega) (by omega) (by omega) (by omega) (by omega) p1
  have ng := nx_gt (B := (tB (vw C h))) (n := (ρ 2).toNat) (s := (ρ 11).toNat) (by omega)
  have hc0 := p3.1
  have hR := rc_el (n := ρ 2) (s := ρ 11) (d := (0 : Int)) (K := (0 : Int)) (R := (ρ 5 + 8 * ρ 7 + 1024 * ρ 9 + 128 * ρ 10)) p3 (by omega) (by omega) (by omega) (by omega) (by omega) (by omega) (by omega) (by omega) (by omega) (by omega)
  have q := sn_28 hR hkd (by omega) (by omega)
  refine ⟨_, List.mem_cons_self, ρ, fun _ _ => rfl, fun q hq => absurd hq List.not_mem_nil, trivial, fun f hf => ?_, fun q hq => absurd hq List.not_mem_nil, fun q hq => absurd hq List.not_mem_nil, fun q hq => absurd hq List.not_mem_nil, fun q hq => ?_⟩
  · simp only [List.mem_cons, List.not_mem_nil, or_false] at hf
    subst hf
    show (0 : Int) ≤ ((-1) + ((1) * ρ 3 + ((-1) * ρ 11 + 0)))
    omega
  · simp only [List.mem_cons, List.not_mem_nil, or_false] at hq
    subst hq
    show (qRC 29 (tB (vw C h))) (((0) + ((1) * ρ 2 + ((2048) * ρ 3 + ((4398046511104) * ρ 5 + ((35184372088832) * ρ 7 + ((4503599627370496) * ρ 9 + ((562949953421312) * ρ 10 + 0)))))))) (((0) + ((1) * ρ 13 + 0)))
    refine c2 (P := (qRC 29 (tB (vw C h)))) (r := ρ 2 + 2048 * ρ 3 + 4398046511104 * ρ 5 + 35184372088832 * ρ 7 + 4503599627370496 * ρ 9 + 562949953421312 * ρ 10) (c := ρ 13) ?_ (by omega) (by omega)
    show (qRC 29 (tB (vw C h))) (ρ 2 + 2048 * ρ 3 + 4398046511104 * ρ 5 + 35184372088832 * ρ 7 + 4503599627370496 * ρ 9 + 562949953421312 * ρ 10) (ρ 13)
    exact rc_in (n := ρ 2) (s := ρ 3) (d := (0 : Int)) (K := (0 : Int)) (R := (ρ 5 + 8 * ρ 7 + 1024 * ρ 9 + 128 * ρ 10)) (by omega) (by omega) (by omega) (by omega) (by omega) (by omega) (by omega) (by omega) (by omega) (by omega) q (by omega) (by omega) (by omega) (by omega) (by omega)
/-- op30C -/
theorem lem_428_ok (hU : uqG G C) : lem_428.1.2.1 = [] ∧ lemOK (PRd G C D xs) G rgs lem_428 := by
  refine ⟨rfl, fun ρ h ha hT => ?_⟩
  obtain ⟨-, -, hF, hG, hH, hA, hP⟩ := ha
  have f0 : (0 : Int) ≤ ((0) + ((1) * ρ 2 + 0)) := hF _ (List.mem_of_getElem? (i := 0) rfl)
  have f1 : (0 : Int) ≤ ((1200) + ((-1) * ρ 2 + 0)) := hF _ (List.mem_of_getElem? (i := 1) rfl)
  have f2 : (0 : Int) ≤ ((0) + ((1) * ρ 3 + 0)) := hF _ (List.mem_of_getElem? (i := 2) rfl)
  have f3 : (0 : Int) ≤ ((0) + ((1) * ρ 2 + ((-1) * ρ 3 + 0))) := hF _ (List.mem_of_getElem? (i := 3) rfl)
  have f4 : (0 : Int) ≤ ((0) + ((1) * ρ 5 + 0)) := hF _ (List.mem_of_getElem? (i := 4) rfl)
  have f5 : (0 : Int) ≤ ((6) + ((-1) * ρ 5 + 0)) := hF _ (List.mem_of_getElem? (i := 5) rfl)
  have f6 : (0 : Int) ≤ ((0) + ((1) * ρ 7 + 0)) := hF _ (List.mem_of_getElem? (i := 6) rfl)
  have f7 : (0 : Int) ≤ ((8) + ((-1) * ρ 7 + 0)) := hF _ (List.mem_of_getElem? (i := 7) rfl)
  have f8 : (0 : Int) ≤ ((0) + ((1) * ρ 10 + 0)) := hF _ (List.mem_of_getElem? (i := 8) rfl)
  have f9 : (0 : Int) ≤ ((5) + ((-1) * ρ 10 + 0)) := hF _ (List.mem_of_getElem? (i := 9) rfl)
  have f10 : (0 : Int) ≤ ((0) + ((1) * ρ 9 + 0)) := hF _ (List.mem_of_getElem? (i := 10) rfl)
  have f11 : (0 : Int) ≤ ((4) + ((-1) * ρ 9 + 0)) := hF _ (List.mem_of_getElem? (i := 11) rfl)
  have g0 : G (ρ 0).toNat = 14 := by
    have q := (hG _ (List.mem_of_getElem? (i := 0) rfl)).2
    rwa [show ev ρ (0, [(0, 1)]) = ρ 0 from ev_v] at q
  have g1 : G (ρ 1).toNat = 17 := by
    have q := (hG _ (List.mem_of_getElem? (i := 1) rfl)).2
    rwa [show ev ρ (0, [(1, 1)]) = ρ 1 from ev_v] at q
  have g2 : G (ρ 4).toNat = 11 := by
    have q := (hG _ (List.mem_of_getElem? (i := 2) rfl)).2
    rwa [show ev ρ (0, [(4, 1)]) = ρ 4 from ev_v] at q
  have g3 : G (ρ 6).toNat = 20 := by
    have q := (hG _ (List.mem_of_getElem? (i := 3) rfl)).2
    rwa [show ev ρ (0, [(6, 1)]) = ρ 6 from ev_v] at q
  have g4 : G (ρ 8).toNat = 16 := by
    have q := (hG _ (List.mem_of_getElem? (i := 4) rfl)).2
    rwa [show ev ρ (0, [(8, 1)]) = ρ 8 from ev_v] at q
  have h1 : (0 : Int) ≤ ρ 2 ∧ ρ 2 ≤ 1200 := hf_rg hT (hH _ (List.mem_of_getElem? (i := 1) rfl)) ev_v g1 rfl rfl rfl ev_v
  have h2 : (0 : Int) ≤ ρ 3 ∧ ρ 3 ≤ 1200 := hf_rg hT (hH _ (List.mem_of_getElem? (i := 2) rfl)) ev_v g1 rfl rfl rfl ev_v
  have h4 : (0 : Int) ≤ ρ 5 ∧ ρ 5 ≤ 6 := hf_rg hT (hH _ (List.mem_of_getElem? (i := 4) rfl)) ev_v g2 rfl rfl rfl ev_v
  have h6 : (0 : Int) ≤ ρ 7 ∧ ρ 7 ≤ 8 := hf_rg hT (hH _ (List.mem_of_getElem? (i := 6) rfl)) ev_v g3 rfl rfl rfl ev_v
  have h8 : (0 : Int) ≤ ρ 9 ∧ ρ 9 ≤ 4 := hf_rg hT (hH _ (List.mem_of_getElem? (i := 8) rfl)) ev_v g4 rfl rfl rfl ev_v
  have p0 : q176 G h (16 * ρ 6 + ρ 7) (ρ 10) := c2 (P := q176 G h) (show q176 G h (((0) + ((16) * ρ 6 + ((1) * ρ 7 + 0)))) (((0) + ((1) * ρ 10 + 0))) from hP _ (List.mem_of_getElem? (i := 0) rfl)) (by omega) (by omega)
  have p1 : (qRC 30 (tB (vw C h))) (ρ 2 + 2048 * ρ 3 + 4398046511104 * ρ 5 + 35184372088832 * ρ 7 + 4503599627370496 * ρ 9 + 562949953421312 * ρ 10) (ρ 11) := c2 (P := (qRC 30 (tB (vw C h)))) (show (qRC 30 (tB (vw C h))) (((0) + ((1) * ρ 2 + ((2048) * ρ 3 + ((4398046511104) * ρ 5 + ((35184372088832) * ρ 7 + ((4503599627370496) * ρ 9 + ((562949953421312) * ρ 10 + 0)))))))) (((0) + ((1) * ρ 11 + 0))) from hP _ (List.mem_of_getElem? (i := 1) rfl)) (by omega) (by omega)
  have hc0 := p1.1
  have hR := rc_el (n := ρ 2) (s := ρ 3) (d := (0 : Int)) (K := (0 : Int)) (R := (ρ 5 + 8 * ρ 7 + 1024 * ρ 9 + 128 * ρ 10)) p1 (by omega) (by omega) (by omega) (by omega) (by omega) (by omega) (by omega) (by omega) (by omega) (by omega)
  refine ⟨_, List.mem_cons_self, ρ, fun _ _ => rfl, fun q hq => absurd hq List.not_mem_nil, trivial, fun f hf => ?_, fun q hq => absurd hq List.not_mem_nil, fun q hq => absurd hq List.not_mem_nil, fun q hq => absurd hq List.not_mem_nil, fun q hq => ?_⟩
  · exact absurd hf List.not_mem_nil
  · simp only [List.mem_cons, List.not_mem_nil, or_false] at hq
    subst hq
    show q163 (tB (vw C h)) (((2130307973120) + ((1) * ρ 2 + ((2048) * ρ 3 + 0))))
    refine c2 (P := (fun r (_ : Int) => q163 (tB (vw C h)) r)) (c := 0) (c' := 0) (r := ρ 2 + 2048 * ρ 3 + 2130307973120) ?_ (by omega) rfl
    show q163 (tB (vw C h)) (ρ 2 + 2048 * ρ 3 + 2130307973120)
    exact o163 (n := ρ 2) (s := ρ 3) (lo := 1) (hi := 30) (by omega) (by omega) (by omega) (by omega) (by omega) (by omega) (by omega) (fn_30 hR)
/-- st30C -/
theorem lem_429_ok (hU : uqG G C) : lem_429.1.2.1 = [] ∧ lemOK (PRd G C D xs) G rgs lem_429 := by
  refine ⟨rfl, fun ρ h ha hT => ?_⟩
  obtain ⟨-, -, hF, hG, hH, hA, hP⟩ := ha
  have f0 : (0 : Int) ≤ ((0) + ((1) * ρ 2 + 0)) := hF _ (List.mem_of_getElem? (i := 0) rfl)
  have f1 : (0 : Int) ≤ ((1200) + ((-1) * ρ 2 + 0)) := hF _ (List.mem_of_getElem? (i := 1) rfl)
  have f2 : (0 : Int) ≤ ((0) + ((1) * ρ 3 + 0)) := hF _ (List.mem_of_getElem? (i := 2) rfl)
  have f3 : (0 : Int) ≤ ((0) + ((1) * ρ 2 + ((-1) * ρ 3 + 0))) := hF _ (List.mem_of_getElem? (i := 3) rfl)
  have f4 : (0 : Int) ≤ ((0) + ((1) * ρ 11 + 0)) := hF _ (List.mem_of_getElem? (i := 4) rfl)
  have f5 : (0 : Int) ≤ ((0) + ((1) * ρ 2 + ((-1) * ρ 11 + 0))) := hF _ (List.mem_of_getElem? (i := 5) rfl)
  have f6 : (0 : Int) ≤ ((-1) + ((1) * ρ 12 + 0)) := hF _ (List.mem_of_getElem? (i := 6) rfl)
  have f7 : (0 : Int) ≤ ((30) + ((-1) * ρ 12 + 0)) := hF _ (List.mem_of_getElem? (i := 7) rfl)
  have f8 : (0 : Int) ≤ ((-1) + ((1) * ρ 7 + 0)) := hF _ (List.mem_of_getElem? (i := 8) rfl)
  have f9 : (0 : Int) ≤ ((0) + ((1) * ρ 5 + 0)) := hF _ (List.mem_of_getElem? (i := 9) rfl)
  have f10 : (0 : Int) ≤ ((6) + ((-1) * ρ 5 + 0)) := hF _ (List.mem_of_getElem? (i := 10) rfl)
  have f11 : (0 : Int) ≤ ((0) + ((1) * ρ 7 + 0)) := hF _ (List.mem_of_getElem? (i := 11) rfl)
  have f12 : (0 : Int) ≤ ((8) + ((-1) * ρ 7 + 0)) := hF _ (List.mem_of_getElem? (i := 12) rfl)
  have f13 : (0 : Int) ≤ ((0) + ((1) * ρ 10 + 0)) := hF _ (List.mem_of_getElem? (i := 13) rfl)
  have f14 : (0 : Int) ≤ ((5) + ((-1) * ρ 10 + 0)) := hF _ (List.mem_of_getElem? (i := 14) rfl)
  have f15 : (0 : Int) ≤ ((0) + ((1) * ρ 9 + 0)) := hF _ (List.mem_of_getElem? (i := 15) rfl)
  have f16 : (0 : Int) ≤ ((4) + ((-1) * ρ 9 + 0)) := hF _ (List.mem_of_getElem? (i := 16) rfl)
  have g0 : G (ρ 0).toNat = 14 := by
    have q := (hG _ (List.mem_of_getElem? (i := 0) rfl)).2
    rwa [show ev ρ (0, [(0, 1)]) = ρ 0 from ev_v] at q
  have g1 : G (ρ 1).toNat = 17 := by
    have q := (hG _ (List.mem_of_getElem? (i := 1) rfl)).2
    rwa [show ev ρ (0, [(1, 1)]) = ρ 1 from ev_v] at q
  have g2 : G (ρ 4).toNat = 11 := by
    have q := (hG _ (List.mem_of_getElem? (i := 2) rfl)).2
    rwa [show ev ρ (0, [(4, 1)]) = ρ 4 from ev_v] at q
  have g3 : G (ρ 6).toNat = 20 := by
    have q := (hG _ (List.mem_of_getElem? (i := 3) rfl)).2
    rwa [show ev ρ (0, [(6, 1)]) = ρ 6 from ev_v] at q
  have g4 : G (ρ 8).toNat = 16 := by
    have q := (hG _ (List.mem_of_getElem? (i := 4) rfl)).2
    rwa [show ev ρ (0, [(8, 1)]) = ρ 8 from ev_v] at q
  have h1 : (0 : Int) ≤ ρ 2 ∧ ρ 2 ≤ 1200 := hf_rg hT (hH _ (List.mem_of_getElem? (i := 1) rfl)) ev_v g1 rfl rfl rfl ev_v
  have h2 : (0 : Int) ≤ ρ 3 ∧ ρ 3 ≤ 1200 := hf_rg hT (hH _ (List.mem_of_getElem? (i := 2) rfl)) ev_v g1 rfl rfl rfl ev_v
  have h4 : (0 : Int) ≤ ρ 5 ∧ ρ 5 ≤ 6 := hf_rg hT (hH _ (List.mem_of_getElem? (i := 4) rfl)) ev_v g2 rfl rfl rfl ev_v
  have h6 : (0 : Int) ≤ ρ 7 ∧ ρ 7 ≤ 8 := hf_rg hT (hH _ (List.mem_of_getElem? (i := 6) rfl)) ev_v g3 rfl rfl rfl ev_v
  have h8 : (0 : Int) ≤ ρ 9 ∧ ρ 9 ≤ 4 := hf_rg hT (hH _ (List.mem_of_getElem? (i := 8) rfl)) ev_v g4 rfl rfl rfl ev_v
  have p0 : q176 G h (16 * ρ 6 + ρ 7) (ρ 10) := c2 (P := q176 G h) (show q176 G h (((0) + ((16) * ρ 6 + ((1) * ρ 7 + 0)))) (((0) + ((1) * ρ 10 + 0))) from hP _ (List.mem_of_getElem? (i := 0) rfl)) (by omega) (by omega)
  have p1 : q158 (tB (vw C h)) (ρ 2 + 2048 * ρ 3) (ρ 11) := c2 (P := q158 (tB (vw C h))) (show q158 (tB (vw C h)) (((0) + ((1) * ρ 2 + ((2048) * ρ 3 + 0)))) (((0) + ((1) * ρ 11 + 0))) from hP _ (List.mem_of_getElem? (i := 1) rfl)) (by omega) (by omega)
  have p2 : q164 (tB (vw C h)) (ρ 2 + 2048 * ρ 11) (ρ 12) := c2 (P := q164 (tB (vw C h))) (show q164 (tB (vw C h)) (((0) + ((1) * ρ 2 + ((2048) * ρ 11 + 0)))) (((0) + ((1) * ρ 12 + 0))) from hP _ (List.mem_of_getElem? (i := 2) rfl)) (by omega) (by omega)
  have p3 : (qRC 30 (tB (vw C h))) (ρ 2 + 4398046511104 * ρ 5 + 35184372088832 * ρ 7 + 4503599627370496 * ρ 9 + 562949953421312 * ρ 10 + 2048 * ρ 11) (ρ 13) := c2 (P := (qRC 30 (tB (vw C h)))) (show (qRC 30 (tB (vw C h))) (((0) + ((1) * ρ 2 + ((4398046511104) * ρ 5 + ((35184372088832) * ρ 7 + ((4503599627370496) * ρ 9 + ((562949953421312) * ρ 10 + ((2048) * ρ 11 + 0)))))))) (((0) + ((1) * ρ 13 + 0))) from hP _ (List.mem_of_getElem? (i := 3) rfl)) (by omega) (by omega)
  obtain ⟨hkd, nv⟩ := k164 (n := ρ 2) (s := ρ 11) (by omega) (by omega) (by omega) (by omega) (by omega) p2
  have nx := k158 (n := ρ 2) (s := ρ 11) (t := ρ 3) (by omega) (by omega) (by omega) (by omega) (by omega) (by omega) p1
  have ng := nx_gt (B := (tB (vw C h))) (n := (ρ 2).toNat) (s := (ρ 11).toNat) (by omega)
  have hc0 := p3.1
  have hR := rc_el (n := ρ 2) (s := ρ 11) (d := (0 : Int)) (K := (0 : Int)) (R := (ρ 5 + 8 * ρ 7 + 1024 * ρ 9 + 128 * ρ 10)) p3 (by omega) (by omega) (by omega) (by omega) (by omega) (by omega) (by omega) (by omega) (by omega) (by omega)
  have q := sn_30 hR hkd (by omega) (by omega)
  obtain ⟨σ, r1, r2a⟩ : ∃ σ : Va, (∀ i, i < 14 → σ i = ρ i) ∧ σ 14 = ((newS (ρ 13).toNat ((ρ 5 + 8 * ρ 7 + 1024 * ρ 9 + 128 * ρ 10).toNat / 8 % 16 - 1) ((ρ 5 + 8 * ρ 7 + 1024 * ρ 9 + 128 * ρ 10).toNat / 128 % 8) (ρ 12).toNat : Nat) : Int) := ⟨fun i => if i = 14 then ((newS (ρ 13).toNat ((ρ 5 + 8 * ρ 7 + 1024 * ρ 9 + 128 * ρ 10).toNat / 8 % 16 - 1) ((ρ 5 + 8 * ρ 7 + 1024 * ρ 9 + 128 * ρ 10).toNat / 128 % 8) (ρ 12).toNat : Nat) : Int) else ρ i, fun i hi => by dsimp only; rw [if_neg (by omega)], by dsimp only; rw [if_pos rfl]⟩
  have s0 := r1 0 (by omega)
  have s1 := r1 1 (by omega)
  have s2 := r1 2 (by omega)
  have s3 := r1 3 (by omega)
  have s4 := r1 4 (by omega)
  have s5 := r1 5 (by omega)
  have s6 := r1 6 (by omega)
  have s7 := r1 7 (by omega)
  have s8 := r1 8 (by omega)
  have s9 := r1 9 (by omega)
  have s10 := r1 10 (by omega)
  have s11 := r1 11 (by omega)
  have s12 := r1 12 (by omega)
  have s13 := r1 13 (by omega)
  refine ⟨_, List.mem_cons_self, σ, r1, fun q hq => absurd hq List.not_mem_nil, trivial, fun f hf => ?_, fun q hq => absurd hq List.not_mem_nil, fun q hq => absurd hq List.not_mem_nil, fun q hq => absurd hq List.not_mem_nil, fun q hq => ?_⟩
  · simp only [List.mem_cons, List.not_mem_nil, or_false] at hf
    subst hf
    show (0 : Int) ≤ ((-1) + ((1) * σ 3 + ((-1) * σ 11 + 0)))
    omega
  · simp only [List.mem_cons, List.not_mem_nil, or_false] at hq
    rcases hq with rfl | rfl
    · show (qRC 15 (tB (vw C h))) (((562949953421312) + ((1) * σ 2 + ((2048) * σ 3 + ((4398046511104) * σ 5 + ((35184372088832) * σ 7 + ((4503599627370496) * σ 9 + ((562949953421312) * σ 10 + 0)))))))) (((0) + ((1) * σ 14 + 0)))
      refine c2 (P := (qRC 15 (tB (vw C h)))) (r := ρ 2 + 2048 * ρ 3 + 4398046511104 * ρ 5 + 35184372088832 * ρ 7 + 4503599627370496 * ρ 9 + 562949953421312 * ρ 10 + 562949953421312) (c := ((newS (ρ 13).toNat ((ρ 5 + 8 * ρ 7 + 1024 * ρ 9 + 128 * ρ 10).toNat / 8 % 16 - 1) ((ρ 5 + 8 * ρ 7 + 1024 * ρ 9 + 128 * ρ 10).toNat / 128 % 8) (ρ 12).toNat : Nat) : Int)) ?_ (by omega) (by omega)
      show (qRC 15 (tB (vw C h))) (ρ 2 + 2048 * ρ 3 + 4398046511104 * ρ 5 + 35184372088832 * ρ 7 + 4503599627370496 * ρ 9 + 562949953421312 * ρ 10 + 562949953421312) (((newS (ρ 13).toNat ((ρ 5 + 8 * ρ 7 + 1024 * ρ 9 + 128 * ρ 10).toNat / 8 % 16 - 1) ((ρ 5 + 8 * ρ 7 + 1024 * ρ 9 + 128 * ρ 10).toNat / 128 % 8) (ρ 12).toNat : Nat) : Int))
      exact rc_in (n := ρ 2) (s := ρ 3) (d := (0 : Int)) (K := (0 : Int)) (R := (ρ 5 + 8 * ρ 7 + 1024 * ρ 9 + 128 * ρ 10 + 128)) (by omega) (by omega) (by omega) (by omega) (by omega) (by omega) (by omega) (by omega) (by omega) (by omega) q (by omega) (by omega) (by omega) (by omega) (by rw [nv])
    · show qNS (((0) + ((512) * σ 7 + ((64) * σ 10 + ((1) * σ 12 + ((4096) * σ 13 + 0)))))) (((0) + ((1) * σ 14 + 0)))
      refine c2 (P := qNS) (r := 512 * ρ 7 + 64 * ρ 10 + ρ 12 + 4096 * ρ 13) (c := ((newS (ρ 13).toNat ((ρ 5 + 8 * ρ 7 + 1024 * ρ 9 + 128 * ρ 10).toNat / 8 % 16 - 1) ((ρ 5 + 8 * ρ 7 + 1024 * ρ 9 + 128 * ρ 10).toNat / 128 % 8) (ρ 12).toNat : Nat) : Int)) ?_ (by omega) (by omega)
      show qNS (512 * ρ 7 + 64 * ρ 10 + ρ 12 + 4096 * ρ 13) (((newS (ρ 13).toNat ((ρ 5 + 8 * ρ 7 + 1024 * ρ 9 + 128 * ρ 10).toNat / 8 % 16 - 1) ((ρ 5 + 8 * ρ 7 + 1024 * ρ 9 + 128 * ρ 10).toNat / 128 % 8) (ρ 12).toNat : Nat) : Int))
      exact oNS (a := ρ 13) (m := (ρ 5 + 8 * ρ 7 + 1024 * ρ 9 + 128 * ρ 10).toNat / 8 % 16 - 1) (s := (ρ 5 + 8 * ρ 7 + 1024 * ρ 9 + 128 * ρ 10).toNat / 128 % 8) (v := (ρ 12).toNat) (by omega) (by omega) (by omega) (by omega) rfl
/-- semiC -/
theorem lem_430_ok (hU : uqG G C) : lem_430.1.2.1 = [] ∧ lemOK (PRd G C D xs) G rgs lem_430 := by
  refine ⟨rfl, fun ρ h ha hT => ?_⟩
  obtain ⟨-, -, hF, hG, hH, hA, hP⟩ := ha
  have f0 : (0 : Int) ≤ ((0) + ((1) * ρ 2 + 0)) := hF _ (List.mem_of_getElem? (i := 0) rfl)
  have f1 : (0 : Int) ≤ ((1200) + ((-1) * ρ 2 + 0)) := hF _ (List.mem_of_getElem? (i := 1) rfl)
  have f2 : (0 : Int) ≤ ((0) + ((1) * ρ 3 + 0)) := hF _ (List.mem_of_getElem? (i := 2) rfl)
  have f3 : (0 : Int) ≤ ((0) + ((1) * ρ 2 + ((-1) * ρ 3 + 0))) := hF _ (List.mem_of_getElem? (i := 3) rfl)
  have f4 : (0 : Int) ≤ ((0) + ((1) * ρ 11 + 0)) := hF _ (List.mem_of_getElem? (i := 4) rfl)
  have f5 : (0 : Int) ≤ ((0) + ((1) * ρ 2 + ((-1) * ρ 11 + 0))) := hF _ (List.mem_of_getElem? (i := 5) rfl)
  have f6 : (0 : Int) ≤ ((0) + ((1) * ρ 5 + 0)) := hF _ (List.mem_of_getElem? (i := 6) rfl)
  have f7 : (0 : Int) ≤ ((6) + ((-1) * ρ 5 + 0)) := hF _ (List.mem_of_getElem? (i := 7) rfl)
  have f8 : (0 : Int) ≤ ((0) + ((1) * ρ 7 + 0)) := hF _ (List.mem_of_getElem? (i := 8) rfl)
  have f9 : (0 : Int) ≤ ((8) + ((-1) * ρ 7 + 0)) := hF _ (List.mem_of_getElem? (i := 9) rfl)
  have f10 : (0 : Int) ≤ ((0) + ((1) * ρ 10 + 0)) := hF _ (List.mem_of_getElem? (i := 10) rfl)
  have f11 : (0 : Int) ≤ ((5) + ((-1) * ρ 10 + 0)) := hF _ (List.mem_of_getElem? (i := 11) rfl)
  have f12 : (0 : Int) ≤ ((0) + ((1) * ρ 9 + 0)) := hF _ (List.mem_of_getElem? (i := 12) rfl)
  have f13 : (0 : Int) ≤ ((4) + ((-1) * ρ 9 + 0)) := hF _ (List.mem_of_getElem? (i := 13) rfl)
  have g0 : G (ρ 0).toNat = 14 := by
    have q := (hG _ (List.mem_of_getElem? (i := 0) rfl)).2
    rwa [show ev ρ (0, [(0, 1)]) = ρ 0 from ev_v] at q
  have g1 : G (ρ 1).toNat = 17 := by
    have q := (hG _ (List.mem_of_getElem? (i := 1) rfl)).2
    rwa [show ev ρ (0, [(1, 1)]) = ρ 1 from ev_v] at q
  have g2 : G (ρ 4).toNat = 11 := by
    have q := (hG _ (List.mem_of_getElem? (i := 2) rfl)).2
    rwa [show ev ρ (0, [(4, 1)]) = ρ 4 from ev_v] at q
  have g3 : G (ρ 6).toNat = 20 := by
    have q := (hG _ (List.mem_of_getElem? (i := 3) rfl)).2
    rwa [show ev ρ (0, [(6, 1)]) = ρ 6 from ev_v] at q
  have g4 : G (ρ 8).toNat = 16 := by
    have q := (hG _ (List.mem_of_getElem? (i := 4) rfl)).2
    rwa [show ev ρ (0, [(8, 1)]) = ρ 8 from ev_v] at q
  have h1 : (0 : Int) ≤ ρ 2 ∧ ρ 2 ≤ 1200 := hf_rg hT (hH _ (List.mem_of_getElem? (i := 1) rfl)) ev_v g1 rfl rfl rfl ev_v
  have h2 : (0 : Int) ≤ ρ 3 ∧ ρ 3 ≤ 1200 := hf_rg hT (hH _ (List.mem_of_getElem? (i := 2) rfl)) ev_v g1 rfl rfl rfl ev_v
  have h4 : (0 : Int) ≤ ρ 5 ∧ ρ 5 ≤ 6 := hf_rg hT (hH _ (List.mem_of_getElem? (i := 4) rfl)) ev_v g2 rfl rfl rfl ev_v
  have h6 : (0 : Int) ≤ ρ 7 ∧ ρ 7 ≤ 8 := hf_rg hT (hH _ (List.mem_of_getElem? (i := 6) rfl)) ev_v g3 rfl rfl rfl ev_v
  have h8 : (0 : Int) ≤ ρ 9 ∧ ρ 9 ≤ 4 := hf_rg hT (hH _ (List.mem_of_getElem? (i := 8) rfl)) ev_v g4 rfl rfl rfl ev_v
  have p0 : q176 G h (16 * ρ 6 + ρ 7) (ρ 10) := c2 (P := q176 G h) (show q176 G h (((0) + ((16) * ρ 6 + ((1) * ρ 7 + 0)))) (((0) + ((1) * ρ 10 + 0))) from hP _ (List.mem_of_getElem? (i := 0) rfl)) (by omega) (by omega)
  have p1 : q158 (tB (vw C h)) (ρ 2 + 2048 * ρ 3) (ρ 11) := c2 (P := q158 (tB (vw C h))) (show q158 (tB (vw C h)) (((0) + ((1) * ρ 2 + ((2048) * ρ 3 + 0)))) (((0) + ((1) * ρ 11 + 0))) from hP _ (List.mem_of_getElem? (i := 1) rfl)) (by omega) (by omega)
  have p2 : q160 (tB (vw C h)) (ρ 2 + 2048 * ρ 11 + 247463936) ((1 : Int)) := c2 (P := q160 (tB (vw C h))) (show q160 (tB (vw C h)) (((247463936) + ((1) * ρ 2 + ((2048) * ρ 11 + 0)))) (((1) + 0)) from hP _ (List.mem_of_getElem? (i := 2) rfl)) (by omega) (by omega)
  have p3 : (qRC 15 (tB (vw C h))) (ρ 2 + 4398046511104 * ρ 5 + 35184372088832 * ρ 7 + 4503599627370496 * ρ 9 + 562949953421312 * ρ 10 + 2048 * ρ 11) (ρ 12) := c2 (P := (qRC 15 (tB (vw C h)))) (show (qRC 15 (tB (vw C h))) (((0) + ((1) * ρ 2 + ((4398046511104) * ρ 5 + ((35184372088832) * ρ 7 + ((4503599627370496) * ρ 9 + ((562949953421312) * ρ 10 + ((2048) * ρ 11 + 0)))))))) (((0) + ((1) * ρ 12 + 0))) from hP _ (List.mem_of_getElem? (i := 3) rfl)) (by omega) (by omega)
  have is59 : tSgB (tB (vw C h)) (ρ 2).toNat (ρ 11).toNat 59 = true := b01_1 (k160 (n := ρ 2) (s := ρ 11) (c := 59) (by omega) (by omega) (by omega) (by omega) (by omega) (by omega) p2)
  have hkd := (sg_el.mp is59).1
  have nx := k158 (n := ρ 2) (s := ρ 11) (t := ρ 3) (by omega) (by omega) (by omega) (by omega) (by omega) (by omega) p1
  have ng := nx_gt (B := (tB (vw C h))) (n := (ρ 2).toNat) (s := (ρ 11).toNat) (by omega)
  have hc0 := p3.1
  have hR := rc_el (n := ρ 2) (s := ρ 11) (d := (0 : Int)) (K := (0 : Int)) (R := (ρ 5 + 8 * ρ 7 + 1024 * ρ 9 + 128 * ρ 10)) p3 (by omega) (by omega) (by omega) (by omega) (by omega) (by omega) (by omega) (by omega) (by omega) (by omega)
  have q := g_semi hR is59
  refine ⟨_, List.mem_cons_self, ρ, fun _ _ => rfl, fun q hq => absurd hq List.not_mem_nil, trivial, fun f hf => ?_, fun q hq => absurd hq List.not_mem_nil, fun q hq => absurd hq List.not_mem_nil, fun q hq => absurd hq List.not_mem_nil, fun q hq => ?_⟩
  · simp only [List.mem_cons, List.not_mem_nil, or_false] at hf
    subst hf
    show (0 : Int) ≤ ((-1) + ((1) * ρ 3 + ((-1) * ρ 11 + 0)))
    omega
  · simp only [List.mem_cons, List.not_mem_nil, or_false] at hq
    subst hq
    show (qRC 16 (tB (vw C h))) (((0) + ((1) * ρ 2 + ((2048) * ρ 3 + ((4398046511104) * ρ 5 + ((35184372088832) * ρ 7 + ((4503599627370496) * ρ 9 + ((562949953421312) * ρ 10 + 0)))))))) (((0) + ((1) * ρ 12 + 0)))
    refine c2 (P := (qRC 16 (tB (vw C h)))) (r := ρ 2 + 2048 * ρ 3 + 4398046511104 * ρ 5 + 35184372088832 * ρ 7 + 4503599627370496 * ρ 9 + 562949953421312 * ρ 10) (c := ρ 12) ?_ (by omega) (by omega)
    show (qRC 16 (tB (vw C h))) (ρ 2 + 2048 * ρ 3 + 4398046511104 * ρ 5 + 35184372088832 * ρ 7 + 4503599627370496 * ρ 9 + 562949953421312 * ρ 10) (ρ 12)
    exact rc_in (n := ρ 2) (s := ρ 3) (d := (0 : Int)) (K := (0 : Int)) (R := (ρ 5 + 8 * ρ 7 + 1024 * ρ 9 + 128 * ρ 10)) (by omega) (by omega) (by omega) (by omega) (by omega) (by omega) (by omega) (by omega) (by omega) (by omega) q (by omega) (by omega) (by omega) (by omega) (by omega)
/-- endLoC -/
theorem lem_431_ok (hU : uqG G C) : lem_431.1.2.1 = [] ∧ lemOK (PRd G C D xs) G rgs lem_431 := by
  refine ⟨rfl, fun ρ h ha hT => ?_⟩
  obtain ⟨-, -, hF, hG, hH, hA, hP⟩ := ha
  have f0 : (0 : Int) ≤ ((0) + ((1) * ρ 2 + 0)) := hF _ (List.mem_of_getElem? (i := 0) rfl)
  have f1 : (0 : Int) ≤ ((1200) + ((-1) * ρ 2 + 0)) := hF _ (List.mem_of_getElem? (i := 1) rfl)
  have f2 : (0 : Int) ≤ ((0) + ((1) * ρ 3 + 0)) := hF _ (List.mem_of_getElem? (i := 2) rfl)
  have f3 : (0 : Int) ≤ ((0) + ((1) * ρ 2 + ((-1) * ρ 3 + 0))) := hF _ (List.mem_of_getElem? (i := 3) rfl)
  have f4 : (0 : Int) ≤ ((-1) + ((-1) * ρ 4 + 0)) := hF _ (List.mem_of_getElem? (i := 4) rfl)
  have f5 : (0 : Int) ≤ ((0) + ((1) * ρ 6 + 0)) := hF _ (List.mem_of_getElem? (i := 5) rfl)
  have f6 : (0 : Int) ≤ ((6) + ((-1) * ρ 6 + 0)) := hF _ (List.mem_of_getElem? (i := 6) rfl)
  have f7 : (0 : Int) ≤ ((0) + ((1) * ρ 8 + 0)) := hF _ (List.mem_of_getElem? (i := 7) rfl)
  have f8 : (0 : Int) ≤ ((8) + ((-1) * ρ 8 + 0)) := hF _ (List.mem_of_getElem? (i := 8) rfl)
  have f9 : (0 : Int) ≤ ((0) + ((1) * ρ 11 + 0)) := hF _ (List.mem_of_getElem? (i := 9) rfl)
  have f10 : (0 : Int) ≤ ((5) + ((-1) * ρ 11 + 0)) := hF _ (List.mem_of_getElem? (i := 10) rfl)
  have f11 : (0 : Int) ≤ ((0) + ((1) * ρ 10 + 0)) := hF _ (List.mem_of_getElem? (i := 11) rfl)
  have f12 : (0 : Int) ≤ ((4) + ((-1) * ρ 10 + 0)) := hF _ (List.mem_of_getElem? (i := 12) rfl)
  have g0 : G (ρ 0).toNat = 14 := by
    have q := (hG _ (List.mem_of_getElem? (i := 0) rfl)).2
    rwa [show ev ρ (0, [(0, 1)]) = ρ 0 from ev_v] at q
  have g1 : G (ρ 1).toNat = 17 := by
    have q := (hG _ (List.mem_of_getElem? (i := 1) rfl)).2
    rwa [show ev ρ (0, [(1, 1)]) = ρ 1 from ev_v] at q
  have g2 : G (ρ 5).toNat = 11 := by
    have q := (hG _ (List.mem_of_getElem? (i := 2) rfl)).2
    rwa [show ev ρ (0, [(5, 1)]) = ρ 5 from ev_v] at q
  have g3 : G (ρ 7).toNat = 20 := by
    have q := (hG _ (List.mem_of_getElem? (i := 3) rfl)).2
    rwa [show ev ρ (0, [(7, 1)]) = ρ 7 from ev_v] at q
  have g4 : G (ρ 9).toNat = 16 := by
    have q := (hG _ (List.mem_of_getElem? (i := 4) rfl)).2
    rwa [show ev ρ (0, [(9, 1)]) = ρ 9 from ev_v] at q
  have h1 : (0 : Int) ≤ ρ 2 ∧ ρ 2 ≤ 1200 := hf_rg hT (hH _ (List.mem_of_getElem? (i := 1) rfl)) ev_v g1 rfl rfl rfl ev_v
  have h2 : (0 : Int) ≤ ρ 3 ∧ ρ 3 ≤ 1200 := hf_rg hT (hH _ (List.mem_of_getElem? (i := 2) rfl)) ev_v g1 rfl rfl rfl ev_v
  have h5 : (0 : Int) ≤ ρ 6 ∧ ρ 6 ≤ 6 := hf_rg hT (hH _ (List.mem_of_getElem? (i := 5) rfl)) ev_v g2 rfl rfl rfl ev_v
  have h7 : (0 : Int) ≤ ρ 8 ∧ ρ 8 ≤ 8 := hf_rg hT (hH _ (List.mem_of_getElem? (i := 7) rfl)) ev_v g3 rfl rfl rfl ev_v
  have h9 : (0 : Int) ≤ ρ 10 ∧ ρ 10 ≤ 4 := hf_rg hT (hH _ (List.mem_of_getElem? (i := 9) rfl)) ev_v g4 rfl rfl rfl ev_v
  have p0 : q176 G h (16 * ρ 7 + ρ 8) (ρ 11) := c2 (P := q176 G h) (show q176 G h (((0) + ((16) * ρ 7 + ((1) * ρ 8 + 0)))) (((0) + ((1) * ρ 11 + 0))) from hP _ (List.mem_of_getElem? (i := 0) rfl)) (by omega) (by omega)
  have p1 : q160 (tB (vw C h)) (ρ 2 + 2048 * ρ 3 + 247463936) ((0 : Int)) := c2 (P := q160 (tB (vw C h))) (show q160 (tB (vw C h)) (((247463936) + ((1) * ρ 2 + ((2048) * ρ 3 + 0)))) (((0) + 0)) from hP _ (List.mem_of_getElem? (i := 1) rfl)) (by omega) (by omega)
  have p2 : q155 (tB (vw C h)) (ρ 2 + 2048 * ρ 3) (ρ 4) := c2 (P := q155 (tB (vw C h))) (show q155 (tB (vw C h)) (((0) + ((1) * ρ 2 + ((2048) * ρ 3 + 0)))) (((0) + ((1) * ρ 4 + 0))) from hP _ (List.mem_of_getElem? (i := 2) rfl)) (by omega) (by omega)
  have p3 : (qRC 15 (tB (vw C h))) (ρ 2 + 2048 * ρ 3 + 4398046511104 * ρ 6 + 35184372088832 * ρ 8 + 4503599627370496 * ρ 10 + 562949953421312 * ρ 11) (ρ 12) := c2 (P := (qRC 15 (tB (vw C h)))) (show (qRC 15 (tB (vw C h))) (((0) + ((1) * ρ 2 + ((2048) * ρ 3 + ((4398046511104) * ρ 6 + ((35184372088832) * ρ 8 + ((4503599627370496) * ρ 10 + ((562949953421312) * ρ 11 + 0)))))))) (((0) + ((1) * ρ 12 + 0))) from hP _ (List.mem_of_getElem? (i := 3) rfl)) (by omega) (by omega)
  have is59 : tSgB (tB (vw C h)) (ρ 2).toNat (ρ 3).toNat 59 = false := b01_0 (k160 (n := ρ 2) (s := ρ 3) (c := 59) (by omega) (by omega) (by omega) (by omega) (by omega) (by omega) p1)
  have kk := k155 (n := ρ 2) (s := ρ 3) (by omega) (by omega) (by omega) (by omega) (by omega) p2
  have hc0 := p3.1
  have hR := rc_el (n := ρ 2) (s := ρ 3) (d := (0 : Int)) (K := (0 : Int)) (R := (ρ 6 + 8 * ρ 8 + 1024 * ρ 10 + 128 * ρ 11)) p3 (by omega) (by omega) (by omega) (by omega) (by omega) (by omega) (by omega) (by omega) (by omega) (by omega)
  have q := o_end hR is59 (by omega)
  refine ⟨_, List.mem_cons_self, ρ, fun _ _ => rfl, fun q hq => absurd hq List.not_mem_nil, trivial, fun f hf => ?_, fun q hq => absurd hq List.not_mem_nil, fun q hq => absurd hq List.not_mem_nil, fun q hq => absurd hq List.not_mem_nil, fun q hq => ?_⟩
  · exact absurd hf List.not_mem_nil
  · simp only [List.mem_cons, List.not_mem_nil, or_false] at hq
    subst hq
    show q166 (tB (vw C h)) (((0) + ((1) * ρ 2 + 0))) (((4096) + ((1) * ρ 3 + 0)))
    refine c2 (P := q166 (tB (vw C h))) (r := ρ 2) (c := ρ 3 + 4096) ?_ (by omega) (by omega)
    show q166 (tB (vw C h)) (ρ 2) (ρ 3 + 4096)
    exact o166 (k := 4096) (n := ρ 2) (s := ρ 3) (by omega) q (by omega) rfl (by omega)
/-- endHiC -/
theorem lem_432_ok (hU : uqG G C) : lem_432.1.2.1 = [] ∧ lemOK (PRd G C D xs) G rgs lem_432 := by
  refine ⟨rfl, fun ρ h ha hT => ?_⟩
  obtain ⟨-, -, hF, hG, hH, hA, hP⟩ := ha
  have f0 : (0 : Int) ≤ ((0) + ((1) * ρ 2 + 0)) := hF _ (List.mem_of_getElem? (i := 0) rfl)
  have f1 : (0 : Int) ≤ ((1200) + ((-1) * ρ 2 + 0)) := hF _ (List.mem_of_getElem? (i := 1) rfl)
  have f2 : (0 : Int) ≤ ((0) + ((1) * ρ 3 + 0)) := hF _ (List.mem_of_getElem? (i := 2) rfl)
  have f3 : (0 : Int) ≤ ((0) + ((1) * ρ 2 + ((-1) * ρ 3 + 0))) := hF _ (List.mem_of_getElem? (i := 3) rfl)
  have f4 : (0 : Int) ≤ ((-1) + ((1) * ρ 4 + 0)) := hF _ (List.mem_of_getElem? (i := 4) rfl)
  have f5 : (0 : Int) ≤ ((0) + ((1) * ρ 6 + 0)) := hF _ (List.mem_of_getElem? (i := 5) rfl)
  have f6 : (0 : Int) ≤ ((6) + ((-1) * ρ 6 + 0)) := hF _ (List.mem_of_getElem? (i := 6) rfl)
  have f7 : (0 : Int) ≤ ((0) + ((1) * ρ 8 + 0)) := hF _ (List.mem_of_getElem? (i := 7) rfl)
  have f8 : (0 : Int) ≤ ((8) + ((-1) * ρ 8 + 0)) := hF _ (List.mem_of_getElem? (i := 8) rfl)
  have f9 : (0 : Int) ≤ ((0) + ((1) * ρ 11 + 0)) := hF _ (List.mem_of_getElem? (i := 9) rfl)
  have f10 : (0 : Int) ≤ ((5) + ((-1) * ρ 11 + 0)) := hF _ (List.mem_of_getElem? (i := 10) rfl)
  have f11 : (0 : Int) ≤ ((0) + ((1) * ρ 10 + 0)) := hF _ (List.mem_of_getElem? (i := 11) rfl)
  have f12 : (0 : Int) ≤ ((4) + ((-1) * ρ 10 + 0)) := hF _ (List.mem_of_getElem? (i := 12) rfl)
  have g0 : G (ρ 0).toNat = 14 := by
    have q := (hG _ (List.mem_of_getElem? (i := 0) rfl)).2
    rwa [show ev ρ (0, [(0, 1)]) = ρ 0 from ev_v] at q
  have g1 : G (ρ 1).toNat = 17 := by
    have q := (hG _ (List.mem_of_getElem? (i := 1) rfl)).2
    rwa [show ev ρ (0, [(1, 1)]) = ρ 1 from ev_v] at q
  have g2 : G (ρ 5).toNat = 11 := by
    have q := (hG _ (List.mem_of_getElem? (i := 2) rfl)).2
    rwa [show ev ρ (0, [(5, 1)]) = ρ 5 from ev_v] at q
  have g3 : G (ρ 7).toNat = 20 := by
    have q := (hG _ (List.mem_of_getElem? (i := 3) rfl)).2
    rwa [show ev ρ (0, [(7, 1)]) = ρ 7 from ev_v] at q
  have g4 : G (ρ 9).toNat = 16 := by
    have q := (hG _ (List.mem_of_getElem? (i := 4) rfl)).2
    rwa [show ev ρ (0, [(9, 1)]) = ρ 9 from ev_v] at q
  have h1 : (0 : Int) ≤ ρ 2 ∧ ρ 2 ≤ 1200 := hf_rg hT (hH _ (List.mem_of_getElem? (i := 1) rfl)) ev_v g1 rfl rfl rfl ev_v
  have h2 : (0 : Int) ≤ ρ 3 ∧ ρ 3 ≤ 1200 := hf_rg hT (hH _ (List.mem_of_getElem? (i := 2) rfl)) ev_v g1 rfl rfl rfl ev_v
  have h5 : (0 : Int) ≤ ρ 6 ∧ ρ 6 ≤ 6 := hf_rg hT (hH _ (List.mem_of_getElem? (i := 5) rfl)) ev_v g2 rfl rfl rfl ev_v
  have h7 : (0 : Int) ≤ ρ 8 ∧ ρ 8 ≤ 8 := hf_rg hT (hH _ (List.mem_of_getElem? (i := 7) rfl)) ev_v g3 rfl rfl rfl ev_v
  have h9 : (0 : Int) ≤ ρ 10 ∧ ρ 10 ≤ 4 := hf_rg hT (hH _ (List.mem_of_getElem? (i := 9) rfl)) ev_v g4 rfl rfl rfl ev_v
  have p0 : q176 G h (16 * ρ 7 + ρ 8) (ρ 11) := c2 (P := q176 G h) (show q176 G h (((0) + ((16) * ρ 7 + ((1) * ρ 8 + 0)))) (((0) + ((1) * ρ 11 + 0))) from hP _ (List.mem_of_getElem? (i := 0) rfl)) (by omega) (by omega)
  have p1 : q160 (tB (vw C h)) (ρ 2 + 2048 * ρ 3 + 247463936) ((0 : Int)) := c2 (P := q160 (tB (vw C h))) (show q160 (tB (vw C h)) (((247463936) + ((1) * ρ 2 + ((2048) * ρ 3 + 0)))) (((0) + 0)) from hP _ (List.mem_of_getElem? (i := 1) rfl)) (by omega) (by omega)
  have p2 : q155 (tB (vw C h)) (ρ 2 + 2048 * ρ 3) (ρ 4) := c2 (P := q155 (tB (vw C h))) (show q155 (tB (vw C h)) (((0) + ((1) * ρ 2 + ((2048) * ρ 3 + 0)))) (((0) + ((1) * ρ 4 + 0))) from hP _ (List.mem_of_getElem? (i := 2) rfl)) (by omega) (by omega)
  have p3 : (qRC 15 (tB (vw C h))) (ρ 2 + 2048 * ρ 3 + 4398046511104 * ρ 6 + 35184372088832 * ρ 8 + 4503599627370496 * ρ 10 + 562949953421312 * ρ 11) (ρ 12) := c2 (P := (qRC 15 (tB (vw C h)))) (show (qRC 15 (tB (vw C h))) (((0) + ((1) * ρ 2 + ((2048) * ρ 3 + ((4398046511104) * ρ 6 + ((35184372088832) * ρ 8 + ((4503599627370496) * ρ 10 + ((562949953421312) * ρ 11 + 0)))))))) (((0) + ((1) * ρ 12 + 0))) from hP _ (List.mem_of_getElem? (i := 3) rfl)) (by omega) (by omega)
  have is59 : tSgB (tB (vw C h)) (ρ 2).toNat (ρ 3).toNat 59 = false := b01_0 (k160 (n := ρ 2) (s := ρ 3) (c := 59) (by omega) (by omega) (by omega) (by omega) (by omega) (by omega) p1)
  have kk := k155 (n := ρ 2) (s := ρ 3) (by omega) (by omega) (by omega) (by omega) (by omega) p2
  have hc0 := p3.1
  have hR := rc_el (n := ρ 2) (s := ρ 3) (d := (0 : Int)) (K := (0 : Int)) (R := (ρ 6 + 8 * ρ 8 + 1024 * ρ 10 + 128 * ρ 11)) p3 (by omega) (by omega) (by omega) (by omega) (by omega) (by omega) (by omega) (by omega) (by omega) (by omega)
  have q := o_end hR is59 (by omega)
  refine ⟨_, List.mem_cons_self, ρ, fun _ _ => rfl, fun q hq => absurd hq List.not_mem_nil, trivial, fun f hf => ?_, fun q hq => absurd hq List.not_mem_nil, fun q hq => absurd hq List.not_mem_nil, fun q hq => absurd hq List.not_mem_nil, fun q hq => ?_⟩
  · exact absurd hf List.not_mem_nil
  · simp only [List.mem_cons, List.not_mem_nil, or_false] at hq
    subst hq
    show q166 (tB (vw C h)) (((0) + ((1) * ρ 2 + 0))) (((4096) + ((1) * ρ 3 + 0)))
    refine c2 (P := q166 (tB (vw C h))) (r := ρ 2) (c := ρ 3 + 4096) ?_ (by omega) (by omega)
    show q166 (tB (vw C h)) (ρ 2) (ρ 3 + 4096)
    exact o166 (k := 4096) (n := ρ 2) (s := ρ 3) (by omega) q (by omega) rfl (by omega)
/-- end5C -/
theorem lem_433_ok (hU : uqG G C) : lem_433.1.2.1 = [] ∧ lemOK (PRd G C D xs) G rgs lem_433 := by
  refine ⟨rfl, fun ρ h ha hT => ?_⟩
  obtain ⟨-, -, hF, hG, hH, hA, hP⟩ := ha
  have f0 : (0 : Int) ≤ ((0) + ((1) * ρ 2 + 0)) := hF _ (List.mem_of_getElem? (i := 0) rfl)
  have f1 : (0 : Int) ≤ ((1200) + ((-1) * ρ 2 + 0)) := hF _ (List.mem_of_getElem? (i := 1) rfl)
  have f2 : (0 : Int) ≤ ((0) + ((1) * ρ 3 + 0)) := hF _ (List.mem_of_getElem? (i := 2) rfl)
  have f3 : (0 : Int) ≤ ((0) + ((1) * ρ 2 + ((-1) * ρ 3 + 0))) := hF _ (List.mem_of_getElem? (i := 3) rfl)
  have f4 : (0 : Int) ≤ ((0) + ((-1) * ρ 4 + 0)) := hF _ (List.mem_of_getElem? (i := 4) rfl)
  have f5 : (0 : Int) ≤ ((0) + ((1) * ρ 4 + 0)) := hF _ (List.mem_of_getElem? (i := 5) rfl)
  have f6 : (0 : Int) ≤ ((0) + ((-1) * ρ 8 + 0)) := hF _ (List.mem_of_getElem? (i := 6) rfl)
  have f7 : (0 : Int) ≤ ((0) + ((1) * ρ 6 + 0)) := hF _ (List.mem_of_getElem? (i := 7) rfl)
  have f8 : (0 : Int) ≤ ((6) + ((-1) * ρ 6 + 0)) := hF _ (List.mem_of_getElem? (i := 8) rfl)
  have f9 : (0 : Int) ≤ ((0) + ((1) * ρ 8 + 0)) := hF _ (List.mem_of_getElem? (i := 9) rfl)
  have f10 : (0 : Int) ≤ ((8) + ((-1) * ρ 8 + 0)) := hF _ (List.mem_of_getElem? (i := 10) rfl)
  have f11 : (0 : Int) ≤ ((0) + ((1) * ρ 11 + 0)) := hF _ (List.mem_of_getElem? (i := 11) rfl)
  have f12 : (0 : Int) ≤ ((5) + ((-1) * ρ 11 + 0)) := hF _ (List.mem_of_getElem? (i := 12) rfl)
  have f13 : (0 : Int) ≤ ((0) + ((1) * ρ 10 + 0)) := hF _ (List.mem_of_getElem? (i := 13) rfl)
  have f14 : (0 : Int) ≤ ((4) + ((-1) * ρ 10 + 0)) := hF _ (List.mem_of_getElem? (i := 14) rfl)
  have g0 : G (ρ 0).toNat = 14 := by
    have q := (hG _ (List.mem_of_getElem? (i := 0) rfl)).2
    rwa [show ev ρ (0, [(0, 1)]) = ρ 0 from ev_v] at q
  have g1 : G (ρ 1).toNat = 17 := by
    have q := (hG _ (List.mem_of_getElem? (i := 1) rfl)).2
    rwa [show ev ρ (0, [(1, 1)]) = ρ 1 from ev_v] at q
  have g2 : G (ρ 5).toNat = 11 := by
    have q := (hG _ (List.mem_of_getElem? (i := 2) rfl)).2
    rwa [show ev ρ (0, [(5, 1)]) = ρ 5 from ev_v] at q
  have g3 : G (ρ 7).toNat = 20 := by
    have q := (hG _ (List.mem_of_getElem? (i := 3) rfl)).2
    rwa [show ev ρ (0, [(7, 1)]) = ρ 7 from ev_v] at q
  have g4 : G (ρ 9).toNat = 16 := by
    have q := (hG _ (List.mem_of_getElem? (i := 4) rfl)).2
    rwa [show ev ρ (0, [(9, 1)]) = ρ 9 from ev_v] at q
  have h1 : (0 : Int) ≤ ρ 2 ∧ ρ 2 ≤ 1200 := hf_rg hT (hH _ (List.mem_of_getElem? (i := 1) rfl)) ev_v g1 rfl rfl rfl ev_v
  have h2 : (0 : Int) ≤ ρ 3 ∧ ρ 3 ≤ 1200 := hf_rg hT (hH _ (List.mem_of_getElem? (i := 2) rfl)) ev_v g1 rfl rfl rfl ev_v
  have h5 : (0 : Int) ≤ ρ 6 ∧ ρ 6 ≤ 6 := hf_rg hT (hH _ (List.mem_of_getElem? (i := 5) rfl)) ev_v g2 rfl rfl rfl ev_v
  have h7 : (0 : Int) ≤ ρ 8 ∧ ρ 8 ≤ 8 := hf_rg hT (hH _ (List.mem_of_getElem? (i := 7) rfl)) ev_v g3 rfl rfl rfl ev_v
  have h9 : (0 : Int) ≤ ρ 10 ∧ ρ 10 ≤ 4 := hf_rg hT (hH _ (List.mem_of_getElem? (i := 9) rfl)) ev_v g4 rfl rfl rfl ev_v
  have p0 : q176 G h (16 * ρ 7 + ρ 8) (ρ 11) := c2 (P := q176 G h) (show q176 G h (((0) + ((16) * ρ 7 + ((1) * ρ 8 + 0)))) (((0) + ((1) * ρ 11 + 0))) from hP _ (List.mem_of_getElem? (i := 0) rfl)) (by omega) (by omega)
  have p1 : q160 (tB (vw C h)) (ρ 2 + 2048 * ρ 3 + 247463936) ((0 : Int)) := c2 (P := q160 (tB (vw C h))) (show q160 (tB (vw C h)) (((247463936) + ((1) * ρ 2 + ((2048) * ρ 3 + 0)))) (((0) + 0)) from hP _ (List.mem_of_getElem? (i := 1) rfl)) (by omega) (by omega)
  have p2 : q155 (tB (vw C h)) (ρ 2 + 2048 * ρ 3) (ρ 4) := c2 (P := q155 (tB (vw C h))) (show q155 (tB (vw C h)) (((0) + ((1) * ρ 2 + ((2048) * ρ 3 + 0)))) (((0) + ((1) * ρ 4 + 0))) from hP _ (List.mem_of_getElem? (i := 2) rfl)) (by omega) (by omega)
  have p3 : (qRC 15 (tB (vw C h))) (ρ 2 + 2048 * ρ 3 + 4398046511104 * ρ 6 + 35184372088832 * ρ 8 + 4503599627370496 * ρ 10 + 562949953421312 * ρ 11) (ρ 12) := c2 (P := (qRC 15 (tB (vw C h)))) (show (qRC 15 (tB (vw C h))) (((0) + ((1) * ρ 2 + ((2048) * ρ 3 + ((4398046511104) * ρ 6 + ((35184372088832) * ρ 8 + ((4503599627370496) * ρ 10 + ((562949953421312) * ρ 11 + 0)))))))) (((0) + ((1) * ρ 12 + 0))) from hP _ (List.mem_of_getElem? (i := 3) rfl)) (by omega) (by omega)
  have is59 : tSgB (tB (vw C h)) (ρ 2).toNat (ρ 3).toNat 59 = false := b01_0 (k160 (n := ρ 2) (s := ρ 3) (c := 59) (by omega) (by omega) (by omega) (by omega) (by omega) (by omega) p1)
  have kk := k155 (n := ρ 2) (s := ρ 3) (by omega) (by omega) (by omega) (by omega) (by omega) p2
  have hc0 := p3.1
  have hR := rc_el (n := ρ 2) (s := ρ 3) (d := (0 : Int)) (K := (0 : Int)) (R := (ρ 6 + 8 * ρ 8 + 1024 * ρ 10 + 128 * ρ 11)) p3 (by omega) (by omega) (by omega) (by omega) (by omega) (by omega) (by omega) (by omega) (by omega) (by omega)
  have q := o_end5 hR is59 (by omega) (by omega)
  refine ⟨_, List.mem_cons_self, ρ, fun _ _ => rfl, fun q hq => absurd hq List.not_mem_nil, trivial, fun f hf => ?_, fun q hq => absurd hq List.not_mem_nil, fun q hq => absurd hq List.not_mem_nil, fun q hq => absurd hq List.not_mem_nil, fun q hq => ?_⟩
  · exact absurd hf List.not_mem_nil
  · simp only [List.mem_cons, List.not_mem_nil, or_false] at hq
    subst hq
    show q166 (tB (vw C h)) (((0) + ((1) * ρ 2 + 0))) (((20480) + ((1) * ρ 3 + 0)))
    refine c2 (P := q166 (tB (vw C h))) (r := ρ 2) (c := ρ 3 + 20480) ?_ (by omega) (by omega)
    show q166 (tB (vw C h)) (ρ 2) (ρ 3 + 20480)
    exact o166 (k := 20480) (n := ρ 2) (s := ρ 3) (by omega) q (by omega) rfl (by omega)
/-- endOKC -/
theorem lem_434_ok (hU : uqG G C) : lem_434.1.2.1 = [] ∧ lemOK (PRd G C D xs) G rgs lem_434 := by
  refine ⟨rfl, fun ρ h ha hT => ?_⟩
  obtain ⟨-, -, hF, hG, hH, hA, hP⟩ := ha
  have f0 : (0 : Int) ≤ ((0) + ((1) * ρ 2 + 0)) := hF _ (List.mem_of_getElem? (i := 0) rfl)
  have f1 : (0 : Int) ≤ ((1200) + ((-1) * ρ 2 + 0)) := hF _ (List.mem_of_getElem? (i := 1) rfl)
  have f2 : (0 : Int) ≤ ((0) + ((1) * ρ 3 + 0)) := hF _ (List.mem_of_getElem? (i := 2) rfl)
  have f3 : (0 : Int) ≤ ((0) + ((1) * ρ 2 + ((-1) * ρ 3 + 0))) := hF _ (List.mem_of_getElem? (i := 3) rfl)
  have f4 : (0 : Int) ≤ ((0) + ((-1) * ρ 4 + 0)) := hF _ (List.mem_of_getElem? (i := 4) rfl)
  have f5 : (0 : Int) ≤ ((0) + ((1) * ρ 4 + 0)) := hF _ (List.mem_of_getElem? (i := 5) rfl)
  have f6 : (0 : Int) ≤ ((-1) + ((1) * ρ 8 + 0)) := hF _ (List.mem_of_getElem? (i := 6) rfl)
  have f7 : (0 : Int) ≤ ((0) + ((1) * ρ 6 + 0)) := hF _ (List.mem_of_getElem? (i := 7) rfl)
  have f8 : (0 : Int) ≤ ((6) + ((-1) * ρ 6 + 0)) := hF _ (List.mem_of_getElem? (i := 8) rfl)
  have f9 : (0 : Int) ≤ ((0) + ((1) * ρ 8 + 0)) := hF _ (List.mem_of_getElem? (i := 9) rfl)
  have f10 : (0 : Int) ≤ ((8) + ((-1) * ρ 8 + 0)) := hF _ (List.mem_of_getElem? (i := 10) rfl)
  have f11 : (0 : Int) ≤ ((0) + ((1) * ρ 11 + 0)) := hF _ (List.mem_of_getElem? (i := 11) rfl)
  have f12 : (0 : Int) ≤ ((5) + ((-1) * ρ 11 + 0)) := hF _ (List.mem_of_getElem? (i := 12) rfl)
  have f13 : (0 : Int) ≤ ((0) + ((1) * ρ 10 + 0)) := hF _ (List.mem_of_getElem? (i := 13) rfl)
  have f14 : (0 : Int) ≤ ((4) + ((-1) * ρ 10 + 0)) := hF _ (List.mem_of_getElem? (i := 14) rfl)
  have g0 : G (ρ 0).toNat = 14 := by
    have q := (hG _ (List.mem_of_getElem? (i := 0) rfl)).2
    rwa [show ev ρ (0, [(0, 1)]) = ρ 0 from ev_v] at q
  have g1 : G (ρ 1).toNat = 17 := by
    have q := (hG _ (List.mem_of_getElem? (i := 1) rfl)).2
    rwa [show ev ρ (0, [(1, 1)]) = ρ 1 from ev_v] at q
  have g2 : G (ρ 5).toNat = 11 := by
    have q := (hG _ (List.mem_of_getElem? (i := 2) rfl)).2
    rwa [show ev ρ (0, [(5, 1)]) = ρ 5 from ev_v] at q
  have g3 : G (ρ 7).toNat = 20 := by
    have q := (hG _ (List.mem_of_getElem? (i := 3) rfl)).2
    rwa [show ev ρ (0, [(7, 1)]) = ρ 7 from ev_v] at q
  have g4 : G (ρ 9).toNat = 16 := by
    have q := (hG _ (List.mem_of_getElem? (i := 4) rfl)).2
    rwa [show ev ρ (0, [(9, 1)]) = ρ 9 from ev_v] at q
  have h1 : (0 : Int) ≤ ρ 2 ∧ ρ 2 ≤ 1200 := hf_rg hT (hH _ (List.mem_of_getElem? (i := 1) rfl)) ev_v g1 rfl rfl rfl ev_v
  have h2 : (0 : Int) ≤ ρ 3 ∧ ρ 3 ≤ 1200 := hf_rg hT (hH _ (List.mem_of_getElem? (i := 2) rfl)) ev_v g1 rfl rfl rfl ev_v
  have h5 : (0 : Int) ≤ ρ 6 ∧ ρ 6 ≤ 6 := hf_rg hT (hH _ (List.mem_of_getElem? (i := 5) rfl)) ev_v g2 rfl rfl rfl ev_v
  have h7 : (0 : Int) ≤ ρ 8 ∧ ρ 8 ≤ 8 := hf_rg hT (hH _ (List.mem_of_getElem? (i := 7) rfl)) ev_v g3 rfl rfl rfl ev_v
  have h9 : (0 : Int) ≤ ρ 10 ∧ ρ 10 ≤ 4 := hf_rg hT (hH _ (List.mem_of_getElem? (i := 9) rfl)) ev_v g4 rfl rfl rfl ev_v
  have p0 : q176 G h (16 * ρ 7 + ρ 8) (ρ 11) := c2 (P := q176 G h) (show q176 G h (((0) + ((16) * ρ 7 + ((1) * ρ 8 + 0)))) (((0) + ((1) * ρ 11 + 0))) from hP _ (List.mem_of_getElem? (i := 0) rfl)) (by omega) (by omega)
  have p1 : q160 (tB (vw C h)) (ρ 2 + 2048 * ρ 3 + 247463936) ((0 : Int)) := c2 (P := q160 (tB (vw C h))) (show q160 (tB (vw C h)) (((247463936) + ((1) * ρ 2 + ((2048) * ρ 3 + 0)))) (((0) + 0)) from hP _ (List.mem_of_getElem? (i := 1) rfl)) (by omega) (by omega)
  have p2 : q155 (tB (vw C h)) (ρ 2 + 2048 * ρ 3) (ρ 4) := c2 (P := q155 (tB (vw C h))) (show q155 (tB (vw C h)) (((0) + ((1) * ρ 2 + ((2048) * ρ 3 + 0)))) (((0) + ((1) * ρ 4 + 0))) from hP _ (List.mem_of_getElem? (i := 2) rfl)) (by omega) (by omega)
  have p3 : (qRC 15 (tB (vw C h))) (ρ 2 + 2048 * ρ 3 + 4398046511104 * ρ 6 + 35184372088832 * ρ 8 + 4503599627370496 * ρ 10 + 562949953421312 * ρ 11) (ρ 12) := c2 (P := (qRC 15 (tB (vw C h)))) (show (qRC 15 (tB (vw C h))) (((0) + ((1) * ρ 2 + ((2048) * ρ 3 + ((4398046511104) * ρ 6 + ((35184372088832) * ρ 8 + ((4503599627370496) * ρ 10 + ((562949953421312) * ρ 11 + 0)))))))) (((0) + ((1) * ρ 12 + 0))) from hP _ (List.mem_of_getElem? (i := 3) rfl)) (by omega) (by omega)
  have is59 : tSgB (tB (vw C h)) (ρ 2).toNat (ρ 3).toNat 59 = false := b01_0 (k160 (n := ρ 2) (s := ρ 3) (c := 59) (by omega) (by omega) (by omega) (by omega) (by omega) (by omega) p1)
  have kk := k155 (n := ρ 2) (s := ρ 3) (by omega) (by omega) (by omega) (by omega) (by omega) p2
  have hc0 := p3.1
  have hR := rc_el (n := ρ 2) (s := ρ 3) (d := (0 : Int)) (K := (0 : Int)) (R := (ρ 6 + 8 * ρ 8 + 1024 * ρ 10 + 128 * ρ 11)) p3 (by omega) (by omega) (by omega) (by omega) (by omega) (by omega) (by omega) (by omega) (by omega) (by omega)
  have q := o_ok hR is59 (by omega) (by omega)
  have q2 := o_okA hR is59 (by omega) (by omega)
  refine ⟨_, List.mem_cons_self, ρ, fun _ _ => rfl, fun q hq => absurd hq List.not_mem_nil, trivial, fun f hf => ?_, fun q hq => absurd hq List.not_mem_nil, fun q hq => absurd hq List.not_mem_nil, fun q hq => absurd hq List.not_mem_nil, fun q hq => ?_⟩
  · exact absurd hf List.not_mem_nil
  · simp only [List.mem_cons, List.not_mem_nil, or_false] at hq
    rcases hq with rfl | rfl | rfl | rfl | rfl
    · show q192 (tB (vw C h)) (((0) + ((1) * ρ 2 + 0))) (((0) + ((1) * ρ 8 + 0)))
      refine c2 (P := q192 (tB (vw C h))) (r := ρ 2) (c := ρ 8) ?_ (by omega) (by omega)
      show q192 (tB (vw C h)) (ρ 2) (ρ 8)
      exact ⟨_, q, by omega⟩
    · show q192 (tB (vw C h)) (((0) + ((1) * ρ 2 + 0))) (((0) + ((1) * ρ 8 + 0)))
      refine c2 (P := q192 (tB (vw C h))) (r := ρ 2) (c := ρ 8) ?_ (by omega) (by omega)
      show q192 (tB (vw C h)) (ρ 2) (ρ 8)
      exact ⟨_, q, by omega⟩
    · show q186 (tB (vw C h)) (((0) + ((1) * ρ 2 + 0))) (((0) + ((1) * ρ 6 + 0)))
      refine c2 (P := q186 (tB (vw C h))) (r := ρ 2) (c := ρ 6) ?_ (by omega) (by omega)
      show q186 (tB (vw C h)) (ρ 2) (ρ 6)
      exact ⟨_, q, by omega⟩
    · show q187 (tB (vw C h)) (((0) + ((1) * ρ 2 + 0))) (((0) + ((1) * ρ 10 + 0)))
      refine c2 (P := q187 (tB (vw C h))) (r := ρ 2) (c := ρ 10) ?_ (by omega) (by omega)
      show q187 (tB (vw C h)) (ρ 2) (ρ 10)
      exact ⟨_, q, by omega⟩
    · show q174 (tB (vw C h)) (((0) + ((1) * ρ 2 + 0))) (((0) + ((1) * ρ 12 + 0)))
      refine c2 (P := q174 (tB (vw C h))) (r := ρ 2) (c := ρ 12) ?_ (by omega) (by omega)
      show q174 (tB (vw C h)) (ρ 2) (ρ 12)
      exact ⟨hc0, q2⟩
/-- ln17C -/
theorem lem_435_ok (hU : uqG G C) : lem_435.1.2.1 = [] ∧ lemOK (PRd G C D xs) G rgs lem_435 := by
  refine ⟨rfl, fun ρ h ha hT => ?_⟩
  obtain ⟨-, -, hF, hG, hH, hA, hP⟩ := ha
  have f0 : (0 : Int) ≤ ((0) + ((1) * ρ 2 + 0)) := hF _ (List.mem_of_getElem? (i := 0) rfl)
  have f1 : (0 : Int) ≤ ((1200) + ((-1) * ρ 2 + 0)) := hF _ (List.mem_of_getElem? (i := 1) rfl)
  have f2 : (0 : Int) ≤ ((0) + ((1) * ρ 3 + 0)) := hF _ (List.mem_of_getElem? (i := 2) rfl)
  have f3 : (0 : Int) ≤ ((0) + ((1) * ρ 2 + ((-1) * ρ 3 + 0))) := hF _ (List.mem_of_getElem? (i := 3) rfl)
  have f4 : (0 : Int) ≤ ((0) + ((1) * ρ 11 + 0)) := hF _ (List.mem_of_getElem? (i := 4) rfl)
  have f5 : (0 : Int) ≤ ((0) + ((1) * ρ 2 + ((-1) * ρ 11 + 0))) := hF _ (List.mem_of_getElem? (i := 5) rfl)
  have f6 : (0 : Int) ≤ ((5) + ((-1) * ρ 5 + 0)) := hF _ (List.mem_of_getElem? (i := 6) rfl)
  have f7 : (0 : Int) ≤ ((0) + ((1) * ρ 5 + 0)) := hF _ (List.mem_of_getElem? (i := 7) rfl)
  have f8 : (0 : Int) ≤ ((6) + ((-1) * ρ 5 + 0)) := hF _ (List.mem_of_getElem? (i := 8) rfl)
  have f9 : (0 : Int) ≤ ((0) + ((1) * ρ 7 + 0)) := hF _ (List.mem_of_getElem? (i := 9) rfl)
  have f10 : (0 : Int) ≤ ((8) + ((-1) * ρ 7 + 0)) := hF _ (List.mem_of_getElem? (i := 10) rfl)
  have f11 : (0 : Int) ≤ ((0) + ((1) * ρ 10 + 0)) := hF _ (List.mem_of_getElem? (i := 11) rfl)
  have f12 : (0 : Int) ≤ ((5) + ((-1) * ρ 10 + 0)) := hF _ (List.mem_of_getElem? (i := 12) rfl)
  have f13 : (0 : Int) ≤ ((0) + ((1) * ρ 9 + 0)) := hF _ (List.mem_of_getElem? (i := 13) rfl)
  have f14 : (0 : Int) ≤ ((4) + ((-1) * ρ 9 + 0)) := hF _ (List.mem_of_getElem? (i := 14) rfl)
  have g0 : G (ρ 0).toNat = 14 := by
    have q := (hG _ (List.mem_of_getElem? (i := 0) rfl)).2
    rwa [show ev ρ (0, [(0, 1)]) = ρ 0 from ev_v] at q
  have g1 : G (ρ 1).toNat = 17 := by
    have q := (hG _ (List.mem_of_getElem? (i := 1) rfl)).2
    rwa [show ev ρ (0, [(1, 1)]) = ρ 1 from ev_v] at q
  have g2 : G (ρ 4).toNat = 11 := by
    have q := (hG _ (List.mem_of_getElem? (i := 2) rfl)).2
    rwa [show ev ρ (0, [(4, 1)]) = ρ 4 from ev_v] at q
  have g3 : G (ρ 6).toNat = 20 := by
    have q := (hG _ (List.mem_of_getElem? (i := 3) rfl)).2
    rwa [show ev ρ (0, [(6, 1)]) = ρ 6 from ev_v] at q
  have g4 : G (ρ 8).toNat = 16 := by
    have q := (hG _ (List.mem_of_getElem? (i := 4) rfl)).2
    rwa [show ev ρ (0, [(8, 1)]) = ρ 8 from ev_v] at q
  have h1 : (0 : Int) ≤ ρ 2 ∧ ρ 2 ≤ 1200 := hf_rg hT (hH _ (List.mem_of_getElem? (i := 1) rfl)) ev_v g1 rfl rfl rfl ev_v
  have h2 : (0 : Int) ≤ ρ 3 ∧ ρ 3 ≤ 1200 := hf_rg hT (hH _ (List.mem_of_getElem? (i := 2) rfl)) ev_v g1 rfl rfl rfl ev_v
  have h4 : (0 : Int) ≤ ρ 5 ∧ ρ 5 ≤ 6 := hf_rg hT (hH _ (List.mem_of_getElem? (i := 4) rfl)) ev_v g2 rfl rfl rfl ev_v
  have h6 : (0 : Int) ≤ ρ 7 ∧ ρ 7 ≤ 8 := hf_rg hT (hH _ (List.mem_of_getElem? (i := 6) rfl)) ev_v g3 rfl rfl rfl ev_v
  have h8 : (0 : Int) ≤ ρ 9 ∧ ρ 9 ≤ 4 := hf_rg hT (hH _ (List.mem_of_getElem? (i := 8) rfl)) ev_v g4 rfl rfl rfl ev_v
  have p0 : q176 G h (16 * ρ 6 + ρ 7) (ρ 10) := c2 (P := q176 G h) (show q176 G h (((0) + ((16) * ρ 6 + ((1) * ρ 7 + 0)))) (((0) + ((1) * ρ 10 + 0))) from hP _ (List.mem_of_getElem? (i := 0) rfl)) (by omega) (by omega)
  have p1 : q158 (tB (vw C h)) (ρ 2 + 2048 * ρ 3) (ρ 11) := c2 (P := q158 (tB (vw C h))) (show q158 (tB (vw C h)) (((0) + ((1) * ρ 2 + ((2048) * ρ 3 + 0)))) (((0) + ((1) * ρ 11 + 0))) from hP _ (List.mem_of_getElem? (i := 1) rfl)) (by omega) (by omega)
  have p2 : q159 (tB (vw C h)) (ρ 2 + 2048 * ρ 11 + 29360128) ((1 : Int)) := c2 (P := q159 (tB (vw C h))) (show q159 (tB (vw C h)) (((29360128) + ((1) * ρ 2 + ((2048) * ρ 11 + 0)))) (((1) + 0)) from hP _ (List.mem_of_getElem? (i := 2) rfl)) (by omega) (by omega)
  have p3 : (qRC 16 (tB (vw C h))) (ρ 2 + 4398046511104 * ρ 5 + 35184372088832 * ρ 7 + 4503599627370496 * ρ 9 + 562949953421312 * ρ 10 + 2048 * ρ 11) (ρ 12) := c2 (P := (qRC 16 (tB (vw C h)))) (show (qRC 16 (tB (vw C h))) (((0) + ((1) * ρ 2 + ((4398046511104) * ρ 5 + ((35184372088832) * ρ 7 + ((4503599627370496) * ρ 9 + ((562949953421312) * ρ 10 + ((2048) * ρ 11 + 0)))))))) (((0) + ((1) * ρ 12 + 0))) from hP _ (List.mem_of_getElem? (i := 3) rfl)) (by omega) (by omega)
  have iw7 : tIsB (tB (vw C h)) (ρ 2).toNat (ρ 11).toNat (wd 7) = true := b01_1 (k159 (n := ρ 2) (s := ρ 11) (w := 7) (by omega) (by omega) (by omega) (by omega) (by omega) (by omega) p2)
  have hkd := (is_el.mp iw7).1
  have nx := k158 (n := ρ 2) (s := ρ 11) (t := ρ 3) (by omega) (by omega) (by omega) (by omega) (by omega) (by omega) p1
  have ng := nx_gt (B := (tB (vw C h))) (n := (ρ 2).toNat) (s := (ρ 11).toNat) (by omega)
  have hc0 := p3.1
  have hR := rc_el (n := ρ 2) (s := ρ 11) (d := (0 : Int)) (K := (0 : Int)) (R := (ρ 5 + 8 * ρ 7 + 1024 * ρ 9 + 128 * ρ 10)) p3 (by omega) (by omega) (by omega) (by omega) (by omega) (by omega) (by omega) (by omega) (by omega) (by omega)
  have q := g_17 hR iw7 (by omega)
  refine ⟨_, List.mem_cons_self, ρ, fun _ _ => rfl, fun q hq => absurd hq List.not_mem_nil, trivial, fun f hf => ?_, fun q hq => absurd hq List.not_mem_nil, fun q hq => absurd hq List.not_mem_nil, fun q hq => absurd hq List.not_mem_nil, fun q hq => ?_⟩
  · simp only [List.mem_cons, List.not_mem_nil, or_false] at hf
    subst hf
    show (0 : Int) ≤ ((-1) + ((1) * ρ 3 + ((-1) * ρ 11 + 0)))
    omega
  · simp only [List.mem_cons, List.not_mem_nil, or_false] at hq
    subst hq
    show (qRC 17 (tB (vw C h))) (((0) + ((1) * ρ 2 + ((2048) * ρ 3 + ((4398046511104) * ρ 5 + ((35184372088832) * ρ 7 + ((4503599627370496) * ρ 9 + ((562949953421312) * ρ 10 + 0)))))))) (((0) + ((1) * ρ 12 + 0)))
    refine c2 (P := (qRC 17 (tB (vw C h)))) (r := ρ 2 + 2048 * ρ 3 + 4398046511104 * ρ 5 + 35184372088832 * ρ 7 + 4503599627370496 * ρ 9 + 562949953421312 * ρ 10) (c := ρ 12) ?_ (by omega) (by omega)
    show (qRC 17 (tB (vw C h))) (ρ 2 + 2048 * ρ 3 + 4398046511104 * ρ 5 + 35184372088832 * ρ 7 + 4503599627370496 * ρ 9 + 562949953421312 * ρ 10) (ρ 12)
    exact rc_in (n := ρ 2) (s := ρ 3) (d := (0 : Int)) (K := (0 : Int)) (R := (ρ 5 + 8 * ρ 7 + 1024 * ρ 9 + 128 * ρ 10)) (by omega) (by omega) (by omega) (by omega) (by omega) (by omega) (by omega) (by omega) (by omega) (by omega) q (by omega) (by omega) (by omega) (by omega) (by omega)
/-- tm17C -/
theorem lem_436_ok (hU : uqG G C) : lem_436.1.2.1 = [] ∧ lemOK (PRd G C D xs) G rgs lem_436 := by
  refine ⟨rfl, fun ρ h ha hT => ?_⟩
  obtain ⟨-, -, hF, hG, hH, hA, hP⟩ := ha
  have f0 : (0 : Int) ≤ ((0) + ((1) * ρ 2 + 0)) := hF _ (List.mem_of_getElem? (i := 0) rfl)
  have f1 : (0 : Int) ≤ ((1200) + ((-1) * ρ 2 + 0)) := hF _ (List.mem_of_getElem? (i := 1) rfl)
  have f2 : (0 : Int) ≤ ((0) + ((1) * ρ 3 + 0)) := hF _ (List.mem_of_getElem? (i := 2) rfl)
  have f3 : (0 : Int) ≤ ((0) + ((1) * ρ 2 + ((-1) * ρ 3 + 0))) := hF _ (List.mem_of_getElem? (i := 3) rfl)
  have f4 : (0 : Int) ≤ ((-6) + ((1) * ρ 5 + 0)) := hF _ (List.mem_of_getElem? (i := 4) rfl)
  have f5 : (0 : Int) ≤ ((0) + ((1) * ρ 5 + 0)) := hF _ (List.mem_of_getElem? (i := 5) rfl)
  have f6 : (0 : Int) ≤ ((6) + ((-1) * ρ 5 + 0)) := hF _ (List.mem_of_getElem? (i := 6) rfl)
  have f7 : (0 : Int) ≤ ((0) + ((1) * ρ 7 + 0)) := hF _ (List.mem_of_getElem? (i := 7) rfl)
  have f8 : (0 : Int) ≤ ((8) + ((-1) * ρ 7 + 0)) := hF _ (List.mem_of_getElem? (i := 8) rfl)
  have f9 : (0 : Int) ≤ ((0) + ((1) * ρ 10 + 0)) := hF _ (List.mem_of_getElem? (i := 9) rfl)
  have f10 : (0 : Int) ≤ ((5) + ((-1) * ρ 10 + 0)) := hF _ (List.mem_of_getElem? (i := 10) rfl)
  have f11 : (0 : Int) ≤ ((0) + ((1) * ρ 9 + 0)) := hF _ (List.mem_of_getElem? (i := 11) rfl)
  have f12 : (0 : Int) ≤ ((4) + ((-1) * ρ 9 + 0)) := hF _ (List.mem_of_getElem? (i := 12) rfl)
  have g0 : G (ρ 0).toNat = 14 := by
    have q := (hG _ (List.mem_of_getElem? (i := 0) rfl)).2
    rwa [show ev ρ (0, [(0, 1)]) = ρ 0 from ev_v] at q
  have g1 : G (ρ 1).toNat = 17 := by
    have q := (hG _ (List.mem_of_getElem? (i := 1) rfl)).2
    rwa [show ev ρ (0, [(1, 1)]) = ρ 1 from ev_v] at q
  have g2 : G (ρ 4).toNat = 11 := by
    have q := (hG _ (List.mem_of_getElem? (i := 2) rfl)).2
    rwa [show ev ρ (0, [(4, 1)]) = ρ 4 from ev_v] at q
  have g3 : G (ρ 6).toNat = 20 := by
    have q := (hG _ (List.mem_of_getElem? (i := 3) rfl)).2
    rwa [show ev ρ (0, [(6, 1)]) = ρ 6 from ev_v] at q
  have g4 : G (ρ 8).toNat = 16 := by
    have q := (hG _ (List.mem_of_getElem? (i := 4) rfl)).2
    rwa [show ev ρ (0, [(8, 1)]) = ρ 8 from ev_v] at q
  have h1 : (0 : Int) ≤ ρ 2 ∧ ρ 2 ≤ 1200 := hf_rg hT (hH _ (List.mem_of_getElem? (i := 1) rfl)) ev_v g1 rfl rfl rfl ev_v
  have h2 : (0 : Int) ≤ ρ 3 ∧ ρ 3 ≤ 1200 := hf_rg hT (hH _ (List.mem_of_getElem? (i := 2) rfl)) ev_v g1 rfl rfl rfl ev_v
  have h4 : (0 : Int) ≤ ρ 5 ∧ ρ 5 ≤ 6 := hf_rg hT (hH _ (List.mem_of_getElem? (i := 4) rfl)) ev_v g2 rfl rfl rfl ev_v
  have h6 : (0 : Int) ≤ ρ 7 ∧ ρ 7 ≤ 8 := hf_rg hT (hH _ (List.mem_of_getElem? (i := 6) rfl)) ev_v g3 rfl rfl rfl ev_v
  have h8 : (0 : Int) ≤ ρ 9 ∧ ρ 9 ≤ 4 := hf_rg hT (hH _ (List.mem_of_getElem? (i := 8) rfl)) ev_v g4 rfl rfl rfl ev_v
  have p0 : q176 G h (16 * ρ 6 + ρ 7) (ρ 10) := c2 (P := q176 G h) (show q176 G h (((0) + ((16) * ρ 6 + ((1) * ρ 7 + 0)))) (((0) + ((1) * ρ 10 + 0))) from hP _ (List.mem_of_getElem? (i := 0) rfl)) (by omega) (by omega)
  have p1 : q159 (tB (vw C h)) (ρ 2 + 2048 * ρ 3 + 29360128) ((1 : Int)) := c2 (P := q159 (tB (vw C h))) (show q159 (tB (vw C h)) (((29360128) + ((1) * ρ 2 + ((2048) * ρ 3 + 0)))) (((1) + 0)) from hP _ (List.mem_of_getElem? (i := 1) rfl)) (by omega) (by omega)
  have p2 : (qRC 16 (tB (vw C h))) (ρ 2 + 2048 * ρ 3 + 4398046511104 * ρ 5 + 35184372088832 * ρ 7 + 4503599627370496 * ρ 9 + 562949953421312 * ρ 10) (ρ 11) := c2 (P := (qRC 16 (tB (vw C h)))) (show (qRC 16 (tB (vw C h))) (((0) + ((1) * ρ 2 + ((2048) * ρ 3 + ((4398046511104) * ρ 5 + ((35184372088832) * ρ 7 + ((4503599627370496) * ρ 9 + ((562949953421312) * ρ 10 + 0)))))))) (((0) + ((1) * ρ 11 + 0))) from hP _ (List.mem_of_getElem? (i := 2) rfl)) (by omega) (by omega)
  have iw7 : tIsB (tB (vw C h)) (ρ 2).toNat (ρ 3).toNat (wd 7) = true := b01_1 (k159 (n := ρ 2) (s := ρ 3) (w := 7) (by omega) (by omega) (by omega) (by omega) (by omega) (by omega) p1)
  have hkd := (is_el.mp iw7).1
  have hc0 := p2.1
  have hR := rc_el (n := ρ 2) (s := ρ 3) (d := (0 : Int)) (K := (0 : Int)) (R := (ρ 5 + 8 * ρ 7 + 1024 * ρ 9 + 128 * ρ 10)) p2 (by omega) (by omega) (by omega) (by omega) (by omega) (by omega) (by omega) (by omega) (by omega) (by omega)
  have q := o_17 hR iw7 (by omega)
  refine ⟨_, List.mem_cons_self, ρ, fun _ _ => rfl, fun q hq => absurd hq List.not_mem_nil, trivial, fun f hf => ?_, fun q hq => absurd hq List.not_mem_nil, fun q hq => absurd hq List.not_mem_nil, fun q hq => absurd hq List.not_mem_nil, fun q hq => ?_⟩
  · exact absurd hf List.not_mem_nil
  · simp only [List.mem_cons, List.not_mem_nil, or_false] at hq
    subst hq
    show q166 (tB (vw C h)) (((0) + ((1) * ρ 2 + 0))) (((16384) + ((1) * ρ 3 + 0)))
    refine c2 (P := q166 (tB (vw C h))) (r := ρ 2) (c := ρ 3 + 16384) ?_ (by omega) (by omega)
    show q166 (tB (vw C h)) (ρ 2) (ρ 3 + 16384)
    exact o166 (k := 16384) (n := ρ 2) (s := ρ 3) (by omega) q (by omega) rfl (by omega)
/-- ln20C -/
theorem lem_437_ok (hU : uqG G C) : lem_437.1.2.1 = [] ∧ lemOK (PRd G C D xs) G rgs lem_437 := by
  refine ⟨rfl, fun ρ h ha hT => ?_⟩
  obtain ⟨-, -, hF, hG, hH, hA, hP⟩ := ha
  have f0 : (0 : Int) ≤ ((0) + ((1) * ρ 2 + 0)) := hF _ (List.mem_of_getElem? (i := 0) rfl)
  have f1 : (0 : Int) ≤ ((1200) + ((-1) * ρ 2 + 0)) := hF _ (List.mem_of_getElem? (i := 1) rfl)
  have f2 : (0 : Int) ≤ ((0) + ((1) * ρ 3 + 0)) := hF _ (List.mem_of_getElem? (i := 2) rfl)
  have f3 : (0 : Int) ≤ ((0) + ((1) * ρ 2 + ((-1) * ρ 3 + 0))) := hF _ (List.mem_of_getElem? (i := 3) rfl)
  have f4 : (0 : Int) ≤ ((0) + ((1) * ρ 11 + 0)) := hF _ (List.mem_of_getElem? (i := 4) rfl)
  have f5 : (0 : Int) ≤ ((0) + ((1) * ρ 2 + ((-1) * ρ 11 + 0))) := hF _ (List.mem_of_getElem? (i := 5) rfl)
  have f6 : (0 : Int) ≤ ((7) + ((-1) * ρ 7 + 0)) := hF _ (List.mem_of_getElem? (i := 6) rfl)
  have f7 : (0 : Int) ≤ ((0) + ((1) * ρ 5 + 0)) := hF _ (List.mem_of_getElem? (i := 7) rfl)
  have f8 : (0 : Int) ≤ ((6) + ((-1) * ρ 5 + 0)) := hF _ (List.mem_of_getElem? (i := 8) rfl)
  have f9 : (0 : Int) ≤ ((0) + ((1) * ρ 7 + 0)) := hF _ (List.mem_of_getElem? (i := 9) rfl)
  have f10 : (0 : Int) ≤ ((8) + ((-1) * ρ 7 + 0)) := hF _ (List.mem_of_getElem? (i := 10) rfl)
  have f11 : (0 : Int) ≤ ((0) + ((1) * ρ 10 + 0)) := hF _ (List.mem_of_getElem? (i := 11) rfl)
  have f12 : (0 : Int) ≤ ((5) + ((-1) * ρ 10 + 0)) := hF _ (List.mem_of_getElem? (i := 12) rfl)
  have f13 : (0 : Int) ≤ ((0) + ((1) * ρ 9 + 0)) := hF _ (List.mem_of_getElem? (i := 13) rfl)
  have f14 : (0 : Int) ≤ ((4) + ((-1) * ρ 9 + 0)) := hF _ (List.mem_of_getElem? (i := 14) rfl)
  have g0 : G (ρ 0).toNat = 14 := by
    have q := (hG _ (List.mem_of_getElem? (i := 0) rfl)).2
    rwa [show ev ρ (0, [(0, 1)]) = ρ 0 from ev_v] at q
  have g1 : G (ρ 1).toNat = 17 := by
    have q := (hG _ (List.mem_of_getElem? (i := 1) rfl)).2
    rwa [show ev ρ (0, [(1, 1)]) = ρ 1 from ev_v] at q
  have g2 : G (ρ 4).toNat = 11 := by
    have q := (hG _ (List.mem_of_getElem? (i := 2) rfl)).2
    rwa [show ev ρ (0, [(4, 1)]) = ρ 4 from ev_v] at q
  have g3 : G (ρ 6).toNat = 20 := by
    have q := (hG _ (List.mem_of_getElem? (i := 3) rfl)).2
    rwa [show ev ρ (0, [(6, 1)]) = ρ 6 from ev_v] at q
  have g4 : G (ρ 8).toNat = 16 := by
    have q := (hG _ (List.mem_of_getElem? (i := 4) rfl)).2
    rwa [show ev ρ (0, [(8, 1)]) = ρ 8 from ev_v] at q
  have h1 : (0 : Int) ≤ ρ 2 ∧ ρ 2 ≤ 1200 := hf_rg hT (hH _ (List.mem_of_getElem? (i := 1) rfl)) ev_v g1 rfl rfl rfl ev_v
  have h2 : (0 : Int) ≤ ρ 3 ∧ ρ 3 ≤ 1200 := hf_rg hT (hH _ (List.mem_of_getElem? (i := 2) rfl)) ev_v g1 rfl rfl rfl ev_v
  have h4 : (0 : Int) ≤ ρ 5 ∧ ρ 5 ≤ 6 := hf_rg hT (hH _ (List.mem_of_getElem? (i := 4) rfl)) ev_v g2 rfl rfl rfl ev_v
  have h6 : (0 : Int) ≤ ρ 7 ∧ ρ 7 ≤ 8 := hf_rg hT (hH _ (List.mem_of_getElem? (i := 6) rfl)) ev_v g3 rfl rfl rfl ev_v
  have h8 : (0 : Int) ≤ ρ 9 ∧ ρ 9 ≤ 4 := hf_rg hT (hH _ (List.mem_of_getElem? (i := 8) rfl)) ev_v g4 rfl rfl rfl ev_v
  have p0 : q176 G h (16 * ρ 6 + ρ 7) (ρ 10) := c2 (P := q176 G h) (show q176 G h (((0) + ((16) * ρ 6 + ((1) * ρ 7 + 0)))) (((0) + ((1) * ρ 10 + 0))) from hP _ (List.mem_of_getElem? (i := 0) rfl)) (by omega) (by omega)
  have p1 : q158 (tB (vw C h)) (ρ 2 + 2048 * ρ 3) (ρ 11) := c2 (P := q158 (tB (vw C h))) (show q158 (tB (vw C h)) (((0) + ((1) * ρ 2 + ((2048) * ρ 3 + 0)))) (((0) + ((1) * ρ 11 + 0))) from hP _ (List.mem_of_getElem? (i := 1) rfl)) (by omega) (by omega)
  have p2 : q159 (tB (vw C h)) (ρ 2 + 2048 * ρ 11 + 33554432) ((1 : Int)) := c2 (P := q159 (tB (vw C h))) (show q159 (tB (vw C h)) (((33554432) + ((1) * ρ 2 + ((2048) * ρ 11 + 0)))) (((1) + 0)) from hP _ (List.mem_of_getElem? (i := 2) rfl)) (by omega) (by omega)
  have p3 : (qRC 16 (tB (vw C h))) (ρ 2 + 4398046511104 * ρ 5 + 35184372088832 * ρ 7 + 4503599627370496 * ρ 9 + 562949953421312 * ρ 10 + 2048 * ρ 11) (ρ 12) := c2 (P := (qRC 16 (tB (vw C h)))) (show (qRC 16 (tB (vw C h))) (((0) + ((1) * ρ 2 + ((4398046511104) * ρ 5 + ((35184372088832) * ρ 7 + ((4503599627370496) * ρ 9 + ((562949953421312) * ρ 10 + ((2048) * ρ 11 + 0)))))))) (((0) + ((1) * ρ 12 + 0))) from hP _ (List.mem_of_getElem? (i := 3) rfl)) (by omega) (by omega)
  have iw8 : tIsB (tB (vw C h)) (ρ 2).toNat (ρ 11).toNat (wd 8) = true := b01_1 (k159 (n := ρ 2) (s := ρ 11) (w := 8) (by omega) (by omega) (by omega) (by omega) (by omega) (by omega) p2)
  have hkd := (is_el.mp iw8).1
  have nx := k158 (n := ρ 2) (s := ρ 11) (t := ρ 3) (by omega) (by omega) (by omega) (by omega) (by omega) (by omega) p1
  have ng := nx_gt (B := (tB (vw C h))) (n := (ρ 2).toNat) (s := (ρ 11).toNat) (by omega)
  have hc0 := p3.1
  have hR := rc_el (n := ρ 2) (s := ρ 11) (d := (0 : Int)) (K := (0 : Int)) (R := (ρ 5 + 8 * ρ 7 + 1024 * ρ 9 + 128 * ρ 10)) p3 (by omega) (by omega) (by omega) (by omega) (by omega) (by omega) (by omega) (by omega) (by omega) (by omega)
  have q := g_20 hR iw8 (by omega)
  obtain ⟨σ, r1, r2a⟩ : ∃ σ : Va, (∀ i, i < 13 → σ i = ρ i) ∧ σ 13 = ((newM (ρ 12).toNat ((ρ 5 + 8 * ρ 7 + 1024 * ρ 9 + 128 * ρ 10).toNat / 8 % 16) : Nat) : Int) := ⟨fun i => if i = 13 then ((newM (ρ 12).toNat ((ρ 5 + 8 * ρ 7 + 1024 * ρ 9 + 128 * ρ 10).toNat / 8 % 16) : Nat) : Int) else ρ i, fun i hi => by dsimp only; rw [if_neg (by omega)], by dsimp only; rw [if_pos rfl]⟩
  have s0 := r1 0 (by omega)
  have s1 := r1 1 (by omega)
  have s2 := r1 2 (by omega)
  have s3 := r1 3 (by omega)
  have s4 := r1 4 (by omega)
  have s5 := r1 5 (by omega)
  have s6 := r1 6 (by omega)
  have s7 := r1 7 (by omega)
  have s8 := r1 8 (by omega)
  have s9 := r1 9 (by omega)
  have s10 := r1 10 (by omega)
  have s11 := r1 11 (by omega)
  have s12 := r1 12 (by omega)
  refine ⟨_, List.mem_cons_self, σ, r1, fun q hq => absurd hq List.not_mem_nil, trivial, fun f hf => ?_, fun q hq => absurd hq List.not_mem_nil, fun q hq => absurd hq List.not_mem_nil, fun q hq => absurd hq List.not_mem_nil, fun q hq => ?_⟩
  · simp only [List.mem_cons, List.not_mem_nil, or_false] at hf
    subst hf
    show (0 : Int) ≤ ((-1) + ((1) * σ 3 + ((-1) * σ 11 + 0)))
    omega
  · simp only [List.mem_cons, List.not_mem_nil, or_false] at hq
    rcases hq with rfl | rfl
    · show (qRC 20 (tB (vw C h))) (((0) + ((1) * σ 2 + ((2048) * σ 3 + ((4398046511104) * σ 5 + ((35184372088832) * σ 7 + ((4503599627370496) * σ 9 + ((562949953421312) * σ 10 + 0)))))))) (((0) + ((1) * σ 13 + 0)))
      refine c2 (P := (qRC 20 (tB (vw C h)))) (r := ρ 2 + 2048 * ρ 3 + 4398046511104 * ρ 5 + 35184372088832 * ρ 7 + 4503599627370496 * ρ 9 + 562949953421312 * ρ 10) (c := ((newM (ρ 12).toNat ((ρ 5 + 8 * ρ 7 + 1024 * ρ 9 + 128 * ρ 10).toNat / 8 % 16) : Nat) : Int)) ?_ (by omega) (by omega)
      show (qRC 20 (tB (vw C h))) (ρ 2 + 2048 * ρ 3 + 4398046511104 * ρ 5 + 35184372088832 * ρ 7 + 4503599627370496 * ρ 9 + 562949953421312 * ρ 10) (((newM (ρ 12).toNat ((ρ 5 + 8 * ρ 7 + 1024 * ρ 9 + 128 * ρ 10).toNat / 8 % 16) : Nat) : Int))
      exact rc_in (n := ρ 2) (s := ρ 3) (d := (0 : Int)) (K := (0 : Int)) (R := (ρ 5 + 8 * ρ 7 + 1024 * ρ 9 + 128 * ρ 10)) (by omega) (by omega) (by omega) (by omega) (by omega) (by omega) (by omega) (by omega) (by omega) (by omega) q (by omega) (by omega) (by omega) (by omega) rfl
    · show qNM (((0) + ((1) * σ 7 + ((16) * σ 12 + 0)))) (((0) + ((1) * σ 13 + 0)))
      refine c2 (P := qNM) (r := ρ 7 + 16 * ρ 12) (c := ((newM (ρ 12).toNat ((ρ 5 + 8 * ρ 7 + 1024 * ρ 9 + 128 * ρ 10).toNat / 8 % 16) : Nat) : Int)) ?_ (by omega) (by omega)
      show qNM (ρ 7 + 16 * ρ 12) (((newM (ρ 12).toNat ((ρ 5 + 8 * ρ 7 + 1024 * ρ 9 + 128 * ρ 10).toNat / 8 % 16) : Nat) : Int))
      exact oNM (a := ρ 12) (m := (ρ 5 + 8 * ρ 7 + 1024 * ρ 9 + 128 * ρ 10).toNat / 8 % 16) (by omega) (by omega) rfl
/-- tm20C -/
theorem lem_438_ok (hU : uqG G C) : lem_438.1.2.1 = [] ∧ lemOK (PRd G C D xs) G rgs lem_438 := by
  refine ⟨rfl, fun ρ h ha hT => ?_⟩
  obtain ⟨-, -, hF, hG, hH, hA, hP⟩ := ha
  have f0 : (0 : Int) ≤ ((0) + ((1) * ρ 2 + 0)) := hF _ (List.mem_of_getElem? (i := 0) rfl)
  have f1 : (0 : Int) ≤ ((1200) + ((-1) * ρ 2 + 0)) := hF _ (List.mem_of_getElem? (i := 1) rfl)
  have f2 : (0 : Int) ≤ ((0) + ((1) * ρ 3 + 0)) := hF _ (List.mem_of_getElem? (i := 2) rfl)
  have f3 : (0 : Int) ≤ ((0) + ((1) * ρ 2 + ((-1) * ρ 3 + 0))) := hF _ (List.mem_of_getElem? (i := 3) rfl)
  have f4 : (0 : Int) ≤ ((-8) + ((1) * ρ 7 + 0)) := hF _ (List.mem_of_getElem? (i := 4) rfl)
  have f5 : (0 : Int) ≤ ((0) + ((1) * ρ 5 + 0)) := hF _ (List.mem_of_getElem? (i := 5) rfl)
  have f6 : (0 : Int) ≤ ((6) + ((-1) * ρ 5 + 0)) := hF _ (List.mem_of_getElem? (i := 6) rfl)
  have f7 : (0 : Int) ≤ ((0) + ((1) * ρ 7 + 0)) := hF _ (List.mem_of_getElem? (i := 7) rfl)
  have f8 : (0 : Int) ≤ ((8) + ((-1) * ρ 7 + 0)) := hF _ (List.mem_of_getElem? (i := 8) rfl)
  have f9 : (0 : Int) ≤ ((0) + ((1) * ρ 10 + 0)) := hF _ (List.mem_of_getElem? (i := 9) rfl)
  have f10 : (0 : Int) ≤ ((5) + ((-1) * ρ 10 + 0)) := hF _ (List.mem_of_getElem? (i := 10) rfl)
  have f11 : (0 : Int) ≤ ((0) + ((1) * ρ 9 + 0)) := hF _ (List.mem_of_getElem? (i := 11) rfl)
  have f12 : (0 : Int) ≤ ((4) + ((-1) * ρ 9 + 0)) := hF _ (List.mem_of_getElem? (i := 12) rfl)
  have g0 : G (ρ 0).toNat = 14 := by
    have q := (hG _ (List.mem_of_getElem? (i := 0) rfl)).2
    rwa [show ev ρ (0, [(0, 1)]) = ρ 0 from ev_v] at q
  have g1 : G (ρ 1).toNat = 17 := by
    have q := (hG _ (List.mem_of_getElem? (i := 1) rfl)).2
    rwa [show ev ρ (0, [(1, 1)]) = ρ 1 from ev_v] at q
  have g2 : G (ρ 4).toNat = 11 := by
    have q := (hG _ (List.mem_of_getElem? (i := 2) rfl)).2
    rwa [show ev ρ (0, [(4, 1)]) = ρ 4 from ev_v] at q
  have g3 : G (ρ 6).toNat = 20 := by
    have q := (hG _ (List.mem_of_getElem? (i := 3) rfl)).2
    rwa [show ev ρ (0, [(6, 1)]) = ρ 6 from ev_v] at q
  have g4 : G (ρ 8).toNat = 16 := by
    have q := (hG _ (List.mem_of_getElem? (i := 4) rfl)).2
    rwa [show ev ρ (0, [(8, 1)]) = ρ 8 from ev_v] at q
  have h1 : (0 : Int) ≤ ρ 2 ∧ ρ 2 ≤ 1200 := hf_rg hT (hH _ (List.mem_of_getElem? (i := 1) rfl)) ev_v g1 rfl rfl rfl ev_v
  have h2 : (0 : Int) ≤ ρ 3 ∧ ρ 3 ≤ 1200 := hf_rg hT (hH _ (List.mem_of_getElem? (i := 2) rfl)) ev_v g1 rfl rfl rfl ev_v
  have h4 : (0 : Int) ≤ ρ 5 ∧ ρ 5 ≤ 6 := hf_rg hT (hH _ (List.mem_of_getElem? (i := 4) rfl)) ev_v g2 rfl rfl rfl ev_v
  have h6 : (0 : Int) ≤ ρ 7 ∧ ρ 7 ≤ 8 := hf_rg hT (hH _ (List.mem_of_getElem? (i := 6) rfl)) ev_v g3 rfl rfl rfl ev_v
  have h8 : (0 : Int) ≤ ρ 9 ∧ ρ 9 ≤ 4 := hf_rg hT (hH _ (List.mem_of_getElem? (i := 8) rfl)) ev_v g4 rfl rfl rfl ev_v
  have p0 : q176 G h (16 * ρ 6 + ρ 7) (ρ 10) := c2 (P := q176 G h) (show q176 G h (((0) + ((16) * ρ 6 + ((1) * ρ 7 + 0)))) (((0) + ((1) * ρ 10 + 0))) from hP _ (List.mem_of_getElem? (i := 0) rfl)) (by omega) (by omega)
  have p1 : q159 (tB (vw C h)) (ρ 2 + 2048 * ρ 3 + 33554432) ((1 : Int)) := c2 (P := q159 (tB (vw C h))) (show q159 (tB (vw C h)) (((33554432) + ((1) * ρ 2 + ((2048) * ρ 3 + 0)))) (((1) + 0)) from hP _ (List.mem_of_getElem? (i := 1) rfl)) (by omega) (by omega)
  have p2 : (qRC 16 (tB (vw C h))) (ρ 2 + 2048 * ρ 3 + 4398046511104 * ρ 5 + 35184372088832 * ρ 7 + 4503599627370496 * ρ 9 + 562949953421312 * ρ 10) (ρ 11) := c2 (P := (qRC 16 (tB (vw C h)))) (show (qRC 16 (tB (vw C h))) (((0) + ((1) * ρ 2 + ((2048) * ρ 3 + ((4398046511104) * ρ 5 + ((35184372088832) * ρ 7 + ((4503599627370496) * ρ 9 + ((562949953421312) * ρ 10 + 0)))))))) (((0) + ((1) * ρ 11 + 0))) from hP _ (List.mem_of_getElem? (i := 2) rfl)) (by omega) (by omega)
  have iw8 : tIsB (tB (vw C h)) (ρ 2).toNat (ρ 3).toNat (wd 8) = true := b01_1 (k159 (n := ρ 2) (s := ρ 3) (w := 8) (by omega) (by omega) (by omega) (by omega) (by omega) (by omega) p1)
  have hkd := (is_el.mp iw8).1
  have hc0 := p2.1
  have hR := rc_el (n := ρ 2) (s := ρ 3) (d := (0 : Int)) (K := (0 : Int)) (R := (ρ 5 + 8 * ρ 7 + 1024 * ρ 9 + 128 * ρ 10)) p2 (by omega) (by omega) (by omega) (by omega) (by omega) (by omega) (by omega) (by omega) (by omega) (by omega)
  have q := o_20 hR iw8 (by omega)
  refine ⟨_, List.mem_cons_self, ρ, fun _ _ => rfl, fun q hq => absurd hq List.not_mem_nil, trivial, fun f hf => ?_, fun q hq => absurd hq List.not_mem_nil, fun q hq => absurd hq List.not_mem_nil, fun q hq => absurd hq List.not_mem_nil, fun q hq => ?_⟩
  · exact absurd hf List.not_mem_nil
  · simp only [List.mem_cons, List.not_mem_nil, or_false] at hq
    subst hq
    show q166 (tB (vw C h)) (((0) + ((1) * ρ 2 + 0))) (((16384) + ((1) * ρ 3 + 0)))
    refine c2 (P := q166 (tB (vw C h))) (r := ρ 2) (c := ρ 3 + 16384) ?_ (by omega) (by omega)
    show q166 (tB (vw C h)) (ρ 2) (ρ 3 + 16384)
    exact o166 (k := 16384) (n := ρ 2) (s := ρ 3) (by omega) q (by omega) rfl (by omega)
/-- ln25C -/
theorem lem_439_ok (hU : uqG G C) : lem_439.1.2.1 = [] ∧ lemOK (PRd G C D xs) G rgs lem_439 := by
  refine ⟨rfl, fun ρ h ha hT => ?_⟩
  obtain ⟨-, -, hF, hG, hH, hA, hP⟩ := ha
  have f0 : (0 : Int) ≤ ((0) + ((1) * ρ 2 + 0)) := hF _ (List.mem_of_getElem? (i := 0) rfl)
  have f1 : (0 : Int) ≤ ((1200) + ((-1) * ρ 2 + 0)) := hF _ (List.mem_of_getElem? (i := 1) rfl)
  have f2 : (0 : Int) ≤ ((0) + ((1) * ρ 3 + 0)) := hF _ (List.mem_of_getElem? (i := 2) rfl)
  have f3 : (0 : Int) ≤ ((0) + ((1) * ρ 2 + ((-1) * ρ 3 + 0))) := hF _ (List.mem_of_getElem? (i := 3) rfl)
  have f4 : (0 : Int) ≤ ((0) + ((1) * ρ 11 + 0)) := hF _ (List.mem_of_getElem? (i := 4) rfl)
  have f5 : (0 : Int) ≤ ((0) + ((1) * ρ 2 + ((-1) * ρ 11 + 0))) := hF _ (List.mem_of_getElem? (i := 5) rfl)
  have f6 : (0 : Int) ≤ ((-1) + ((1) * ρ 7 + 0)) := hF _ (List.mem_of_getElem? (i := 6) rfl)
  have f7 : (0 : Int) ≤ ((4) + ((-1) * ρ 10 + 0)) := hF _ (List.mem_of_getElem? (i := 7) rfl)
  have f8 : (0 : Int) ≤ ((0) + ((1) * ρ 5 + 0)) := hF _ (List.mem_of_getElem? (i := 8) rfl)
  have f9 : (0 : Int) ≤ ((6) + ((-1) * ρ 5 + 0)) := hF _ (List.mem_of_getElem? (i := 9) rfl)
  have f10 : (0 : Int) ≤ ((0) + ((1) * ρ 7 + 0)) := hF _ (List.mem_of_getElem? (i := 10) rfl)
  have f11 : (0 : Int) ≤ ((8) + ((-1) * ρ 7 + 0)) := hF _ (List.mem_of_getElem? (i := 11) rfl)
  have f12 : (0 : Int) ≤ ((0) + ((1) * ρ 10 + 0)) := hF _ (List.mem_of_getElem? (i := 12) rfl)
  have f13 : (0 : Int) ≤ ((5) + ((-1) * ρ 10 + 0)) := hF _ (List.mem_of_getElem? (i := 13) rfl)
  have f14 : (0 : Int) ≤ ((0) + ((1) * ρ 9 + 0)) := hF _ (List.mem_of_getElem? (i := 14) rfl)
  have f15 : (0 : Int) ≤ ((4) + ((-1) * ρ 9 + 0)) := hF _ (List.mem_of_getElem? (i := 15) rfl)
  have g0 : G (ρ 0).toNat = 14 := by
    have q := (hG _ (List.mem_of_getElem? (i := 0) rfl)).2
    rwa [show ev ρ (0, [(0, 1)]) = ρ 0 from ev_v] at q
  have g1 : G (ρ 1).toNat = 17 := by
    have q := (hG _ (List.mem_of_getElem? (i := 1) rfl)).2
    rwa [show ev ρ (0, [(1, 1)]) = ρ 1 from ev_v] at q
  have g2 : G (ρ 4).toNat = 11 := by
    have q := (hG _ (List.mem_of_getElem? (i := 2) rfl)).2
    rwa [show ev ρ (0, [(4, 1)]) = ρ 4 from ev_v] at q
  have g3 : G (ρ 6).toNat = 20 := by
    have q := (hG _ (List.mem_of_getElem? (i := 3) rfl)).2
    rwa [show ev ρ (0, [(6, 1)]) = ρ 6 from ev_v] at q
  have g4 : G (ρ 8).toNat = 16 := by
    have q := (hG _ (List.mem_of_getElem? (i := 4) rfl)).2
    rwa [show ev ρ (0, [(8, 1)]) = ρ 8 from ev_v] at q
  have h1 : (0 : Int) ≤ ρ 2 ∧ ρ 2 ≤ 1200 := hf_rg hT (hH _ (List.mem_of_getElem? (i := 1) rfl)) ev_v g1 rfl rfl rfl ev_v
  have h2 : (0 : Int) ≤ ρ 3 ∧ ρ 3 ≤ 1200 := hf_rg hT (hH _ (List.mem_of_getElem? (i := 2) rfl)) ev_v g1 rfl rfl rfl ev_v
  have h4 : (0 : Int) ≤ ρ 5 ∧ ρ 5 ≤ 6 := hf_rg hT (hH _ (List.mem_of_getElem? (i := 4) rfl)) ev_v g2 rfl rfl rfl ev_v
  have h6 : (0 : Int) ≤ ρ 7 ∧ ρ 7 ≤ 8 := hf_rg hT (hH _ (List.mem_of_getElem? (i := 6) rfl)) ev_v g3 rfl rfl rfl ev_v
  have h8 : (0 : Int) ≤ ρ 9 ∧ ρ 9 ≤ 4 := hf_rg hT (hH _ (List.mem_of_getElem? (i := 8) rfl)) ev_v g4 rfl rfl rfl ev_v
  have p0 : q176 G h (16 * ρ 6 + ρ 7) (ρ 10) := c2 (P := q176 G h) (show q176 G h (((0) + ((16) * ρ 6 + ((1) * ρ 7 + 0)))) (((0) + ((1) * ρ 10 + 0))) from hP _ (List.mem_of_getElem? (i := 0) rfl)) (by omega) (by omega)
  have p1 : q158 (tB (vw C h)) (ρ 2 + 2048 * ρ 3) (ρ 11) := c2 (P := q158 (tB (vw C h))) (show q158 (tB (vw C h)) (((0) + ((1) * ρ 2 + ((2048) * ρ 3 + 0)))) (((0) + ((1) * ρ 11 + 0))) from hP _ (List.mem_of_getElem? (i := 1) rfl)) (by omega) (by omega)
  have p2 : q159 (tB (vw C h)) (ρ 2 + 2048 * ρ 11 + 37748736) ((1 : Int)) := c2 (P := q159 (tB (vw C h))) (show q159 (tB (vw C h)) (((37748736) + ((1) * ρ 2 + ((2048) * ρ 11 + 0)))) (((1) + 0)) from hP _ (List.mem_of_getElem? (i := 2) rfl)) (by omega) (by omega)
  have p3 : (qRC 16 (tB (vw C h))) (ρ 2 + 4398046511104 * ρ 5 + 35184372088832 * ρ 7 + 4503599627370496 * ρ 9 + 562949953421312 * ρ 10 + 2048 * ρ 11) (ρ 12) := c2 (P := (qRC 16 (tB (vw C h)))) (show (qRC 16 (tB (vw C h))) (((0) + ((1) * ρ 2 + ((4398046511104) * ρ 5 + ((35184372088832) * ρ 7 + ((4503599627370496) * ρ 9 + ((562949953421312) * ρ 10 + ((2048) * ρ 11 + 0)))))))) (((0) + ((1) * ρ 12 + 0))) from hP _ (List.mem_of_getElem? (i := 3) rfl)) (by omega) (by omega)
  have iw9 : tIsB (tB (vw C h)) (ρ 2).toNat (ρ 11).toNat (wd 9) = true := b01_1 (k159 (n := ρ 2) (s := ρ 11) (w := 9) (by omega) (by omega) (by omega) (by omega) (by omega) (by omega) p2)
  have hkd := (is_el.mp iw9).1
  have nx := k158 (n := ρ 2) (s := ρ 11) (t := ρ 3) (by omega) (by omega) (by omega) (by omega) (by omega) (by omega) p1
  have ng := nx_gt (B := (tB (vw C h))) (n := (ρ 2).toNat) (s := (ρ 11).toNat) (by omega)
  have hc0 := p3.1
  have hR := rc_el (n := ρ 2) (s := ρ 11) (d := (0 : Int)) (K := (0 : Int)) (R := (ρ 5 + 8 * ρ 7 + 1024 * ρ 9 + 128 * ρ 10)) p3 (by omega) (by omega) (by omega) (by omega) (by omega) (by omega) (by omega) (by omega) (by omega) (by omega)
  have q := g_25 hR iw9 (by omega) (by omega)
  refine ⟨_, List.mem_cons_self, ρ, fun _ _ => rfl, fun q hq => absurd hq List.not_mem_nil, trivial, fun f hf => ?_, fun q hq => absurd hq List.not_mem_nil, fun q hq => absurd hq List.not_mem_nil, fun q hq => absurd hq List.not_mem_nil, fun q hq => ?_⟩
  · simp only [List.mem_cons, List.not_mem_nil, or_false] at hf
    subst hf
    show (0 : Int) ≤ ((-1) + ((1) * ρ 3 + ((-1) * ρ 11 + 0)))
    omega
  · simp only [List.mem_cons, List.not_mem_nil, or_false] at hq
    subst hq
    show (qRC 25 (tB (vw C h))) (((0) + ((1) * ρ 2 + ((2048) * ρ 3 + ((4398046511104) * ρ 5 + ((35184372088832) * ρ 7 + ((4503599627370496) * ρ 9 + ((562949953421312) * ρ 10 + 0)))))))) (((0) + ((1) * ρ 12 + 0)))
    refine c2 (P := (qRC 25 (tB (vw C h)))) (r := ρ 2 + 2048 * ρ 3 + 4398046511104 * ρ 5 + 35184372088832 * ρ 7 + 4503599627370496 * ρ 9 + 562949953421312 * ρ 10) (c := ρ 12) ?_ (by omega) (by omega)
    show (qRC 25 (tB (vw C h))) (ρ 2 + 2048 * ρ 3 + 4398046511104 * ρ 5 + 35184372088832 * ρ 7 + 4503599627370496 * ρ 9 + 562949953421312 * ρ 10) (ρ 12)
    exact rc_in (n := ρ 2) (s := ρ 3) (d := (0 : Int)) (K := (0 : Int)) (R := (ρ 5 + 8 * ρ 7 + 1024 * ρ 9 + 128 * ρ 10)) (by omega) (by omega) (by omega) (by omega) (by omega) (by omega) (by omega) (by omega) (by omega) (by omega) q (by omega) (by omega) (by omega) (by omega) (by omega)
/-- no25C -/
theorem lem_440_ok (hU : uqG G C) : lem_440.1.2.1 = [] ∧ lemOK (PRd G C D xs) G rgs lem_440 := by
  refine ⟨rfl, fun ρ h ha hT => ?_⟩
  obtain ⟨-, -, hF, hG, hH, hA, hP⟩ := ha
  have f0 : (0 : Int) ≤ ((0) + ((1) * ρ 2 + 0)) := hF _ (List.mem_of_getElem? (i := 0) rfl)
  have f1 : (0 : Int) ≤ ((1200) + ((-1) * ρ 2 + 0)) := hF _ (List.mem_of_getElem? (i := 1) rfl)
  have f2 : (0 : Int) ≤ ((0) + ((1) * ρ 3 + 0)) := hF _ (List.mem_of_getElem? (i := 2) rfl)
  have f3 : (0 : Int) ≤ ((0) + ((1) * ρ 2 + ((-1) * ρ 3 + 0))) := hF _ (List.mem_of_getElem? (i := 3) rfl)
  have f4 : (0 : Int) ≤ ((0) + ((-1) * ρ 7 + 0)) := hF _ (List.mem_of_getElem? (i := 4) rfl)
  have f5 : (0 : Int) ≤ ((0) + ((1) * ρ 5 + 0)) := hF _ (List.mem_of_getElem? (i := 5) rfl)
  have f6 : (0 : Int) ≤ ((6) + ((-1) * ρ 5 + 0)) := hF _ (List.mem_of_getElem? (i := 6) rfl)
  have f7 : (0 : Int) ≤ ((0) + ((1) * ρ 7 + 0)) := hF _ (List.mem_of_getElem? (i := 7) rfl)
  have f8 : (0 : Int) ≤ ((8) + ((-1) * ρ 7 + 0)) := hF _ (List.mem_of_getElem? (i := 8) rfl)
  have f9 : (0 : Int) ≤ ((0) + ((1) * ρ 10 + 0)) := hF _ (List.mem_of_getElem? (i := 9) rfl)
  have f10 : (0 : Int) ≤ ((5) + ((-1) * ρ 10 + 0)) := hF _ (List.mem_of_getElem? (i := 10) rfl)
  have f11 : (0 : Int) ≤ ((0) + ((1) * ρ 9 + 0)) := hF _ (List.mem_of_getElem? (i := 11) rfl)
  have f12 : (0 : Int) ≤ ((4) + ((-1) * ρ 9 + 0)) := hF _ (List.mem_of_getElem? (i := 12) rfl)
  have g0 : G (ρ 0).toNat = 14 := by
    have q := (hG _ (List.mem_of_getElem? (i := 0) rfl)).2
    rwa [show ev ρ (0, [(0, 1)]) = ρ 0 from ev_v] at q
  have g1 : G (ρ 1).toNat = 17 := by
    have q := (hG _ (List.mem_of_getElem? (i := 1) rfl)).2
    rwa [show ev ρ (0, [(1, 1)]) = ρ 1 from ev_v] at q
  have g2 : G (ρ 4).toNat = 11 := by
    have q := (hG _ (List.mem_of_getElem? (i := 2) rfl)).2
    rwa [show ev ρ (0, [(4, 1)]) = ρ 4 from ev_v] at q
  have g3 : G (ρ 6).toNat = 20 := by
    have q := (hG _ (List.mem_of_getElem? (i := 3) rfl)).2
    rwa [show ev ρ (0, [(6, 1)]) = ρ 6 from ev_v] at q
  have g4 : G (ρ 8).toNat = 16 := by
    have q := (hG _ (List.mem_of_getElem? (i := 4) rfl)).2
    rwa [show ev ρ (0, [(8, 1)]) = ρ 8 from ev_v] at q
  have h1 : (0 : Int) ≤ ρ 2 ∧ ρ 2 ≤ 1200 := hf_rg hT (hH _ (List.mem_of_getElem? (i := 1) rfl)) ev_v g1 rfl rfl rfl ev_v
  have h2 : (0 : Int) ≤ ρ 3 ∧ ρ 3 ≤ 1200 := hf_rg hT (hH _ (List.mem_of_getElem? (i := 2) rfl)) ev_v g1 rfl rfl rfl ev_v
  have h4 : (0 : Int) ≤ ρ 5 ∧ ρ 5 ≤ 6 := hf_rg hT (hH _ (List.mem_of_getElem? (i := 4) rfl)) ev_v g2 rfl rfl rfl ev_v
  have h6 : (0 : Int) ≤ ρ 7 ∧ ρ 7 ≤ 8 := hf_rg hT (hH _ (List.mem_of_getElem? (i := 6) rfl)) ev_v g3 rfl rfl rfl ev_v
  have h8 : (0 : Int) ≤ ρ 9 ∧ ρ 9 ≤ 4 := hf_rg hT (hH _ (List.mem_of_getElem? (i := 8) rfl)) ev_v g4 rfl rfl rfl ev_v
  have p0 : q176 G h (16 * ρ 6 + ρ 7) (ρ 10) := c2 (P := q176 G h) (show q176 G h (((0) + ((16) * ρ 6 + ((1) * ρ 7 + 0)))) (((0) + ((1) * ρ 10 + 0))) from hP _ (List.mem_of_getElem? (i := 0) rfl)) (by omega) (by omega)
  have p1 : q159 (tB (vw C h)) (ρ 2 + 2048 * ρ 3 + 37748736) ((1 : Int)) := c2 (P := q159 (tB (vw C h))) (show q159 (tB (vw C h)) (((37748736) + ((1) * ρ 2 + ((2048) * ρ 3 + 0)))) (((1) + 0)) from hP _ (List.mem_of_getElem? (i := 1) rfl)) (by omega) (by omega)
  have p2 : (qRC 16 (tB (vw C h))) (ρ 2 + 2048 * ρ 3 + 4398046511104 * ρ 5 + 35184372088832 * ρ 7 + 4503599627370496 * ρ 9 + 562949953421312 * ρ 10) (ρ 11) := c2 (P := (qRC 16 (tB (vw C h)))) (show (qRC 16 (tB (vw C h))) (((0) + ((1) * ρ 2 + ((2048) * ρ 3 + ((4398046511104) * ρ 5 + ((35184372088832) * ρ 7 + ((4503599627370496) * ρ 9 + ((562949953421312) * ρ 10 + 0)))))))) (((0) + ((1) * ρ 11 + 0))) from hP _ (List.mem_of_getElem? (i := 2) rfl)) (by omega) (by omega)
  have iw9 : tIsB (tB (vw C h)) (ρ 2).toNat (ρ 3).toNat (wd 9) = true := b01_1 (k159 (n := ρ 2) (s := ρ 3) (w := 9) (by omega) (by omega) (by omega) (by omega) (by omega) (by omega) p1)
  have hkd := (is_el.mp iw9).1
  have hc0 := p2.1
  have hR := rc_el (n := ρ 2) (s := ρ 3) (d := (0 : Int)) (K := (0 : Int)) (R := (ρ 5 + 8 * ρ 7 + 1024 * ρ 9 + 128 * ρ 10)) p2 (by omega) (by omega) (by omega) (by omega) (by omega) (by omega) (by omega) (by omega) (by omega) (by omega)
  have q := o_25n hR iw9 (by omega)
  refine ⟨_, List.mem_cons_self, ρ, fun _ _ => rfl, fun q hq => absurd hq List.not_mem_nil, trivial, fun f hf => ?_, fun q hq => absurd hq List.not_mem_nil, fun q hq => absurd hq List.not_mem_nil, fun q hq => absurd hq List.not_mem_nil, fun q hq => ?_⟩
  · exact absurd hf List.not_mem_nil
  · simp only [List.mem_cons, List.not_mem_nil, or_false] at hq
    subst hq
    show q166 (tB (vw C h)) (((0) + ((1) * ρ 2 + 0))) (((12288) + ((1) * ρ 3 + 0)))
    refine c2 (P := q166 (tB (vw C h))) (r := ρ 2) (c := ρ 3 + 12288) ?_ (by omega) (by omega)
    show q166 (tB (vw C h)) (ρ 2) (ρ 3 + 12288)
    exact o166 (k := 12288) (n := ρ 2) (s := ρ 3) (by omega) q (by omega) rfl (by omega)
/-- tm25C -/
theorem lem_441_ok (hU : uqG G C) : lem_441.1.2.1 = [] ∧ lemOK (PRd G C D xs) G rgs lem_441 := by
  refine ⟨rfl, fun ρ h ha hT => ?_⟩
  obtain ⟨-, -, hF, hG, hH, hA, hP⟩ := ha
  have f0 : (0 : Int) ≤ ((0) + ((1) * ρ 2 + 0)) := hF _ (List.mem_of_getElem? (i := 0) rfl)
  have f1 : (0 : Int) ≤ ((1200) + ((-1) * ρ 2 + 0)) := hF _ (List.mem_of_getElem? (i := 1) rfl)
  have f2 : (0 : Int) ≤ ((0) + ((1) * ρ 3 + 0)) := hF _ (List.mem_of_getElem? (i := 2) rfl)
  have f3 : (0 : Int) ≤ ((0) + ((1) * ρ 2 + ((-1) * ρ 3 + 0))) := hF _ (List.mem_of_getElem? (i := 3) rfl)
  have f4 : (0 : Int) ≤ ((-1) + ((1) * ρ 7 + 0)) := hF _ (List.mem_of_getElem? (i := 4) rfl)
  have f5 : (0 : Int) ≤ ((-5) + ((1) * ρ 10 + 0)) := hF _ (List.mem_of_getElem? (i := 5) rfl)
  have f6 : (0 : Int) ≤ ((0) + ((1) * ρ 5 + 0)) := hF _ (List.mem_of_getElem? (i := 6) rfl)
  have f7 : (0 : Int) ≤ ((6) + ((-1) * ρ 5 + 0)) := hF _ (List.mem_of_getElem? (i := 7) rfl)
  have f8 : (0 : Int) ≤ ((0) + ((1) * ρ 7 + 0)) := hF _ (List.mem_of_getElem? (i := 8) rfl)
  have f9 : (0 : Int) ≤ ((8) + ((-1) * ρ 7 + 0)) := hF _ (List.mem_of_getElem? (i := 9) rfl)
  have f10 : (0 : Int) ≤ ((0) + ((1) * ρ 10 + 0)) := hF _ (List.mem_of_getElem? (i := 10) rfl)
  have f11 : (0 : Int) ≤ ((5) + ((-1) * ρ 10 + 0)) := hF _ (List.mem_of_getElem? (i := 11) rfl)
  have f12 : (0 : Int) ≤ ((0) + ((1) * ρ 9 + 0)) := hF _ (List.mem_of_getElem? (i := 12) rfl)
  have f13 : (0 : Int) ≤ ((4) + ((-1) * ρ 9 + 0)) := hF _ (List.mem_of_getElem? (i := 13) rfl)
  have g0 : G (ρ 0).toNat = 14 := by
    have q := (hG _ (List.mem_of_getElem? (i := 0) rfl)).2
    rwa [show ev ρ (0, [(0, 1)]) = ρ 0 from ev_v] at q
  have g1 : G (ρ 1).toNat = 17 := by
    have q := (hG _ (List.mem_of_getElem? (i := 1) rfl)).2
    rwa [show ev ρ (0, [(1, 1)]) = ρ 1 from ev_v] at q
  have g2 : G (ρ 4).toNat = 11 := by
    have q := (hG _ (List.mem_of_getElem? (i := 2) rfl)).2
    rwa [show ev ρ (0, [(4, 1)]) = ρ 4 from ev_v] at q
  have g3 : G (ρ 6).toNat = 20 := by
    have q := (hG _ (List.mem_of_getElem? (i := 3) rfl)).2
    rwa [show ev ρ (0, [(6, 1)]) = ρ 6 from ev_v] at q
  have g4 : G (ρ 8).toNat = 16 := by
    have q := (hG _ (List.mem_of_getElem? (i := 4) rfl)).2
    rwa [show ev ρ (0, [(8, 1)]) = ρ 8 from ev_v] at q
  have h1 : (0 : Int) ≤ ρ 2 ∧ ρ 2 ≤ 1200 := hf_rg hT (hH _ (List.mem_of_getElem? (i := 1) rfl)) ev_v g1 rfl rfl rfl ev_v
  have h2 : (0 : Int) ≤ ρ 3 ∧ ρ 3 ≤ 1200 := hf_rg hT (hH _ (List.mem_of_getElem? (i := 2) rfl)) ev_v g1 rfl rfl rfl ev_v
  have h4 : (0 : Int) ≤ ρ 5 ∧ ρ 5 ≤ 6 := hf_rg hT (hH _ (List.mem_of_getElem? (i := 4) rfl)) ev_v g2 rfl rfl rfl ev_v
  have h6 : (0 : Int) ≤ ρ 7 ∧ ρ 7 ≤ 8 := hf_rg hT (hH _ (List.mem_of_getElem? (i := 6) rfl)) ev_v g3 rfl rfl rfl ev_v
  have h8 : (0 : Int) ≤ ρ 9 ∧ ρ 9 ≤ 4 := hf_rg hT (hH _ (List.mem_of_getElem? (i := 8) rfl)) ev_v g4 rfl rfl rfl ev_v
  have p0 : q176 G h (16 * ρ 6 + ρ 7) (ρ 10) := c2 (P := q176 G h) (show q176 G h (((0) + ((16) * ρ 6 + ((1) * ρ 7 + 0)))) (((0) + ((1) * ρ 10 + 0))) from hP _ (List.mem_of_getElem? (i := 0) rfl)) (by omega) (by omega)
  have p1 : q159 (tB (vw C h)) (ρ 2 + 2048 * ρ 3 + 37748736) ((1 : Int)) := c2 (P := q159 (tB (vw C h))) (show q159 (tB (vw C h)) (((37748736) + ((1) * ρ 2 + ((2048) * ρ 3 + 0)))) (((1) + 0)) from hP _ (List.mem_of_getElem? (i := 1) rfl)) (by omega) (by omega)
  have p2 : (qRC 16 (tB (vw C h))) (ρ 2 + 2048 * ρ 3 + 4398046511104 * ρ 5 + 35184372088832 * ρ 7 + 4503599627370496 * ρ 9 + 562949953421312 * ρ 10) (ρ 11) := c2 (P := (qRC 16 (tB (vw C h)))) (show (qRC 16 (tB (vw C h))) (((0) + ((1) * ρ 2 + ((2048) * ρ 3 + ((4398046511104) * ρ 5 + ((35184372088832) * ρ 7 + ((4503599627370496) * ρ 9 + ((562949953421312) * ρ 10 + 0)))))))) (((0) + ((1) * ρ 11 + 0))) from hP _ (List.mem_of_getElem? (i := 2) rfl)) (by omega) (by omega)
  have iw9 : tIsB (tB (vw C h)) (ρ 2).toNat (ρ 3).toNat (wd 9) = true := b01_1 (k159 (n := ρ 2) (s := ρ 3) (w := 9) (by omega) (by omega) (by omega) (by omega) (by omega) (by omega) p1)
  have hkd := (is_el.mp iw9).1
  have hc0 := p2.1
  have hR := rc_el (n := ρ 2) (s := ρ 3) (d := (0 : Int)) (K := (0 : Int)) (R := (ρ 5 + 8 * ρ 7 + 1024 * ρ 9 + 128 * ρ 10)) p2 (by omega) (by omega) (by omega) (by omega) (by omega) (by omega) (by omega) (by omega) (by omega) (by omega)
  have q := o_25 hR iw9 (by omega) (by omega)
  refine ⟨_, List.mem_cons_self, ρ, fun _ _ => rfl, fun q hq => absurd hq List.not_mem_nil, trivial, fun f hf => ?_, fun q hq => absurd hq List.not_mem_nil, fun q hq => absurd hq List.not_mem_nil, fun q hq => absurd hq List.not_mem_nil, fun q hq => ?_⟩
  · exact absurd hf List.not_mem_nil
  · simp only [List.mem_cons, List.not_mem_nil, or_false] at hq
    subst hq
    show q166 (tB (vw C h)) (((0) + ((1) * ρ 2 + 0))) (((16384) + ((1) * ρ 3 + 0)))
    refine c2 (P := q166 (tB (vw C h))) (r := ρ 2) (c := ρ 3 + 16384) ?_ (by omega) (by omega)
    show q166 (tB (vw C h)) (ρ 2) (ρ 3 + 16384)
    exact o166 (k := 16384) (n := ρ 2) (s := ρ 3) (by omega) q (by omega) rfl (by omega)
/-- ln40C -/
theorem lem_442_ok (hU : uqG G C) : lem_442.1.2.1 = [] ∧ lemOK (PRd G C D xs) G rgs lem_442 := by
  refine ⟨rfl, fun ρ h ha hT => ?_⟩
  obtain ⟨-, -, hF, hG, hH, hA, hP⟩ := ha
  have f0 : (0 : Int) ≤ ((0) + ((1) * ρ 2 + 0)) := hF _ (List.mem_of_getElem? (i := 0) rfl)
  have f1 : (0 : Int) ≤ ((1200) + ((-1) * ρ 2 + 0)) := hF _ (List.mem_of_getElem? (i := 1) rfl)
  have f2 : (0 : Int) ≤ ((0) + ((1) * ρ 3 + 0)) := hF _ (List.mem_of_getElem? (i := 2) rfl)
  have f3 : (0 : Int) ≤ ((0) + ((1) * ρ 2 + ((-1) * ρ 3 + 0))) := hF _ (List.mem_of_getElem? (i := 3) rfl)
  have f4 : (0 : Int) ≤ ((0) + ((1) * ρ 11 + 0)) := hF _ (List.mem_of_getElem? (i := 4) rfl)
  have f5 : (0 : Int) ≤ ((0) + ((1) * ρ 2 + ((-1) * ρ 11 + 0))) := hF _ (List.mem_of_getElem? (i := 5) rfl)
  have f6 : (0 : Int) ≤ ((3) + ((-1) * ρ 9 + 0)) := hF _ (List.mem_of_getElem? (i := 6) rfl)
  have f7 : (0 : Int) ≤ ((0) + ((1) * ρ 5 + 0)) := hF _ (List.mem_of_getElem? (i := 7) rfl)
  have f8 : (0 : Int) ≤ ((6) + ((-1) * ρ 5 + 0)) := hF _ (List.mem_of_getElem? (i := 8) rfl)
  have f9 : (0 : Int) ≤ ((0) + ((1) * ρ 7 + 0)) := hF _ (List.mem_of_getElem? (i := 9) rfl)
  have f10 : (0 : Int) ≤ ((8) + ((-1) * ρ 7 + 0)) := hF _ (List.mem_of_getElem? (i := 10) rfl)
  have f11 : (0 : Int) ≤ ((0) + ((1) * ρ 10 + 0)) := hF _ (List.mem_of_getElem? (i := 11) rfl)
  have f12 : (0 : Int) ≤ ((5) + ((-1) * ρ 10 + 0)) := hF _ (List.mem_of_getElem? (i := 12) rfl)
  have f13 : (0 : Int) ≤ ((0) + ((1) * ρ 9 + 0)) := hF _ (List.mem_of_getElem? (i := 13) rfl)
  have f14 : (0 : Int) ≤ ((4) + ((-1) * ρ 9 + 0)) := hF _ (List.mem_of_getElem? (i := 14) rfl)
  have g0 : G (ρ 0).toNat = 14 := by
    have q := (hG _ (List.mem_of_getElem? (i := 0) rfl)).2
    rwa [show ev ρ (0, [(0, 1)]) = ρ 0 from ev_v] at q
  have g1 : G (ρ 1).toNat = 17 := by
    have q := (hG _ (List.mem_of_getElem? (i := 1) rfl)).2
    rwa [show ev ρ (0, [(1, 1)]) = ρ 1 from ev_v] at q
  have g2 : G (ρ 4).toNat = 11 := by
    have q := (hG _ (List.mem_of_getElem? (i := 2) rfl)).2
    rwa [show ev ρ (0, [(4, 1)]) = ρ 4 from ev_v] at q
  have g3 : G (ρ 6).toNat = 20 := by
    have q := (hG _ (List.mem_of_getElem? (i := 3) rfl)).2
    rwa [show ev ρ (0, [(6, 1)]) = ρ 6 from ev_v] at q
  have g4 : G (ρ 8).toNat = 16 := by
    have q := (hG _ (List.mem_of_getElem? (i := 4) rfl)).2
    rwa [show ev ρ (0, [(8, 1)]) = ρ 8 from ev_v] at q
  have h1 : (0 : Int) ≤ ρ 2 ∧ ρ 2 ≤ 1200 := hf_rg hT (hH _ (List.mem_of_getElem? (i := 1) rfl)) ev_v g1 rfl rfl rfl ev_v
  have h2 : (0 : Int) ≤ ρ 3 ∧ ρ 3 ≤ 1200 := hf_rg hT (hH _ (List.mem_of_getElem? (i := 2) rfl)) ev_v g1 rfl rfl rfl ev_v
  have h4 : (0 : Int) ≤ ρ 5 ∧ ρ 5 ≤ 6 := hf_rg hT (hH _ (List.mem_of_getElem? (i := 4) rfl)) ev_v g2 rfl rfl rfl ev_v
  have h6 : (0 : Int) ≤ ρ 7 ∧ ρ 7 ≤ 8 := hf_rg hT (hH _ (List.mem_of_getElem? (i := 6) rfl)) ev_v g3 rfl rfl rfl ev_v
  have h8 : (0 : Int) ≤ ρ 9 ∧ ρ 9 ≤ 4 := hf_rg hT (hH _ (List.mem_of_getElem? (i := 8) rfl)) ev_v g4 rfl rfl rfl ev_v
  have p0 : q176 G h (16 * ρ 6 + ρ 7) (ρ 10) := c2 (P := q176 G h) (show q176 G h (((0) + ((16) * ρ 6 + ((1) * ρ 7 + 0)))) (((0) + ((1) * ρ 10 + 0))) from hP _ (List.mem_of_getElem? (i := 0) rfl)) (by omega) (by omega)
  have p1 : q158 (tB (vw C h)) (ρ 2 + 2048 * ρ 3) (ρ 11) := c2 (P := q158 (tB (vw C h))) (show q158 (tB (vw C h)) (((0) + ((1) * ρ 2 + ((2048) * ρ 3 + 0)))) (((0) + ((1) * ρ 11 + 0))) from hP _ (List.mem_of_getElem? (i := 1) rfl)) (by omega) (by omega)
  have p2 : q159 (tB (vw C h)) (ρ 2 + 2048 * ρ 11 + 41943040) ((1 : Int)) := c2 (P := q159 (tB (vw C h))) (show q159 (tB (vw C h)) (((41943040) + ((1) * ρ 2 + ((2048) * ρ 11 + 0)))) (((1) + 0)) from hP _ (List.mem_of_getElem? (i := 2) rfl)) (by omega) (by omega)
  have p3 : (qRC 16 (tB (vw C h))) (ρ 2 + 4398046511104 * ρ 5 + 35184372088832 * ρ 7 + 4503599627370496 * ρ 9 + 562949953421312 * ρ 10 + 2048 * ρ 11) (ρ 12) := c2 (P := (qRC 16 (tB (vw C h)))) (show (qRC 16 (tB (vw C h))) (((0) + ((1) * ρ 2 + ((4398046511104) * ρ 5 + ((35184372088832) * ρ 7 + ((4503599627370496) * ρ 9 + ((562949953421312) * ρ 10 + ((2048) * ρ 11 + 0)))))))) (((0) + ((1) * ρ 12 + 0))) from hP _ (List.mem_of_getElem? (i := 3) rfl)) (by omega) (by omega)
  have iw10 : tIsB (tB (vw C h)) (ρ 2).toNat (ρ 11).toNat (wd 10) = true := b01_1 (k159 (n := ρ 2) (s := ρ 11) (w := 10) (by omega) (by omega) (by omega) (by omega) (by omega) (by omega) p2)
  have hkd := (is_el.mp iw10).1
  have nx := k158 (n := ρ 2) (s := ρ 11) (t := ρ 3) (by omega) (by omega) (by omega) (by omega) (by omega) (by omega) p1
  have ng := nx_gt (B := (tB (vw C h))) (n := (ρ 2).toNat) (s := (ρ 11).toNat) (by omega)
  have hc0 := p3.1
  have hR := rc_el (n := ρ 2) (s := ρ 11) (d := (0 : Int)) (K := (0 : Int)) (R := (ρ 5 + 8 * ρ 7 + 1024 * ρ 9 + 128 * ρ 10)) p3 (by omega) (by omega) (by omega) (by omega) (by omega) (by omega) (by omega) (by omega) (by omega) (by omega)
  have q := g_40 hR iw10 (by omega)
  refine ⟨_, List.mem_cons_self, ρ, fun _ _ => rfl, fun q hq => absurd hq List.not_mem_nil, trivial, fun f hf => ?_, fun q hq => absurd hq List.not_mem_nil, fun q hq => absurd hq List.not_mem_nil, fun q hq => absurd hq List.not_mem_nil, fun q hq => ?_⟩
  · simp only [List.mem_cons, List.not_mem_nil, or_false] at hf
    subst hf
    show (0 : Int) ≤ ((-1) + ((1) * ρ 3 + ((-1) * ρ 11 + 0)))
    omega
  · simp only [List.mem_cons, List.not_mem_nil, or_false] at hq
    rcases hq with rfl | rfl | rfl | rfl
    · show (qRC 40 (tB (vw C h))) (((0) + ((1) * ρ 2 + ((2048) * ρ 3 + ((4398046511104) * ρ 5 + ((35184372088832) * ρ 7 + ((4503599627370496) * ρ 9 + ((562949953421312) * ρ 10 + 0)))))))) (((0) + ((1) * ρ 12 + 0)))
      refine c2 (P := (qRC 40 (tB (vw C h)))) (r := ρ 2 + 2048 * ρ 3 + 4398046511104 * ρ 5 + 35184372088832 * ρ 7 + 4503599627370496 * ρ 9 + 562949953421312 * ρ 10) (c := ρ 12) ?_ (by omega) (by omega)
      show (qRC 40 (tB (vw C h))) (ρ 2 + 2048 * ρ 3 + 4398046511104 * ρ 5 + 35184372088832 * ρ 7 + 4503599627370496 * ρ 9 + 562949953421312 * ρ 10) (ρ 12)
      exact rc_in (n := ρ 2) (s := ρ 3) (d := (0 : Int)) (K := (0 : Int)) (R := (ρ 5 + 8 * ρ 7 + 1024 * ρ 9 + 128 * ρ 10)) (by omega) (by omega) (by omega) (by omega) (by omega) (by omega) (by omega) (by omega) (by omega) (by omega) q (by omega) (by omega) (by omega) (by omega) (by omega)
    · show True
      refine c2 (P := (fun (_ _ : Int) => True)) (r := 0) (r' := 0) (c := 0) (c' := 0) ?_ rfl rfl
      show True
      trivial
    · show q167 (((0) + 0)) (((0) + 0))
      refine c2 (P := q167) (r := (0 : Int)) (c := (0 : Int)) ?_ (by omega) (by omega)
      show q167 ((0 : Int)) ((0 : Int))
      exact ⟨by omega, by decide, fun _ => Or.inl (by omega)⟩
    · show q167 (((1) + 0)) (((0) + 0))
      refine c2 (P := q167) (r := (1 : Int)) (c := (0 : Int)) ?_ (by omega) (by omega)
      show q167 ((1 : Int)) ((0 : Int))
      exact ⟨by omega, by decide, fun _ => Or.inl (by omega)⟩
/-- tm40C -/
theorem lem_443_ok (hU : uqG G C) : lem_443.1.2.1 = [] ∧ lemOK (PRd G C D xs) G rgs lem_443 := by
  refine ⟨rfl, fun ρ h ha hT => ?_⟩
  obtain ⟨-, -, hF, hG, hH, hA, hP⟩ := ha
  have f0 : (0 : Int) ≤ ((0) + ((1) * ρ 2 + 0)) := hF _ (List.mem_of_getElem? (i := 0) rfl)
  have f1 : (0 : Int) ≤ ((1200) + ((-1) * ρ 2 + 0)) := hF _ (List.mem_of_getElem? (i := 1) rfl)
  have f2 : (0 : Int) ≤ ((0) + ((1) * ρ 3 + 0)) := hF _ (List.mem_of_getElem? (i := 2) rfl)
  have f3 : (0 : Int) ≤ ((0) + ((1) * ρ 2 + ((-1) * ρ 3 + 0))) := hF _ (List.mem_of_getElem? (i := 3) rfl)
  have f4 : (0 : Int) ≤ ((-4) + ((1) * ρ 9 + 0)) := hF _ (List.mem_of_getElem? (i := 4) rfl)
  have f5 : (0 : Int) ≤ ((0) + ((1) * ρ 5 + 0)) := hF _ (List.mem_of_getElem? (i := 5) rfl)
  have f6 : (0 : Int) ≤ ((6) + ((-1) * ρ 5 + 0)) := hF _ (List.mem_of_getElem? (i := 6) rfl)
  have f7 : (0 : Int) ≤ ((0) + ((1) * ρ 7 + 0)) := hF _ (List.mem_of_getElem? (i := 7) rfl)
  have f8 : (0 : Int) ≤ ((8) + ((-1) * ρ 7 + 0)) := hF _ (List.mem_of_getElem? (i := 8) rfl)
  have f9 : (0 : Int) ≤ ((0) + ((1) * ρ 10 + 0)) := hF _ (List.mem_of_getElem? (i := 9) rfl)
  have f10 : (0 : Int) ≤ ((5) + ((-1) * ρ 10 + 0)) := hF _ (List.mem_of_getElem? (i := 10) rfl)
  have f11 : (0 : Int) ≤ ((0) + ((1) * ρ 9 + 0)) := hF _ (List.mem_of_getElem? (i := 11) rfl)
  have f12 : (0 : Int) ≤ ((4) + ((-1) * ρ 9 + 0)) := hF _ (List.mem_of_getElem? (i := 12) rfl)
  have g0 : G (ρ 0).toNat = 14 := by
    have q := (hG _ (List.mem_of_getElem? (i := 0) rfl)).2
    rwa [show ev ρ (0, [(0, 1)]) = ρ 0 from ev_v] at q
  have g1 : G (ρ 1).toNat = 17 := by
    have q := (hG _ (List.mem_of_getElem? (i := 1) rfl)).2
    rwa [show ev ρ (0, [(1, 1)]) = ρ 1 from ev_v] at q
  have g2 : G (ρ 4).toNat = 11 := by
    have q := (hG _ (List.mem_of_getElem? (i := 2) rfl)).2
    rwa [show ev ρ (0, [(4, 1)]) = ρ 4 from ev_v] at q
  have g3 : G (ρ 6).toNat = 20 := by
    have q := (hG _ (List.mem_of_getElem? (i := 3) rfl)).2
    rwa [show ev ρ (0, [(6, 1)]) = ρ 6 from ev_v] at q
  have g4 : G (ρ 8).toNat = 16 := by
    have q := (hG _ (List.mem_of_getElem? (i := 4) rfl)).2
    rwa [show ev ρ (0, [(8, 1)]) = ρ 8 from ev_v] at q
  have h1 : (0 : Int) ≤ ρ 2 ∧ ρ 2 ≤ 1200 := hf_rg hT (hH _ (List.mem_of_getElem? (i := 1) rfl)) ev_v g1 rfl rfl rfl ev_v
  have h2 : (0 : Int) ≤ ρ 3 ∧ ρ 3 ≤ 1200 := hf_rg hT (hH _ (List.mem_of_getElem? (i := 2) rfl)) ev_v g1 rfl rfl rfl ev_v
  have h4 : (0 : Int) ≤ ρ 5 ∧ ρ 5 ≤ 6 := hf_rg hT (hH _ (List.mem_of_getElem? (i := 4) rfl)) ev_v g2 rfl rfl rfl ev_v
  have h6 : (0 : Int) ≤ ρ 7 ∧ ρ 7 ≤ 8 := hf_rg hT (hH _ (List.mem_of_getElem? (i := 6) rfl)) ev_v g3 rfl rfl rfl ev_v
  have h8 : (0 : Int) ≤ ρ 9 ∧ ρ 9 ≤ 4 := hf_rg hT (hH _ (List.mem_of_getElem? (i := 8) rfl)) ev_v g4 rfl rfl rfl ev_v
  have p0 : q176 G h (16 * ρ 6 + ρ 7) (ρ 10) := c2 (P := q176 G h) (show q176 G h (((0) + ((16) * ρ 6 + ((1) * ρ 7 + 0)))) (((0) + ((1) * ρ 10 + 0))) from hP _ (List.mem_of_getElem? (i := 0) rfl)) (by omega) (by omega)
  have p1 : q159 (tB (vw C h)) (ρ 2 + 2048 * ρ 3 + 41943040) ((1 : Int)) := c2 (P := q159 (tB (vw C h))) (show q159 (tB (vw C h)) (((41943040) + ((1) * ρ 2 + ((2048) * ρ 3 + 0)))) (((1) + 0)) from hP _ (List.mem_of_getElem? (i := 1) rfl)) (by omega) (by omega)
  have p2 : (qRC 16 (tB (vw C h))) (ρ 2 + 2048 * ρ 3 + 4398046511104 * ρ 5 + 35184372088832 * ρ 7 + 4503599627370496 * ρ 9 + 562949953421312 * ρ 10) (ρ 11) := c2 (P := (qRC 16 (tB (vw C h)))) (show (qRC 16 (tB (vw C h))) (((0) + ((1) * ρ 2 + ((2048) * ρ 3 + ((4398046511104) * ρ 5 + ((35184372088832) * ρ 7 + ((4503599627370496) * ρ 9 + ((562949953421312) * ρ 10 + 0)))))))) (((0) + ((1) * ρ 11 + 0))) from hP _ (List.mem_of_getElem? (i := 2) rfl)) (by omega) (by omega)
  have iw10 : tIsB (tB (vw C h)) (ρ 2).toNat (ρ 3).toNat (wd 10) = true := b01_1 (k159 (n := ρ 2) (s := ρ 3) (w := 10) (by omega) (by omega) (by omega) (by omega) (by omega) (by omega) p1)
  have hkd := (is_el.mp iw10).1
  have hc0 := p2.1
  have hR := rc_el (n := ρ 2) (s := ρ 3) (d := (0 : Int)) (K := (0 : Int)) (R := (ρ 5 + 8 * ρ 7 + 1024 * ρ 9 + 128 * ρ 10)) p2 (by omega) (by omega) (by omega) (by omega) (by omega) (by omega) (by omega) (by omega) (by omega) (by omega)
  have q := o_40 hR iw10 (by omega)
  refine ⟨_, List.mem_cons_self, ρ, fun _ _ => rfl, fun q hq => absurd hq List.not_mem_nil, trivial, fun f hf => ?_, fun q hq => absurd hq List.not_mem_nil, fun q hq => absurd hq List.not_mem_nil, fun q hq => absurd hq List.not_mem_nil, fun q hq => ?_⟩
  · exact absurd hf List.not_mem_nil
  · simp only [List.mem_cons, List.not_mem_nil, or_false] at hq
    subst hq
    show q166 (tB (vw C h)) (((0) + ((1) * ρ 2 + 0))) (((16384) + ((1) * ρ 3 + 0)))
    refine c2 (P := q166 (tB (vw C h))) (r := ρ 2) (c := ρ 3 + 16384) ?_ (by omega) (by omega)
    show q166 (tB (vw C h)) (ρ 2) (ρ 3 + 16384)
    exact o166 (k := 16384) (n := ρ 2) (s := ρ 3) (by omega) q (by omega) rfl (by omega)
/-- lnNoC -/
theorem lem_444_ok (hU : uqG G C) : lem_444.1.2.1 = [] ∧ lemOK (PRd G C D xs) G rgs lem_444 := by
  refine ⟨rfl, fun ρ h ha hT => ?_⟩
  obtain ⟨-, -, hF, hG, hH, hA, hP⟩ := ha
  have f0 : (0 : Int) ≤ ((0) + ((1) * ρ 2 + 0)) := hF _ (List.mem_of_getElem? (i := 0) rfl)
  have f1 : (0 : Int) ≤ ((1200) + ((-1) * ρ 2 + 0)) := hF _ (List.mem_of_getElem? (i := 1) rfl)
  have f2 : (0 : Int) ≤ ((0) + ((1) * ρ 3 + 0)) := hF _ (List.mem_of_getElem? (i := 2) rfl)
  have f3 : (0 : Int) ≤ ((0) + ((1) * ρ 2 + ((-1) * ρ 3 + 0))) := hF _ (List.mem_of_getElem? (i := 3) rfl)
  have f4 : (0 : Int) ≤ ((0) + ((1) * ρ 5 + 0)) := hF _ (List.mem_of_getElem? (i := 4) rfl)
  have f5 : (0 : Int) ≤ ((6) + ((-1) * ρ 5 + 0)) := hF _ (List.mem_of_getElem? (i := 5) rfl)
  have f6 : (0 : Int) ≤ ((0) + ((1) * ρ 7 + 0)) := hF _ (List.mem_of_getElem? (i := 6) rfl)
  have f7 : (0 : Int) ≤ ((8) + ((-1) * ρ 7 + 0)) := hF _ (List.mem_of_getElem? (i := 7) rfl)
  have f8 : (0 : Int) ≤ ((0) + ((1) * ρ 10 + 0)) := hF _ (List.mem_of_getElem? (i := 8) rfl)
  have f9 : (0 : Int) ≤ ((5) + ((-1) * ρ 10 + 0)) := hF _ (List.mem_of_getElem? (i := 9) rfl)
  have f10 : (0 : Int) ≤ ((0) + ((1) * ρ 9 + 0)) := hF _ (List.mem_of_getElem? (i := 10) rfl)
  have f11 : (0 : Int) ≤ ((4) + ((-1) * ρ 9 + 0)) := hF _ (List.mem_of_getElem? (i := 11) rfl)
  have g0 : G (ρ 0).toNat = 14 := by
    have q := (hG _ (List.mem_of_getElem? (i := 0) rfl)).2
    rwa [show ev ρ (0, [(0, 1)]) = ρ 0 from ev_v] at q
  have g1 : G (ρ 1).toNat = 17 := by
    have q := (hG _ (List.mem_of_getElem? (i := 1) rfl)).2
    rwa [show ev ρ (0, [(1, 1)]) = ρ 1 from ev_v] at q
  have g2 : G (ρ 4).toNat = 11 := by
    have q := (hG _ (List.mem_of_getElem? (i := 2) rfl)).2
    rwa [show ev ρ (0, [(4, 1)]) = ρ 4 from ev_v] at q
  have g3 : G (ρ 6).toNat = 20 := by
    have q := (hG _ (List.mem_of_getElem? (i := 3) rfl)).2
    rwa [show ev ρ (0, [(6, 1)]) = ρ 6 from ev_v] at q
  have g4 : G (ρ 8).toNat = 16 := by
    have q := (hG _ (List.mem_of_getElem? (i := 4) rfl)).2
    rwa [show ev ρ (0, [(8, 1)]) = ρ 8 from ev_v] at q
  have h1 : (0 : Int) ≤ ρ 2 ∧ ρ 2 ≤ 1200 := hf_rg hT (hH _ (List.mem_of_getElem? (i := 1) rfl)) ev_v g1 rfl rfl rfl ev_v
  have h2 : (0 : Int) ≤ ρ 3 ∧ ρ 3 ≤ 1200 := hf_rg hT (hH _ (List.mem_of_getElem? (i := 2) rfl)) ev_v g1 rfl rfl rfl ev_v
  have h4 : (0 : Int) ≤ ρ 5 ∧ ρ 5 ≤ 6 := hf_rg hT (hH _ (List.mem_of_getElem? (i := 4) rfl)) ev_v g2 rfl rfl rfl ev_v
  have h6 : (0 : Int) ≤ ρ 7 ∧ ρ 7 ≤ 8 := hf_rg hT (hH _ (List.mem_of_getElem? (i := 6) rfl)) ev_v g3 rfl rfl rfl ev_v
  have h8 : (0 : Int) ≤ ρ 9 ∧ ρ 9 ≤ 4 := hf_rg hT (hH _ (List.mem_of_getElem? (i := 8) rfl)) ev_v g4 rfl rfl rfl ev_v
  have p0 : q176 G h (16 * ρ 6 + ρ 7) (ρ 10) := c2 (P := q176 G h) (show q176 G h (((0) + ((16) * ρ 6 + ((1) * ρ 7 + 0)))) (((0) + ((1) * ρ 10 + 0))) from hP _ (List.mem_of_getElem? (i := 0) rfl)) (by omega) (by omega)
  have p1 : q159 (tB (vw C h)) (ρ 2 + 2048 * ρ 3 + 29360128) ((0 : Int)) := c2 (P := q159 (tB (vw C h))) (show q159 (tB (vw C h)) (((29360128) + ((1) * ρ 2 + ((2048) * ρ 3 + 0)))) (((0) + 0)) from hP _ (List.mem_of_getElem? (i := 1) rfl)) (by omega) (by omega)
  have p2 : q159 (tB (vw C h)) (ρ 2 + 2048 * ρ 3 + 33554432) ((0 : Int)) := c2 (P := q159 (tB (vw C h))) (show q159 (tB (vw C h)) (((33554432) + ((1) * ρ 2 + ((2048) * ρ 3 + 0)))) (((0) + 0)) from hP _ (List.mem_of_getElem? (i := 2) rfl)) (by omega) (by omega)
  have p3 : q159 (tB (vw C h)) (ρ 2 + 2048 * ρ 3 + 37748736) ((0 : Int)) := c2 (P := q159 (tB (vw C h))) (show q159 (tB (vw C h)) (((37748736) + ((1) * ρ 2 + ((2048) * ρ 3 + 0)))) (((0) + 0)) from hP _ (List.mem_of_getElem? (i := 3) rfl)) (by omega) (by omega)
  have p4 : q159 (tB (vw C h)) (ρ 2 + 2048 * ρ 3 + 41943040) ((0 : Int)) := c2 (P := q159 (tB (vw C h))) (show q159 (tB (vw C h)) (((41943040) + ((1) * ρ 2 + ((2048) * ρ 3 + 0)))) (((0) + 0)) from hP _ (List.mem_of_getElem? (i := 4) rfl)) (by omega) (by omega)
  have p5 : (qRC 16 (tB (vw C h))) (ρ 2 + 2048 * ρ 3 + 4398046511104 * ρ 5 + 35184372088832 * ρ 7 + 4503599627370496 * ρ 9 + 562949953421312 * ρ 10) (ρ 11) := c2 (P := (qRC 16 (tB (vw C h)))) (show (qRC 16 (tB (vw C h))) (((0) + ((1) * ρ 2 + ((2048) * ρ 3 + ((4398046511104) * ρ 5 + ((35184372088832) * ρ 7 + ((4503599627370496) * ρ 9 + ((562949953421312) * ρ 10 + 0)))))))) (((0) + ((1) * ρ 11 + 0))) from hP _ (List.mem_of_getElem? (i := 5) rfl)) (by omega) (by omega)
  have iw7 : tIsB (tB (vw C h)) (ρ 2).toNat (ρ 3).toNat (wd 7) = false := b01_0 (k159 (n := ρ 2) (s := ρ 3) (w := 7) (by omega) (by omega) (by omega) (by omega) (by omega) (by omega) p1)
  have iw8 : tIsB (tB (vw C h)) (ρ 2).toNat (ρ 3).toNat (wd 8) = false := b01_0 (k159 (n := ρ 2) (s := ρ 3) (w := 8) (by omega) (by omega) (by omega) (by omega) (by omega) (by omega) p2)
  have iw9 : tIsB (tB (vw C h)) (ρ 2).toNat (ρ 3).toNat (wd 9) = false := b01_0 (k159 (n := ρ 2) (s := ρ 3) (w := 9) (by omega) (by omega) (by omega) (by omega) (by omega) (by omega) p3)
  have iw10 : tIsB (tB (vw C h)) (ρ 2).toNat (ρ 3).toNat (wd 10) = false := b01_0 (k159 (n := ρ 2) (s := ρ 3) (w := 10) (by omega) (by omega) (by omega) (by omega) (by omega) (by omega) p4)
  have hc0 := p5.1
  have hR := rc_el (n := ρ 2) (s := ρ 3) (d := (0 : Int)) (K := (0 : Int)) (R := (ρ 5 + 8 * ρ 7 + 1024 * ρ 9 + 128 * ρ 10)) p5 (by omega) (by omega) (by omega) (by omega) (by omega) (by omega) (by omega) (by omega) (by omega) (by omega)
  have q := o_16 hR iw7 iw8 iw9 iw10
  refine ⟨_, List.mem_cons_self, ρ, fun _ _ => rfl, fun q hq => absurd hq List.not_mem_nil, trivial, fun f hf => ?_, fun q hq => absurd hq List.not_mem_nil, fun q hq => absurd hq List.not_mem_nil, fun q hq => absurd hq List.not_mem_nil, fun q hq => ?_⟩
  · exact absurd hf List.not_mem_nil
  · simp only [List.mem_cons, List.not_mem_nil, or_false] at hq
    subst hq
    show q166 (tB (vw C h)) (((0) + ((1) * ρ 2 + 0))) (((4096) + ((1) * ρ 3 + 0)))
    refine c2 (P := q166 (tB (vw C h))) (r := ρ 2) (c := ρ 3 + 4096) ?_ (by omega) (by omega)
    show q166 (tB (vw C h)) (ρ 2) (ρ 3 + 4096)
    exact o166 (k := 4096) (n := ρ 2) (s := ρ 3) (by omega) q (by omega) rfl (by omega)
/-- gp23C -/
theorem lem_445_ok (hU : uqG G C) : lem_445.1.2.1 = [] ∧ lemOK (PRd G C D xs) G rgs lem_445 := by
  refine ⟨rfl, fun ρ h ha hT => ?_⟩
  obtain ⟨-, -, hF, hG, hH, hA, hP⟩ := ha
  have f0 : (0 : Int) ≤ ((0) + ((1) * ρ 2 + 0)) := hF _ (List.mem_of_getElem? (i := 0) rfl)
  have f1 : (0 : Int) ≤ ((1200) + ((-1) * ρ 2 + 0)) := hF _ (List.mem_of_getElem? (i := 1) rfl)
  have f2 : (0 : Int) ≤ ((0) + ((1) * ρ 3 + 0)) := hF _ (List.mem_of_getElem? (i := 2) rfl)
  have f3 : (0 : Int) ≤ ((0) + ((1) * ρ 2 + ((-1) * ρ 3 + 0))) := hF _ (List.mem_of_getElem? (i := 3) rfl)
  have f4 : (0 : Int) ≤ ((0) + ((1) * ρ 11 + 0)) := hF _ (List.mem_of_getElem? (i := 4) rfl)
  have f5 : (0 : Int) ≤ ((0) + ((1) * ρ 2 + ((-1) * ρ 11 + 0))) := hF _ (List.mem_of_getElem? (i := 5) rfl)
  have f6 : (0 : Int) ≤ ((0) + ((1) * ρ 5 + 0)) := hF _ (List.mem_of_getElem? (i := 6) rfl)
  have f7 : (0 : Int) ≤ ((6) + ((-1) * ρ 5 + 0)) := hF _ (List.mem_of_getElem? (i := 7) rfl)
  have f8 : (0 : Int) ≤ ((0) + ((1) * ρ 7 + 0)) := hF _ (List.mem_of_getElem? (i := 8) rfl)
  have f9 : (0 : Int) ≤ ((8) + ((-1) * ρ 7 + 0)) := hF _ (List.mem_of_getElem? (i := 9) rfl)
  have f10 : (0 : Int) ≤ ((0) + ((1) * ρ 10 + 0)) := hF _ (List.mem_of_getElem? (i := 10) rfl)
  have f11 : (0 : Int) ≤ ((5) + ((-1) * ρ 10 + 0)) := hF _ (List.mem_of_getElem? (i := 11) rfl)
  have f12 : (0 : Int) ≤ ((0) + ((1) * ρ 9 + 0)) := hF _ (List.mem_of_getElem? (i := 12) rfl)
  have f13 : (0 : Int) ≤ ((4) + ((-1) * ρ 9 + 0)) := hF _ (List.mem_of_getElem? (i := 13) rfl)
  have g0 : G (ρ 0).toNat = 14 := by
    have q := (hG _ (List.mem_of_getElem? (i := 0) rfl)).2
    rwa [show ev ρ (0, [(0, 1)]) = ρ 0 from ev_v] at q
  have g1 : G (ρ 1).toNat = 17 := by
    have q := (hG _ (List.mem_of_getElem? (i := 1) rfl)).2
    rwa [show ev ρ (0, [(1, 1)]) = ρ 1 from ev_v] at q
  have g2 : G (ρ 4).toNat = 11 := by
    have q := (hG _ (List.mem_of_getElem? (i := 2) rfl)).2
    rwa [show ev ρ (0, [(4, 1)]) = ρ 4 from ev_v] at q
  have g3 : G (ρ 6).toNat = 20 := by
    have q := (hG _ (List.mem_of_getElem? (i := 3) rfl)).2
    rwa [show ev ρ (0, [(6, 1)]) = ρ 6 from ev_v] at q
  have g4 : G (ρ 8).toNat = 16 := by
    have q := (hG _ (List.mem_of_getElem? (i := 4) rfl)).2
    rwa [show ev ρ (0, [(8, 1)]) = ρ 8 from ev_v] at q
  have h1 : (0 : Int) ≤ ρ 2 ∧ ρ 2 ≤ 1200 := hf_rg hT (hH _ (List.mem_of_getElem? (i := 1) rfl)) ev_v g1 rfl rfl rfl ev_v
  have h2 : (0 : Int) ≤ ρ 3 ∧ ρ 3 ≤ 1200 := hf_rg hT (hH _ (List.mem_of_getElem? (i := 2) rfl)) ev_v g1 rfl rfl rfl ev_v
  have h4 : (0 : Int) ≤ ρ 5 ∧ ρ 5 ≤ 6 := hf_rg hT (hH _ (List.mem_of_getElem? (i := 4) rfl)) ev_v g2 rfl rfl rfl ev_v
  have h6 : (0 : Int) ≤ ρ 7 ∧ ρ 7 ≤ 8 := hf_rg hT (hH _ (List.mem_of_getElem? (i := 6) rfl)) ev_v g3 rfl rfl rfl ev_v
  have h8 : (0 : Int) ≤ ρ 9 ∧ ρ 9 ≤ 4 := hf_rg hT (hH _ (List.mem_of_getElem? (i := 8) rfl)) ev_v g4 rfl rfl rfl ev_v
  have p0 : q176 G h (16 * ρ 6 + ρ 7) (ρ 10) := c2 (P := q176 G h) (show q176 G h (((0) + ((16) * ρ 6 + ((1) * ρ 7 + 0)))) (((0) + ((1) * ρ 10 + 0))) from hP _ (List.mem_of_getElem? (i := 0) rfl)) (by omega) (by omega)
  have p1 : q158 (tB (vw C h)) (ρ 2 + 2048 * ρ 3) (ρ 11) := c2 (P := q158 (tB (vw C h))) (show q158 (tB (vw C h)) (((0) + ((1) * ρ 2 + ((2048) * ρ 3 + 0)))) (((0) + ((1) * ρ 11 + 0))) from hP _ (List.mem_of_getElem? (i := 1) rfl)) (by omega) (by omega)
  have p2 : q159 (tB (vw C h)) (ρ 2 + 2048 * ρ 11 + 46137344) ((1 : Int)) := c2 (P := q159 (tB (vw C h))) (show q159 (tB (vw C h)) (((46137344) + ((1) * ρ 2 + ((2048) * ρ 11 + 0)))) (((1) + 0)) from hP _ (List.mem_of_getElem? (i := 2) rfl)) (by omega) (by omega)
  have p3 : (qRC 22 (tB (vw C h))) (ρ 2 + 4398046511104 * ρ 5 + 35184372088832 * ρ 7 + 4503599627370496 * ρ 9 + 562949953421312 * ρ 10 + 2048 * ρ 11) (ρ 12) := c2 (P := (qRC 22 (tB (vw C h)))) (show (qRC 22 (tB (vw C h))) (((0) + ((1) * ρ 2 + ((4398046511104) * ρ 5 + ((35184372088832) * ρ 7 + ((4503599627370496) * ρ 9 + ((562949953421312) * ρ 10 + ((2048) * ρ 11 + 0)))))))) (((0) + ((1) * ρ 12 + 0))) from hP _ (List.mem_of_getElem? (i := 3) rfl)) (by omega) (by omega)
  have iw11 : tIsB (tB (vw C h)) (ρ 2).toNat (ρ 11).toNat (wd 11) = true := b01_1 (k159 (n := ρ 2) (s := ρ 11) (w := 11) (by omega) (by omega) (by omega) (by omega) (by omega) (by omega) p2)
  have hkd := (is_el.mp iw11).1
  have nx := k158 (n := ρ 2) (s := ρ 11) (t := ρ 3) (by omega) (by omega) (by omega) (by omega) (by omega) (by omega) p1
  have ng := nx_gt (B := (tB (vw C h))) (n := (ρ 2).toNat) (s := (ρ 11).toNat) (by omega)
  have hc0 := p3.1
  have hR := rc_el (n := ρ 2) (s := ρ 11) (d := (0 : Int)) (K := (0 : Int)) (R := (ρ 5 + 8 * ρ 7 + 1024 * ρ 9 + 128 * ρ 10)) p3 (by omega) (by omega) (by omega) (by omega) (by omega) (by omega) (by omega) (by omega) (by omega) (by omega)
  have q := g_23 hR iw11
  refine ⟨_, List.mem_cons_self, ρ, fun _ _ => rfl, fun q hq => absurd hq List.not_mem_nil, trivial, fun f hf => ?_, fun q hq => absurd hq List.not_mem_nil, fun q hq => absurd hq List.not_mem_nil, fun q hq => absurd hq List.not_mem_nil, fun q hq => ?_⟩
  · simp only [List.mem_cons, List.not_mem_nil, or_false] at hf
    subst hf
    show (0 : Int) ≤ ((-1) + ((1) * ρ 3 + ((-1) * ρ 11 + 0)))
    omega
  · simp only [List.mem_cons, List.not_mem_nil, or_false] at hq
    subst hq
    show (qRC 23 (tB (vw C h))) (((0) + ((1) * ρ 2 + ((2048) * ρ 3 + ((4398046511104) * ρ 5 + ((35184372088832) * ρ 7 + ((4503599627370496) * ρ 9 + ((562949953421312) * ρ 10 + 0)))))))) (((0) + ((1) * ρ 12 + 0)))
    refine c2 (P := (qRC 23 (tB (vw C h)))) (r := ρ 2 + 2048 * ρ 3 + 4398046511104 * ρ 5 + 35184372088832 * ρ 7 + 4503599627370496 * ρ 9 + 562949953421312 * ρ 10) (c := ρ 12) ?_ (by omega) (by omega)
    show (qRC 23 (tB (vw C h))) (ρ 2 + 2048 * ρ 3 + 4398046511104 * ρ 5 + 35184372088832 * ρ 7 + 4503599627370496 * ρ 9 + 562949953421312 * ρ 10) (ρ 12)
    exact rc_in (n := ρ 2) (s := ρ 3) (d := (0 : Int)) (K := (0 : Int)) (R := (ρ 5 + 8 * ρ 7 + 1024 * ρ 9 + 128 * ρ 10)) (by omega) (by omega) (by omega) (by omega) (by omega) (by omega) (by omega) (by omega) (by omega) (by omega) q (by omega) (by omega) (by omega) (by omega) (by omega)
/-- gp15C -/
theorem lem_446_ok (hU : uqG G C) : lem_446.1.2.1 = [] ∧ lemOK (PRd G C D xs) G rgs lem_446 := by
  refine ⟨rfl, fun ρ h ha hT => ?_⟩
  obtain ⟨-, -, hF, hG, hH, hA, hP⟩ := ha
  have f0 : (0 : Int) ≤ ((0) + ((1) * ρ 2 + 0)) := hF _ (List.mem_of_getElem? (i := 0) rfl)
  have f1 : (0 : Int) ≤ ((1200) + ((-1) * ρ 2 + 0)) := hF _ (List.mem_of_getElem? (i := 1) rfl)
  have f2 : (0 : Int) ≤ ((0) + ((1) * ρ 3 + 0)) := hF _ (List.mem_of_getElem? (i := 2) rfl)
  have f3 : (0 : Int) ≤ ((0) + ((1) * ρ 2 + ((-1) * ρ 3 + 0))) := hF _ (List.mem_of_getElem? (i := 3) rfl)
  have f4 : (0 : Int) ≤ ((0) + ((1) * ρ 5 + 0)) := hF _ (List.mem_of_getElem? (i := 4) rfl)
  have f5 : (0 : Int) ≤ ((6) + ((-1) * ρ 5 + 0)) := hF _ (List.mem_of_getElem? (i := 5) rfl)
  have f6 : (0 : Int) ≤ ((0) + ((1) * ρ 7 + 0)) := hF _ (List.mem_of_getElem? (i := 6) rfl)
  have f7 : (0 : Int) ≤ ((8) + ((-1) * ρ 7 + 0)) := hF _ (List.mem_of_getElem? (i := 7) rfl)
  have f8 : (0 : Int) ≤ ((0) + ((1) * ρ 10 + 0)) := hF _ (List.mem_of_getElem? (i := 8) rfl)
  have f9 : (0 : Int) ≤ ((5) + ((-1) * ρ 10 + 0)) := hF _ (List.mem_of_getElem? (i := 9) rfl)
  have f10 : (0 : Int) ≤ ((0) + ((1) * ρ 9 + 0)) := hF _ (List.mem_of_getElem? (i := 10) rfl)
  have f11 : (0 : Int) ≤ ((4) + ((-1) * ρ 9 + 0)) := hF _ (List.mem_of_getElem? (i := 11) rfl)
  have g0 : G (ρ 0).toNat = 14 := by
    have q := (hG _ (List.mem_of_getElem? (i := 0) rfl)).2
    rwa [show ev ρ (0, [(0, 1)]) = ρ 0 from ev_v] at q
  have g1 : G (ρ 1).toNat = 17 := by
    have q := (hG _ (List.mem_of_getElem? (i := 1) rfl)).2
    rwa [show ev ρ (0, [(1, 1)]) = ρ 1 from ev_v] at q
  have g2 : G (ρ 4).toNat = 11 := by
    have q := (hG _ (List.mem_of_getElem? (i := 2) rfl)).2
    rwa [show ev ρ (0, [(4, 1)]) = ρ 4 from ev_v] at q
  have g3 : G (ρ 6).toNat = 20 := by
    have q := (hG _ (List.mem_of_getElem? (i := 3) rfl)).2
    rwa [show ev ρ (0, [(6, 1)]) = ρ 6 from ev_v] at q
  have g4 : G (ρ 8).toNat = 16 := by
    have q := (hG _ (List.mem_of_getElem? (i := 4) rfl)).2
    rwa [show ev ρ (0, [(8, 1)]) = ρ 8 from ev_v] at q
  have h1 : (0 : Int) ≤ ρ 2 ∧ ρ 2 ≤ 1200 := hf_rg hT (hH _ (List.mem_of_getElem? (i := 1) rfl)) ev_v g1 rfl rfl rfl ev_v
  have h2 : (0 : Int) ≤ ρ 3 ∧ ρ 3 ≤ 1200 := hf_rg hT (hH _ (List.mem_of_getElem? (i := 2) rfl)) ev_v g1 rfl rfl rfl ev_v
  have h4 : (0 : Int) ≤ ρ 5 ∧ ρ 5 ≤ 6 := hf_rg hT (hH _ (List.mem_of_getElem? (i := 4) rfl)) ev_v g2 rfl rfl rfl ev_v
  have h6 : (0 : Int) ≤ ρ 7 ∧ ρ 7 ≤ 8 := hf_rg hT (hH _ (List.mem_of_getElem? (i := 6) rfl)) ev_v g3 rfl rfl rfl ev_v
  have h8 : (0 : Int) ≤ ρ 9 ∧ ρ 9 ≤ 4 := hf_rg hT (hH _ (List.mem_of_getElem? (i := 8) rfl)) ev_v g4 rfl rfl rfl ev_v
  have p0 : q176 G h (16 * ρ 6 + ρ 7) (ρ 10) := c2 (P := q176 G h) (show q176 G h (((0) + ((16) * ρ 6 + ((1) * ρ 7 + 0)))) (((0) + ((1) * ρ 10 + 0))) from hP _ (List.mem_of_getElem? (i := 0) rfl)) (by omega) (by omega)
  have p1 : q159 (tB (vw C h)) (ρ 2 + 2048 * ρ 3 + 46137344) ((0 : Int)) := c2 (P := q159 (tB (vw C h))) (show q159 (tB (vw C h)) (((46137344) + ((1) * ρ 2 + ((2048) * ρ 3 + 0)))) (((0) + 0)) from hP _ (List.mem_of_getElem? (i := 1) rfl)) (by omega) (by omega)
  have p2 : (qRC 22 (tB (vw C h))) (ρ 2 + 2048 * ρ 3 + 4398046511104 * ρ 5 + 35184372088832 * ρ 7 + 4503599627370496 * ρ 9 + 562949953421312 * ρ 10) (ρ 11) := c2 (P := (qRC 22 (tB (vw C h)))) (show (qRC 22 (tB (vw C h))) (((0) + ((1) * ρ 2 + ((2048) * ρ 3 + ((4398046511104) * ρ 5 + ((35184372088832) * ρ 7 + ((4503599627370496) * ρ 9 + ((562949953421312) * ρ 10 + 0)))))))) (((0) + ((1) * ρ 11 + 0))) from hP _ (List.mem_of_getElem? (i := 2) rfl)) (by omega) (by omega)
  have iw11 : tIsB (tB (vw C h)) (ρ 2).toNat (ρ 3).toNat (wd 11) = false := b01_0 (k159 (n := ρ 2) (s := ρ 3) (w := 11) (by omega) (by omega) (by omega) (by omega) (by omega) (by omega) p1)
  have hc0 := p2.1
  have hR := rc_el (n := ρ 2) (s := ρ 3) (d := (0 : Int)) (K := (0 : Int)) (R := (ρ 5 + 8 * ρ 7 + 1024 * ρ 9 + 128 * ρ 10)) p2 (by omega) (by omega) (by omega) (by omega) (by omega) (by omega) (by omega) (by omega) (by omega) (by omega)
  have q := g_22 hR iw11
  refine ⟨_, List.mem_cons_self, ρ, fun _ _ => rfl, fun q hq => absurd hq List.not_mem_nil, trivial, fun f hf => ?_, fun q hq => absurd hq List.not_mem_nil, fun q hq => absurd hq List.not_mem_nil, fun q hq => absurd hq List.not_mem_nil, fun q hq => ?_⟩
  · exact absurd hf List.not_mem_nil
  · simp only [List.mem_cons, List.not_mem_nil, or_false] at hq
    subst hq
    show (qRC 15 (tB (vw C h))) (((0) + ((1) * ρ 2 + ((2048) * ρ 3 + ((4398046511104) * ρ 5 + ((35184372088832) * ρ 7 + ((4503599627370496) * ρ 9 + ((562949953421312) * ρ 10 + 0)))))))) (((0) + ((1) * ρ 11 + 0)))
    refine c2 (P := (qRC 15 (tB (vw C h)))) (r := ρ 2 + 2048 * ρ 3 + 4398046511104 * ρ 5 + 35184372088832 * ρ 7 + 4503599627370496 * ρ 9 + 562949953421312 * ρ 10) (c := ρ 11) ?_ (by omega) (by omega)
    show (qRC 15 (tB (vw C h))) (ρ 2 + 2048 * ρ 3 + 4398046511104 * ρ 5 + 35184372088832 * ρ 7 + 4503599627370496 * ρ 9 + 562949953421312 * ρ 10) (ρ 11)
    exact rc_in (n := ρ 2) (s := ρ 3) (d := (0 : Int)) (K := (0 : Int)) (R := (ρ 5 + 8 * ρ 7 + 1024 * ρ 9 + 128 * ρ 10)) (by omega) (by omega) (by omega) (by omega) (by omega) (by omega) (by omega) (by omega) (by omega) (by omega) q (by omega) (by omega) (by omega) (by omega) (by omega)
/-- ev30C -/
theorem lem_447_ok (hU : uqG G C) : lem_447.1.2.1 = [] ∧ lemOK (PRd G C D xs) G rgs lem_447 := by
  refine ⟨rfl, fun ρ h ha hT => ?_⟩
  obtain ⟨-, -, hF, hG, hH, hA, hP⟩ := ha
  have f0 : (0 : Int) ≤ ((0) + ((1) * ρ 2 + 0)) := hF _ (List.mem_of_getElem? (i := 0) rfl)
  have f1 : (0 : Int) ≤ ((1200) + ((-1) * ρ 2 + 0)) := hF _ (List.mem_of_getElem? (i := 1) rfl)
  have f2 : (0 : Int) ≤ ((0) + ((1) * ρ 3 + 0)) := hF _ (List.mem_of_getElem? (i := 2) rfl)
  have f3 : (0 : Int) ≤ ((0) + ((1) * ρ 2 + ((-1) * ρ 3 + 0))) := hF _ (List.mem_of_getElem? (i := 3) rfl)
  have f4 : (0 : Int) ≤ ((0) + ((1) * ρ 11 + 0)) := hF _ (List.mem_of_getElem? (i := 4) rfl)
  have f5 : (0 : Int) ≤ ((0) + ((1) * ρ 2 + ((-1) * ρ 11 + 0))) := hF _ (List.mem_of_getElem? (i := 5) rfl)
  have f6 : (0 : Int) ≤ ((0) + ((1) * ρ 5 + 0)) := hF _ (List.mem_of_getElem? (i := 6) rfl)
  have f7 : (0 : Int) ≤ ((6) + ((-1) * ρ 5 + 0)) := hF _ (List.mem_of_getElem? (i := 7) rfl)
  have f8 : (0 : Int) ≤ ((0) + ((1) * ρ 7 + 0)) := hF _ (List.mem_of_getElem? (i := 8) rfl)
  have f9 : (0 : Int) ≤ ((8) + ((-1) * ρ 7 + 0)) := hF _ (List.mem_of_getElem? (i := 9) rfl)
  have f10 : (0 : Int) ≤ ((0) + ((1) * ρ 10 + 0)) := hF _ (List.mem_of_getElem? (i := 10) rfl)
  have f11 : (0 : Int) ≤ ((5) + ((-1) * ρ 10 + 0)) := hF _ (List.mem_of_getElem? (i := 11) rfl)
  have f12 : (0 : Int) ≤ ((0) + ((1) * ρ 9 + 0)) := hF _ (List.mem_of_getElem? (i := 12) rfl)
  have f13 : (0 : Int) ≤ ((4) + ((-1) * ρ 9 + 0)) := hF _ (List.mem_of_getElem? (i := 13) rfl)
  have g0 : G (ρ 0).toNat = 14 := by
    have q := (hG _ (List.mem_of_getElem? (i := 0) rfl)).2
    rwa [show ev ρ (0, [(0, 1)]) = ρ 0 from ev_v] at q
  have g1 : G (ρ 1).toNat = 17 := by
    have q := (hG _ (List.mem_of_getElem? (i := 1) rfl)).2
    rwa [show ev ρ (0, [(1, 1)]) = ρ 1 from ev_v] at q
  have g2 : G (ρ 4).toNat = 11 := by
    have q := (hG _ (List.mem_of_getElem? (i := 2) rfl)).2
    rwa [show ev ρ (0, [(4, 1)]) = ρ 4 from ev_v] at q
  have g3 : G (ρ 6).toNat = 20 := by
    have q := (hG _ (List.mem_of_getElem? (i := 3) rfl)).2
    rwa [show ev ρ (0, [(6, 1)]) = ρ 6 from ev_v] at q
  have g4 : G (ρ 8).toNat = 16 := by
    have q := (hG _ (List.mem_of_getElem? (i := 4) rfl)).2
    rwa [show ev ρ (0, [(8, 1)]) = ρ 8 from ev_v] at q
  have h1 : (0 : Int) ≤ ρ 2 ∧ ρ 2 ≤ 1200 := hf_rg hT (hH _ (List.mem_of_getElem? (i := 1) rfl)) ev_v g1 rfl rfl rfl ev_v
  have h2 : (0 : Int) ≤ ρ 3 ∧ ρ 3 ≤ 1200 := hf_rg hT (hH _ (List.mem_of_getElem? (i := 2) rfl)) ev_v g1 rfl rfl rfl ev_v
  have h4 : (0 : Int) ≤ ρ 5 ∧ ρ 5 ≤ 6 := hf_rg hT (hH _ (List.mem_of_getElem? (i := 4) rfl)) ev_v g2 rfl rfl rfl ev_v
  have h6 : (0 : Int) ≤ ρ 7 ∧ ρ 7 ≤ 8 := hf_rg hT (hH _ (List.mem_of_getElem? (i := 6) rfl)) ev_v g3 rfl rfl rfl ev_v
  have h8 : (0 : Int) ≤ ρ 9 ∧ ρ 9 ≤ 4 := hf_rg hT (hH _ (List.mem_of_getElem? (i := 8) rfl)) ev_v g4 rfl rfl rfl ev_v
  have p0 : q176 G h (16 * ρ 6 + ρ 7) (ρ 10) := c2 (P := q176 G h) (show q176 G h (((0) + ((16) * ρ 6 + ((1) * ρ 7 + 0)))) (((0) + ((1) * ρ 10 + 0))) from hP _ (List.mem_of_getElem? (i := 0) rfl)) (by omega) (by omega)
  have p1 : q158 (tB (vw C h)) (ρ 2 + 2048 * ρ 3) (ρ 11) := c2 (P := q158 (tB (vw C h))) (show q158 (tB (vw C h)) (((0) + ((1) * ρ 2 + ((2048) * ρ 3 + 0)))) (((0) + ((1) * ρ 11 + 0))) from hP _ (List.mem_of_getElem? (i := 1) rfl)) (by omega) (by omega)
  have p2 : q159 (tB (vw C h)) (ρ 2 + 2048 * ρ 11 + 50331648) ((1 : Int)) := c2 (P := q159 (tB (vw C h))) (show q159 (tB (vw C h)) (((50331648) + ((1) * ρ 2 + ((2048) * ρ 11 + 0)))) (((1) + 0)) from hP _ (List.mem_of_getElem? (i := 2) rfl)) (by omega) (by omega)
  have p3 : (qRC 29 (tB (vw C h))) (ρ 2 + 4398046511104 * ρ 5 + 35184372088832 * ρ 7 + 4503599627370496 * ρ 9 + 562949953421312 * ρ 10 + 2048 * ρ 11) (ρ 12) := c2 (P := (qRC 29 (tB (vw C h)))) (show (qRC 29 (tB (vw C h))) (((0) + ((1) * ρ 2 + ((4398046511104) * ρ 5 + ((35184372088832) * ρ 7 + ((4503599627370496) * ρ 9 + ((562949953421312) * ρ 10 + ((2048) * ρ 11 + 0)))))))) (((0) + ((1) * ρ 12 + 0))) from hP _ (List.mem_of_getElem? (i := 3) rfl)) (by omega) (by omega)
  have iw12 : tIsB (tB (vw C h)) (ρ 2).toNat (ρ 11).toNat (wd 12) = true := b01_1 (k159 (n := ρ 2) (s := ρ 11) (w := 12) (by omega) (by omega) (by omega) (by omega) (by omega) (by omega) p2)
  have hkd := (is_el.mp iw12).1
  have nx := k158 (n := ρ 2) (s := ρ 11) (t := ρ 3) (by omega) (by omega) (by omega) (by omega) (by omega) (by omega) p1
  have ng := nx_gt (B := (tB (vw C h))) (n := (ρ 2).toNat) (s := (ρ 11).toNat) (by omega)
  have hc0 := p3.1
  have hR := rc_el (n := ρ 2) (s := ρ 11) (d := (0 : Int)) (K := (0 : Int)) (R := (ρ 5 + 8 * ρ 7 + 1024 * ρ 9 + 128 * ρ 10)) p3 (by omega) (by omega) (by omega) (by omega) (by omega) (by omega) (by omega) (by omega) (by omega) (by omega)
  have q := g_30 hR iw12
  refine ⟨_, List.mem_cons_self, ρ, fun _ _ => rfl, fun q hq => absurd hq List.not_mem_nil, trivial, fun f hf => ?_, fun q hq => absurd hq List.not_mem_nil, fun q hq => absurd hq List.not_mem_nil, fun q hq => absurd hq List.not_mem_nil, fun q hq => ?_⟩
  · simp only [List.mem_cons, List.not_mem_nil, or_false] at hf
    subst hf
    show (0 : Int) ≤ ((-1) + ((1) * ρ 3 + ((-1) * ρ 11 + 0)))
    omega
  · simp only [List.mem_cons, List.not_mem_nil, or_false] at hq
    subst hq
    show (qRC 30 (tB (vw C h))) (((0) + ((1) * ρ 2 + ((2048) * ρ 3 + ((4398046511104) * ρ 5 + ((35184372088832) * ρ 7 + ((4503599627370496) * ρ 9 + ((562949953421312) * ρ 10 + 0)))))))) (((0) + ((1) * ρ 12 + 0)))
    refine c2 (P := (qRC 30 (tB (vw C h)))) (r := ρ 2 + 2048 * ρ 3 + 4398046511104 * ρ 5 + 35184372088832 * ρ 7 + 4503599627370496 * ρ 9 + 562949953421312 * ρ 10) (c := ρ 12) ?_ (by omega) (by omega)
    show (qRC 30 (tB (vw C h))) (ρ 2 + 2048 * ρ 3 + 4398046511104 * ρ 5 + 35184372088832 * ρ 7 + 4503599627370496 * ρ 9 + 562949953421312 * ρ 10) (ρ 12)
    exact rc_in (n := ρ 2) (s := ρ 3) (d := (0 : Int)) (K := (0 : Int)) (R := (ρ 5 + 8 * ρ 7 + 1024 * ρ 9 + 128 * ρ 10)) (by omega) (by omega) (by omega) (by omega) (by omega) (by omega) (by omega) (by omega) (by omega) (by omega) q (by omega) (by omega) (by omega) (by omega) (by omega)
/-- ev15C -/
theorem lem_448_ok (hU : uqG G C) : lem_448.1.2.1 = [] ∧ lemOK (PRd G C D xs) G rgs lem_448 := by
  refine ⟨rfl, fun ρ h ha hT => ?_⟩
  obtain ⟨-, -, hF, hG, hH, hA, hP⟩ := ha
  have f0 : (0 : Int) ≤ ((0) + ((1) * ρ 2 + 0)) := hF _ (List.mem_of_getElem? (i := 0) rfl)
  have f1 : (0 : Int) ≤ ((1200) + ((-1) * ρ 2 + 0)) := hF _ (List.mem_of_getElem? (i := 1) rfl)
  have f2 : (0 : Int) ≤ ((0) + ((1) * ρ 3 + 0)) := hF _ (List.mem_of_getElem? (i := 2) rfl)
  have f3 : (0 : Int) ≤ ((0) + ((1) * ρ 2 + ((-1) * ρ 3 + 0))) := hF _ (List.mem_of_getElem? (i := 3) rfl)
  have f4 : (0 : Int) ≤ ((4) + ((-1) * ρ 10 + 0)) := hF _ (List.mem_of_getElem? (i := 4) rfl)
  have f5 : (0 : Int) ≤ ((-1) + ((1) * ρ 7 + 0)) := hF _ (List.mem_of_getElem? (i := 5) rfl)
  have f6 : (0 : Int) ≤ ((0) + ((1) * ρ 5 + 0)) := hF _ (List.mem_of_getElem? (i := 6) rfl)
  have f7 : (0 : Int) ≤ ((6) + ((-1) * ρ 5 + 0)) := hF _ (List.mem_of_getElem? (i := 7) rfl)
  have f8 : (0 : Int) ≤ ((0) + ((1) * ρ 7 + 0)) := hF _ (List.mem_of_getElem? (i := 8) rfl)
  have f9 : (0 : Int) ≤ ((8) + ((-1) * ρ 7 + 0)) := hF _ (List.mem_of_getElem? (i := 9) rfl)
  have f10 : (0 : Int) ≤ ((0) + ((1) * ρ 10 + 0)) := hF _ (List.mem_of_getElem? (i := 10) rfl)
  have f11 : (0 : Int) ≤ ((5) + ((-1) * ρ 10 + 0)) := hF _ (List.mem_of_getElem? (i := 11) rfl)
  have f12 : (0 : Int) ≤ ((0) + ((1) * ρ 9 + 0)) := hF _ (List.mem_of_getElem? (i := 12) rfl)
  have f13 : (0 : Int) ≤ ((4) + ((-1) * ρ 9 + 0)) := hF _ (List.mem_of_getElem? (i := 13) rfl)
  have g0 : G (ρ 0).toNat = 14 := by
    have q := (hG _ (List.mem_of_getElem? (i := 0) rfl)).2
    rwa [show ev ρ (0, [(0, 1)]) = ρ 0 from ev_v] at q
  have g1 : G (ρ 1).toNat = 17 := by
    have q := (hG _ (List.mem_of_getElem? (i := 1) rfl)).2
    rwa [show ev ρ (0, [(1, 1)]) = ρ 1 from ev_v] at q
  have g2 : G (ρ 4).toNat = 11 := by
    have q := (hG _ (List.mem_of_getElem? (i := 2) rfl)).2
    rwa [show ev ρ (0, [(4, 1)]) = ρ 4 from ev_v] at q
  have g3 : G (ρ 6).toNat = 20 := by
    have q := (hG _ (List.mem_of_getElem? (i := 3) rfl)).2
    rwa [show ev ρ (0, [(6, 1)]) = ρ 6 from ev_v] at q
  have g4 : G (ρ 8).toNat = 16 := by
    have q := (hG _ (List.mem_of_getElem? (i := 4) rfl)).2
    rwa [show ev ρ (0, [(8, 1)]) = ρ 8 from ev_v] at q
  have h1 : (0 : Int) ≤ ρ 2 ∧ ρ 2 ≤ 1200 := hf_rg hT (hH _ (List.mem_of_getElem? (i := 1) rfl)) ev_v g1 rfl rfl rfl ev_v
  have h2 : (0 : Int) ≤ ρ 3 ∧ ρ 3 ≤ 1200 := hf_rg hT (hH _ (List.mem_of_getElem? (i := 2) rfl)) ev_v g1 rfl rfl rfl ev_v
  have h4 : (0 : Int) ≤ ρ 5 ∧ ρ 5 ≤ 6 := hf_rg hT (hH _ (List.mem_of_getElem? (i := 4) rfl)) ev_v g2 rfl rfl rfl ev_v
  have h6 : (0 : Int) ≤ ρ 7 ∧ ρ 7 ≤ 8 := hf_rg hT (hH _ (List.mem_of_getElem? (i := 6) rfl)) ev_v g3 rfl rfl rfl ev_v
  have h8 : (0 : Int) ≤ ρ 9 ∧ ρ 9 ≤ 4 := hf_rg hT (hH _ (List.mem_of_getElem? (i := 8) rfl)) ev_v g4 rfl rfl rfl ev_v
  have p0 : q176 G h (16 * ρ 6 + ρ 7) (ρ 10) := c2 (P := q176 G h) (show q176 G h (((0) + ((16) * ρ 6 + ((1) * ρ 7 + 0)))) (((0) + ((1) * ρ 10 + 0))) from hP _ (List.mem_of_getElem? (i := 0) rfl)) (by omega) (by omega)
  have p1 : q159 (tB (vw C h)) (ρ 2 + 2048 * ρ 3 + 50331648) ((0 : Int)) := c2 (P := q159 (tB (vw C h))) (show q159 (tB (vw C h)) (((50331648) + ((1) * ρ 2 + ((2048) * ρ 3 + 0)))) (((0) + 0)) from hP _ (List.mem_of_getElem? (i := 1) rfl)) (by omega) (by omega)
  have p2 : (qRC 29 (tB (vw C h))) (ρ 2 + 2048 * ρ 3 + 4398046511104 * ρ 5 + 35184372088832 * ρ 7 + 4503599627370496 * ρ 9 + 562949953421312 * ρ 10) (ρ 11) := c2 (P := (qRC 29 (tB (vw C h)))) (show (qRC 29 (tB (vw C h))) (((0) + ((1) * ρ 2 + ((2048) * ρ 3 + ((4398046511104) * ρ 5 + ((35184372088832) * ρ 7 + ((4503599627370496) * ρ 9 + ((562949953421312) * ρ 10 + 0)))))))) (((0) + ((1) * ρ 11 + 0))) from hP _ (List.mem_of_getElem? (i := 2) rfl)) (by omega) (by omega)
  have iw12 : tIsB (tB (vw C h)) (ρ 2).toNat (ρ 3).toNat (wd 12) = false := b01_0 (k159 (n := ρ 2) (s := ρ 3) (w := 12) (by omega) (by omega) (by omega) (by omega) (by omega) (by omega) p1)
  have hc0 := p2.1
  have hR := rc_el (n := ρ 2) (s := ρ 3) (d := (0 : Int)) (K := (0 : Int)) (R := (ρ 5 + 8 * ρ 7 + 1024 * ρ 9 + 128 * ρ 10)) p2 (by omega) (by omega) (by omega) (by omega) (by omega) (by omega) (by omega) (by omega) (by omega) (by omega)
  have q := g_29 hR iw12
  obtain ⟨σ, r1, r2a⟩ : ∃ σ : Va, (∀ i, i < 12 → σ i = ρ i) ∧ σ 12 = ((newS (ρ 11).toNat ((ρ 5 + 8 * ρ 7 + 1024 * ρ 9 + 128 * ρ 10).toNat / 8 % 16 - 1) ((ρ 5 + 8 * ρ 7 + 1024 * ρ 9 + 128 * ρ 10).toNat / 128 % 8) 1 : Nat) : Int) := ⟨fun i => if i = 12 then ((newS (ρ 11).toNat ((ρ 5 + 8 * ρ 7 + 1024 * ρ 9 + 128 * ρ 10).toNat / 8 % 16 - 1) ((ρ 5 + 8 * ρ 7 + 1024 * ρ 9 + 128 * ρ 10).toNat / 128 % 8) 1 : Nat) : Int) else ρ i, fun i hi => by dsimp only; rw [if_neg (by omega)], by dsimp only; rw [if_pos rfl]⟩
  have s0 := r1 0 (by omega)
  have s1 := r1 1 (by omega)
  have s2 := r1 2 (by omega)
  have s3 := r1 3 (by omega)
  have s4 := r1 4 (by omega)
  have s5 := r1 5 (by omega)
  have s6 := r1 6 (by omega)
  have s7 := r1 7 (by omega)
  have s8 := r1 8 (by omega)
  have s9 := r1 9 (by omega)
  have s10 := r1 10 (by omega)
  have s11 := r1 11 (by omega)
  refine ⟨_, List.mem_cons_self, σ, r1, fun q hq => absurd hq List.not_mem_nil, trivial, fun f hf => ?_, fun q hq => absurd hq List.not_mem_nil, fun q hq => absurd hq List.not_mem_nil, fun q hq => absurd hq List.not_mem_nil, fun q hq => ?_⟩
  · exact absurd hf List.not_mem_nil
  · simp only [List.mem_cons, List.not_mem_nil, or_false] at hq
    rcases hq with rfl | rfl
    · show (qRC 15 (tB (vw C h))) (((562949953421312) + ((1) * σ 2 + ((2048) * σ 3 + ((4398046511104) * σ 5 + ((35184372088832) * σ 7 + ((4503599627370496) * σ 9 + ((562949953421312) * σ 10 + 0)))))))) (((0) + ((1) * σ 12 + 0)))
      refine c2 (P := (qRC 15 (tB (vw C h)))) (r := ρ 2 + 2048 * ρ 3 + 4398046511104 * ρ 5 + 35184372088832 * ρ 7 + 4503599627370496 * ρ 9 + 562949953421312 * ρ 10 + 562949953421312) (c := ((newS (ρ 11).toNat ((ρ 5 + 8 * ρ 7 + 1024 * ρ 9 + 128 * ρ 10).toNat / 8 % 16 - 1) ((ρ 5 + 8 * ρ 7 + 1024 * ρ 9 + 128 * ρ 10).toNat / 128 % 8) 1 : Nat) : Int)) ?_ (by omega) (by omega)
      show (qRC 15 (tB (vw C h))) (ρ 2 + 2048 * ρ 3 + 4398046511104 * ρ 5 + 35184372088832 * ρ 7 + 4503599627370496 * ρ 9 + 562949953421312 * ρ 10 + 562949953421312) (((newS (ρ 11).toNat ((ρ 5 + 8 * ρ 7 + 1024 * ρ 9 + 128 * ρ 10).toNat / 8 % 16 - 1) ((ρ 5 + 8 * ρ 7 + 1024 * ρ 9 + 128 * ρ 10).toNat / 128 % 8) 1 : Nat) : Int))
      exact rc_in (n := ρ 2) (s := ρ 3) (d := (0 : Int)) (K := (0 : Int)) (R := (ρ 5 + 8 * ρ 7 + 1024 * ρ 9 + 128 * ρ 10 + 128)) (by omega) (by omega) (by omega) (by omega) (by omega) (by omega) (by omega) (by omega) (by omega) (by omega) q (by omega) (by omega) (by omega) (by omega) rfl
    · show qNS (((1) + ((512) * σ 7 + ((64) * σ 10 + ((4096) * σ 11 + 0))))) (((0) + ((1) * σ 12 + 0)))
      refine c2 (P := qNS) (r := 512 * ρ 7 + 64 * ρ 10 + 4096 * ρ 11 + 1) (c := ((newS (ρ 11).toNat ((ρ 5 + 8 * ρ 7 + 1024 * ρ 9 + 128 * ρ 10).toNat / 8 % 16 - 1) ((ρ 5 + 8 * ρ 7 + 1024 * ρ 9 + 128 * ρ 10).toNat / 128 % 8) 1 : Nat) : Int)) ?_ (by omega) (by omega)
      show qNS (512 * ρ 7 + 64 * ρ 10 + 4096 * ρ 11 + 1) (((newS (ρ 11).toNat ((ρ 5 + 8 * ρ 7 + 1024 * ρ 9 + 128 * ρ 10).toNat / 8 % 16 - 1) ((ρ 5 + 8 * ρ 7 + 1024 * ρ 9 + 128 * ρ 10).toNat / 128 % 8) 1 : Nat) : Int))
      exact oNS (a := ρ 11) (m := (ρ 5 + 8 * ρ 7 + 1024 * ρ 9 + 128 * ρ 10).toNat / 8 % 16 - 1) (s := (ρ 5 + 8 * ρ 7 + 1024 * ρ 9 + 128 * ρ 10).toNat / 128 % 8) (v := 1) (by omega) (by omega) (by omega) (by decide) rfl
/-- unNC -/
theorem lem_449_ok (hU : uqG G C) : lem_449.1.2.1 = [] ∧ lemOK (PRd G C D xs) G rgs lem_449 := by
  refine ⟨rfl, fun ρ h ha hT => ?_⟩
  obtain ⟨-, -, hF, hG, hH, hA, hP⟩ := ha
  have f0 : (0 : Int) ≤ ((0) + ((1) * ρ 3 + 0)) := hF _ (List.mem_of_getElem? (i := 0) rfl)
  have f1 : (0 : Int) ≤ ((1200) + ((-1) * ρ 3 + 0)) := hF _ (List.mem_of_getElem? (i := 1) rfl)
  have f2 : (0 : Int) ≤ ((0) + ((1) * ρ 4 + 0)) := hF _ (List.mem_of_getElem? (i := 2) rfl)
  have f3 : (0 : Int) ≤ ((0) + ((1) * ρ 3 + ((-1) * ρ 4 + 0))) := hF _ (List.mem_of_getElem? (i := 3) rfl)
  have f4 : (0 : Int) ≤ ((0) + ((1) * ρ 5 + 0)) := hF _ (List.mem_of_getElem? (i := 4) rfl)
  have f5 : (0 : Int) ≤ ((8191) + ((-1) * ρ 5 + 0)) := hF _ (List.mem_of_getElem? (i := 5) rfl)
  have f6 : (0 : Int) ≤ ((0) + ((1) * ρ 6 + 0)) := hF _ (List.mem_of_getElem? (i := 6) rfl)
  have f7 : (0 : Int) ≤ ((1023) + ((-1) * ρ 6 + 0)) := hF _ (List.mem_of_getElem? (i := 7) rfl)
  have f8 : (0 : Int) ≤ ((0) + ((1) * ρ 1 + 0)) := hF _ (List.mem_of_getElem? (i := 8) rfl)
  have f9 : (0 : Int) ≤ ((10) + ((-1) * ρ 1 + 0)) := hF _ (List.mem_of_getElem? (i := 9) rfl)
  have f10 : (0 : Int) ≤ ((0) + ((1) * ρ 7 + 0)) := hF _ (List.mem_of_getElem? (i := 10) rfl)
  have f11 : (0 : Int) ≤ ((0) + ((1) * ρ 3 + ((-1) * ρ 7 + 0))) := hF _ (List.mem_of_getElem? (i := 11) rfl)
  have f12 : (0 : Int) ≤ ((9) + ((-1) * ρ 1 + 0)) := hF _ (List.mem_of_getElem? (i := 12) rfl)
  have g0 : G (ρ 0).toNat = 14 := by
    have q := (hG _ (List.mem_of_getElem? (i := 0) rfl)).2
    rwa [show ev ρ (0, [(0, 1)]) = ρ 0 from ev_v] at q
  have g1 : G (ρ 2).toNat = 17 := by
    have q := (hG _ (List.mem_of_getElem? (i := 1) rfl)).2
    rwa [show ev ρ (0, [(2, 1)]) = ρ 2 from ev_v] at q
  have h1 : (0 : Int) ≤ ρ 3 ∧ ρ 3 ≤ 1200 := hf_rg hT (hH _ (List.mem_of_getElem? (i := 1) rfl)) ev_v g1 rfl rfl rfl ev_v
  have h2 : (0 : Int) ≤ ρ 4 ∧ ρ 4 ≤ 1200 := hf_rg hT (hH _ (List.mem_of_getElem? (i := 2) rfl)) ev_v g1 rfl rfl rfl ev_v
  have p0 : True := c2 (P := (fun (_ _ : Int) => True)) (r := 0) (r' := 0) (c := 0) (c' := 0) (show True from hP _ (List.mem_of_getElem? (i := 0) rfl)) rfl rfl
  have p1 : q167 (2 * ρ 1) (ρ 6) := c2 (P := q167) (show q167 (((0) + ((2) * ρ 1 + 0))) (((0) + ((1) * ρ 6 + 0))) from hP _ (List.mem_of_getElem? (i := 1) rfl)) (by omega) (by omega)
  have p2 : q158 (tB (vw C h)) (ρ 3 + 2048 * ρ 4) (ρ 7) := c2 (P := q158 (tB (vw C h))) (show q158 (tB (vw C h)) (((0) + ((1) * ρ 3 + ((2048) * ρ 4 + 0)))) (((0) + ((1) * ρ 7 + 0))) from hP _ (List.mem_of_getElem? (i := 2) rfl)) (by omega) (by omega)
  have p3 : q159 (tB (vw C h)) (ρ 3 + 2048 * ρ 7 + 54525952) ((1 : Int)) := c2 (P := q159 (tB (vw C h))) (show q159 (tB (vw C h)) (((54525952) + ((1) * ρ 3 + ((2048) * ρ 7 + 0)))) (((1) + 0)) from hP _ (List.mem_of_getElem? (i := 3) rfl)) (by omega) (by omega)
  have p4 : (qRC 40 (tB (vw C h))) (268435456 * ρ 1 + ρ 3 + 4398046511104 * ρ 5 + 4294967296 * ρ 6 + 2048 * ρ 7) (ρ 8) := c2 (P := (qRC 40 (tB (vw C h)))) (show (qRC 40 (tB (vw C h))) (((0) + ((268435456) * ρ 1 + ((1) * ρ 3 + ((4398046511104) * ρ 5 + ((4294967296) * ρ 6 + ((2048) * ρ 7 + 0))))))) (((0) + ((1) * ρ 8 + 0))) from hP _ (List.mem_of_getElem? (i := 4) rfl)) (by omega) (by omega)
  have iw13 : tIsB (tB (vw C h)) (ρ 3).toNat (ρ 7).toNat (wd 13) = true := b01_1 (k159 (n := ρ 3) (s := ρ 7) (w := 13) (by omega) (by omega) (by omega) (by omega) (by omega) (by omega) p3)
  have hkd := (is_el.mp iw13).1
  have nx := k158 (n := ρ 3) (s := ρ 7) (t := ρ 4) (by omega) (by omega) (by omega) (by omega) (by omega) (by omega) p2
  have ng := nx_gt (B := (tB (vw C h))) (n := (ρ 3).toNat) (s := (ρ 7).toNat) (by omega)
  have hc0 := p4.1
  have hR := rc_el (n := ρ 3) (s := ρ 7) (d := (ρ 1)) (K := (ρ 6)) (R := (ρ 5)) p4 (by omega) (by omega) (by omega) (by omega) (by omega) (by omega) (by omega) (by omega) (by omega) (by omega)
  have q67 := q167_9 p1 (by omega) (by omega)
  have q := g_unN hR iw13 (by omega)
  refine ⟨_, List.mem_cons_self, ρ, fun _ _ => rfl, fun q hq => absurd hq List.not_mem_nil, trivial, fun f hf => ?_, fun q hq => absurd hq List.not_mem_nil, fun q hq => absurd hq List.not_mem_nil, fun q hq => absurd hq List.not_mem_nil, fun q hq => ?_⟩
  · simp only [List.mem_cons, List.not_mem_nil, or_false] at hf
    rcases hf with rfl | rfl
    · show (0 : Int) ≤ ((511) + ((-1) * ρ 6 + 0))
      omega
    · show (0 : Int) ≤ ((-1) + ((1) * ρ 4 + ((-1) * ρ 7 + 0)))
      omega
  · simp only [List.mem_cons, List.not_mem_nil, or_false] at hq
    rcases hq with rfl | rfl
    · show (qRC 40 (tB (vw C h))) (((268435456) + ((268435456) * ρ 1 + ((1) * ρ 3 + ((2048) * ρ 4 + ((4398046511104) * ρ 5 + ((8589934592) * ρ 6 + 0))))))) (((0) + ((1) * ρ 8 + 0)))
      refine c2 (P := (qRC 40 (tB (vw C h)))) (r := 268435456 * ρ 1 + ρ 3 + 2048 * ρ 4 + 4398046511104 * ρ 5 + 8589934592 * ρ 6 + 268435456) (c := ρ 8) ?_ (by omega) (by omega)
      show (qRC 40 (tB (vw C h))) (268435456 * ρ 1 + ρ 3 + 2048 * ρ 4 + 4398046511104 * ρ 5 + 8589934592 * ρ 6 + 268435456) (ρ 8)
      exact rc_in (n := ρ 3) (s := ρ 4) (d := (ρ 1 + 1)) (K := (2 * ρ 6)) (R := (ρ 5)) (by omega) (by omega) (by omega) (by omega) (by omega) (by omega) (by omega) (by omega) (by omega) (by omega) q (by omega) (by omega) (by omega) (by omega) (by omega)
    · show q167 (((2) + ((2) * ρ 1 + 0))) (((0) + ((2) * ρ 6 + 0)))
      refine c2 (P := q167) (r := 2 * ρ 1 + 2) (c := 2 * ρ 6) ?_ (by omega) (by omega)
      show q167 (2 * ρ 1 + 2) (2 * ρ 6)
      exact q167_up p1 (by omega) (by omega) (by omega) (by omega)
/-- unPC -/
theorem lem_450_ok (hU : uqG G C) : lem_450.1.2.1 = [] ∧ lemOK (PRd G C D xs) G rgs lem_450 := by
  refine ⟨rfl, fun ρ h ha hT => ?_⟩
  obtain ⟨-, -, hF, hG, hH, hA, hP⟩ := ha
  have f0 : (0 : Int) ≤ ((0) + ((1) * ρ 3 + 0)) := hF _ (List.mem_of_getElem? (i := 0) rfl)
  have f1 : (0 : Int) ≤ ((1200) + ((-1) * ρ 3 + 0)) := hF _ (List.mem_of_getElem? (i := 1) rfl)
  have f2 : (0 : Int) ≤ ((0) + ((1) * ρ 4 + 0)) := hF _ (List.mem_of_getElem? (i := 2) rfl)
  have f3 : (0 : Int) ≤ ((0) + ((1) * ρ 3 + ((-1) * ρ 4 + 0))) := hF _ (List.mem_of_getElem? (i := 3) rfl)
  have f4 : (0 : Int) ≤ ((0) + ((1) * ρ 5 + 0)) := hF _ (List.mem_of_getElem? (i := 4) rfl)
  have f5 : (0 : Int) ≤ ((8191) + ((-1) * ρ 5 + 0)) := hF _ (List.mem_of_getElem? (i := 5) rfl)
  have f6 : (0 : Int) ≤ ((0) + ((1) * ρ 6 + 0)) := hF _ (List.mem_of_getElem? (i := 6) rfl)
  have f7 : (0 : Int) ≤ ((1023) + ((-1) * ρ 6 + 0)) := hF _ (List.mem_of_getElem? (i := 7) rfl)
  have f8 : (0 : Int) ≤ ((0) + ((1) * ρ 1 + 0)) := hF _ (List.mem_of_getElem? (i := 8) rfl)
  have f9 : (0 : Int) ≤ ((10) + ((-1) * ρ 1 + 0)) := hF _ (List.mem_of_getElem? (i := 9) rfl)
  have f10 : (0 : Int) ≤ ((0) + ((1) * ρ 7 + 0)) := hF _ (List.mem_of_getElem? (i := 10) rfl)
  have f11 : (0 : Int) ≤ ((0) + ((1) * ρ 3 + ((-1) * ρ 7 + 0))) := hF _ (List.mem_of_getElem? (i := 11) rfl)
  have f12 : (0 : Int) ≤ ((9) + ((-1) * ρ 1 + 0)) := hF _ (List.mem_of_getElem? (i := 12) rfl)
  have g0 : G (ρ 0).toNat = 14 := by
    have q := (hG _ (List.mem_of_getElem? (i := 0) rfl)).2
    rwa [show ev ρ (0, [(0, 1)]) = ρ 0 from ev_v] at q
  have g1 : G (ρ 2).toNat = 17 := by
    have q := (hG _ (List.mem_of_getElem? (i := 1) rfl)).2
    rwa [show ev ρ (0, [(2, 1)]) = ρ 2 from ev_v] at q
  have h1 : (0 : Int) ≤ ρ 3 ∧ ρ 3 ≤ 1200 := hf_rg hT (hH _ (List.mem_of_getElem? (i := 1) rfl)) ev_v g1 rfl rfl rfl ev_v
  have h2 : (0 : Int) ≤ ρ 4 ∧ ρ 4 ≤ 1200 := hf_rg hT (hH _ (List.mem_of_getElem? (i := 2) rfl)) ev_v g1 rfl rfl rfl ev_v
  have p0 : True := c2 (P := (fun (_ _ : Int) => True)) (r := 0) (r' := 0) (c := 0) (c' := 0) (show True from hP _ (List.mem_of_getElem? (i := 0) rfl)) rfl rfl
  have p1 : q167 (2 * ρ 1) (ρ 6) := c2 (P := q167) (show q167 (((0) + ((2) * ρ 1 + 0))) (((0) + ((1) * ρ 6 + 0))) from hP _ (List.mem_of_getElem? (i := 1) rfl)) (by omega) (by omega)
  have p2 : q158 (tB (vw C h)) (ρ 3 + 2048 * ρ 4) (ρ 7) := c2 (P := q158 (tB (vw C h))) (show q158 (tB (vw C h)) (((0) + ((1) * ρ 3 + ((2048) * ρ 4 + 0)))) (((0) + ((1) * ρ 7 + 0))) from hP _ (List.mem_of_getElem? (i := 2) rfl)) (by omega) (by omega)
  have p3 : q160 (tB (vw C h)) (ρ 3 + 2048 * ρ 7 + 167772160) ((1 : Int)) := c2 (P := q160 (tB (vw C h))) (show q160 (tB (vw C h)) (((167772160) + ((1) * ρ 3 + ((2048) * ρ 7 + 0)))) (((1) + 0)) from hP _ (List.mem_of_getElem? (i := 3) rfl)) (by omega) (by omega)
  have p4 : (qRC 40 (tB (vw C h))) (268435456 * ρ 1 + ρ 3 + 4398046511104 * ρ 5 + 4294967296 * ρ 6 + 2048 * ρ 7) (ρ 8) := c2 (P := (qRC 40 (tB (vw C h)))) (show (qRC 40 (tB (vw C h))) (((0) + ((268435456) * ρ 1 + ((1) * ρ 3 + ((4398046511104) * ρ 5 + ((4294967296) * ρ 6 + ((2048) * ρ 7 + 0))))))) (((0) + ((1) * ρ 8 + 0))) from hP _ (List.mem_of_getElem? (i := 4) rfl)) (by omega) (by omega)
  have is40 : tSgB (tB (vw C h)) (ρ 3).toNat (ρ 7).toNat 40 = true := b01_1 (k160 (n := ρ 3) (s := ρ 7) (c := 40) (by omega) (by omega) (by omega) (by omega) (by omega) (by omega) p3)
  have hkd := (sg_el.mp is40).1
  have nx := k158 (n := ρ 3) (s := ρ 7) (t := ρ 4) (by omega) (by omega) (by omega) (by omega) (by omega) (by omega) p2
  have ng := nx_gt (B := (tB (vw C h))) (n := (ρ 3).toNat) (s := (ρ 7).toNat) (by omega)
  have hc0 := p4.1
  have hR := rc_el (n := ρ 3) (s := ρ 7) (d := (ρ 1)) (K := (ρ 6)) (R := (ρ 5)) p4 (by omega) (by omega) (by omega) (by omega) (by omega) (by omega) (by omega) (by omega) (by omega) (by omega)
  have q67 := q167_9 p1 (by omega) (by omega)
  have q := g_unP hR is40 (by omega)
  refine ⟨_, List.mem_cons_self, ρ, fun _ _ => rfl, fun q hq => absurd hq List.not_mem_nil, trivial, fun f hf => ?_, fun q hq => absurd hq List.not_mem_nil, fun q hq => absurd hq List.not_mem_nil, fun q hq => absurd hq List.not_mem_nil, fun q hq => ?_⟩
  · simp only [List.mem_cons, List.not_mem_nil, or_false] at hf
    rcases hf with rfl | rfl
    · show (0 : Int) ≤ ((511) + ((-1) * ρ 6 + 0))
      omega
    · show (0 : Int) ≤ ((-1) + ((1) * ρ 4 + ((-1) * ρ 7 + 0)))
      omega
  · simp only [List.mem_cons, List.not_mem_nil, or_false] at hq
    rcases hq with rfl | rfl | rfl
    · show (qRC 40 (tB (vw C h))) (((4563402752) + ((268435456) * ρ 1 + ((1) * ρ 3 + ((2048) * ρ 4 + ((4398046511104) * ρ 5 + ((8589934592) * ρ 6 + 0))))))) (((0) + ((1) * ρ 8 + 0)))
      refine c2 (P := (qRC 40 (tB (vw C h)))) (r := 268435456 * ρ 1 + ρ 3 + 2048 * ρ 4 + 4398046511104 * ρ 5 + 8589934592 * ρ 6 + 4563402752) (c := ρ 8) ?_ (by omega) (by omega)
      show (qRC 40 (tB (vw C h))) (268435456 * ρ 1 + ρ 3 + 2048 * ρ 4 + 4398046511104 * ρ 5 + 8589934592 * ρ 6 + 4563402752) (ρ 8)
      exact rc_in (n := ρ 3) (s := ρ 4) (d := (ρ 1 + 1)) (K := (2 * ρ 6 + 1)) (R := (ρ 5)) (by omega) (by omega) (by omega) (by omega) (by omega) (by omega) (by omega) (by omega) (by omega) (by omega) q (by omega) (by omega) (by omega) (by omega) (by omega)
    · show q167 (((2) + ((2) * ρ 1 + 0))) (((1) + ((2) * ρ 6 + 0)))
      refine c2 (P := q167) (r := 2 * ρ 1 + 2) (c := 2 * ρ 6 + 1) ?_ (by omega) (by omega)
      show q167 (2 * ρ 1 + 2) (2 * ρ 6 + 1)
      exact q167_up p1 (by omega) (by omega) (by omega) (by omega)
    · show q167 (((3) + ((2) * ρ 1 + 0))) (((1) + ((2) * ρ 6 + 0)))
      refine c2 (P := q167) (r := 2 * ρ 1 + 3) (c := 2 * ρ 6 + 1) ?_ (by omega) (by omega)
      show q167 (2 * ρ 1 + 3) (2 * ρ 6 + 1)
      exact q167_up p1 (by omega) (by omega) (by omega) (by omega)
/-- unVC -/
theorem lem_451_ok (hU : uqG G C) : lem_451.1.2.1 = [] ∧ lemOK (PRd G C D xs) G rgs lem_451 := by
  refine ⟨rfl, fun ρ h ha hT => ?_⟩
  obtain ⟨-, -, hF, hG, hH, hA, hP⟩ := ha
  have f0 : (0 : Int) ≤ ((0) + ((1) * ρ 3 + 0)) := hF _ (List.mem_of_getElem? (i := 0) rfl)
  have f1 : (0 : Int) ≤ ((1200) + ((-1) * ρ 3 + 0)) := hF _ (List.mem_of_getElem? (i := 1) rfl)
  have f2 : (0 : Int) ≤ ((0) + ((1) * ρ 4 + 0)) := hF _ (List.mem_of_getElem? (i := 2) rfl)
  have f3 : (0 : Int) ≤ ((0) + ((1) * ρ 3 + ((-1) * ρ 4 + 0))) := hF _ (List.mem_of_getElem? (i := 3) rfl)
  have f4 : (0 : Int) ≤ ((0) + ((1) * ρ 5 + 0)) := hF _ (List.mem_of_getElem? (i := 4) rfl)
  have f5 : (0 : Int) ≤ ((8191) + ((-1) * ρ 5 + 0)) := hF _ (List.mem_of_getElem? (i := 5) rfl)
  have f6 : (0 : Int) ≤ ((0) + ((1) * ρ 6 + 0)) := hF _ (List.mem_of_getElem? (i := 6) rfl)
  have f7 : (0 : Int) ≤ ((1023) + ((-1) * ρ 6 + 0)) := hF _ (List.mem_of_getElem? (i := 7) rfl)
  have f8 : (0 : Int) ≤ ((0) + ((1) * ρ 1 + 0)) := hF _ (List.mem_of_getElem? (i := 8) rfl)
  have f9 : (0 : Int) ≤ ((10) + ((-1) * ρ 1 + 0)) := hF _ (List.mem_of_getElem? (i := 9) rfl)
  have f10 : (0 : Int) ≤ ((0) + ((1) * ρ 7 + 0)) := hF _ (List.mem_of_getElem? (i := 10) rfl)
  have f11 : (0 : Int) ≤ ((0) + ((1) * ρ 3 + ((-1) * ρ 7 + 0))) := hF _ (List.mem_of_getElem? (i := 11) rfl)
  have f12 : (0 : Int) ≤ ((9) + ((-1) * ρ 1 + 0)) := hF _ (List.mem_of_getElem? (i := 12) rfl)
  have g0 : G (ρ 0).toNat = 14 := by
    have q := (hG _ (List.mem_of_getElem? (i := 0) rfl)).2
    rwa [show ev ρ (0, [(0, 1)]) = ρ 0 from ev_v] at q
  have g1 : G (ρ 2).toNat = 17 := by
    have q := (hG _ (List.mem_of_getElem? (i := 1) rfl)).2
    rwa [show ev ρ (0, [(2, 1)]) = ρ 2 from ev_v] at q
  have h1 : (0 : Int) ≤ ρ 3 ∧ ρ 3 ≤ 1200 := hf_rg hT (hH _ (List.mem_of_getElem? (i := 1) rfl)) ev_v g1 rfl rfl rfl ev_v
  have h2 : (0 : Int) ≤ ρ 4 ∧ ρ 4 ≤ 1200 := hf_rg hT (hH _ (List.mem_of_getElem? (i := 2) rfl)) ev_v g1 rfl rfl rfl ev_v
  have p0 : True := c2 (P := (fun (_ _ : Int) => True)) (r := 0) (r' := 0) (c := 0) (c' := 0) (show True from hP _ (List.mem_of_getElem? (i := 0) rfl)) rfl rfl
  have p1 : q167 (2 * ρ 1) (ρ 6) := c2 (P := q167) (show q167 (((0) + ((2) * ρ 1 + 0))) (((0) + ((1) * ρ 6 + 0))) from hP _ (List.mem_of_getElem? (i := 1) rfl)) (by omega) (by omega)
  have p2 : q158 (tB (vw C h)) (ρ 3 + 2048 * ρ 4) (ρ 7) := c2 (P := q158 (tB (vw C h))) (show q158 (tB (vw C h)) (((0) + ((1) * ρ 3 + ((2048) * ρ 4 + 0)))) (((0) + ((1) * ρ 7 + 0))) from hP _ (List.mem_of_getElem? (i := 2) rfl)) (by omega) (by omega)
  have p3 : q191 (tB (vw C h)) (ρ 3 + 2048 * ρ 7) ((1 : Int)) := c2 (P := q191 (tB (vw C h))) (show q191 (tB (vw C h)) (((0) + ((1) * ρ 3 + ((2048) * ρ 7 + 0)))) (((1) + 0)) from hP _ (List.mem_of_getElem? (i := 3) rfl)) (by omega) (by omega)
  have p4 : (qRC 40 (tB (vw C h))) (268435456 * ρ 1 + ρ 3 + 4398046511104 * ρ 5 + 4294967296 * ρ 6 + 2048 * ρ 7) (ρ 8) := c2 (P := (qRC 40 (tB (vw C h)))) (show (qRC 40 (tB (vw C h))) (((0) + ((268435456) * ρ 1 + ((1) * ρ 3 + ((4398046511104) * ρ 5 + ((4294967296) * ρ 6 + ((2048) * ρ 7 + 0))))))) (((0) + ((1) * ρ 8 + 0))) from hP _ (List.mem_of_getElem? (i := 4) rfl)) (by omega) (by omega)
  have iv : tIv (tB (vw C h)) (ρ 3).toNat (ρ 7).toNat = true := b01_1 (k191 (n := ρ 3) (s := ρ 7) (by omega) (by omega) (by omega) (by omega) (by omega) p3)
  have hkd := (iv_kd iv).1
  have nx := k158 (n := ρ 3) (s := ρ 7) (t := ρ 4) (by omega) (by omega) (by omega) (by omega) (by omega) (by omega) p2
  have ng := nx_gt (B := (tB (vw C h))) (n := (ρ 3).toNat) (s := (ρ 7).toNat) (by omega)
  have hc0 := p4.1
  have hR := rc_el (n := ρ 3) (s := ρ 7) (d := (ρ 1)) (K := (ρ 6)) (R := (ρ 5)) p4 (by omega) (by omega) (by omega) (by omega) (by omega) (by omega) (by omega) (by omega) (by omega) (by omega)
  have q := g_unV hR iv (by omega)
  refine ⟨_, List.mem_cons_self, ρ, fun _ _ => rfl, fun q hq => absurd hq List.not_mem_nil, trivial, fun f hf => ?_, fun q hq => absurd hq List.not_mem_nil, fun q hq => absurd hq List.not_mem_nil, fun q hq => absurd hq List.not_mem_nil, fun q hq => ?_⟩
  · simp only [List.mem_cons, List.not_mem_nil, or_false] at hf
    subst hf
    show (0 : Int) ≤ ((-1) + ((1) * ρ 4 + ((-1) * ρ 7 + 0)))
    omega
  · simp only [List.mem_cons, List.not_mem_nil, or_false] at hq
    subst hq
    show (qRC 41 (tB (vw C h))) (((0) + ((268435456) * ρ 1 + ((1) * ρ 3 + ((2048) * ρ 4 + ((4398046511104) * ρ 5 + ((4294967296) * ρ 6 + 0))))))) (((0) + ((1) * ρ 8 + 0)))
    refine c2 (P := (qRC 41 (tB (vw C h)))) (r := 268435456 * ρ 1 + ρ 3 + 2048 * ρ 4 + 4398046511104 * ρ 5 + 4294967296 * ρ 6) (c := ρ 8) ?_ (by omega) (by omega)
    show (qRC 41 (tB (vw C h))) (268435456 * ρ 1 + ρ 3 + 2048 * ρ 4 + 4398046511104 * ρ 5 + 4294967296 * ρ 6) (ρ 8)
    exact rc_in (n := ρ 3) (s := ρ 4) (d := (ρ 1)) (K := (ρ 6)) (R := (ρ 5)) (by omega) (by omega) (by omega) (by omega) (by omega) (by omega) (by omega) (by omega) (by omega) (by omega) q (by omega) (by omega) (by omega) (by omega) (by omega)
/-- deepNC -/
theorem lem_452_ok (hU : uqG G C) : lem_452.1.2.1 = [] ∧ lemOK (PRd G C D xs) G rgs lem_452 := by
  refine ⟨rfl, fun ρ h ha hT => ?_⟩
  obtain ⟨-, -, hF, hG, hH, hA, hP⟩ := ha
  have f0 : (0 : Int) ≤ ((0) + ((1) * ρ 3 + 0)) := hF _ (List.mem_of_getElem? (i := 0) rfl)
  have f1 : (0 : Int) ≤ ((1200) + ((-1) * ρ 3 + 0)) := hF _ (List.mem_of_getElem? (i := 1) rfl)
  have f2 : (0 : Int) ≤ ((0) + ((1) * ρ 4 + 0)) := hF _ (List.mem_of_getElem? (i := 2) rfl)
  have f3 : (0 : Int) ≤ ((0) + ((1) * ρ 3 + ((-1) * ρ 4 + 0))) := hF _ (List.mem_of_getElem? (i := 3) rfl)
  have f4 : (0 : Int) ≤ ((0) + ((1) * ρ 5 + 0)) := hF _ (List.mem_of_getElem? (i := 4) rfl)
  have f5 : (0 : Int) ≤ ((8191) + ((-1) * ρ 5 + 0)) := hF _ (List.mem_of_getElem? (i := 5) rfl)
  have f6 : (0 : Int) ≤ ((0) + ((1) * ρ 6 + 0)) := hF _ (List.mem_of_getElem? (i := 6) rfl)
  have f7 : (0 : Int) ≤ ((1023) + ((-1) * ρ 6 + 0)) := hF _ (List.mem_of_getElem? (i := 7) rfl)
  have f8 : (0 : Int) ≤ ((0) + ((1) * ρ 1 + 0)) := hF _ (List.mem_of_getElem? (i := 8) rfl)
  have f9 : (0 : Int) ≤ ((10) + ((-1) * ρ 1 + 0)) := hF _ (List.mem_of_getElem? (i := 9) rfl)
  have f10 : (0 : Int) ≤ ((-10) + ((1) * ρ 1 + 0)) := hF _ (List.mem_of_getElem? (i := 10) rfl)
  have g0 : G (ρ 0).toNat = 14 := by
    have q := (hG _ (List.mem_of_getElem? (i := 0) rfl)).2
    rwa [show ev ρ (0, [(0, 1)]) = ρ 0 from ev_v] at q
  have g1 : G (ρ 2).toNat = 17 := by
    have q := (hG _ (List.mem_of_getElem? (i := 1) rfl)).2
    rwa [show ev ρ (0, [(2, 1)]) = ρ 2 from ev_v] at q
  have h1 : (0 : Int) ≤ ρ 3 ∧ ρ 3 ≤ 1200 := hf_rg hT (hH _ (List.mem_of_getElem? (i := 1) rfl)) ev_v g1 rfl rfl rfl ev_v
  have h2 : (0 : Int) ≤ ρ 4 ∧ ρ 4 ≤ 1200 := hf_rg hT (hH _ (List.mem_of_getElem? (i := 2) rfl)) ev_v g1 rfl rfl rfl ev_v
  have p0 : True := c2 (P := (fun (_ _ : Int) => True)) (r := 0) (r' := 0) (c := 0) (c' := 0) (show True from hP _ (List.mem_of_getElem? (i := 0) rfl)) rfl rfl
  have p1 : q167 (2 * ρ 1) (ρ 6) := c2 (P := q167) (show q167 (((0) + ((2) * ρ 1 + 0))) (((0) + ((1) * ρ 6 + 0))) from hP _ (List.mem_of_getElem? (i := 1) rfl)) (by omega) (by omega)
  have p2 : q159 (tB (vw C h)) (ρ 3 + 2048 * ρ 4 + 54525952) ((1 : Int)) := c2 (P := q159 (tB (vw C h))) (show q159 (tB (vw C h)) (((54525952) + ((1) * ρ 3 + ((2048) * ρ 4 + 0)))) (((1) + 0)) from hP _ (List.mem_of_getElem? (i := 2) rfl)) (by omega) (by omega)
  have p3 : (qRC 40 (tB (vw C h))) (268435456 * ρ 1 + ρ 3 + 2048 * ρ 4 + 4398046511104 * ρ 5 + 4294967296 * ρ 6) (ρ 7) := c2 (P := (qRC 40 (tB (vw C h)))) (show (qRC 40 (tB (vw C h))) (((0) + ((268435456) * ρ 1 + ((1) * ρ 3 + ((2048) * ρ 4 + ((4398046511104) * ρ 5 + ((4294967296) * ρ 6 + 0))))))) (((0) + ((1) * ρ 7 + 0))) from hP _ (List.mem_of_getElem? (i := 3) rfl)) (by omega) (by omega)
  have iw13 : tIsB (tB (vw C h)) (ρ 3).toNat (ρ 4).toNat (wd 13) = true := b01_1 (k159 (n := ρ 3) (s := ρ 4) (w := 13) (by omega) (by omega) (by omega) (by omega) (by omega) (by omega) p2)
  have hkd := (is_el.mp iw13).1
  have hc0 := p3.1
  have hR := rc_el (n := ρ 3) (s := ρ 4) (d := (ρ 1)) (K := (ρ 6)) (R := (ρ 5)) p3 (by omega) (by omega) (by omega) (by omega) (by omega) (by omega) (by omega) (by omega) (by omega) (by omega)
  have q := o_unN hR iw13 (by omega)
  refine ⟨_, List.mem_cons_self, ρ, fun _ _ => rfl, fun q hq => absurd hq List.not_mem_nil, trivial, fun f hf => ?_, fun q hq => absurd hq List.not_mem_nil, fun q hq => absurd hq List.not_mem_nil, fun q hq => absurd hq List.not_mem_nil, fun q hq => ?_⟩
  · exact absurd hf List.not_mem_nil
  · simp only [List.mem_cons, List.not_mem_nil, or_false] at hq
    subst hq
    show q166 (tB (vw C h)) (((0) + ((1) * ρ 3 + 0))) (((24576) + ((1) * ρ 4 + 0)))
    refine c2 (P := q166 (tB (vw C h))) (r := ρ 3) (c := ρ 4 + 24576) ?_ (by omega) (by omega)
    show q166 (tB (vw C h)) (ρ 3) (ρ 4 + 24576)
    exact o166 (k := 24576) (n := ρ 3) (s := ρ 4) (by omega) q (by omega) rfl (by omega)
/-- deepPC -/
theorem lem_453_ok (hU : uqG G C) : lem_453.1.2.1 = [] ∧ lemOK (PRd G C D xs) G rgs lem_453 := by
  refine ⟨rfl, fun ρ h ha hT => ?_⟩
  obtain ⟨-, -, hF, hG, hH, hA, hP⟩ := ha
  have f0 : (0 : Int) ≤ ((0) + ((1) * ρ 3 + 0)) := hF _ (List.mem_of_getElem? (i := 0) rfl)
  have f1 : (0 : Int) ≤ ((1200) + ((-1) * ρ 3 + 0)) := hF _ (List.mem_of_getElem? (i := 1) rfl)
  have f2 : (0 : Int) ≤ ((0) + ((1) * ρ 4 + 0)) := hF _ (List.mem_of_getElem? (i := 2) rfl)
  have f3 : (0 : Int) ≤ ((0) + ((1) * ρ 3 + ((-1) * ρ 4 + 0))) := hF _ (List.mem_of_getElem? (i := 3) rfl)
  have f4 : (0 : Int) ≤ ((0) + ((1) * ρ 5 + 0)) := hF _ (List.mem_of_getElem? (i := 4) rfl)
  have f5 : (0 : Int) ≤ ((8191) + ((-1) * ρ 5 + 0)) := hF _ (List.mem_of_getElem? (i := 5) rfl)
  have f6 : (0 : Int) ≤ ((0) + ((1) * ρ 6 + 0)) := hF _ (List.mem_of_getElem? (i := 6) rfl)
  have f7 : (0 : Int) ≤ ((1023) + ((-1) * ρ 6 + 0)) := hF _ (List.mem_of_getElem? (i := 7) rfl)
  have f8 : (0 : Int) ≤ ((0) + ((1) * ρ 1 + 0)) := hF _ (List.mem_of_getElem? (i := 8) rfl)
  have f9 : (0 : Int) ≤ ((10) + ((-1) * ρ 1 + 0)) := hF _ (List.mem_of_getElem? (i := 9) rfl)
  have f10 : (0 : Int) ≤ ((-10) + ((1) * ρ 1 + 0)) := hF _ (List.mem_of_getElem? (i := 10) rfl)
  have g0 : G (ρ 0).toNat = 14 := by
    have q := (hG _ (List.mem_of_getElem? (i := 0) rfl)).2
    rwa [show ev ρ (0, [(0, 1)]) = ρ 0 from ev_v] at q
  have g1 : G (ρ 2).toNat = 17 := by
    have q := (hG _ (List.mem_of_getElem? (i := 1) rfl)).2
    rwa [show ev ρ (0, [(2, 1)]) = ρ 2 from ev_v] at q
  have h1 : (0 : Int) ≤ ρ 3 ∧ ρ 3 ≤ 1200 := hf_rg hT (hH _ (List.mem_of_getElem? (i := 1) rfl)) ev_v g1 rfl rfl rfl ev_v
  have h2 : (0 : Int) ≤ ρ 4 ∧ ρ 4 ≤ 1200 := hf_rg hT (hH _ (List.mem_of_getElem? (i := 2) rfl)) ev_v g1 rfl rfl rfl ev_v
  have p0 : True := c2 (P := (fun (_ _ : Int) => True)) (r := 0) (r' := 0) (c := 0) (c' := 0) (show True from hP _ (List.mem_of_getElem? (i := 0) rfl)) rfl rfl
  have p1 : q167 (2 * ρ 1) (ρ 6) := c2 (P := q167) (show q167 (((0) + ((2) * ρ 1 + 0))) (((0) + ((1) * ρ 6 + 0))) from hP _ (List.mem_of_getElem? (i := 1) rfl)) (by omega) (by omega)
  have p2 : q160 (tB (vw C h)) (ρ 3 + 2048 * ρ 4 + 167772160) ((1 : Int)) := c2 (P := q160 (tB (vw C h))) (show q160 (tB (vw C h)) (((167772160) + ((1) * ρ 3 + ((2048) * ρ 4 + 0)))) (((1) + 0)) from hP _ (List.mem_of_getElem? (i := 2) rfl)) (by omega) (by omega)
  have p3 : (qRC 40 (tB (vw C h))) (268435456 * ρ 1 + ρ 3 + 2048 * ρ 4 + 4398046511104 * ρ 5 + 4294967296 * ρ 6) (ρ 7) := c2 (P := (qRC 40 (tB (vw C h)))) (show (qRC 40 (tB (vw C h))) (((0) + ((268435456) * ρ 1 + ((1) * ρ 3 + ((2048) * ρ 4 + ((4398046511104) * ρ 5 + ((4294967296) * ρ 6 + 0))))))) (((0) + ((1) * ρ 7 + 0))) from hP _ (List.mem_of_getElem? (i := 3) rfl)) (by omega) (by omega)
  have is40 : tSgB (tB (vw C h)) (ρ 3).toNat (ρ 4).toNat 40 = true := b01_1 (k160 (n := ρ 3) (s := ρ 4) (c := 40) (by omega) (by omega) (by omega) (by omega) (by omega) (by omega) p2)
  have hkd := (sg_el.mp is40).1
  have hc0 := p3.1
  have hR := rc_el (n := ρ 3) (s := ρ 4) (d := (ρ 1)) (K := (ρ 6)) (R := (ρ 5)) p3 (by omega) (by omega) (by omega) (by omega) (by omega) (by omega) (by omega) (by omega) (by omega) (by omega)
  have q := o_unP hR is40 (by omega)
  refine ⟨_, List.mem_cons_self, ρ, fun _ _ => rfl, fun q hq => absurd hq List.not_mem_nil, trivial, fun f hf => ?_, fun q hq => absurd hq List.not_mem_nil, fun q hq => absurd hq List.not_mem_nil, fun q hq => absurd hq List.not_mem_nil, fun q hq => ?_⟩
  · exact absurd hf List.not_mem_nil
  · simp only [List.mem_cons, List.not_mem_nil, or_false] at hq
    subst hq
    show q166 (tB (vw C h)) (((0) + ((1) * ρ 3 + 0))) (((24576) + ((1) * ρ 4 + 0)))
    refine c2 (P := q166 (tB (vw C h))) (r := ρ 3) (c := ρ 4 + 24576) ?_ (by omega) (by omega)
    show q166 (tB (vw C h)) (ρ 3) (ρ 4 + 24576)
    exact o166 (k := 24576) (n := ρ 3) (s := ρ 4) (by omega) q (by omega) rfl (by omega)
/-- deepVC -/
theorem lem_454_ok (hU : uqG G C) : lem_454.1.2.1 = [] ∧ lemOK (PRd G C D xs) G rgs lem_454 := by
  refine ⟨rfl, fun ρ h ha hT => ?_⟩
  obtain ⟨-, -, hF, hG, hH, hA, hP⟩ := ha
  have f0 : (0 : Int) ≤ ((0) + ((1) * ρ 3 + 0)) := hF _ (List.mem_of_getElem? (i := 0) rfl)
  have f1 : (0 : Int) ≤ ((1200) + ((-1) * ρ 3 + 0)) := hF _ (List.mem_of_getElem? (i := 1) rfl)
  have f2 : (0 : Int) ≤ ((0) + ((1) * ρ 4 + 0)) := hF _ (List.mem_of_getElem? (i := 2) rfl)
  have f3 : (0 : Int) ≤ ((0) + ((1) * ρ 3 + ((-1) * ρ 4 + 0))) := hF _ (List.mem_of_getElem? (i := 3) rfl)
  have f4 : (0 : Int) ≤ ((0) + ((1) * ρ 5 + 0)) := hF _ (List.mem_of_getElem? (i := 4) rfl)
  have f5 : (0 : Int) ≤ ((8191) + ((-1) * ρ 5 + 0)) := hF _ (List.mem_of_getElem? (i := 5) rfl)
  have f6 : (0 : Int) ≤ ((0) + ((1) * ρ 6 + 0)) := hF _ (List.mem_of_getElem? (i := 6) rfl)
  have f7 : (0 : Int) ≤ ((1023) + ((-1) * ρ 6 + 0)) := hF _ (List.mem_of_getElem? (i := 7) rfl)
  have f8 : (0 : Int) ≤ ((0) + ((1) * ρ 1 + 0)) := hF _ (List.mem_of_getElem? (i := 8) rfl)
  have f9 : (0 : Int) ≤ ((10) + ((-1) * ρ 1 + 0)) := hF _ (List.mem_of_getElem? (i := 9) rfl)
  have f10 : (0 : Int) ≤ ((-10) + ((1) * ρ 1 + 0)) := hF _ (List.mem_of_getElem? (i := 10) rfl)
  have g0 : G (ρ 0).toNat = 14 := by
    have q := (hG _ (List.mem_of_getElem? (i := 0) rfl)).2
    rwa [show ev ρ (0, [(0, 1)]) = ρ 0 from ev_v] at q
  have g1 : G (ρ 2).toNat = 17 := by
    have q := (hG _ (List.mem_of_getElem? (i := 1) rfl)).2
    rwa [show ev ρ (0, [(2, 1)]) = ρ 2 from ev_v] at q
  have h1 : (0 : Int) ≤ ρ 3 ∧ ρ 3 ≤ 1200 := hf_rg hT (hH _ (List.mem_of_getElem? (i := 1) rfl)) ev_v g1 rfl rfl rfl ev_v
  have h2 : (0 : Int) ≤ ρ 4 ∧ ρ 4 ≤ 1200 := hf_rg hT (hH _ (List.mem_of_getElem? (i := 2) rfl)) ev_v g1 rfl rfl rfl ev_v
  have p0 : True := c2 (P := (fun (_ _ : Int) => True)) (r := 0) (r' := 0) (c := 0) (c' := 0) (show True from hP _ (List.mem_of_getElem? (i := 0) rfl)) rfl rfl
  have p1 : q167 (2 * ρ 1) (ρ 6) := c2 (P := q167) (show q167 (((0) + ((2) * ρ 1 + 0))) (((0) + ((1) * ρ 6 + 0))) from hP _ (List.mem_of_getElem? (i := 1) rfl)) (by omega) (by omega)
  have p2 : q191 (tB (vw C h)) (ρ 3 + 2048 * ρ 4) ((1 : Int)) := c2 (P := q191 (tB (vw C h))) (show q191 (tB (vw C h)) (((0) + ((1) * ρ 3 + ((2048) * ρ 4 + 0)))) (((1) + 0)) from hP _ (List.mem_of_getElem? (i := 2) rfl)) (by omega) (by omega)
  have p3 : (qRC 40 (tB (vw C h))) (268435456 * ρ 1 + ρ 3 + 2048 * ρ 4 + 4398046511104 * ρ 5 + 4294967296 * ρ 6) (ρ 7) := c2 (P := (qRC 40 (tB (vw C h)))) (show (qRC 40 (tB (vw C h))) (((0) + ((268435456) * ρ 1 + ((1) * ρ 3 + ((2048) * ρ 4 + ((4398046511104) * ρ 5 + ((4294967296) * ρ 6 + 0))))))) (((0) + ((1) * ρ 7 + 0))) from hP _ (List.mem_of_getElem? (i := 3) rfl)) (by omega) (by omega)
  have iv : tIv (tB (vw C h)) (ρ 3).toNat (ρ 4).toNat = true := b01_1 (k191 (n := ρ 3) (s := ρ 4) (by omega) (by omega) (by omega) (by omega) (by omega) p2)
  have hkd := (iv_kd iv).1
  have hc0 := p3.1
  have hR := rc_el (n := ρ 3) (s := ρ 4) (d := (ρ 1)) (K := (ρ 6)) (R := (ρ 5)) p3 (by omega) (by omega) (by omega) (by omega) (by omega) (by omega) (by omega) (by omega) (by omega) (by omega)
  have q := o_unV hR iv (by omega)
  refine ⟨_, List.mem_cons_self, ρ, fun _ _ => rfl, fun q hq => absurd hq List.not_mem_nil, trivial, fun f hf => ?_, fun q hq => absurd hq List.not_mem_nil, fun q hq => absurd hq List.not_mem_nil, fun q hq => absurd hq List.not_mem_nil, fun q hq => ?_⟩
  · exact absurd hf List.not_mem_nil
  · simp only [List.mem_cons, List.not_mem_nil, or_false] at hq
    subst hq
    show q166 (tB (vw C h)) (((0) + ((1) * ρ 3 + 0))) (((24576) + ((1) * ρ 4 + 0)))
    refine c2 (P := q166 (tB (vw C h))) (r := ρ 3) (c := ρ 4 + 24576) ?_ (by omega) (by omega)
    show q166 (tB (vw C h)) (ρ 3) (ρ 4 + 24576)
    exact o166 (k := 24576) (n := ρ 3) (s := ρ 4) (by omega) q (by omega) rfl (by omega)
/-- unNoC -/
theorem lem_455_ok (hU : uqG G C) : lem_455.1.2.1 = [] ∧ lemOK (PRd G C D xs) G rgs lem_455 := by
  refine ⟨rfl, fun ρ h ha hT => ?_⟩
  obtain ⟨-, -, hF, hG, hH, hA, hP⟩ := ha
  have f0 : (0 : Int) ≤ ((0) + ((1) * ρ 3 + 0)) := hF _ (List.mem_of_getElem? (i := 0) rfl)
  have f1 : (0 : Int) ≤ ((1200) + ((-1) * ρ 3 + 0)) := hF _ (List.mem_of_getElem? (i := 1) rfl)
  have f2 : (0 : Int) ≤ ((0) + ((1) * ρ 4 + 0)) := hF _ (List.mem_of_getElem? (i := 2) rfl)
  have f3 : (0 : Int) ≤ ((0) + ((1) * ρ 3 + ((-1) * ρ 4 + 0))) := hF _ (List.mem_of_getElem? (i := 3) rfl)
  have f4 : (0 : Int) ≤ ((0) + ((1) * ρ 5 + 0)) := hF _ (List.mem_of_getElem? (i := 4) rfl)
  have f5 : (0 : Int) ≤ ((8191) + ((-1) * ρ 5 + 0)) := hF _ (List.mem_of_getElem? (i := 5) rfl)
  have f6 : (0 : Int) ≤ ((0) + ((1) * ρ 6 + 0)) := hF _ (List.mem_of_getElem? (i := 6) rfl)
  have f7 : (0 : Int) ≤ ((1023) + ((-1) * ρ 6 + 0)) := hF _ (List.mem_of_getElem? (i := 7) rfl)
  have f8 : (0 : Int) ≤ ((0) + ((1) * ρ 1 + 0)) := hF _ (List.mem_of_getElem? (i := 8) rfl)
  have f9 : (0 : Int) ≤ ((10) + ((-1) * ρ 1 + 0)) := hF _ (List.mem_of_getElem? (i := 9) rfl)
  have g0 : G (ρ 0).toNat = 14 := by
    have q := (hG _ (List.mem_of_getElem? (i := 0) rfl)).2
    rwa [show ev ρ (0, [(0, 1)]) = ρ 0 from ev_v] at q
  have g1 : G (ρ 2).toNat = 17 := by
    have q := (hG _ (List.mem_of_getElem? (i := 1) rfl)).2
    rwa [show ev ρ (0, [(2, 1)]) = ρ 2 from ev_v] at q
  have h1 : (0 : Int) ≤ ρ 3 ∧ ρ 3 ≤ 1200 := hf_rg hT (hH _ (List.mem_of_getElem? (i := 1) rfl)) ev_v g1 rfl rfl rfl ev_v
  have h2 : (0 : Int) ≤ ρ 4 ∧ ρ 4 ≤ 1200 := hf_rg hT (hH _ (List.mem_of_getElem? (i := 2) rfl)) ev_v g1 rfl rfl rfl ev_v
  have p0 : True := c2 (P := (fun (_ _ : Int) => True)) (r := 0) (r' := 0) (c := 0) (c' := 0) (show True from hP _ (List.mem_of_getElem? (i := 0) rfl)) rfl rfl
  have p1 : q167 (2 * ρ 1) (ρ 6) := c2 (P := q167) (show q167 (((0) + ((2) * ρ 1 + 0))) (((0) + ((1) * ρ 6 + 0))) from hP _ (List.mem_of_getElem? (i := 1) rfl)) (by omega) (by omega)
  have p2 : q159 (tB (vw C h)) (ρ 3 + 2048 * ρ 4 + 54525952) ((0 : Int)) := c2 (P := q159 (tB (vw C h))) (show q159 (tB (vw C h)) (((54525952) + ((1) * ρ 3 + ((2048) * ρ 4 + 0)))) (((0) + 0)) from hP _ (List.mem_of_getElem? (i := 2) rfl)) (by omega) (by omega)
  have p3 : q191 (tB (vw C h)) (ρ 3 + 2048 * ρ 4) ((0 : Int)) := c2 (P := q191 (tB (vw C h))) (show q191 (tB (vw C h)) (((0) + ((1) * ρ 3 + ((2048) * ρ 4 + 0)))) (((0) + 0)) from hP _ (List.mem_of_getElem? (i := 3) rfl)) (by omega) (by omega)
  have p4 : q160 (tB (vw C h)) (ρ 3 + 2048 * ρ 4 + 167772160) ((0 : Int)) := c2 (P := q160 (tB (vw C h))) (show q160 (tB (vw C h)) (((167772160) + ((1) * ρ 3 + ((2048) * ρ 4 + 0)))) (((0) + 0)) from hP _ (List.mem_of_getElem? (i := 4) rfl)) (by omega) (by omega)
  have p5 : (qRC 40 (tB (vw C h))) (268435456 * ρ 1 + ρ 3 + 2048 * ρ 4 + 4398046511104 * ρ 5 + 4294967296 * ρ 6) (ρ 7) := c2 (P := (qRC 40 (tB (vw C h)))) (show (qRC 40 (tB (vw C h))) (((0) + ((268435456) * ρ 1 + ((1) * ρ 3 + ((2048) * ρ 4 + ((4398046511104) * ρ 5 + ((4294967296) * ρ 6 + 0))))))) (((0) + ((1) * ρ 7 + 0))) from hP _ (List.mem_of_getElem? (i := 5) rfl)) (by omega) (by omega)
  have iw13 : tIsB (tB (vw C h)) (ρ 3).toNat (ρ 4).toNat (wd 13) = false := b01_0 (k159 (n := ρ 3) (s := ρ 4) (w := 13) (by omega) (by omega) (by omega) (by omega) (by omega) (by omega) p2)
  have iv : tIv (tB (vw C h)) (ρ 3).toNat (ρ 4).toNat = false := b01_0 (k191 (n := ρ 3) (s := ρ 4) (by omega) (by omega) (by omega) (by omega) (by omega) p3)
  have is40 : tSgB (tB (vw C h)) (ρ 3).toNat (ρ 4).toNat 40 = false := b01_0 (k160 (n := ρ 3) (s := ρ 4) (c := 40) (by omega) (by omega) (by omega) (by omega) (by omega) (by omega) p4)
  have hc0 := p5.1
  have hR := rc_el (n := ρ 3) (s := ρ 4) (d := (ρ 1)) (K := (ρ 6)) (R := (ρ 5)) p5 (by omega) (by omega) (by omega) (by omega) (by omega) (by omega) (by omega) (by omega) (by omega) (by omega)
  have q := o_un hR iw13 is40 iv
  refine ⟨_, List.mem_cons_self, ρ, fun _ _ => rfl, fun q hq => absurd hq List.not_mem_nil, trivial, fun f hf => ?_, fun q hq => absurd hq List.not_mem_nil, fun q hq => absurd hq List.not_mem_nil, fun q hq => absurd hq List.not_mem_nil, fun q hq => ?_⟩
  · exact absurd hf List.not_mem_nil
  · simp only [List.mem_cons, List.not_mem_nil, or_false] at hq
    subst hq
    show q166 (tB (vw C h)) (((0) + ((1) * ρ 3 + 0))) (((4096) + ((1) * ρ 4 + 0)))
    refine c2 (P := q166 (tB (vw C h))) (r := ρ 3) (c := ρ 4 + 4096) ?_ (by omega) (by omega)
    show q166 (tB (vw C h)) (ρ 3) (ρ 4 + 4096)
    exact o166 (k := 4096) (n := ρ 3) (s := ρ 4) (by omega) q (by omega) rfl (by omega)
/-- cm60C -/
theorem lem_456_ok (hU : uqG G C) : lem_456.1.2.1 = [] ∧ lemOK (PRd G C D xs) G rgs lem_456 := by
  refine ⟨rfl, fun ρ h ha hT => ?_⟩
  obtain ⟨-, -, hF, hG, hH, hA, hP⟩ := ha
  have f0 : (0 : Int) ≤ ((0) + ((1) * ρ 3 + 0)) := hF _ (List.mem_of_getElem? (i := 0) rfl)
  have f1 : (0 : Int) ≤ ((1200) + ((-1) * ρ 3 + 0)) := hF _ (List.mem_of_getElem? (i := 1) rfl)
  have f2 : (0 : Int) ≤ ((0) + ((1) * ρ 4 + 0)) := hF _ (List.mem_of_getElem? (i := 2) rfl)
  have f3 : (0 : Int) ≤ ((0) + ((1) * ρ 3 + ((-1) * ρ 4 + 0))) := hF _ (List.mem_of_getElem? (i := 3) rfl)
  have f4 : (0 : Int) ≤ ((0) + ((1) * ρ 5 + 0)) := hF _ (List.mem_of_getElem? (i := 4) rfl)
  have f5 : (0 : Int) ≤ ((8191) + ((-1) * ρ 5 + 0)) := hF _ (List.mem_of_getElem? (i := 5) rfl)
  have f6 : (0 : Int) ≤ ((0) + ((1) * ρ 6 + 0)) := hF _ (List.mem_of_getElem? (i := 6) rfl)
  have f7 : (0 : Int) ≤ ((1023) + ((-1) * ρ 6 + 0)) := hF _ (List.mem_of_getElem? (i := 7) rfl)
  have f8 : (0 : Int) ≤ ((0) + ((1) * ρ 1 + 0)) := hF _ (List.mem_of_getElem? (i := 8) rfl)
  have f9 : (0 : Int) ≤ ((10) + ((-1) * ρ 1 + 0)) := hF _ (List.mem_of_getElem? (i := 9) rfl)
  have f10 : (0 : Int) ≤ ((0) + ((1) * ρ 7 + 0)) := hF _ (List.mem_of_getElem? (i := 10) rfl)
  have f11 : (0 : Int) ≤ ((0) + ((1) * ρ 3 + ((-1) * ρ 7 + 0))) := hF _ (List.mem_of_getElem? (i := 11) rfl)
  have g0 : G (ρ 0).toNat = 14 := by
    have q := (hG _ (List.mem_of_getElem? (i := 0) rfl)).2
    rwa [show ev ρ (0, [(0, 1)]) = ρ 0 from ev_v] at q
  have g1 : G (ρ 2).toNat = 17 := by
    have q := (hG _ (List.mem_of_getElem? (i := 1) rfl)).2
    rwa [show ev ρ (0, [(2, 1)]) = ρ 2 from ev_v] at q
  have h1 : (0 : Int) ≤ ρ 3 ∧ ρ 3 ≤ 1200 := hf_rg hT (hH _ (List.mem_of_getElem? (i := 1) rfl)) ev_v g1 rfl rfl rfl ev_v
  have h2 : (0 : Int) ≤ ρ 4 ∧ ρ 4 ≤ 1200 := hf_rg hT (hH _ (List.mem_of_getElem? (i := 2) rfl)) ev_v g1 rfl rfl rfl ev_v
  have p0 : True := c2 (P := (fun (_ _ : Int) => True)) (r := 0) (r' := 0) (c := 0) (c' := 0) (show True from hP _ (List.mem_of_getElem? (i := 0) rfl)) rfl rfl
  have p1 : q167 (2 * ρ 1) (ρ 6) := c2 (P := q167) (show q167 (((0) + ((2) * ρ 1 + 0))) (((0) + ((1) * ρ 6 + 0))) from hP _ (List.mem_of_getElem? (i := 1) rfl)) (by omega) (by omega)
  have p2 : q158 (tB (vw C h)) (ρ 3 + 2048 * ρ 4) (ρ 7) := c2 (P := q158 (tB (vw C h))) (show q158 (tB (vw C h)) (((0) + ((1) * ρ 3 + ((2048) * ρ 4 + 0)))) (((0) + ((1) * ρ 7 + 0))) from hP _ (List.mem_of_getElem? (i := 2) rfl)) (by omega) (by omega)
  have p3 : q160 (tB (vw C h)) (ρ 3 + 2048 * ρ 7 + 251658240) ((1 : Int)) := c2 (P := q160 (tB (vw C h))) (show q160 (tB (vw C h)) (((251658240) + ((1) * ρ 3 + ((2048) * ρ 7 + 0)))) (((1) + 0)) from hP _ (List.mem_of_getElem? (i := 3) rfl)) (by omega) (by omega)
  have p4 : (qRC 41 (tB (vw C h))) (268435456 * ρ 1 + ρ 3 + 4398046511104 * ρ 5 + 4294967296 * ρ 6 + 2048 * ρ 7) (ρ 8) := c2 (P := (qRC 41 (tB (vw C h)))) (show (qRC 41 (tB (vw C h))) (((0) + ((268435456) * ρ 1 + ((1) * ρ 3 + ((4398046511104) * ρ 5 + ((4294967296) * ρ 6 + ((2048) * ρ 7 + 0))))))) (((0) + ((1) * ρ 8 + 0))) from hP _ (List.mem_of_getElem? (i := 4) rfl)) (by omega) (by omega)
  have is60 : tSgB (tB (vw C h)) (ρ 3).toNat (ρ 7).toNat 60 = true := b01_1 (k160 (n := ρ 3) (s := ρ 7) (c := 60) (by omega) (by omega) (by omega) (by omega) (by omega) (by omega) p3)
  have hkd := (sg_el.mp is60).1
  have nx := k158 (n := ρ 3) (s := ρ 7) (t := ρ 4) (by omega) (by omega) (by omega) (by omega) (by omega) (by omega) p2
  have ng := nx_gt (B := (tB (vw C h))) (n := (ρ 3).toNat) (s := (ρ 7).toNat) (by omega)
  have hc0 := p4.1
  have hR := rc_el (n := ρ 3) (s := ρ 7) (d := (ρ 1)) (K := (ρ 6)) (R := (ρ 5)) p4 (by omega) (by omega) (by omega) (by omega) (by omega) (by omega) (by omega) (by omega) (by omega) (by omega)
  have q := g_cm hR (by unfold tCm; simp [is60])
  refine ⟨_, List.mem_cons_self, ρ, fun _ _ => rfl, fun q hq => absurd hq List.not_mem_nil, trivial, fun f hf => ?_, fun q hq => absurd hq List.not_mem_nil, fun q hq => absurd hq List.not_mem_nil, fun q hq => absurd hq List.not_mem_nil, fun q hq => ?_⟩
  · simp only [List.mem_cons, List.not_mem_nil, or_false] at hf
    subst hf
    show (0 : Int) ≤ ((-1) + ((1) * ρ 4 + ((-1) * ρ 7 + 0)))
    omega
  · simp only [List.mem_cons, List.not_mem_nil, or_false] at hq
    subst hq
    show (qRC 42 (tB (vw C h))) (((0) + ((268435456) * ρ 1 + ((1) * ρ 3 + ((2048) * ρ 4 + ((4398046511104) * ρ 5 + ((4294967296) * ρ 6 + 0))))))) (((0) + ((1) * ρ 8 + 0)))
    refine c2 (P := (qRC 42 (tB (vw C h)))) (r := 268435456 * ρ 1 + ρ 3 + 2048 * ρ 4 + 4398046511104 * ρ 5 + 4294967296 * ρ 6) (c := ρ 8) ?_ (by omega) (by omega)
    show (qRC 42 (tB (vw C h))) (268435456 * ρ 1 + ρ 3 + 2048 * ρ 4 + 4398046511104 * ρ 5 + 4294967296 * ρ 6) (ρ 8)
    exact rc_in (n := ρ 3) (s := ρ 4) (d := (ρ 1)) (K := (ρ 6)) (R := (ρ 5)) (by omega) (by omega) (by omega) (by omega) (by omega) (by omega) (by omega) (by omega) (by omega) (by omega) q (by omega) (by omega) (by omega) (by omega) (by omega)
/-- cm62C -/
theorem lem_457_ok (hU : uqG G C) : lem_457.1.2.1 = [] ∧ lemOK (PRd G C D xs) G rgs lem_457 := by
  refine ⟨rfl, fun ρ h ha hT => ?_⟩
  obtain ⟨-, -, hF, hG, hH, hA, hP⟩ := ha
  have f0 : (0 : Int) ≤ ((0) + ((1) * ρ 3 + 0)) := hF _ (List.mem_of_getElem? (i := 0) rfl)
  have f1 : (0 : Int) ≤ ((1200) + ((-1) * ρ 3 + 0)) := hF _ (List.mem_of_getElem? (i := 1) rfl)
  have f2 : (0 : Int) ≤ ((0) + ((1) * ρ 4 + 0)) := hF _ (List.mem_of_getElem? (i := 2) rfl)
  have f3 : (0 : Int) ≤ ((0) + ((1) * ρ 3 + ((-1) * ρ 4 + 0))) := hF _ (List.mem_of_getElem? (i := 3) rfl)
  have f4 : (0 : Int) ≤ ((0) + ((1) * ρ 5 + 0)) := hF _ (List.mem_of_getElem? (i := 4) rfl)
  have f5 : (0 : Int) ≤ ((8191) + ((-1) * ρ 5 + 0)) := hF _ (List.mem_of_getElem? (i := 5) rfl)
  have f6 : (0 : Int) ≤ ((0) + ((1) * ρ 6 + 0)) := hF _ (List.mem_of_getElem? (i := 6) rfl)
  have f7 : (0 : Int) ≤ ((1023) + ((-1) * ρ 6 + 0)) := hF _ (List.mem_of_getElem? (i := 7) rfl)
  have f8 : (0 : Int) ≤ ((0) + ((1) * ρ 1 + 0)) := hF _ (List.mem_of_getElem? (i := 8) rfl)
  have f9 : (0 : Int) ≤ ((10) + ((-1) * ρ 1 + 0)) := hF _ (List.mem_of_getElem? (i := 9) rfl)
  have f10 : (0 : Int) ≤ ((0) + ((1) * ρ 7 + 0)) := hF _ (List.mem_of_getElem? (i := 10) rfl)
  have f11 : (0 : Int) ≤ ((0) + ((1) * ρ 3 + ((-1) * ρ 7 + 0))) := hF _ (List.mem_of_getElem? (i := 11) rfl)
  have g0 : G (ρ 0).toNat = 14 := by
    have q := (hG _ (List.mem_of_getElem? (i := 0) rfl)).2
    rwa [show ev ρ (0, [(0, 1)]) = ρ 0 from ev_v] at q
  have g1 : G (ρ 2).toNat = 17 := by
    have q := (hG _ (List.mem_of_getElem? (i := 1) rfl)).2
    rwa [show ev ρ (0, [(2, 1)]) = ρ 2 from ev_v] at q
  have h1 : (0 : Int) ≤ ρ 3 ∧ ρ 3 ≤ 1200 := hf_rg hT (hH _ (List.mem_of_getElem? (i := 1) rfl)) ev_v g1 rfl rfl rfl ev_v
  have h2 : (0 : Int) ≤ ρ 4 ∧ ρ 4 ≤ 1200 := hf_rg hT (hH _ (List.mem_of_getElem? (i := 2) rfl)) ev_v g1 rfl rfl rfl ev_v
  have p0 : True := c2 (P := (fun (_ _ : Int) => True)) (r := 0) (r' := 0) (c := 0) (c' := 0) (show True from hP _ (List.mem_of_getElem? (i := 0) rfl)) rfl rfl
  have p1 : q167 (2 * ρ 1) (ρ 6) := c2 (P := q167) (show q167 (((0) + ((2) * ρ 1 + 0))) (((0) + ((1) * ρ 6 + 0))) from hP _ (List.mem_of_getElem? (i := 1) rfl)) (by omega) (by omega)
  have p2 : q158 (tB (vw C h)) (ρ 3 + 2048 * ρ 4) (ρ 7) := c2 (P := q158 (tB (vw C h))) (show q158 (tB (vw C h)) (((0) + ((1) * ρ 3 + ((2048) * ρ 4 + 0)))) (((0) + ((1) * ρ 7 + 0))) from hP _ (List.mem_of_getElem? (i := 2) rfl)) (by omega) (by omega)
  have p3 : q160 (tB (vw C h)) (ρ 3 + 2048 * ρ 7 + 260046848) ((1 : Int)) := c2 (P := q160 (tB (vw C h))) (show q160 (tB (vw C h)) (((260046848) + ((1) * ρ 3 + ((2048) * ρ 7 + 0)))) (((1) + 0)) from hP _ (List.mem_of_getElem? (i := 3) rfl)) (by omega) (by omega)
  have p4 : (qRC 41 (tB (vw C h))) (268435456 * ρ 1 + ρ 3 + 4398046511104 * ρ 5 + 4294967296 * ρ 6 + 2048 * ρ 7) (ρ 8) := c2 (P := (qRC 41 (tB (vw C h)))) (show (qRC 41 (tB (vw C h))) (((0) + ((268435456) * ρ 1 + ((1) * ρ 3 + ((4398046511104) * ρ 5 + ((4294967296) * ρ 6 + ((2048) * ρ 7 + 0))))))) (((0) + ((1) * ρ 8 + 0))) from hP _ (List.mem_of_getElem? (i := 4) rfl)) (by omega) (by omega)
  have is62 : tSgB (tB (vw C h)) (ρ 3).toNat (ρ 7).toNat 62 = true := b01_1 (k160 (n := ρ 3) (s := ρ 7) (c := 62) (by omega) (by omega) (by omega) (by omega) (by omega) (by omega) p3)
  have hkd := (sg_el.mp is62).1
  have nx := k158 (n := ρ 3) (s := ρ 7) (t := ρ 4) (by omega) (by omega) (by omega) (by omega) (by omega) (by omega) p2
  have ng := nx_gt (B := (tB (vw C h))) (n := (ρ 3).toNat) (s := (ρ 7).toNat) (by omega)
  have hc0 := p4.1
  have hR := rc_el (n := ρ 3) (s := ρ 7) (d := (ρ 1)) (K := (ρ 6)) (R := (ρ 5)) p4 (by omega) (by omega) (by omega) (by omega) (by omega) (by omega) (by omega) (by omega) (by omega) (by omega)
  have q := g_cm hR (by unfold tCm; simp [is62])
  refine ⟨_, List.mem_cons_self, ρ, fun _ _ => rfl, fun q hq => absurd hq List.not_mem_nil, trivial, fun f hf => ?_, fun q hq => absurd hq List.not_mem_nil, fun q hq => absurd hq List.not_mem_nil, fun q hq => absurd hq List.not_mem_nil, fun q hq => ?_⟩
  · simp only [List.mem_cons, List.not_mem_nil, or_false] at hf
    subst hf
    show (0 : Int) ≤ ((-1) + ((1) * ρ 4 + ((-1) * ρ 7 + 0)))
    omega
  · simp only [List.mem_cons, List.not_mem_nil, or_false] at hq
    subst hq
    show (qRC 42 (tB (vw C h))) (((0) + ((268435456) * ρ 1 + ((1) * ρ 3 + ((2048) * ρ 4 + ((4398046511104) * ρ 5 + ((4294967296) * ρ 6 + 0))))))) (((0) + ((1) * ρ 8 + 0)))
    refine c2 (P := (qRC 42 (tB (vw C h)))) (r := 268435456 * ρ 1 + ρ 3 + 2048 * ρ 4 + 4398046511104 * ρ 5 + 4294967296 * ρ 6) (c := ρ 8) ?_ (by omega) (by omega)
    show (qRC 42 (tB (vw C h))) (268435456 * ρ 1 + ρ 3 + 2048 * ρ 4 + 4398046511104 * ρ 5 + 4294967296 * ρ 6) (ρ 8)
    exact rc_in (n := ρ 3) (s := ρ 4) (d := (ρ 1)) (K := (ρ 6)) (R := (ρ 5)) (by omega) (by omega) (by omega) (by omega) (by omega) (by omega) (by omega) (by omega) (by omega) (by omega) q (by omega) (by omega) (by omega) (by omega) (by omega)
/-- cm61C -/
theorem lem_458_ok (hU : uqG G C) : lem_458.1.2.1 = [] ∧ lemOK (PRd G C D xs) G rgs lem_458 := by
  refine ⟨rfl, fun ρ h ha hT => ?_⟩
  obtain ⟨-, -, hF, hG, hH, hA, hP⟩ := ha
  have f0 : (0 : Int) ≤ ((0) + ((1) * ρ 3 + 0)) := hF _ (List.mem_of_getElem? (i := 0) rfl)
  have f1 : (0 : Int) ≤ ((1200) + ((-1) * ρ 3 + 0)) := hF _ (List.mem_of_getElem? (i := 1) rfl)
  have f2 : (0 : Int) ≤ ((0) + ((1) * ρ 4 + 0)) := hF _ (List.mem_of_getElem? (i := 2) rfl)
  have f3 : (0 : Int) ≤ ((0) + ((1) * ρ 3 + ((-1) * ρ 4 + 0))) := hF _ (List.mem_of_getElem? (i := 3) rfl)
  have f4 : (0 : Int) ≤ ((0) + ((1) * ρ 5 + 0)) := hF _ (List.mem_of_getElem? (i := 4) rfl)
  have f5 : (0 : Int) ≤ ((8191) + ((-1) * ρ 5 + 0)) := hF _ (List.mem_of_getElem? (i := 5) rfl)
  have f6 : (0 : Int) ≤ ((0) + ((1) * ρ 6 + 0)) := hF _ (List.mem_of_getElem? (i := 6) rfl)
  have f7 : (0 : Int) ≤ ((1023) + ((-1) * ρ 6 + 0)) := hF _ (List.mem_of_getElem? (i := 7) rfl)
  have f8 : (0 : Int) ≤ ((0) + ((1) * ρ 1 + 0)) := hF _ (List.mem_of_getElem? (i := 8) rfl)
  have f9 : (0 : Int) ≤ ((10) + ((-1) * ρ 1 + 0)) := hF _ (List.mem_of_getElem? (i := 9) rfl)
  have f10 : (0 : Int) ≤ ((0) + ((1) * ρ 7 + 0)) := hF _ (List.mem_of_getElem? (i := 10) rfl)
  have f11 : (0 : Int) ≤ ((0) + ((1) * ρ 3 + ((-1) * ρ 7 + 0))) := hF _ (List.mem_of_getElem? (i := 11) rfl)
  have g0 : G (ρ 0).toNat = 14 := by
    have q := (hG _ (List.mem_of_getElem? (i := 0) rfl)).2
    rwa [show ev ρ (0, [(0, 1)]) = ρ 0 from ev_v] at q
  have g1 : G (ρ 2).toNat = 17 := by
    have q := (hG _ (List.mem_of_getElem? (i := 1) rfl)).2
    rwa [show ev ρ (0, [(2, 1)]) = ρ 2 from ev_v] at q
  have h1 : (0 : Int) ≤ ρ 3 ∧ ρ 3 ≤ 1200 := hf_rg hT (hH _ (List.mem_of_getElem? (i := 1) rfl)) ev_v g1 rfl rfl rfl ev_v
  have h2 : (0 : Int) ≤ ρ 4 ∧ ρ 4 ≤ 1200 := hf_rg hT (hH _ (List.mem_of_getElem? (i := 2) rfl)) ev_v g1 rfl rfl rfl ev_v
  have p0 : True := c2 (P := (fun (_ _ : Int) => True)) (r := 0) (r' := 0) (c := 0) (c' := 0) (show True from hP _ (List.mem_of_getElem? (i := 0) rfl)) rfl rfl
  have p1 : q167 (2 * ρ 1) (ρ 6) := c2 (P := q167) (show q167 (((0) + ((2) * ρ 1 + 0))) (((0) + ((1) * ρ 6 + 0))) from hP _ (List.mem_of_getElem? (i := 1) rfl)) (by omega) (by omega)
  have p2 : q158 (tB (vw C h)) (ρ 3 + 2048 * ρ 4) (ρ 7) := c2 (P := q158 (tB (vw C h))) (show q158 (tB (vw C h)) (((0) + ((1) * ρ 3 + ((2048) * ρ 4 + 0)))) (((0) + ((1) * ρ 7 + 0))) from hP _ (List.mem_of_getElem? (i := 2) rfl)) (by omega) (by omega)
  have p3 : q160 (tB (vw C h)) (ρ 3 + 2048 * ρ 7 + 255852544) ((1 : Int)) := c2 (P := q160 (tB (vw C h))) (show q160 (tB (vw C h)) (((255852544) + ((1) * ρ 3 + ((2048) * ρ 7 + 0)))) (((1) + 0)) from hP _ (List.mem_of_getElem? (i := 3) rfl)) (by omega) (by omega)
  have p4 : (qRC 41 (tB (vw C h))) (268435456 * ρ 1 + ρ 3 + 4398046511104 * ρ 5 + 4294967296 * ρ 6 + 2048 * ρ 7) (ρ 8) := c2 (P := (qRC 41 (tB (vw C h)))) (show (qRC 41 (tB (vw C h))) (((0) + ((268435456) * ρ 1 + ((1) * ρ 3 + ((4398046511104) * ρ 5 + ((4294967296) * ρ 6 + ((2048) * ρ 7 + 0))))))) (((0) + ((1) * ρ 8 + 0))) from hP _ (List.mem_of_getElem? (i := 4) rfl)) (by omega) (by omega)
  have is61 : tSgB (tB (vw C h)) (ρ 3).toNat (ρ 7).toNat 61 = true := b01_1 (k160 (n := ρ 3) (s := ρ 7) (c := 61) (by omega) (by omega) (by omega) (by omega) (by omega) (by omega) p3)
  have hkd := (sg_el.mp is61).1
  have nx := k158 (n := ρ 3) (s := ρ 7) (t := ρ 4) (by omega) (by omega) (by omega) (by omega) (by omega) (by omega) p2
  have ng := nx_gt (B := (tB (vw C h))) (n := (ρ 3).toNat) (s := (ρ 7).toNat) (by omega)
  have hc0 := p4.1
  have hR := rc_el (n := ρ 3) (s := ρ 7) (d := (ρ 1)) (K := (ρ 6)) (R := (ρ 5)) p4 (by omega) (by omega) (by omega) (by omega) (by omega) (by omega) (by omega) (by omega) (by omega) (by omega)
  have q := g_cm hR (by unfold tCm; simp [is61])
  refine ⟨_, List.mem_cons_self, ρ, fun _ _ => rfl, fun q hq => absurd hq List.not_mem_nil, trivial, fun f hf => ?_, fun q hq => absurd hq List.not_mem_nil, fun q hq => absurd hq List.not_mem_nil, fun q hq => absurd hq List.not_mem_nil, fun q hq => ?_⟩
  · simp only [List.mem_cons, List.not_mem_nil, or_false] at hf
    subst hf
    show (0 : Int) ≤ ((-1) + ((1) * ρ 4 + ((-1) * ρ 7 + 0)))
    omega
  · simp only [List.mem_cons, List.not_mem_nil, or_false] at hq
    subst hq
    show (qRC 42 (tB (vw C h))) (((0) + ((268435456) * ρ 1 + ((1) * ρ 3 + ((2048) * ρ 4 + ((4398046511104) * ρ 5 + ((4294967296) * ρ 6 + 0))))))) (((0) + ((1) * ρ 8 + 0)))
    refine c2 (P := (qRC 42 (tB (vw C h)))) (r := 268435456 * ρ 1 + ρ 3 + 2048 * ρ 4 + 4398046511104 * ρ 5 + 4294967296 * ρ 6) (c := ρ 8) ?_ (by omega) (by omega)
    show (qRC 42 (tB (vw C h))) (268435456 * ρ 1 + ρ 3 + 2048 * ρ 4 + 4398046511104 * ρ 5 + 4294967296 * ρ 6) (ρ 8)
    exact rc_in (n := ρ 3) (s := ρ 4) (d := (ρ 1)) (K := (ρ 6)) (R := (ρ 5)) (by omega) (by omega) (by omega) (by omega) (by omega) (by omega) (by omega) (by omega) (by omega) (by omega) q (by omega) (by omega) (by omega) (by omega) (by omega)
/-- cmNoC -/
theorem lem_459_ok (hU : uqG G C) : lem_459.1.2.1 = [] ∧ lemOK (PRd G C D xs) G rgs lem_459 := by
  refine ⟨rfl, fun ρ h ha hT => ?_⟩
  obtain ⟨-, -, hF, hG, hH, hA, hP⟩ := ha
  have f0 : (0 : Int) ≤ ((0) + ((1) * ρ 3 + 0)) := hF _ (List.mem_of_getElem? (i := 0) rfl)
  have f1 : (0 : Int) ≤ ((1200) + ((-1) * ρ 3 + 0)) := hF _ (List.mem_of_getElem? (i := 1) rfl)
  have f2 : (0 : Int) ≤ ((0) + ((1) * ρ 4 + 0)) := hF _ (List.mem_of_getElem? (i := 2) rfl)
  have f3 : (0 : Int) ≤ ((0) + ((1) * ρ 3 + ((-1) * ρ 4 + 0))) := hF _ (List.mem_of_getElem? (i := 3) rfl)
  have f4 : (0 : Int) ≤ ((0) + ((1) * ρ 5 + 0)) := hF _ (List.mem_of_getElem? (i := 4) rfl)
  have f5 : (0 : Int) ≤ ((8191) + ((-1) * ρ 5 + 0)) := hF _ (List.mem_of_getElem? (i := 5) rfl)
  have f6 : (0 : Int) ≤ ((0) + ((1) * ρ 6 + 0)) := hF _ (List.mem_of_getElem? (i := 6) rfl)
  have f7 : (0 : Int) ≤ ((1023) + ((-1) * ρ 6 + 0)) := hF _ (List.mem_of_getElem? (i := 7) rfl)
  have f8 : (0 : Int) ≤ ((0) + ((1) * ρ 1 + 0)) := hF _ (List.mem_of_getElem? (i := 8) rfl)
  have f9 : (0 : Int) ≤ ((10) + ((-1) * ρ 1 + 0)) := hF _ (List.mem_of_getElem? (i := 9) rfl)
  have g0 : G (ρ 0).toNat = 14 := by
    have q := (hG _ (List.mem_of_getElem? (i := 0) rfl)).2
    rwa [show ev ρ (0, [(0, 1)]) = ρ 0 from ev_v] at q
  have g1 : G (ρ 2).toNat = 17 := by
    have q := (hG _ (List.mem_of_getElem? (i := 1) rfl)).2
    rwa [show ev ρ (0, [(2, 1)]) = ρ 2 from ev_v] at q
  have h1 : (0 : Int) ≤ ρ 3 ∧ ρ 3 ≤ 1200 := hf_rg hT (hH _ (List.mem_of_getElem? (i := 1) rfl)) ev_v g1 rfl rfl rfl ev_v
  have h2 : (0 : Int) ≤ ρ 4 ∧ ρ 4 ≤ 1200 := hf_rg hT (hH _ (List.mem_of_getElem? (i := 2) rfl)) ev_v g1 rfl rfl rfl ev_v
  have p0 : True := c2 (P := (fun (_ _ : Int) => True)) (r := 0) (r' := 0) (c := 0) (c' := 0) (show True from hP _ (List.mem_of_getElem? (i := 0) rfl)) rfl rfl
  have p1 : q167 (2 * ρ 1) (ρ 6) := c2 (P := q167) (show q167 (((0) + ((2) * ρ 1 + 0))) (((0) + ((1) * ρ 6 + 0))) from hP _ (List.mem_of_getElem? (i := 1) rfl)) (by omega) (by omega)
  have p2 : q160 (tB (vw C h)) (ρ 3 + 2048 * ρ 4 + 251658240) ((0 : Int)) := c2 (P := q160 (tB (vw C h))) (show q160 (tB (vw C h)) (((251658240) + ((1) * ρ 3 + ((2048) * ρ 4 + 0)))) (((0) + 0)) from hP _ (List.mem_of_getElem? (i := 2) rfl)) (by omega) (by omega)
  have p3 : q160 (tB (vw C h)) (ρ 3 + 2048 * ρ 4 + 260046848) ((0 : Int)) := c2 (P := q160 (tB (vw C h))) (show q160 (tB (vw C h)) (((260046848) + ((1) * ρ 3 + ((2048) * ρ 4 + 0)))) (((0) + 0)) from hP _ (List.mem_of_getElem? (i := 3) rfl)) (by omega) (by omega)
  have p4 : q160 (tB (vw C h)) (ρ 3 + 2048 * ρ 4 + 255852544) ((0 : Int)) := c2 (P := q160 (tB (vw C h))) (show q160 (tB (vw C h)) (((255852544) + ((1) * ρ 3 + ((2048) * ρ 4 + 0)))) (((0) + 0)) from hP _ (List.mem_of_getElem? (i := 4) rfl)) (by omega) (by omega)
  have p5 : (qRC 41 (tB (vw C h))) (268435456 * ρ 1 + ρ 3 + 2048 * ρ 4 + 4398046511104 * ρ 5 + 4294967296 * ρ 6) (ρ 7) := c2 (P := (qRC 41 (tB (vw C h)))) (show (qRC 41 (tB (vw C h))) (((0) + ((268435456) * ρ 1 + ((1) * ρ 3 + ((2048) * ρ 4 + ((4398046511104) * ρ 5 + ((4294967296) * ρ 6 + 0))))))) (((0) + ((1) * ρ 7 + 0))) from hP _ (List.mem_of_getElem? (i := 5) rfl)) (by omega) (by omega)
  have is60 : tSgB (tB (vw C h)) (ρ 3).toNat (ρ 4).toNat 60 = false := b01_0 (k160 (n := ρ 3) (s := ρ 4) (c := 60) (by omega) (by omega) (by omega) (by omega) (by omega) (by omega) p2)
  have is62 : tSgB (tB (vw C h)) (ρ 3).toNat (ρ 4).toNat 62 = false := b01_0 (k160 (n := ρ 3) (s := ρ 4) (c := 62) (by omega) (by omega) (by omega) (by omega) (by omega) (by omega) p3)
  have is61 : tSgB (tB (vw C h)) (ρ 3).toNat (ρ 4).toNat 61 = false := b01_0 (k160 (n := ρ 3) (s := ρ 4) (c := 61) (by omega) (by omega) (by omega) (by omega) (by omega) (by omega) p4)
  have hc0 := p5.1
  have hR := rc_el (n := ρ 3) (s := ρ 4) (d := (ρ 1)) (K := (ρ 6)) (R := (ρ 5)) p5 (by omega) (by omega) (by omega) (by omega) (by omega) (by omega) (by omega) (by omega) (by omega) (by omega)
  have q := o_cm hR (by unfold tCm; rw [is60, is62, is61]; rfl)
  refine ⟨_, List.mem_cons_self, ρ, fun _ _ => rfl, fun q hq => absurd hq List.not_mem_nil, trivial, fun f hf => ?_, fun q hq => absurd hq List.not_mem_nil, fun q hq => absurd hq List.not_mem_nil, fun q hq => absurd hq List.not_mem_nil, fun q hq => ?_⟩
  · exact absurd hf List.not_mem_nil
  · simp only [List.mem_cons, List.not_mem_nil, or_false] at hq
    subst hq
    show q166 (tB (vw C h)) (((0) + ((1) * ρ 3 + 0))) (((4096) + ((1) * ρ 4 + 0)))
    refine c2 (P := q166 (tB (vw C h))) (r := ρ 3) (c := ρ 4 + 4096) ?_ (by omega) (by omega)
    show q166 (tB (vw C h)) (ρ 3) (ρ 4 + 4096)
    exact o166 (k := 4096) (n := ρ 3) (s := ρ 4) (by omega) q (by omega) rfl (by omega)
/-- afNC -/
theorem lem_460_ok (hU : uqG G C) : lem_460.1.2.1 = [] ∧ lemOK (PRd G C D xs) G rgs lem_460 := by
  refine ⟨rfl, fun ρ h ha hT => ?_⟩
  obtain ⟨-, -, hF, hG, hH, hA, hP⟩ := ha
  have f0 : (0 : Int) ≤ ((0) + ((1) * ρ 3 + 0)) := hF _ (List.mem_of_getElem? (i := 0) rfl)
  have f1 : (0 : Int) ≤ ((1200) + ((-1) * ρ 3 + 0)) := hF _ (List.mem_of_getElem? (i := 1) rfl)
  have f2 : (0 : Int) ≤ ((0) + ((1) * ρ 4 + 0)) := hF _ (List.mem_of_getElem? (i := 2) rfl)
  have f3 : (0 : Int) ≤ ((0) + ((1) * ρ 3 + ((-1) * ρ 4 + 0))) := hF _ (List.mem_of_getElem? (i := 3) rfl)
  have f4 : (0 : Int) ≤ ((0) + ((1) * ρ 5 + 0)) := hF _ (List.mem_of_getElem? (i := 4) rfl)
  have f5 : (0 : Int) ≤ ((8191) + ((-1) * ρ 5 + 0)) := hF _ (List.mem_of_getElem? (i := 5) rfl)
  have f6 : (0 : Int) ≤ ((0) + ((1) * ρ 6 + 0)) := hF _ (List.mem_of_getElem? (i := 6) rfl)
  have f7 : (0 : Int) ≤ ((1023) + ((-1) * ρ 6 + 0)) := hF _ (List.mem_of_getElem? (i := 7) rfl)
  have f8 : (0 : Int) ≤ ((0) + ((1) * ρ 1 + 0)) := hF _ (List.mem_of_getElem? (i := 8) rfl)
  have f9 : (0 : Int) ≤ ((10) + ((-1) * ρ 1 + 0)) := hF _ (List.mem_of_getElem? (i := 9) rfl)
  have f10 : (0 : Int) ≤ ((9) + ((-1) * ρ 1 + 0)) := hF _ (List.mem_of_getElem? (i := 10) rfl)
  have f11 : (0 : Int) ≤ ((511) + ((-1) * ρ 6 + 0)) := hF _ (List.mem_of_getElem? (i := 11) rfl)
  have g0 : G (ρ 0).toNat = 14 := by
    have q := (hG _ (List.mem_of_getElem? (i := 0) rfl)).2
    rwa [show ev ρ (0, [(0, 1)]) = ρ 0 from ev_v] at q
  have g1 : G (ρ 2).toNat = 17 := by
    have q := (hG _ (List.mem_of_getElem? (i := 1) rfl)).2
    rwa [show ev ρ (0, [(2, 1)]) = ρ 2 from ev_v] at q
  have h1 : (0 : Int) ≤ ρ 3 ∧ ρ 3 ≤ 1200 := hf_rg hT (hH _ (List.mem_of_getElem? (i := 1) rfl)) ev_v g1 rfl rfl rfl ev_v
  have h2 : (0 : Int) ≤ ρ 4 ∧ ρ 4 ≤ 1200 := hf_rg hT (hH _ (List.mem_of_getElem? (i := 2) rfl)) ev_v g1 rfl rfl rfl ev_v
  have p0 : True := c2 (P := (fun (_ _ : Int) => True)) (r := 0) (r' := 0) (c := 0) (c' := 0) (show True from hP _ (List.mem_of_getElem? (i := 0) rfl)) rfl rfl
  have p1 : q167 (2 * ρ 1) (ρ 6) := c2 (P := q167) (show q167 (((0) + ((2) * ρ 1 + 0))) (((0) + ((1) * ρ 6 + 0))) from hP _ (List.mem_of_getElem? (i := 1) rfl)) (by omega) (by omega)
  have p2 : (qRC 43 (tB (vw C h))) (268435456 * ρ 1 + ρ 3 + 2048 * ρ 4 + 4398046511104 * ρ 5 + 8589934592 * ρ 6 + 268435456) (ρ 7) := c2 (P := (qRC 43 (tB (vw C h)))) (show (qRC 43 (tB (vw C h))) (((268435456) + ((268435456) * ρ 1 + ((1) * ρ 3 + ((2048) * ρ 4 + ((4398046511104) * ρ 5 + ((8589934592) * ρ 6 + 0))))))) (((0) + ((1) * ρ 7 + 0))) from hP _ (List.mem_of_getElem? (i := 2) rfl)) (by omega) (by omega)
  have hc0 := p2.1
  have hR := rc_el (n := ρ 3) (s := ρ 4) (d := (ρ 1 + 1)) (K := (2 * ρ 6)) (R := (ρ 5)) p2 (by omega) (by omega) (by omega) (by omega) (by omega) (by omega) (by omega) (by omega) (by omega) (by omega)
  have q67 := q167_9 p1 (by omega) (by omega)
  have q := g_afN hR (by omega) (by omega)
  refine ⟨_, List.mem_cons_self, ρ, fun _ _ => rfl, fun q hq => absurd hq List.not_mem_nil, trivial, fun f hf => ?_, fun q hq => absurd hq List.not_mem_nil, fun q hq => absurd hq List.not_mem_nil, fun q hq => absurd hq List.not_mem_nil, fun q hq => ?_⟩
  · exact absurd hf List.not_mem_nil
  · simp only [List.mem_cons, List.not_mem_nil, or_false] at hq
    subst hq
    show (qRC 43 (tB (vw C h))) (((0) + ((268435456) * ρ 1 + ((1) * ρ 3 + ((2048) * ρ 4 + ((4398046511104) * ρ 5 + ((4294967296) * ρ 6 + 0))))))) (((0) + ((1) * ρ 7 + 0)))
    refine c2 (P := (qRC 43 (tB (vw C h)))) (r := 268435456 * ρ 1 + ρ 3 + 2048 * ρ 4 + 4398046511104 * ρ 5 + 4294967296 * ρ 6) (c := ρ 7) ?_ (by omega) (by omega)
    show (qRC 43 (tB (vw C h))) (268435456 * ρ 1 + ρ 3 + 2048 * ρ 4 + 4398046511104 * ρ 5 + 4294967296 * ρ 6) (ρ 7)
    exact rc_in (n := ρ 3) (s := ρ 4) (d := (ρ 1)) (K := (ρ 6)) (R := (ρ 5)) (by omega) (by omega) (by omega) (by omega) (by omega) (by omega) (by omega) (by omega) (by omega) (by omega) q (by omega) (by omega) (by omega) (by omega) (by omega)
/-- afPC -/
theorem lem_461_ok (hU : uqG G C) : lem_461.1.2.1 = [] ∧ lemOK (PRd G C D xs) G rgs lem_461 := by
  refine ⟨rfl, fun ρ h ha hT => ?_⟩
  obtain ⟨-, -, hF, hG, hH, hA, hP⟩ := ha
  have f0 : (0 : Int) ≤ ((0) + ((1) * ρ 3 + 0)) := hF _ (List.mem_of_getElem? (i := 0) rfl)
  have f1 : (0 : Int) ≤ ((1200) + ((-1) * ρ 3 + 0)) := hF _ (List.mem_of_getElem? (i := 1) rfl)
  have f2 : (0 : Int) ≤ ((0) + ((1) * ρ 4 + 0)) := hF _ (List.mem_of_getElem? (i := 2) rfl)
  have f3 : (0 : Int) ≤ ((0) + ((1) * ρ 3 + ((-1) * ρ 4 + 0))) := hF _ (List.mem_of_getElem? (i := 3) rfl)
  have f4 : (0 : Int) ≤ ((0) + ((1) * ρ 5 + 0)) := hF _ (List.mem_of_getElem? (i := 4) rfl)
  have f5 : (0 : Int) ≤ ((8191) + ((-1) * ρ 5 + 0)) := hF _ (List.mem_of_getElem? (i := 5) rfl)
  have f6 : (0 : Int) ≤ ((0) + ((1) * ρ 6 + 0)) := hF _ (List.mem_of_getElem? (i := 6) rfl)
  have f7 : (0 : Int) ≤ ((1023) + ((-1) * ρ 6 + 0)) := hF _ (List.mem_of_getElem? (i := 7) rfl)
  have f8 : (0 : Int) ≤ ((0) + ((1) * ρ 1 + 0)) := hF _ (List.mem_of_getElem? (i := 8) rfl)
  have f9 : (0 : Int) ≤ ((10) + ((-1) * ρ 1 + 0)) := hF _ (List.mem_of_getElem? (i := 9) rfl)
  have f10 : (0 : Int) ≤ ((0) + ((1) * ρ 7 + 0)) := hF _ (List.mem_of_getElem? (i := 10) rfl)
  have f11 : (0 : Int) ≤ ((0) + ((1) * ρ 3 + ((-1) * ρ 7 + 0))) := hF _ (List.mem_of_getElem? (i := 11) rfl)
  have f12 : (0 : Int) ≤ ((9) + ((-1) * ρ 1 + 0)) := hF _ (List.mem_of_getElem? (i := 12) rfl)
  have f13 : (0 : Int) ≤ ((511) + ((-1) * ρ 6 + 0)) := hF _ (List.mem_of_getElem? (i := 13) rfl)
  have g0 : G (ρ 0).toNat = 14 := by
    have q := (hG _ (List.mem_of_getElem? (i := 0) rfl)).2
    rwa [show ev ρ (0, [(0, 1)]) = ρ 0 from ev_v] at q
  have g1 : G (ρ 2).toNat = 17 := by
    have q := (hG _ (List.mem_of_getElem? (i := 1) rfl)).2
    rwa [show ev ρ (0, [(2, 1)]) = ρ 2 from ev_v] at q
  have h1 : (0 : Int) ≤ ρ 3 ∧ ρ 3 ≤ 1200 := hf_rg hT (hH _ (List.mem_of_getElem? (i := 1) rfl)) ev_v g1 rfl rfl rfl ev_v
  have h2 : (0 : Int) ≤ ρ 4 ∧ ρ 4 ≤ 1200 := hf_rg hT (hH _ (List.mem_of_getElem? (i := 2) rfl)) ev_v g1 rfl rfl rfl ev_v
  have p0 : True := c2 (P := (fun (_ _ : Int) => True)) (r := 0) (r' := 0) (c := 0) (c' := 0) (show True from hP _ (List.mem_of_getElem? (i := 0) rfl)) rfl rfl
  have p1 : q167 (2 * ρ 1) (ρ 6) := c2 (P := q167) (show q167 (((0) + ((2) * ρ 1 + 0))) (((0) + ((1) * ρ 6 + 0))) from hP _ (List.mem_of_getElem? (i := 1) rfl)) (by omega) (by omega)
  have p2 : q158 (tB (vw C h)) (ρ 3 + 2048 * ρ 4) (ρ 7) := c2 (P := q158 (tB (vw C h))) (show q158 (tB (vw C h)) (((0) + ((1) * ρ 3 + ((2048) * ρ 4 + 0)))) (((0) + ((1) * ρ 7 + 0))) from hP _ (List.mem_of_getElem? (i := 2) rfl)) (by omega) (by omega)
  have p3 : q160 (tB (vw C h)) (ρ 3 + 2048 * ρ 7 + 171966464) ((1 : Int)) := c2 (P := q160 (tB (vw C h))) (show q160 (tB (vw C h)) (((171966464) + ((1) * ρ 3 + ((2048) * ρ 7 + 0)))) (((1) + 0)) from hP _ (List.mem_of_getElem? (i := 3) rfl)) (by omega) (by omega)
  have p4 : q159 (tB (vw C h)) (ρ 3 + 2048 * ρ 7 + 58720256) ((0 : Int)) := c2 (P := q159 (tB (vw C h))) (show q159 (tB (vw C h)) (((58720256) + ((1) * ρ 3 + ((2048) * ρ 7 + 0)))) (((0) + 0)) from hP _ (List.mem_of_getElem? (i := 4) rfl)) (by omega) (by omega)
  have p5 : q159 (tB (vw C h)) (ρ 3 + 2048 * ρ 7 + 62914560) ((0 : Int)) := c2 (P := q159 (tB (vw C h))) (show q159 (tB (vw C h)) (((62914560) + ((1) * ρ 3 + ((2048) * ρ 7 + 0)))) (((0) + 0)) from hP _ (List.mem_of_getElem? (i := 5) rfl)) (by omega) (by omega)
  have p6 : (qRC 43 (tB (vw C h))) (268435456 * ρ 1 + ρ 3 + 4398046511104 * ρ 5 + 8589934592 * ρ 6 + 2048 * ρ 7 + 4563402752) (ρ 8) := c2 (P := (qRC 43 (tB (vw C h)))) (show (qRC 43 (tB (vw C h))) (((4563402752) + ((268435456) * ρ 1 + ((1) * ρ 3 + ((4398046511104) * ρ 5 + ((8589934592) * ρ 6 + ((2048) * ρ 7 + 0))))))) (((0) + ((1) * ρ 8 + 0))) from hP _ (List.mem_of_getElem? (i := 6) rfl)) (by omega) (by omega)
  have is41 : tSgB (tB (vw C h)) (ρ 3).toNat (ρ 7).toNat 41 = true := b01_1 (k160 (n := ρ 3) (s := ρ 7) (c := 41) (by omega) (by omega) (by omega) (by omega) (by omega) (by omega) p3)
  have hkd := (sg_el.mp is41).1
  have iw14 : tIsB (tB (vw C h)) (ρ 3).toNat (ρ 7).toNat (wd 14) = false := b01_0 (k159 (n := ρ 3) (s := ρ 7) (w := 14) (by omega) (by omega) (by omega) (by omega) (by omega) (by omega) p4)
  have iw15 : tIsB (tB (vw C h)) (ρ 3).toNat (ρ 7).toNat (wd 15) = false := b01_0 (k159 (n := ρ 3) (s := ρ 7) (w := 15) (by omega) (by omega) (by omega) (by omega) (by omega) (by omega) p5)
  have nx := k158 (n := ρ 3) (s := ρ 7) (t := ρ 4) (by omega) (by omega) (by omega) (by omega) (by omega) (by omega) p2
  have ng := nx_gt (B := (tB (vw C h))) (n := (ρ 3).toNat) (s := (ρ 7).toNat) (by omega)
  have hc0 := p6.1
  have hR := rc_el (n := ρ 3) (s := ρ 7) (d := (ρ 1 + 1)) (K := (2 * ρ 6 + 1)) (R := (ρ 5)) p6 (by omega) (by omega) (by omega) (by omega) (by omega) (by omega) (by omega) (by omega) (by omega) (by omega)
  have q67 := q167_9 p1 (by omega) (by omega)
  have q := g_afP hR (by omega) (by omega) (by unfold tAo; rw [iw14, iw15]; rfl) is41
  refine ⟨_, List.mem_cons_self, ρ, fun _ _ => rfl, fun q hq => absurd hq List.not_mem_nil, trivial, fun f hf => ?_, fun q hq => absurd hq List.not_mem_nil, fun q hq => absurd hq List.not_mem_nil, fun q hq => absurd hq List.not_mem_nil, fun q hq => ?_⟩
  · simp only [List.mem_cons, List.not_mem_nil, or_false] at hf
    subst hf
    show (0 : Int) ≤ ((-1) + ((1) * ρ 4 + ((-1) * ρ 7 + 0)))
    omega
  · simp only [List.mem_cons, List.not_mem_nil, or_false] at hq
    subst hq
    show (qRC 43 (tB (vw C h))) (((0) + ((268435456) * ρ 1 + ((1) * ρ 3 + ((2048) * ρ 4 + ((4398046511104) * ρ 5 + ((4294967296) * ρ 6 + 0))))))) (((0) + ((1) * ρ 8 + 0)))
    refine c2 (P := (qRC 43 (tB (vw C h)))) (r := 268435456 * ρ 1 + ρ 3 + 2048 * ρ 4 + 4398046511104 * ρ 5 + 4294967296 * ρ 6) (c := ρ 8) ?_ (by omega) (by omega)
    show (qRC 43 (tB (vw C h))) (268435456 * ρ 1 + ρ 3 + 2048 * ρ 4 + 4398046511104 * ρ 5 + 4294967296 * ρ 6) (ρ 8)
    exact rc_in (n := ρ 3) (s := ρ 4) (d := (ρ 1)) (K := (ρ 6)) (R := (ρ 5)) (by omega) (by omega) (by omega) (by omega) (by omega) (by omega) (by omega) (by omega) (by omega) (by omega) q (by omega) (by omega) (by omega) (by omega) (by omega)
/-- afXC -/
theorem lem_462_ok (hU : uqG G C) : lem_462.1.2.1 = [] ∧ lemOK (PRd G C D xs) G rgs lem_462 := by
  refine ⟨rfl, fun ρ h ha hT => ?_⟩
  obtain ⟨-, -, hF, hG, hH, hA, hP⟩ := ha
  have f0 : (0 : Int) ≤ ((0) + ((1) * ρ 3 + 0)) := hF _ (List.mem_of_getElem? (i := 0) rfl)
  have f1 : (0 : Int) ≤ ((1200) + ((-1) * ρ 3 + 0)) := hF _ (List.mem_of_getElem? (i := 1) rfl)
  have f2 : (0 : Int) ≤ ((0) + ((1) * ρ 4 + 0)) := hF _ (List.mem_of_getElem? (i := 2) rfl)
  have f3 : (0 : Int) ≤ ((0) + ((1) * ρ 3 + ((-1) * ρ 4 + 0))) := hF _ (List.mem_of_getElem? (i := 3) rfl)
  have f4 : (0 : Int) ≤ ((0) + ((1) * ρ 5 + 0)) := hF _ (List.mem_of_getElem? (i := 4) rfl)
  have f5 : (0 : Int) ≤ ((8191) + ((-1) * ρ 5 + 0)) := hF _ (List.mem_of_getElem? (i := 5) rfl)
  have f6 : (0 : Int) ≤ ((0) + ((1) * ρ 6 + 0)) := hF _ (List.mem_of_getElem? (i := 6) rfl)
  have f7 : (0 : Int) ≤ ((1023) + ((-1) * ρ 6 + 0)) := hF _ (List.mem_of_getElem? (i := 7) rfl)
  have f8 : (0 : Int) ≤ ((0) + ((1) * ρ 1 + 0)) := hF _ (List.mem_of_getElem? (i := 8) rfl)
  have f9 : (0 : Int) ≤ ((10) + ((-1) * ρ 1 + 0)) := hF _ (List.mem_of_getElem? (i := 9) rfl)
  have f10 : (0 : Int) ≤ ((9) + ((-1) * ρ 1 + 0)) := hF _ (List.mem_of_getElem? (i := 10) rfl)
  have f11 : (0 : Int) ≤ ((511) + ((-1) * ρ 6 + 0)) := hF _ (List.mem_of_getElem? (i := 11) rfl)
  have g0 : G (ρ 0).toNat = 14 := by
    have q := (hG _ (List.mem_of_getElem? (i := 0) rfl)).2
    rwa [show ev ρ (0, [(0, 1)]) = ρ 0 from ev_v] at q
  have g1 : G (ρ 2).toNat = 17 := by
    have q := (hG _ (List.mem_of_getElem? (i := 1) rfl)).2
    rwa [show ev ρ (0, [(2, 1)]) = ρ 2 from ev_v] at q
  have h1 : (0 : Int) ≤ ρ 3 ∧ ρ 3 ≤ 1200 := hf_rg hT (hH _ (List.mem_of_getElem? (i := 1) rfl)) ev_v g1 rfl rfl rfl ev_v
  have h2 : (0 : Int) ≤ ρ 4 ∧ ρ 4 ≤ 1200 := hf_rg hT (hH _ (List.mem_of_getElem? (i := 2) rfl)) ev_v g1 rfl rfl rfl ev_v
  have p0 : True := c2 (P := (fun (_ _ : Int) => True)) (r := 0) (r' := 0) (c := 0) (c' := 0) (show True from hP _ (List.mem_of_getElem? (i := 0) rfl)) rfl rfl
  have p1 : q167 (2 * ρ 1) (ρ 6) := c2 (P := q167) (show q167 (((0) + ((2) * ρ 1 + 0))) (((0) + ((1) * ρ 6 + 0))) from hP _ (List.mem_of_getElem? (i := 1) rfl)) (by omega) (by omega)
  have p2 : q160 (tB (vw C h)) (ρ 3 + 2048 * ρ 4 + 171966464) ((0 : Int)) := c2 (P := q160 (tB (vw C h))) (show q160 (tB (vw C h)) (((171966464) + ((1) * ρ 3 + ((2048) * ρ 4 + 0)))) (((0) + 0)) from hP _ (List.mem_of_getElem? (i := 2) rfl)) (by omega) (by omega)
  have p3 : q159 (tB (vw C h)) (ρ 3 + 2048 * ρ 4 + 58720256) ((0 : Int)) := c2 (P := q159 (tB (vw C h))) (show q159 (tB (vw C h)) (((58720256) + ((1) * ρ 3 + ((2048) * ρ 4 + 0)))) (((0) + 0)) from hP _ (List.mem_of_getElem? (i := 3) rfl)) (by omega) (by omega)
  have p4 : q159 (tB (vw C h)) (ρ 3 + 2048 * ρ 4 + 62914560) ((0 : Int)) := c2 (P := q159 (tB (vw C h))) (show q159 (tB (vw C h)) (((62914560) + ((1) * ρ 3 + ((2048) * ρ 4 + 0)))) (((0) + 0)) from hP _ (List.mem_of_getElem? (i := 4) rfl)) (by omega) (by omega)
  have p5 : (qRC 43 (tB (vw C h))) (268435456 * ρ 1 + ρ 3 + 2048 * ρ 4 + 4398046511104 * ρ 5 + 8589934592 * ρ 6 + 4563402752) (ρ 7) := c2 (P := (qRC 43 (tB (vw C h)))) (show (qRC 43 (tB (vw C h))) (((4563402752) + ((268435456) * ρ 1 + ((1) * ρ 3 + ((2048) * ρ 4 + ((4398046511104) * ρ 5 + ((8589934592) * ρ 6 + 0))))))) (((0) + ((1) * ρ 7 + 0))) from hP _ (List.mem_of_getElem? (i := 5) rfl)) (by omega) (by omega)
  have is41 : tSgB (tB (vw C h)) (ρ 3).toNat (ρ 4).toNat 41 = false := b01_0 (k160 (n := ρ 3) (s := ρ 4) (c := 41) (by omega) (by omega) (by omega) (by omega) (by omega) (by omega) p2)
  have iw14 : tIsB (tB (vw C h)) (ρ 3).toNat (ρ 4).toNat (wd 14) = false := b01_0 (k159 (n := ρ 3) (s := ρ 4) (w := 14) (by omega) (by omega) (by omega) (by omega) (by omega) (by omega) p3)
  have iw15 : tIsB (tB (vw C h)) (ρ 3).toNat (ρ 4).toNat (wd 15) = false := b01_0 (k159 (n := ρ 3) (s := ρ 4) (w := 15) (by omega) (by omega) (by omega) (by omega) (by omega) (by omega) p4)
  have hc0 := p5.1
  have hR := rc_el (n := ρ 3) (s := ρ 4) (d := (ρ 1 + 1)) (K := (2 * ρ 6 + 1)) (R := (ρ 5)) p5 (by omega) (by omega) (by omega) (by omega) (by omega) (by omega) (by omega) (by omega) (by omega) (by omega)
  have q := o_afX hR (by omega) (by omega) (by unfold tAo; rw [iw14, iw15]; rfl) is41
  refine ⟨_, List.mem_cons_self, ρ, fun _ _ => rfl, fun q hq => absurd hq List.not_mem_nil, trivial, fun f hf => ?_, fun q hq => absurd hq List.not_mem_nil, fun q hq => absurd hq List.not_mem_nil, fun q hq => absurd hq List.not_mem_nil, fun q hq => ?_⟩
  · exact absurd hf List.not_mem_nil
  · simp only [List.mem_cons, List.not_mem_nil, or_false] at hq
    subst hq
    show q166 (tB (vw C h)) (((0) + ((1) * ρ 3 + 0))) (((4096) + ((1) * ρ 4 + 0)))
    refine c2 (P := q166 (tB (vw C h))) (r := ρ 3) (c := ρ 4 + 4096) ?_ (by omega) (by omega)
    show q166 (tB (vw C h)) (ρ 3) (ρ 4 + 4096)
    exact o166 (k := 4096) (n := ρ 3) (s := ρ 4) (by omega) q (by omega) rfl (by omega)
/-- op42C -/
theorem lem_463_ok (hU : uqG G C) : lem_463.1.2.1 = [] ∧ lemOK (PRd G C D xs) G rgs lem_463 := by
  refine ⟨rfl, fun ρ h ha hT => ?_⟩
  obtain ⟨-, -, hF, hG, hH, hA, hP⟩ := ha
  have f0 : (0 : Int) ≤ ((0) + ((1) * ρ 3 + 0)) := hF _ (List.mem_of_getElem? (i := 0) rfl)
  have f1 : (0 : Int) ≤ ((1200) + ((-1) * ρ 3 + 0)) := hF _ (List.mem_of_getElem? (i := 1) rfl)
  have f2 : (0 : Int) ≤ ((0) + ((1) * ρ 4 + 0)) := hF _ (List.mem_of_getElem? (i := 2) rfl)
  have f3 : (0 : Int) ≤ ((0) + ((1) * ρ 3 + ((-1) * ρ 4 + 0))) := hF _ (List.mem_of_getElem? (i := 3) rfl)
  have f4 : (0 : Int) ≤ ((0) + ((1) * ρ 5 + 0)) := hF _ (List.mem_of_getElem? (i := 4) rfl)
  have f5 : (0 : Int) ≤ ((8191) + ((-1) * ρ 5 + 0)) := hF _ (List.mem_of_getElem? (i := 5) rfl)
  have f6 : (0 : Int) ≤ ((0) + ((1) * ρ 6 + 0)) := hF _ (List.mem_of_getElem? (i := 6) rfl)
  have f7 : (0 : Int) ≤ ((1023) + ((-1) * ρ 6 + 0)) := hF _ (List.mem_of_getElem? (i := 7) rfl)
  have f8 : (0 : Int) ≤ ((0) + ((1) * ρ 1 + 0)) := hF _ (List.mem_of_getElem? (i := 8) rfl)
  have f9 : (0 : Int) ≤ ((10) + ((-1) * ρ 1 + 0)) := hF _ (List.mem_of_getElem? (i := 9) rfl)
  have g0 : G (ρ 0).toNat = 14 := by
    have q := (hG _ (List.mem_of_getElem? (i := 0) rfl)).2
    rwa [show ev ρ (0, [(0, 1)]) = ρ 0 from ev_v] at q
  have g1 : G (ρ 2).toNat = 17 := by
    have q := (hG _ (List.mem_of_getElem? (i := 1) rfl)).2
    rwa [show ev ρ (0, [(2, 1)]) = ρ 2 from ev_v] at q
  have h1 : (0 : Int) ≤ ρ 3 ∧ ρ 3 ≤ 1200 := hf_rg hT (hH _ (List.mem_of_getElem? (i := 1) rfl)) ev_v g1 rfl rfl rfl ev_v
  have h2 : (0 : Int) ≤ ρ 4 ∧ ρ 4 ≤ 1200 := hf_rg hT (hH _ (List.mem_of_getElem? (i := 2) rfl)) ev_v g1 rfl rfl rfl ev_v
  have p0 : True := c2 (P := (fun (_ _ : Int) => True)) (r := 0) (r' := 0) (c := 0) (c' := 0) (show True from hP _ (List.mem_of_getElem? (i := 0) rfl)) rfl rfl
  have p1 : q167 (2 * ρ 1) (ρ 6) := c2 (P := q167) (show q167 (((0) + ((2) * ρ 1 + 0))) (((0) + ((1) * ρ 6 + 0))) from hP _ (List.mem_of_getElem? (i := 1) rfl)) (by omega) (by omega)
  have p2 : (qRC 42 (tB (vw C h))) (268435456 * ρ 1 + ρ 3 + 2048 * ρ 4 + 4398046511104 * ρ 5 + 4294967296 * ρ 6) (ρ 7) := c2 (P := (qRC 42 (tB (vw C h)))) (show (qRC 42 (tB (vw C h))) (((0) + ((268435456) * ρ 1 + ((1) * ρ 3 + ((2048) * ρ 4 + ((4398046511104) * ρ 5 + ((4294967296) * ρ 6 + 0))))))) (((0) + ((1) * ρ 7 + 0))) from hP _ (List.mem_of_getElem? (i := 2) rfl)) (by omega) (by omega)
  have hc0 := p2.1
  have hR := rc_el (n := ρ 3) (s := ρ 4) (d := (ρ 1)) (K := (ρ 6)) (R := (ρ 5)) p2 (by omega) (by omega) (by omega) (by omega) (by omega) (by omega) (by omega) (by omega) (by omega) (by omega)
  refine ⟨_, List.mem_cons_self, ρ, fun _ _ => rfl, fun q hq => absurd hq List.not_mem_nil, trivial, fun f hf => ?_, fun q hq => absurd hq List.not_mem_nil, fun q hq => absurd hq List.not_mem_nil, fun q hq => absurd hq List.not_mem_nil, fun q hq => ?_⟩
  · exact absurd hf List.not_mem_nil
  · simp only [List.mem_cons, List.not_mem_nil, or_false] at hq
    subst hq
    show q163 (tB (vw C h)) (((687194767360000) + ((1) * ρ 3 + ((2048) * ρ 4 + 0))))
    refine c2 (P := (fun r (_ : Int) => q163 (tB (vw C h)) r)) (c := 0) (c' := 0) (r := ρ 3 + 2048 * ρ 4 + 687194767360000) ?_ (by omega) rfl
    show q163 (tB (vw C h)) (ρ 3 + 2048 * ρ 4 + 687194767360000)
    exact o163 (n := ρ 3) (s := ρ 4) (lo := 0) (hi := 9999) (by omega) (by omega) (by omega) (by omega) (by omega) (by omega) (by omega) (fn_42 hR)
/-- st42C -/
theorem lem_464_ok (hU : uqG G C) : lem_464.1.2.1 = [] ∧ lemOK (PRd G C D xs) G rgs lem_464 := by
  refine ⟨rfl, fun ρ h ha hT => ?_⟩
  obtain ⟨-, -, hF, hG, hH, hA, hP⟩ := ha
  have f0 : (0 : Int) ≤ ((0) + ((1) * ρ 3 + 0)) := hF _ (List.mem_of_getElem? (i := 0) rfl)
  have f1 : (0 : Int) ≤ ((1200) + ((-1) * ρ 3 + 0)) := hF _ (List.mem_of_getElem? (i := 1) rfl)
  have f2 : (0 : Int) ≤ ((0) + ((1) * ρ 4 + 0)) := hF _ (List.mem_of_getElem? (i := 2) rfl)
  have f3 : (0 : Int) ≤ ((0) + ((1) * ρ 3 + ((-1) * ρ 4 + 0))) := hF _ (List.mem_of_getElem? (i := 3) rfl)
  have f4 : (0 : Int) ≤ ((0) + ((1) * ρ 5 + 0)) := hF _ (List.mem_of_getElem? (i := 4) rfl)
  have f5 : (0 : Int) ≤ ((8191) + ((-1) * ρ 5 + 0)) := hF _ (List.mem_of_getElem? (i := 5) rfl)
  have f6 : (0 : Int) ≤ ((0) + ((1) * ρ 6 + 0)) := hF _ (List.mem_of_getElem? (i := 6) rfl)
  have f7 : (0 : Int) ≤ ((1023) + ((-1) * ρ 6 + 0)) := hF _ (List.mem_of_getElem? (i := 7) rfl)
  have f8 : (0 : Int) ≤ ((0) + ((1) * ρ 1 + 0)) := hF _ (List.mem_of_getElem? (i := 8) rfl)
  have f9 : (0 : Int) ≤ ((10) + ((-1) * ρ 1 + 0)) := hF _ (List.mem_of_getElem? (i := 9) rfl)
  have f10 : (0 : Int) ≤ ((0) + ((1) * ρ 7 + 0)) := hF _ (List.mem_of_getElem? (i := 10) rfl)
  have f11 : (0 : Int) ≤ ((0) + ((1) * ρ 3 + ((-1) * ρ 7 + 0))) := hF _ (List.mem_of_getElem? (i := 11) rfl)
  have f12 : (0 : Int) ≤ ((0) + ((1) * ρ 8 + 0)) := hF _ (List.mem_of_getElem? (i := 12) rfl)
  have f13 : (0 : Int) ≤ ((9999) + ((-1) * ρ 8 + 0)) := hF _ (List.mem_of_getElem? (i := 13) rfl)
  have g0 : G (ρ 0).toNat = 14 := by
    have q := (hG _ (List.mem_of_getElem? (i := 0) rfl)).2
    rwa [show ev ρ (0, [(0, 1)]) = ρ 0 from ev_v] at q
  have g1 : G (ρ 2).toNat = 17 := by
    have q := (hG _ (List.mem_of_getElem? (i := 1) rfl)).2
    rwa [show ev ρ (0, [(2, 1)]) = ρ 2 from ev_v] at q
  have h1 : (0 : Int) ≤ ρ 3 ∧ ρ 3 ≤ 1200 := hf_rg hT (hH _ (List.mem_of_getElem? (i := 1) rfl)) ev_v g1 rfl rfl rfl ev_v
  have h2 : (0 : Int) ≤ ρ 4 ∧ ρ 4 ≤ 1200 := hf_rg hT (hH _ (List.mem_of_getElem? (i := 2) rfl)) ev_v g1 rfl rfl rfl ev_v
  have p0 : True := c2 (P := (fun (_ _ : Int) => True)) (r := 0) (r' := 0) (c := 0) (c' := 0) (show True from hP _ (List.mem_of_getElem? (i := 0) rfl)) rfl rfl
  have p1 : q167 (2 * ρ 1) (ρ 6) := c2 (P := q167) (show q167 (((0) + ((2) * ρ 1 + 0))) (((0) + ((1) * ρ 6 + 0))) from hP _ (List.mem_of_getElem? (i := 1) rfl)) (by omega) (by omega)
  have p2 : q158 (tB (vw C h)) (ρ 3 + 2048 * ρ 4) (ρ 7) := c2 (P := q158 (tB (vw C h))) (show q158 (tB (vw C h)) (((0) + ((1) * ρ 3 + ((2048) * ρ 4 + 0)))) (((0) + ((1) * ρ 7 + 0))) from hP _ (List.mem_of_getElem? (i := 2) rfl)) (by omega) (by omega)
  have p3 : q164 (tB (vw C h)) (ρ 3 + 2048 * ρ 7) (ρ 8) := c2 (P := q164 (tB (vw C h))) (show q164 (tB (vw C h)) (((0) + ((1) * ρ 3 + ((2048) * ρ 7 + 0)))) (((0) + ((1) * ρ 8 + 0))) from hP _ (List.mem_of_getElem? (i := 3) rfl)) (by omega) (by omega)
  have p4 : (qRC 42 (tB (vw C h))) (268435456 * ρ 1 + ρ 3 + 4398046511104 * ρ 5 + 4294967296 * ρ 6 + 2048 * ρ 7) (ρ 9) := c2 (P := (qRC 42 (tB (vw C h)))) (show (qRC 42 (tB (vw C h))) (((0) + ((268435456) * ρ 1 + ((1) * ρ 3 + ((4398046511104) * ρ 5 + ((4294967296) * ρ 6 + ((2048) * ρ 7 + 0))))))) (((0) + ((1) * ρ 9 + 0))) from hP _ (List.mem_of_getElem? (i := 4) rfl)) (by omega) (by omega)
  obtain ⟨hkd, nv⟩ := k164 (n := ρ 3) (s := ρ 7) (by omega) (by omega) (by omega) (by omega) (by omega) p3
  have nx := k158 (n := ρ 3) (s := ρ 7) (t := ρ 4) (by omega) (by omega) (by omega) (by omega) (by omega) (by omega) p2
  have ng := nx_gt (B := (tB (vw C h))) (n := (ρ 3).toNat) (s := (ρ 7).toNat) (by omega)
  have hc0 := p4.1
  have hR := rc_el (n := ρ 3) (s := ρ 7) (d := (ρ 1)) (K := (ρ 6)) (R := (ρ 5)) p4 (by omega) (by omega) (by omega) (by omega) (by omega) (by omega) (by omega) (by omega) (by omega) (by omega)
  have q := sn_42 hR hkd (by omega) (by omega)
  refine ⟨_, List.mem_cons_self, ρ, fun _ _ => rfl, fun q hq => absurd hq List.not_mem_nil, trivial, fun f hf => ?_, fun q hq => absurd hq List.not_mem_nil, fun q hq => absurd hq List.not_mem_nil, fun q hq => absurd hq List.not_mem_nil, fun q hq => ?_⟩
  · simp only [List.mem_cons, List.not_mem_nil, or_false] at hf
    subst hf
    show (0 : Int) ≤ ((-1) + ((1) * ρ 4 + ((-1) * ρ 7 + 0)))
    omega
  · simp only [List.mem_cons, List.not_mem_nil, or_false] at hq
    subst hq
    show (qRC 43 (tB (vw C h))) (((0) + ((268435456) * ρ 1 + ((1) * ρ 3 + ((2048) * ρ 4 + ((4398046511104) * ρ 5 + ((4294967296) * ρ 6 + 0))))))) (((0) + ((1) * ρ 9 + 0)))
    refine c2 (P := (qRC 43 (tB (vw C h)))) (r := 268435456 * ρ 1 + ρ 3 + 2048 * ρ 4 + 4398046511104 * ρ 5 + 4294967296 * ρ 6) (c := ρ 9) ?_ (by omega) (by omega)
    show (qRC 43 (tB (vw C h))) (268435456 * ρ 1 + ρ 3 + 2048 * ρ 4 + 4398046511104 * ρ 5 + 4294967296 * ρ 6) (ρ 9)
    exact rc_in (n := ρ 3) (s := ρ 4) (d := (ρ 1)) (K := (ρ 6)) (R := (ρ 5)) (by omega) (by omega) (by omega) (by omega) (by omega) (by omega) (by omega) (by omega) (by omega) (by omega) q (by omega) (by omega) (by omega) (by omega) (by omega)
/-- iv_daysC -/
theorem lem_465_ok (hU : uqG G C) : lem_465.1.2.1 = [] ∧ lemOK (PRd G C D xs) G rgs lem_465 := by
  refine ⟨rfl, fun ρ h ha hT => ?_⟩
  obtain ⟨-, -, hF, hG, hH, hA, hP⟩ := ha
  have f0 : (0 : Int) ≤ ((0) + ((1) * ρ 2 + 0)) := hF _ (List.mem_of_getElem? (i := 0) rfl)
  have f1 : (0 : Int) ≤ ((1200) + ((-1) * ρ 2 + 0)) := hF _ (List.mem_of_getElem? (i := 1) rfl)
  have f2 : (0 : Int) ≤ ((0) + ((1) * ρ 3 + 0)) := hF _ (List.mem_of_getElem? (i := 2) rfl)
  have f3 : (0 : Int) ≤ ((0) + ((1) * ρ 2 + ((-1) * ρ 3 + 0))) := hF _ (List.mem_of_getElem? (i := 3) rfl)
  have g0 : G (ρ 0).toNat = 14 := by
    have q := (hG _ (List.mem_of_getElem? (i := 0) rfl)).2
    rwa [show ev ρ (0, [(0, 1)]) = ρ 0 from ev_v] at q
  have g1 : G (ρ 1).toNat = 17 := by
    have q := (hG _ (List.mem_of_getElem? (i := 1) rfl)).2
    rwa [show ev ρ (0, [(1, 1)]) = ρ 1 from ev_v] at q
  have h1 : (0 : Int) ≤ ρ 2 ∧ ρ 2 ≤ 1200 := hf_rg hT (hH _ (List.mem_of_getElem? (i := 1) rfl)) ev_v g1 rfl rfl rfl ev_v
  have h2 : (0 : Int) ≤ ρ 3 ∧ ρ 3 ≤ 1200 := hf_rg hT (hH _ (List.mem_of_getElem? (i := 2) rfl)) ev_v g1 rfl rfl rfl ev_v
  have p0 : q159 (tB (vw C h)) (ρ 2 + 2048 * ρ 3 + 67108864) ((1 : Int)) := c2 (P := q159 (tB (vw C h))) (show q159 (tB (vw C h)) (((67108864) + ((1) * ρ 2 + ((2048) * ρ 3 + 0)))) (((1) + 0)) from hP _ (List.mem_of_getElem? (i := 0) rfl)) (by omega) (by omega)
  have iw16 : tIsB (tB (vw C h)) (ρ 2).toNat (ρ 3).toNat (wd 16) = true := b01_1 (k159 (n := ρ 2) (s := ρ 3) (w := 16) (by omega) (by omega) (by omega) (by omega) (by omega) (by omega) p0)
  have hkd := (is_el.mp iw16).1
  have q : tIv (tB (vw C h)) (ρ 2).toNat (ρ 3).toNat = true := by unfold tIv; simp [iw16]
  refine ⟨_, List.mem_cons_self, ρ, fun _ _ => rfl, fun q hq => absurd hq List.not_mem_nil, trivial, fun f hf => ?_, fun q hq => absurd hq List.not_mem_nil, fun q hq => absurd hq List.not_mem_nil, fun q hq => absurd hq List.not_mem_nil, fun q hq => ?_⟩
  · exact absurd hf List.not_mem_nil
  · simp only [List.mem_cons, List.not_mem_nil, or_false] at hq
    subst hq
    show q191 (tB (vw C h)) (((0) + ((1) * ρ 2 + ((2048) * ρ 3 + 0)))) (((1) + 0))
    refine c2 (P := q191 (tB (vw C h))) (r := ρ 2 + 2048 * ρ 3) (c := (1 : Int)) ?_ (by omega) (by omega)
    show q191 (tB (vw C h)) (ρ 2 + 2048 * ρ 3) ((1 : Int))
    exact o191 (n := ρ 2) (s := ρ 3) (by omega) (by omega) (by omega) (by omega) (by omega) (by rw [q]; rfl)
/-- iv_cashC -/
theorem lem_466_ok (hU : uqG G C) : lem_466.1.2.1 = [] ∧ lemOK (PRd G C D xs) G rgs lem_466 := by
  refine ⟨rfl, fun ρ h ha hT => ?_⟩
  obtain ⟨-, -, hF, hG, hH, hA, hP⟩ := ha
  have f0 : (0 : Int) ≤ ((0) + ((1) * ρ 2 + 0)) := hF _ (List.mem_of_getElem? (i := 0) rfl)
  have f1 : (0 : Int) ≤ ((1200) + ((-1) * ρ 2 + 0)) := hF _ (List.mem_of_getElem? (i := 1) rfl)
  have f2 : (0 : Int) ≤ ((0) + ((1) * ρ 3 + 0)) := hF _ (List.mem_of_getElem? (i := 2) rfl)
  have f3 : (0 : Int) ≤ ((0) + ((1) * ρ 2 + ((-1) * ρ 3 + 0))) := hF _ (List.mem_of_getElem? (i := 3) rfl)
  have g0 : G (ρ 0).toNat = 14 := by
    have q := (hG _ (List.mem_of_getElem? (i := 0) rfl)).2
    rwa [show ev ρ (0, [(0, 1)]) = ρ 0 from ev_v] at q
  have g1 : G (ρ 1).toNat = 17 := by
    have q := (hG _ (List.mem_of_getElem? (i := 1) rfl)).2
    rwa [show ev ρ (0, [(1, 1)]) = ρ 1 from ev_v] at q
  have h1 : (0 : Int) ≤ ρ 2 ∧ ρ 2 ≤ 1200 := hf_rg hT (hH _ (List.mem_of_getElem? (i := 1) rfl)) ev_v g1 rfl rfl rfl ev_v
  have h2 : (0 : Int) ≤ ρ 3 ∧ ρ 3 ≤ 1200 := hf_rg hT (hH _ (List.mem_of_getElem? (i := 2) rfl)) ev_v g1 rfl rfl rfl ev_v
  have p0 : q159 (tB (vw C h)) (ρ 2 + 2048 * ρ 3 + 71303168) ((1 : Int)) := c2 (P := q159 (tB (vw C h))) (show q159 (tB (vw C h)) (((71303168) + ((1) * ρ 2 + ((2048) * ρ 3 + 0)))) (((1) + 0)) from hP _ (List.mem_of_getElem? (i := 0) rfl)) (by omega) (by omega)
  have iw17 : tIsB (tB (vw C h)) (ρ 2).toNat (ρ 3).toNat (wd 17) = true := b01_1 (k159 (n := ρ 2) (s := ρ 3) (w := 17) (by omega) (by omega) (by omega) (by omega) (by omega) (by omega) p0)
  have hkd := (is_el.mp iw17).1
  have q : tIv (tB (vw C h)) (ρ 2).toNat (ρ 3).toNat = true := by unfold tIv; simp [iw17]
  refine ⟨_, List.mem_cons_self, ρ, fun _ _ => rfl, fun q hq => absurd hq List.not_mem_nil, trivial, fun f hf => ?_, fun q hq => absurd hq List.not_mem_nil, fun q hq => absurd hq List.not_mem_nil, fun q hq => absurd hq List.not_mem_nil, fun q hq => ?_⟩
  · exact absurd hf List.not_mem_nil
  · simp only [List.mem_cons, List.not_mem_nil, or_false] at hq
    subst hq
    show q191 (tB (vw C h)) (((0) + ((1) * ρ 2 + ((2048) * ρ 3 + 0)))) (((1) + 0))
    refine c2 (P := q191 (tB (vw C h))) (r := ρ 2 + 2048 * ρ 3) (c := (1 : Int)) ?_ (by omega) (by omega)
    show q191 (tB (vw C h)) (ρ 2 + 2048 * ρ 3) ((1 : Int))
    exact o191 (n := ρ 2) (s := ρ 3) (by omega) (by omega) (by omega) (by omega) (by omega) (by rw [q]; rfl)
/-- iv_weekdayC -/
theorem lem_467_ok (hU : uqG G C) : lem_467.1.2.1 = [] ∧ lemOK (PRd G C D xs) G rgs lem_467 := by
  refine ⟨rfl, fun ρ h ha hT => ?_⟩
  obtain ⟨-, -, hF, hG, hH, hA, hP⟩ := ha
  have f0 : (0 : Int) ≤ ((0) + ((1) * ρ 2 + 0)) := hF _ (List.mem_of_getElem? (i := 0) rfl)
  have f1 : (0 : Int) ≤ ((1200) + ((-1) * ρ 2 + 0)) := hF _ (List.mem_of_getElem? (i := 1) rfl)
  have f2 : (0 : Int) ≤ ((0) + ((1) * ρ 3 + 0)) := hF _ (List.mem_of_getElem? (i := 2) rfl)
  have f3 : (0 : Int) ≤ ((0) + ((1) * ρ 2 + ((-1) * ρ 3 + 0))) := hF _ (List.mem_of_getElem? (i := 3) rfl)
  have g0 : G (ρ 0).toNat = 14 := by
    have q := (hG _ (List.mem_of_getElem? (i := 0) rfl)).2
    rwa [show ev ρ (0, [(0, 1)]) = ρ 0 from ev_v] at q
  have g1 : G (ρ 1).toNat = 17 := by
    have q := (hG _ (List.mem_of_getElem? (i := 1) rfl)).2
    rwa [show ev ρ (0, [(1, 1)]) = ρ 1 from ev_v] at q
  have h1 : (0 : Int) ≤ ρ 2 ∧ ρ 2 ≤ 1200 := hf_rg hT (hH _ (List.mem_of_getElem? (i := 1) rfl)) ev_v g1 rfl rfl rfl ev_v
  have h2 : (0 : Int) ≤ ρ 3 ∧ ρ 3 ≤ 1200 := hf_rg hT (hH _ (List.mem_of_getElem? (i := 2) rfl)) ev_v g1 rfl rfl rfl ev_v
  have p0 : q159 (tB (vw C h)) (ρ 2 + 2048 * ρ 3 + 75497472) ((1 : Int)) := c2 (P := q159 (tB (vw C h))) (show q159 (tB (vw C h)) (((75497472) + ((1) * ρ 2 + ((2048) * ρ 3 + 0)))) (((1) + 0)) from hP _ (List.mem_of_getElem? (i := 0) rfl)) (by omega) (by omega)
  have iw18 : tIsB (tB (vw C h)) (ρ 2).toNat (ρ 3).toNat (wd 18) = true := b01_1 (k159 (n := ρ 2) (s := ρ 3) (w := 18) (by omega) (by omega) (by omega) (by omega) (by omega) (by omega) p0)
  have hkd := (is_el.mp iw18).1
  have q : tIv (tB (vw C h)) (ρ 2).toNat (ρ 3).toNat = true := by unfold tIv; simp [iw18]
  refine ⟨_, List.mem_cons_self, ρ, fun _ _ => rfl, fun q hq => absurd hq List.not_mem_nil, trivial, fun f hf => ?_, fun q hq => absurd hq List.not_mem_nil, fun q hq => absurd hq List.not_mem_nil, fun q hq => absurd hq List.not_mem_nil, fun q hq => ?_⟩
  · exact absurd hf List.not_mem_nil
  · simp only [List.mem_cons, List.not_mem_nil, or_false] at hq
    subst hq
    show q191 (tB (vw C h)) (((0) + ((1) * ρ 2 + ((2048) * ρ 3 + 0)))) (((1) + 0))
    refine c2 (P := q191 (tB (vw C h))) (r := ρ 2 + 2048 * ρ 3) (c := (1 : Int)) ?_ (by omega) (by omega)
    show q191 (tB (vw C h)) (ρ 2 + 2048 * ρ 3) ((1 : Int))
    exact o191 (n := ρ 2) (s := ρ 3) (by omega) (by omega) (by omega) (by omega) (by omega) (by rw [q]; rfl)
/-- iv_visitsC -/
theorem lem_468_ok (hU : uqG G C) : lem_468.1.2.1 = [] ∧ lemOK (PRd G C D xs) G rgs lem_468 := by
  refine ⟨rfl, fun ρ h ha hT => ?_⟩
  obtain ⟨-, -, hF, hG, hH, hA, hP⟩ := ha
  have f0 : (0 : Int) ≤ ((0) + ((1) * ρ 2 + 0)) := hF _ (List.mem_of_getElem? (i := 0) rfl)
  have f1 : (0 : Int) ≤ ((1200) + ((-1) * ρ 2 + 0)) := hF _ (List.mem_of_getElem? (i := 1) rfl)
  have f2 : (0 : Int) ≤ ((0) + ((1) * ρ 3 + 0)) := hF _ (List.mem_of_getElem? (i := 2) rfl)
  have f3 : (0 : Int) ≤ ((0) + ((1) * ρ 2 + ((-1) * ρ 3 + 0))) := hF _ (List.mem_of_getElem? (i := 3) rfl)
  have g0 : G (ρ 0).toNat = 14 := by
    have q := (hG _ (List.mem_of_getElem? (i := 0) rfl)).2
    rwa [show ev ρ (0, [(0, 1)]) = ρ 0 from ev_v] at q
  have g1 : G (ρ 1).toNat = 17 := by
    have q := (hG _ (List.mem_of_getElem? (i := 1) rfl)).2
    rwa [show ev ρ (0, [(1, 1)]) = ρ 1 from ev_v] at q
  have h1 : (0 : Int) ≤ ρ 2 ∧ ρ 2 ≤ 1200 := hf_rg hT (hH _ (List.mem_of_getElem? (i := 1) rfl)) ev_v g1 rfl rfl rfl ev_v
  have h2 : (0 : Int) ≤ ρ 3 ∧ ρ 3 ≤ 1200 := hf_rg hT (hH _ (List.mem_of_getElem? (i := 2) rfl)) ev_v g1 rfl rfl rfl ev_v
  have p0 : q159 (tB (vw C h)) (ρ 2 + 2048 * ρ 3 + 79691776) ((1 : Int)) := c2 (P := q159 (tB (vw C h))) (show q159 (tB (vw C h)) (((79691776) + ((1) * ρ 2 + ((2048) * ρ 3 + 0)))) (((1) + 0)) from hP _ (List.mem_of_getElem? (i := 0) rfl)) (by omega) (by omega)
  have iw19 : tIsB (tB (vw C h)) (ρ 2).toNat (ρ 3).toNat (wd 19) = true := b01_1 (k159 (n := ρ 2) (s := ρ 3) (w := 19) (by omega) (by omega) (by omega) (by omega) (by omega) (by omega) p0)
  have hkd := (is_el.mp iw19).1
  have q : tIv (tB (vw C h)) (ρ 2).toNat (ρ 3).toNat = true := by unfold tIv; simp [iw19]
  refine ⟨_, List.mem_cons_self, ρ, fun _ _ => rfl, fun q hq => absurd hq List.not_mem_nil, trivial, fun f hf => ?_, fun q hq => absurd hq List.not_mem_nil, fun q hq => absurd hq List.not_mem_nil, fun q hq => absurd hq List.not_mem_nil, fun q hq => ?_⟩
  · exact absurd hf List.not_mem_nil
  · simp only [List.mem_cons, List.not_mem_nil, or_false] at hq
    subst hq
    show q191 (tB (vw C h)) (((0) + ((1) * ρ 2 + ((2048) * ρ 3 + 0)))) (((1) + 0))
    refine c2 (P := q191 (tB (vw C h))) (r := ρ 2 + 2048 * ρ 3) (c := (1 : Int)) ?_ (by omega) (by omega)
    show q191 (tB (vw C h)) (ρ 2 + 2048 * ρ 3) ((1 : Int))
    exact o191 (n := ρ 2) (s := ρ 3) (by omega) (by omega) (by omega) (by omega) (by omega) (by rw [q]; rfl)
/-- iv_emptyC -/
theorem lem_469_ok (hU : uqG G C) : lem_469.1.2.1 = [] ∧ lemOK (PRd G C D xs) G rgs lem_469 := by
  refine ⟨rfl, fun ρ h ha hT => ?_⟩
  obtain ⟨-, -, hF, hG, hH, hA, hP⟩ := ha
  have f0 : (0 : Int) ≤ ((0) + ((1) * ρ 2 + 0)) := hF _ (List.mem_of_getElem? (i := 0) rfl)
  have f1 : (0 : Int) ≤ ((1200) + ((-1) * ρ 2 + 0)) := hF _ (List.mem_of_getElem? (i := 1) rfl)
  have f2 : (0 : Int) ≤ ((0) + ((1) * ρ 3 + 0)) := hF _ (List.mem_of_getElem? (i := 2) rfl)
  have f3 : (0 : Int) ≤ ((0) + ((1) * ρ 2 + ((-1) * ρ 3 + 0))) := hF _ (List.mem_of_getElem? (i := 3) rfl)
  have g0 : G (ρ 0).toNat = 14 := by
    have q := (hG _ (List.mem_of_getElem? (i := 0) rfl)).2
    rwa [show ev ρ (0, [(0, 1)]) = ρ 0 from ev_v] at q
  have g1 : G (ρ 1).toNat = 17 := by
    have q := (hG _ (List.mem_of_getElem? (i := 1) rfl)).2
    rwa [show ev ρ (0, [(1, 1)]) = ρ 1 from ev_v] at q
  have h1 : (0 : Int) ≤ ρ 2 ∧ ρ 2 ≤ 1200 := hf_rg hT (hH _ (List.mem_of_getElem? (i := 1) rfl)) ev_v g1 rfl rfl rfl ev_v
  have h2 : (0 : Int) ≤ ρ 3 ∧ ρ 3 ≤ 1200 := hf_rg hT (hH _ (List.mem_of_getElem? (i := 2) rfl)) ev_v g1 rfl rfl rfl ev_v
  have p0 : q159 (tB (vw C h)) (ρ 2 + 2048 * ρ 3 + 83886080) ((1 : Int)) := c2 (P := q159 (tB (vw C h))) (show q159 (tB (vw C h)) (((83886080) + ((1) * ρ 2 + ((2048) * ρ 3 + 0)))) (((1) + 0)) from hP _ (List.mem_of_getElem? (i := 0) rfl)) (by omega) (by omega)
  have iw20 : tIsB (tB (vw C h)) (ρ 2).toNat (ρ 3).toNat (wd 20) = true := b01_1 (k159 (n := ρ 2) (s := ρ 3) (w := 20) (by omega) (by omega) (by omega) (by omega) (by omega) (by omega) p0)
  have hkd := (is_el.mp iw20).1
  have q : tIv (tB (vw C h)) (ρ 2).toNat (ρ 3).toNat = true := by unfold tIv; simp [iw20]
  refine ⟨_, List.mem_cons_self, ρ, fun _ _ => rfl, fun q hq => absurd hq List.not_mem_nil, trivial, fun f hf => ?_, fun q hq => absurd hq List.not_mem_nil, fun q hq => absurd hq List.not_mem_nil, fun q hq => absurd hq List.not_mem_nil, fun q hq => ?_⟩
  · exact absurd hf List.not_mem_nil
  · simp only [List.mem_cons, List.not_mem_nil, or_false] at hq
    subst hq
    show q191 (tB (vw C h)) (((0) + ((1) * ρ 2 + ((2048) * ρ 3 + 0)))) (((1) + 0))
    refine c2 (P := q191 (tB (vw C h))) (r := ρ 2 + 2048 * ρ 3) (c := (1 : Int)) ?_ (by omega) (by omega)
    show q191 (tB (vw C h)) (ρ 2 + 2048 * ρ 3) ((1 : Int))
    exact o191 (n := ρ 2) (s := ρ 3) (by omega) (by omega) (by omega) (by omega) (by omega) (by rw [q]; rfl)
/-- ao_andC -/
theorem lem_470_ok (hU : uqG G C) : lem_470.1.2.1 = [] ∧ lemOK (PRd G C D xs) G rgs lem_470 := by
  refine ⟨rfl, fun ρ h ha hT => ?_⟩
  obtain ⟨-, -, hF, hG, hH, hA, hP⟩ := ha
  have f0 : (0 : Int) ≤ ((0) + ((1) * ρ 2 + 0)) := hF _ (List.mem_of_getElem? (i := 0) rfl)
  have f1 : (0 : Int) ≤ ((1200) + ((-1) * ρ 2 + 0)) := hF _ (List.mem_of_getElem? (i := 1) rfl)
  have f2 : (0 : Int) ≤ ((0) + ((1) * ρ 3 + 0)) := hF _ (List.mem_of_getElem? (i := 2) rfl)
  have f3 : (0 : Int) ≤ ((0) + ((1) * ρ 2 + ((-1) * ρ 3 + 0))) := hF _ (List.mem_of_getElem? (i := 3) rfl)
  have g0 : G (ρ 0).toNat = 14 := by
    have q := (hG _ (List.mem_of_getElem? (i := 0) rfl)).2
    rwa [show ev ρ (0, [(0, 1)]) = ρ 0 from ev_v] at q
  have g1 : G (ρ 1).toNat = 17 := by
    have q := (hG _ (List.mem_of_getElem? (i := 1) rfl)).2
    rwa [show ev ρ (0, [(1, 1)]) = ρ 1 from ev_v] at q
  have h1 : (0 : Int) ≤ ρ 2 ∧ ρ 2 ≤ 1200 := hf_rg hT (hH _ (List.mem_of_getElem? (i := 1) rfl)) ev_v g1 rfl rfl rfl ev_v
  have h2 : (0 : Int) ≤ ρ 3 ∧ ρ 3 ≤ 1200 := hf_rg hT (hH _ (List.mem_of_getElem? (i := 2) rfl)) ev_v g1 rfl rfl rfl ev_v
  have p0 : q159 (tB (vw C h)) (ρ 2 + 2048 * ρ 3 + 58720256) ((1 : Int)) := c2 (P := q159 (tB (vw C h))) (show q159 (tB (vw C h)) (((58720256) + ((1) * ρ 2 + ((2048) * ρ 3 + 0)))) (((1) + 0)) from hP _ (List.mem_of_getElem? (i := 0) rfl)) (by omega) (by omega)
  have iw14 : tIsB (tB (vw C h)) (ρ 2).toNat (ρ 3).toNat (wd 14) = true := b01_1 (k159 (n := ρ 2) (s := ρ 3) (w := 14) (by omega) (by omega) (by omega) (by omega) (by omega) (by omega) p0)
  have hkd := (is_el.mp iw14).1
  have q : tAo (tB (vw C h)) (ρ 2).toNat (ρ 3).toNat = true := by unfold tAo; simp [iw14]
  refine ⟨_, List.mem_cons_self, ρ, fun _ _ => rfl, fun q hq => absurd hq List.not_mem_nil, trivial, fun f hf => ?_, fun q hq => absurd hq List.not_mem_nil, fun q hq => absurd hq List.not_mem_nil, fun q hq => absurd hq List.not_mem_nil, fun q hq => ?_⟩
  · exact absurd hf List.not_mem_nil
  · simp only [List.mem_cons, List.not_mem_nil, or_false] at hq
    subst hq
    show q197 (tB (vw C h)) (((0) + ((1) * ρ 2 + ((2048) * ρ 3 + 0)))) (((1) + 0))
    refine c2 (P := q197 (tB (vw C h))) (r := ρ 2 + 2048 * ρ 3) (c := (1 : Int)) ?_ (by omega) (by omega)
    show q197 (tB (vw C h)) (ρ 2 + 2048 * ρ 3) ((1 : Int))
    exact o197 (n := ρ 2) (s := ρ 3) (by omega) (by omega) (by omega) (by omega) (by omega) (by rw [q]; rfl)
/-- ao_orC -/
theorem lem_471_ok (hU : uqG G C) : lem_471.1.2.1 = [] ∧ lemOK (PRd G C D xs) G rgs lem_471 := by
  refine ⟨rfl, fun ρ h ha hT => ?_⟩
  obtain ⟨-, -, hF, hG, hH, hA, hP⟩ := ha
  have f0 : (0 : Int) ≤ ((0) + ((1) * ρ 2 + 0)) := hF _ (List.mem_of_getElem? (i := 0) rfl)
  have f1 : (0 : Int) ≤ ((1200) + ((-1) * ρ 2 + 0)) := hF _ (List.mem_of_getElem? (i := 1) rfl)
  have f2 : (0 : Int) ≤ ((0) + ((1) * ρ 3 + 0)) := hF _ (List.mem_of_getElem? (i := 2) rfl)
  have f3 : (0 : Int) ≤ ((0) + ((1) * ρ 2 + ((-1) * ρ 3 + 0))) := hF _ (List.mem_of_getElem? (i := 3) rfl)
  have g0 : G (ρ 0).toNat = 14 := by
    have q := (hG _ (List.mem_of_getElem? (i := 0) rfl)).2
    rwa [show ev ρ (0, [(0, 1)]) = ρ 0 from ev_v] at q
  have g1 : G (ρ 1).toNat = 17 := by
    have q := (hG _ (List.mem_of_getElem? (i := 1) rfl)).2
    rwa [show ev ρ (0, [(1, 1)]) = ρ 1 from ev_v] at q
  have h1 : (0 : Int) ≤ ρ 2 ∧ ρ 2 ≤ 1200 := hf_rg hT (hH _ (List.mem_of_getElem? (i := 1) rfl)) ev_v g1 rfl rfl rfl ev_v
  have h2 : (0 : Int) ≤ ρ 3 ∧ ρ 3 ≤ 1200 := hf_rg hT (hH _ (List.mem_of_getElem? (i := 2) rfl)) ev_v g1 rfl rfl rfl ev_v
  have p0 : q159 (tB (vw C h)) (ρ 2 + 2048 * ρ 3 + 62914560) ((1 : Int)) := c2 (P := q159 (tB (vw C h))) (show q159 (tB (vw C h)) (((62914560) + ((1) * ρ 2 + ((2048) * ρ 3 + 0)))) (((1) + 0)) from hP _ (List.mem_of_getElem? (i := 0) rfl)) (by omega) (by omega)
  have iw15 : tIsB (tB (vw C h)) (ρ 2).toNat (ρ 3).toNat (wd 15) = true := b01_1 (k159 (n := ρ 2) (s := ρ 3) (w := 15) (by omega) (by omega) (by omega) (by omega) (by omega) (by omega) p0)
  have hkd := (is_el.mp iw15).1
  have q : tAo (tB (vw C h)) (ρ 2).toNat (ρ 3).toNat = true := by unfold tAo; simp [iw15]
  refine ⟨_, List.mem_cons_self, ρ, fun _ _ => rfl, fun q hq => absurd hq List.not_mem_nil, trivial, fun f hf => ?_, fun q hq => absurd hq List.not_mem_nil, fun q hq => absurd hq List.not_mem_nil, fun q hq => absurd hq List.not_mem_nil, fun q hq => ?_⟩
  · exact absurd hf List.not_mem_nil
  · simp only [List.mem_cons, List.not_mem_nil, or_false] at hq
    subst hq
    show q197 (tB (vw C h)) (((0) + ((1) * ρ 2 + ((2048) * ρ 3 + 0)))) (((1) + 0))
    refine c2 (P := q197 (tB (vw C h))) (r := ρ 2 + 2048 * ρ 3) (c := (1 : Int)) ?_ (by omega) (by omega)
    show q197 (tB (vw C h)) (ρ 2 + 2048 * ρ 3) ((1 : Int))
    exact o197 (n := ρ 2) (s := ρ 3) (by omega) (by omega) (by omega) (by omega) (by omega) (by rw [q]; rfl)
/-- ts_aoC -/
theorem lem_472_ok (hU : uqG G C) : lem_472.1.2.1 = [] ∧ lemOK (PRd G C D xs) G rgs lem_472 := by
  refine ⟨rfl, fun ρ h ha hT => ?_⟩
  obtain ⟨-, -, hF, hG, hH, hA, hP⟩ := ha
  have f0 : (0 : Int) ≤ ((0) + ((1) * ρ 3 + 0)) := hF _ (List.mem_of_getElem? (i := 0) rfl)
  have f1 : (0 : Int) ≤ ((1200) + ((-1) * ρ 3 + 0)) := hF _ (List.mem_of_getElem? (i := 1) rfl)
  have f2 : (0 : Int) ≤ ((0) + ((1) * ρ 4 + 0)) := hF _ (List.mem_of_getElem? (i := 2) rfl)
  have f3 : (0 : Int) ≤ ((0) + ((1) * ρ 3 + ((-1) * ρ 4 + 0))) := hF _ (List.mem_of_getElem? (i := 3) rfl)
  have f4 : (0 : Int) ≤ ((0) + ((1) * ρ 5 + 0)) := hF _ (List.mem_of_getElem? (i := 4) rfl)
  have f5 : (0 : Int) ≤ ((8191) + ((-1) * ρ 5 + 0)) := hF _ (List.mem_of_getElem? (i := 5) rfl)
  have f6 : (0 : Int) ≤ ((0) + ((1) * ρ 6 + 0)) := hF _ (List.mem_of_getElem? (i := 6) rfl)
  have f7 : (0 : Int) ≤ ((1023) + ((-1) * ρ 6 + 0)) := hF _ (List.mem_of_getElem? (i := 7) rfl)
  have f8 : (0 : Int) ≤ ((0) + ((1) * ρ 1 + 0)) := hF _ (List.mem_of_getElem? (i := 8) rfl)
  have f9 : (0 : Int) ≤ ((10) + ((-1) * ρ 1 + 0)) := hF _ (List.mem_of_getElem? (i := 9) rfl)
  have f10 : (0 : Int) ≤ ((0) + ((1) * ρ 7 + 0)) := hF _ (List.mem_of_getElem? (i := 10) rfl)
  have f11 : (0 : Int) ≤ ((0) + ((1) * ρ 3 + ((-1) * ρ 7 + 0))) := hF _ (List.mem_of_getElem? (i := 11) rfl)
  have g0 : G (ρ 0).toNat = 14 := by
    have q := (hG _ (List.mem_of_getElem? (i := 0) rfl)).2
    rwa [show ev ρ (0, [(0, 1)]) = ρ 0 from ev_v] at q
  have g1 : G (ρ 2).toNat = 17 := by
    have q := (hG _ (List.mem_of_getElem? (i := 1) rfl)).2
    rwa [show ev ρ (0, [(2, 1)]) = ρ 2 from ev_v] at q
  have h1 : (0 : Int) ≤ ρ 3 ∧ ρ 3 ≤ 1200 := hf_rg hT (hH _ (List.mem_of_getElem? (i := 1) rfl)) ev_v g1 rfl rfl rfl ev_v
  have h2 : (0 : Int) ≤ ρ 4 ∧ ρ 4 ≤ 1200 := hf_rg hT (hH _ (List.mem_of_getElem? (i := 2) rfl)) ev_v g1 rfl rfl rfl ev_v
  have p0 : True := c2 (P := (fun (_ _ : Int) => True)) (r := 0) (r' := 0) (c := 0) (c' := 0) (show True from hP _ (List.mem_of_getElem? (i := 0) rfl)) rfl rfl
  have p1 : q167 (2 * ρ 1 + 1) (ρ 6) := c2 (P := q167) (show q167 (((1) + ((2) * ρ 1 + 0))) (((0) + ((1) * ρ 6 + 0))) from hP _ (List.mem_of_getElem? (i := 1) rfl)) (by omega) (by omega)
  have p2 : q158 (tB (vw C h)) (ρ 3 + 2048 * ρ 4) (ρ 7) := c2 (P := q158 (tB (vw C h))) (show q158 (tB (vw C h)) (((0) + ((1) * ρ 3 + ((2048) * ρ 4 + 0)))) (((0) + ((1) * ρ 7 + 0))) from hP _ (List.mem_of_getElem? (i := 2) rfl)) (by omega) (by omega)
  have p3 : q197 (tB (vw C h)) (ρ 3 + 2048 * ρ 7) ((1 : Int)) := c2 (P := q197 (tB (vw C h))) (show q197 (tB (vw C h)) (((0) + ((1) * ρ 3 + ((2048) * ρ 7 + 0)))) (((1) + 0)) from hP _ (List.mem_of_getElem? (i := 3) rfl)) (by omega) (by omega)
  have p4 : (qRC 43 (tB (vw C h))) (268435456 * ρ 1 + ρ 3 + 4398046511104 * ρ 5 + 4294967296 * ρ 6 + 2048 * ρ 7) (ρ 8) := c2 (P := (qRC 43 (tB (vw C h)))) (show (qRC 43 (tB (vw C h))) (((0) + ((268435456) * ρ 1 + ((1) * ρ 3 + ((4398046511104) * ρ 5 + ((4294967296) * ρ 6 + ((2048) * ρ 7 + 0))))))) (((0) + ((1) * ρ 8 + 0))) from hP _ (List.mem_of_getElem? (i := 4) rfl)) (by omega) (by omega)
  have ao : tAo (tB (vw C h)) (ρ 3).toNat (ρ 7).toNat = true := b01_1 (k197 (n := ρ 3) (s := ρ 7) (by omega) (by omega) (by omega) (by omega) (by omega) p3)
  have hkd := ao_kd ao
  have nx := k158 (n := ρ 3) (s := ρ 7) (t := ρ 4) (by omega) (by omega) (by omega) (by omega) (by omega) (by omega) p2
  have ng := nx_gt (B := (tB (vw C h))) (n := (ρ 3).toNat) (s := (ρ 7).toNat) (by omega)
  have hc0 := p4.1
  have hR := rc_el (n := ρ 3) (s := ρ 7) (d := (ρ 1)) (K := (ρ 6)) (R := (ρ 5)) p4 (by omega) (by omega) (by omega) (by omega) (by omega) (by omega) (by omega) (by omega) (by omega) (by omega)
  have q := g_ao hR (by have q := p1.2.2 (by omega); omega) ao
  refine ⟨_, List.mem_cons_self, ρ, fun _ _ => rfl, fun q hq => absurd hq List.not_mem_nil, trivial, fun f hf => ?_, fun q hq => absurd hq List.not_mem_nil, fun q hq => absurd hq List.not_mem_nil, fun q hq => absurd hq List.not_mem_nil, fun q hq => ?_⟩
  · simp only [List.mem_cons, List.not_mem_nil, or_false] at hf
    subst hf
    show (0 : Int) ≤ ((-1) + ((1) * ρ 4 + ((-1) * ρ 7 + 0)))
    omega
  · simp only [List.mem_cons, List.not_mem_nil, or_false] at hq
    subst hq
    show (qRC 40 (tB (vw C h))) (((0) + ((268435456) * ρ 1 + ((1) * ρ 3 + ((2048) * ρ 4 + ((4398046511104) * ρ 5 + ((4294967296) * ρ 6 + 0))))))) (((0) + ((1) * ρ 8 + 0)))
    refine c2 (P := (qRC 40 (tB (vw C h)))) (r := 268435456 * ρ 1 + ρ 3 + 2048 * ρ 4 + 4398046511104 * ρ 5 + 4294967296 * ρ 6) (c := ρ 8) ?_ (by omega) (by omega)
    show (qRC 40 (tB (vw C h))) (268435456 * ρ 1 + ρ 3 + 2048 * ρ 4 + 4398046511104 * ρ 5 + 4294967296 * ρ 6) (ρ 8)
    exact rc_in (n := ρ 3) (s := ρ 4) (d := (ρ 1)) (K := (ρ 6)) (R := (ρ 5)) (by omega) (by omega) (by omega) (by omega) (by omega) (by omega) (by omega) (by omega) (by omega) (by omega) q (by omega) (by omega) (by omega) (by omega) (by omega)
/-- ivXC -/
theorem lem_473_ok (hU : uqG G C) : lem_473.1.2.1 = [] ∧ lemOK (PRd G C D xs) G rgs lem_473 := by
  refine ⟨rfl, fun ρ h ha hT => ?_⟩
  obtain ⟨-, -, hF, hG, hH, hA, hP⟩ := ha
  have f0 : (0 : Int) ≤ ((0) + ((1) * ρ 2 + 0)) := hF _ (List.mem_of_getElem? (i := 0) rfl)
  have f1 : (0 : Int) ≤ ((1200) + ((-1) * ρ 2 + 0)) := hF _ (List.mem_of_getElem? (i := 1) rfl)
  have f2 : (0 : Int) ≤ ((0) + ((1) * ρ 3 + 0)) := hF _ (List.mem_of_getElem? (i := 2) rfl)
  have f3 : (0 : Int) ≤ ((0) + ((1) * ρ 2 + ((-1) * ρ 3 + 0))) := hF _ (List.mem_of_getElem? (i := 3) rfl)
  have g0 : G (ρ 0).toNat = 14 := by
    have q := (hG _ (List.mem_of_getElem? (i := 0) rfl)).2
    rwa [show ev ρ (0, [(0, 1)]) = ρ 0 from ev_v] at q
  have g1 : G (ρ 1).toNat = 17 := by
    have q := (hG _ (List.mem_of_getElem? (i := 1) rfl)).2
    rwa [show ev ρ (0, [(1, 1)]) = ρ 1 from ev_v] at q
  have h1 : (0 : Int) ≤ ρ 2 ∧ ρ 2 ≤ 1200 := hf_rg hT (hH _ (List.mem_of_getElem? (i := 1) rfl)) ev_v g1 rfl rfl rfl ev_v
  have h2 : (0 : Int) ≤ ρ 3 ∧ ρ 3 ≤ 1200 := hf_rg hT (hH _ (List.mem_of_getElem? (i := 2) rfl)) ev_v g1 rfl rfl rfl ev_v
  have p0 : q159 (tB (vw C h)) (ρ 2 + 2048 * ρ 3 + 54525952) ((1 : Int)) := c2 (P := q159 (tB (vw C h))) (show q159 (tB (vw C h)) (((54525952) + ((1) * ρ 2 + ((2048) * ρ 3 + 0)))) (((1) + 0)) from hP _ (List.mem_of_getElem? (i := 0) rfl)) (by omega) (by omega)
  have p1 : q191 (tB (vw C h)) (ρ 2 + 2048 * ρ 3) ((1 : Int)) := c2 (P := q191 (tB (vw C h))) (show q191 (tB (vw C h)) (((0) + ((1) * ρ 2 + ((2048) * ρ 3 + 0)))) (((1) + 0)) from hP _ (List.mem_of_getElem? (i := 1) rfl)) (by omega) (by omega)
  have iw13 : tIsB (tB (vw C h)) (ρ 2).toNat (ρ 3).toNat (wd 13) = true := b01_1 (k159 (n := ρ 2) (s := ρ 3) (w := 13) (by omega) (by omega) (by omega) (by omega) (by omega) (by omega) p0)
  have hkd := (is_el.mp iw13).1
  have iv : tIv (tB (vw C h)) (ρ 2).toNat (ρ 3).toNat = true := b01_1 (k191 (n := ρ 2) (s := ρ 3) (by omega) (by omega) (by omega) (by omega) (by omega) p1)
  have hkd := (iv_kd iv).1
  have q := (iv_kd iv).2
  rw [iw13] at q
  cases q
/-- ivNoC -/
theorem lem_474_ok (hU : uqG G C) : lem_474.1.2.1 = [] ∧ lemOK (PRd G C D xs) G rgs lem_474 := by
  refine ⟨rfl, fun ρ h ha hT => ?_⟩
  obtain ⟨-, -, hF, hG, hH, hA, hP⟩ := ha
  have f0 : (0 : Int) ≤ ((0) + ((1) * ρ 2 + 0)) := hF _ (List.mem_of_getElem? (i := 0) rfl)
  have f1 : (0 : Int) ≤ ((1200) + ((-1) * ρ 2 + 0)) := hF _ (List.mem_of_getElem? (i := 1) rfl)
  have f2 : (0 : Int) ≤ ((0) + ((1) * ρ 3 + 0)) := hF _ (List.mem_of_getElem? (i := 2) rfl)
  have f3 : (0 : Int) ≤ ((0) + ((1) * ρ 2 + ((-1) * ρ 3 + 0))) := hF _ (List.mem_of_getElem? (i := 3) rfl)
  have g0 : G (ρ 0).toNat = 14 := by
    have q := (hG _ (List.mem_of_getElem? (i := 0) rfl)).2
    rwa [show ev ρ (0, [(0, 1)]) = ρ 0 from ev_v] at q
  have g1 : G (ρ 1).toNat = 17 := by
    have q := (hG _ (List.mem_of_getElem? (i := 1) rfl)).2
    rwa [show ev ρ (0, [(1, 1)]) = ρ 1 from ev_v] at q
  have h1 : (0 : Int) ≤ ρ 2 ∧ ρ 2 ≤ 1200 := hf_rg hT (hH _ (List.mem_of_getElem? (i := 1) rfl)) ev_v g1 rfl rfl rfl ev_v
  have h2 : (0 : Int) ≤ ρ 3 ∧ ρ 3 ≤ 1200 := hf_rg hT (hH _ (List.mem_of_getElem? (i := 2) rfl)) ev_v g1 rfl rfl rfl ev_v
  have p0 : q159 (tB (vw C h)) (ρ 2 + 2048 * ρ 3 + 67108864) ((0 : Int)) := c2 (P := q159 (tB (vw C h))) (show q159 (tB (vw C h)) (((67108864) + ((1) * ρ 2 + ((2048) * ρ 3 + 0)))) (((0) + 0)) from hP _ (List.mem_of_getElem? (i := 0) rfl)) (by omega) (by omega)
  have p1 : q159 (tB (vw C h)) (ρ 2 + 2048 * ρ 3 + 71303168) ((0 : Int)) := c2 (P := q159 (tB (vw C h))) (show q159 (tB (vw C h)) (((71303168) + ((1) * ρ 2 + ((2048) * ρ 3 + 0)))) (((0) + 0)) from hP _ (List.mem_of_getElem? (i := 1) rfl)) (by omega) (by omega)
  have p2 : q159 (tB (vw C h)) (ρ 2 + 2048 * ρ 3 + 75497472) ((0 : Int)) := c2 (P := q159 (tB (vw C h))) (show q159 (tB (vw C h)) (((75497472) + ((1) * ρ 2 + ((2048) * ρ 3 + 0)))) (((0) + 0)) from hP _ (List.mem_of_getElem? (i := 2) rfl)) (by omega) (by omega)
  have p3 : q159 (tB (vw C h)) (ρ 2 + 2048 * ρ 3 + 79691776) ((0 : Int)) := c2 (P := q159 (tB (vw C h))) (show q159 (tB (vw C h)) (((79691776) + ((1) * ρ 2 + ((2048) * ρ 3 + 0)))) (((0) + 0)) from hP _ (List.mem_of_getElem? (i := 3) rfl)) (by omega) (by omega)
  have p4 : q159 (tB (vw C h)) (ρ 2 + 2048 * ρ 3 + 83886080) ((0 : Int)) := c2 (P := q159 (tB (vw C h))) (show q159 (tB (vw C h)) (((83886080) + ((1) * ρ 2 + ((2048) * ρ 3 + 0)))) (((0) + 0)) from hP _ (List.mem_of_getElem? (i := 4) rfl)) (by omega) (by omega)
  have iw16 : tIsB (tB (vw C h)) (ρ 2).toNat (ρ 3).toNat (wd 16) = false := b01_0 (k159 (n := ρ 2) (s := ρ 3) (w := 16) (by omega) (by omega) (by omega) (by omega) (by omega) (by omega) p0)
  have iw17 : tIsB (tB (vw C h)) (ρ 2).toNat (ρ 3).toNat (wd 17) = false := b01_0 (k159 (n := ρ 2) (s := ρ 3) (w := 17) (by omega) (by omega) (by omega) (by omega) (by omega) (by omega) p1)
  have iw18 : tIsB (tB (vw C h)) (ρ 2).toNat (ρ 3).toNat (wd 18) = false := b01_0 (k159 (n := ρ 2) (s := ρ 3) (w := 18) (by omega) (by omega) (by omega) (by omega) (by omega) (by omega) p2)
  have iw19 : tIsB (tB (vw C h)) (ρ 2).toNat (ρ 3).toNat (wd 19) = false := b01_0 (k159 (n := ρ 2) (s := ρ 3) (w := 19) (by omega) (by omega) (by omega) (by omega) (by omega) (by omega) p3)
  have iw20 : tIsB (tB (vw C h)) (ρ 2).toNat (ρ 3).toNat (wd 20) = false := b01_0 (k159 (n := ρ 2) (s := ρ 3) (w := 20) (by omega) (by omega) (by omega) (by omega) (by omega) (by omega) p4)
  have q : tIv (tB (vw C h)) (ρ 2).toNat (ρ 3).toNat = false := by unfold tIv; rw [iw16, iw17, iw18, iw19, iw20]; rfl
  refine ⟨_, List.mem_cons_self, ρ, fun _ _ => rfl, fun q hq => absurd hq List.not_mem_nil, trivial, fun f hf => ?_, fun q hq => absurd hq List.not_mem_nil, fun q hq => absurd hq List.not_mem_nil, fun q hq => absurd hq List.not_mem_nil, fun q hq => ?_⟩
  · exact absurd hf List.not_mem_nil
  · simp only [List.mem_cons, List.not_mem_nil, or_false] at hq
    subst hq
    show q191 (tB (vw C h)) (((0) + ((1) * ρ 2 + ((2048) * ρ 3 + 0)))) (((0) + 0))
    refine c2 (P := q191 (tB (vw C h))) (r := ρ 2 + 2048 * ρ 3) (c := (0 : Int)) ?_ (by omega) (by omega)
    show q191 (tB (vw C h)) (ρ 2 + 2048 * ρ 3) ((0 : Int))
    exact o191 (n := ρ 2) (s := ρ 3) (by omega) (by omega) (by omega) (by omega) (by omega) (by rw [q]; rfl)
/-- rl15C -/
theorem lem_475_ok (hU : uqG G C) : lem_475.1.2.1 = [] ∧ lemOK (PRd G C D xs) G rgs lem_475 := by
  refine ⟨rfl, fun ρ h ha hT => ?_⟩
  obtain ⟨-, -, hF, hG, hH, hA, hP⟩ := ha
  have f0 : (0 : Int) ≤ ((0) + ((1) * ρ 2 + 0)) := hF _ (List.mem_of_getElem? (i := 0) rfl)
  have f1 : (0 : Int) ≤ ((1200) + ((-1) * ρ 2 + 0)) := hF _ (List.mem_of_getElem? (i := 1) rfl)
  have f2 : (0 : Int) ≤ ((0) + ((1) * ρ 3 + 0)) := hF _ (List.mem_of_getElem? (i := 2) rfl)
  have f3 : (0 : Int) ≤ ((0) + ((1) * ρ 2 + ((-1) * ρ 3 + 0))) := hF _ (List.mem_of_getElem? (i := 3) rfl)
  have f4 : (0 : Int) ≤ ((3) + ((-1) * ρ 9 + 0)) := hF _ (List.mem_of_getElem? (i := 4) rfl)
  have f5 : (0 : Int) ≤ ((0) + ((1) * ρ 5 + 0)) := hF _ (List.mem_of_getElem? (i := 5) rfl)
  have f6 : (0 : Int) ≤ ((6) + ((-1) * ρ 5 + 0)) := hF _ (List.mem_of_getElem? (i := 6) rfl)
  have f7 : (0 : Int) ≤ ((0) + ((1) * ρ 7 + 0)) := hF _ (List.mem_of_getElem? (i := 7) rfl)
  have f8 : (0 : Int) ≤ ((8) + ((-1) * ρ 7 + 0)) := hF _ (List.mem_of_getElem? (i := 8) rfl)
  have f9 : (0 : Int) ≤ ((0) + ((1) * ρ 10 + 0)) := hF _ (List.mem_of_getElem? (i := 9) rfl)
  have f10 : (0 : Int) ≤ ((5) + ((-1) * ρ 10 + 0)) := hF _ (List.mem_of_getElem? (i := 10) rfl)
  have f11 : (0 : Int) ≤ ((0) + ((1) * ρ 9 + 0)) := hF _ (List.mem_of_getElem? (i := 11) rfl)
  have f12 : (0 : Int) ≤ ((4) + ((-1) * ρ 9 + 0)) := hF _ (List.mem_of_getElem? (i := 12) rfl)
  have g0 : G (ρ 0).toNat = 14 := by
    have q := (hG _ (List.mem_of_getElem? (i := 0) rfl)).2
    rwa [show ev ρ (0, [(0, 1)]) = ρ 0 from ev_v] at q
  have g1 : G (ρ 1).toNat = 17 := by
    have q := (hG _ (List.mem_of_getElem? (i := 1) rfl)).2
    rwa [show ev ρ (0, [(1, 1)]) = ρ 1 from ev_v] at q
  have g2 : G (ρ 4).toNat = 11 := by
    have q := (hG _ (List.mem_of_getElem? (i := 2) rfl)).2
    rwa [show ev ρ (0, [(4, 1)]) = ρ 4 from ev_v] at q
  have g3 : G (ρ 6).toNat = 20 := by
    have q := (hG _ (List.mem_of_getElem? (i := 3) rfl)).2
    rwa [show ev ρ (0, [(6, 1)]) = ρ 6 from ev_v] at q
  have g4 : G (ρ 8).toNat = 16 := by
    have q := (hG _ (List.mem_of_getElem? (i := 4) rfl)).2
    rwa [show ev ρ (0, [(8, 1)]) = ρ 8 from ev_v] at q
  have h1 : (0 : Int) ≤ ρ 2 ∧ ρ 2 ≤ 1200 := hf_rg hT (hH _ (List.mem_of_getElem? (i := 1) rfl)) ev_v g1 rfl rfl rfl ev_v
  have h2 : (0 : Int) ≤ ρ 3 ∧ ρ 3 ≤ 1200 := hf_rg hT (hH _ (List.mem_of_getElem? (i := 2) rfl)) ev_v g1 rfl rfl rfl ev_v
  have h4 : (0 : Int) ≤ ρ 5 ∧ ρ 5 ≤ 6 := hf_rg hT (hH _ (List.mem_of_getElem? (i := 4) rfl)) ev_v g2 rfl rfl rfl ev_v
  have h6 : (0 : Int) ≤ ρ 7 ∧ ρ 7 ≤ 8 := hf_rg hT (hH _ (List.mem_of_getElem? (i := 6) rfl)) ev_v g3 rfl rfl rfl ev_v
  have h8 : (0 : Int) ≤ ρ 9 ∧ ρ 9 ≤ 4 := hf_rg hT (hH _ (List.mem_of_getElem? (i := 8) rfl)) ev_v g4 rfl rfl rfl ev_v
  have p0 : q176 G h (16 * ρ 6 + ρ 7) (ρ 10) := c2 (P := q176 G h) (show q176 G h (((0) + ((16) * ρ 6 + ((1) * ρ 7 + 0)))) (((0) + ((1) * ρ 10 + 0))) from hP _ (List.mem_of_getElem? (i := 0) rfl)) (by omega) (by omega)
  have p1 : q159 (tB (vw C h)) (ρ 2 + 2048 * ρ 3 + 58720256) ((0 : Int)) := c2 (P := q159 (tB (vw C h))) (show q159 (tB (vw C h)) (((58720256) + ((1) * ρ 2 + ((2048) * ρ 3 + 0)))) (((0) + 0)) from hP _ (List.mem_of_getElem? (i := 1) rfl)) (by omega) (by omega)
  have p2 : q159 (tB (vw C h)) (ρ 2 + 2048 * ρ 3 + 62914560) ((0 : Int)) := c2 (P := q159 (tB (vw C h))) (show q159 (tB (vw C h)) (((62914560) + ((1) * ρ 2 + ((2048) * ρ 3 + 0)))) (((0) + 0)) from hP _ (List.mem_of_getElem? (i := 2) rfl)) (by omega) (by omega)
  have p3 : (qRC 43 (tB (vw C h))) (ρ 2 + 2048 * ρ 3 + 4398046511104 * ρ 5 + 35184372088832 * ρ 7 + 4503599627370496 * ρ 9 + 562949953421312 * ρ 10) (ρ 11) := c2 (P := (qRC 43 (tB (vw C h)))) (show (qRC 43 (tB (vw C h))) (((0) + ((1) * ρ 2 + ((2048) * ρ 3 + ((4398046511104) * ρ 5 + ((35184372088832) * ρ 7 + ((4503599627370496) * ρ 9 + ((562949953421312) * ρ 10 + 0)))))))) (((0) + ((1) * ρ 11 + 0))) from hP _ (List.mem_of_getElem? (i := 3) rfl)) (by omega) (by omega)
  have iw14 : tIsB (tB (vw C h)) (ρ 2).toNat (ρ 3).toNat (wd 14) = false := b01_0 (k159 (n := ρ 2) (s := ρ 3) (w := 14) (by omega) (by omega) (by omega) (by omega) (by omega) (by omega) p1)
  have iw15 : tIsB (tB (vw C h)) (ρ 2).toNat (ρ 3).toNat (wd 15) = false := b01_0 (k159 (n := ρ 2) (s := ρ 3) (w := 15) (by omega) (by omega) (by omega) (by omega) (by omega) (by omega) p2)
  have hc0 := p3.1
  have hR := rc_el (n := ρ 2) (s := ρ 3) (d := (0 : Int)) (K := (0 : Int)) (R := (ρ 5 + 8 * ρ 7 + 1024 * ρ 9 + 128 * ρ 10)) p3 (by omega) (by omega) (by omega) (by omega) (by omega) (by omega) (by omega) (by omega) (by omega) (by omega)
  have q := g_rl hR (by omega) (by unfold tAo; rw [iw14, iw15]; rfl)
  refine ⟨_, List.mem_cons_self, ρ, fun _ _ => rfl, fun q hq => absurd hq List.not_mem_nil, trivial, fun f hf => ?_, fun q hq => absurd hq List.not_mem_nil, fun q hq => absurd hq List.not_mem_nil, fun q hq => absurd hq List.not_mem_nil, fun q hq => ?_⟩
  · exact absurd hf List.not_mem_nil
  · simp only [List.mem_cons, List.not_mem_nil, or_false] at hq
    subst hq
    show (qRC 15 (tB (vw C h))) (((4503599627370496) + ((1) * ρ 2 + ((2048) * ρ 3 + ((4398046511104) * ρ 5 + ((35184372088832) * ρ 7 + ((4503599627370496) * ρ 9 + ((562949953421312) * ρ 10 + 0)))))))) (((0) + ((1) * ρ 11 + 0)))
    refine c2 (P := (qRC 15 (tB (vw C h)))) (r := ρ 2 + 2048 * ρ 3 + 4398046511104 * ρ 5 + 35184372088832 * ρ 7 + 4503599627370496 * ρ 9 + 562949953421312 * ρ 10 + 4503599627370496) (c := ρ 11) ?_ (by omega) (by omega)
    show (qRC 15 (tB (vw C h))) (ρ 2 + 2048 * ρ 3 + 4398046511104 * ρ 5 + 35184372088832 * ρ 7 + 4503599627370496 * ρ 9 + 562949953421312 * ρ 10 + 4503599627370496) (ρ 11)
    exact rc_in (n := ρ 2) (s := ρ 3) (d := (0 : Int)) (K := (0 : Int)) (R := (ρ 5 + 8 * ρ 7 + 1024 * ρ 9 + 128 * ρ 10 + 1024)) (by omega) (by omega) (by omega) (by omega) (by omega) (by omega) (by omega) (by omega) (by omega) (by omega) q (by omega) (by omega) (by omega) (by omega) (by omega)
/-- op0M -/
theorem lem_476_ok (hU : uqG G C) : lem_476.1.2.1 = [] ∧ lemOK (PRd G C D xs) G rgs lem_476 := by
  refine ⟨rfl, fun ρ h ha hT => ?_⟩
  obtain ⟨-, -, hF, hG, hH, hA, hP⟩ := ha
  have f0 : (0 : Int) ≤ ((0) + ((1) * ρ 1 + 0)) := hF _ (List.mem_of_getElem? (i := 0) rfl)
  have f1 : (0 : Int) ≤ ((1200) + ((-1) * ρ 1 + 0)) := hF _ (List.mem_of_getElem? (i := 1) rfl)
  have f2 : (0 : Int) ≤ ((0) + ((1) * ρ 2 + 0)) := hF _ (List.mem_of_getElem? (i := 2) rfl)
  have f3 : (0 : Int) ≤ ((0) + ((1) * ρ 1 + ((-1) * ρ 2 + 0))) := hF _ (List.mem_of_getElem? (i := 3) rfl)
  have g0 : G (ρ 0).toNat = 22 := by
    have q := (hG _ (List.mem_of_getElem? (i := 0) rfl)).2
    rwa [show ev ρ (0, [(0, 1)]) = ρ 0 from ev_v] at q
  have h0 : (0 : Int) ≤ ρ 1 ∧ ρ 1 ≤ 1200 := hf_rg hT (hH _ (List.mem_of_getElem? (i := 0) rfl)) ev_v g0 rfl rfl rfl ev_v
  have h1 : (0 : Int) ≤ ρ 2 ∧ ρ 2 ≤ 1200 := hf_rg hT (hH _ (List.mem_of_getElem? (i := 1) rfl)) ev_v g0 rfl rfl rfl ev_v
  have p0 : (qRC 0 (tB (vw C h))) (ρ 1 + 2048 * ρ 2) (ρ 3) := c2 (P := (qRC 0 (tB (vw C h)))) (show (qRC 0 (tB (vw C h))) (((0) + ((1) * ρ 1 + ((2048) * ρ 2 + 0)))) (((0) + ((1) * ρ 3 + 0))) from hP _ (List.mem_of_getElem? (i := 0) rfl)) (by omega) (by omega)
  have hc0 := p0.1
  have hR := rc_el (n := ρ 1) (s := ρ 2) (d := (0 : Int)) (K := (0 : Int)) (R := (0 : Int)) p0 (by omega) (by omega) (by omega) (by omega) (by omega) (by omega) (by omega) (by omega) (by omega) (by omega)
  refine ⟨_, List.mem_cons_self, ρ, fun _ _ => rfl, fun q hq => absurd hq List.not_mem_nil, trivial, fun f hf => ?_, fun q hq => absurd hq List.not_mem_nil, fun q hq => absurd hq List.not_mem_nil, fun q hq => absurd hq List.not_mem_nil, fun q hq => ?_⟩
  · exact absurd hf List.not_mem_nil
  · simp only [List.mem_cons, List.not_mem_nil, or_false] at hq
    subst hq
    show q165 (tB (vw C h)) (((0) + ((1) * ρ 1 + ((2048) * ρ 2 + 0))))
    refine c2 (P := (fun r (_ : Int) => q165 (tB (vw C h)) r)) (c := 0) (c' := 0) (r := ρ 1 + 2048 * ρ 2) ?_ (by omega) rfl
    show q165 (tB (vw C h)) (ρ 1 + 2048 * ρ 2)
    exact o165 (n := ρ 1) (s := ρ 2) (w := 0) (by omega) (by omega) (by omega) (by omega) (by omega) (by omega) (fun hw => fw_0 hR hw)
/-- st0M -/
theorem lem_477_ok (hU : uqG G C) : lem_477.1.2.1 = [] ∧ lemOK (PRd G C D xs) G rgs lem_477 := by
  refine ⟨rfl, fun ρ h ha hT => ?_⟩
  obtain ⟨-, -, hF, hG, hH, hA, hP⟩ := ha
  have f0 : (0 : Int) ≤ ((0) + ((1) * ρ 1 + 0)) := hF _ (List.mem_of_getElem? (i := 0) rfl)
  have f1 : (0 : Int) ≤ ((1200) + ((-1) * ρ 1 + 0)) := hF _ (List.mem_of_getElem? (i := 1) rfl)
  have f2 : (0 : Int) ≤ ((0) + ((1) * ρ 2 + 0)) := hF _ (List.mem_of_getElem? (i := 2) rfl)
  have f3 : (0 : Int) ≤ ((0) + ((1) * ρ 1 + ((-1) * ρ 2 + 0))) := hF _ (List.mem_of_getElem? (i := 3) rfl)
  have f4 : (0 : Int) ≤ ((0) + ((1) * ρ 3 + 0)) := hF _ (List.mem_of_getElem? (i := 4) rfl)
  have f5 : (0 : Int) ≤ ((0) + ((1) * ρ 1 + ((-1) * ρ 3 + 0))) := hF _ (List.mem_of_getElem? (i := 5) rfl)
  have g0 : G (ρ 0).toNat = 22 := by
    have q := (hG _ (List.mem_of_getElem? (i := 0) rfl)).2
    rwa [show ev ρ (0, [(0, 1)]) = ρ 0 from ev_v] at q
  have h0 : (0 : Int) ≤ ρ 1 ∧ ρ 1 ≤ 1200 := hf_rg hT (hH _ (List.mem_of_getElem? (i := 0) rfl)) ev_v g0 rfl rfl rfl ev_v
  have h1 : (0 : Int) ≤ ρ 2 ∧ ρ 2 ≤ 1200 := hf_rg hT (hH _ (List.mem_of_getElem? (i := 1) rfl)) ev_v g0 rfl rfl rfl ev_v
  have p0 : q158 (tB (vw C h)) (ρ 1 + 2048 * ρ 2) (ρ 3) := c2 (P := q158 (tB (vw C h))) (show q158 (tB (vw C h)) (((0) + ((1) * ρ 1 + ((2048) * ρ 2 + 0)))) (((0) + ((1) * ρ 3 + 0))) from hP _ (List.mem_of_getElem? (i := 0) rfl)) (by omega) (by omega)
  have p1 : q159 (tB (vw C h)) (ρ 1 + 2048 * ρ 3) ((1 : Int)) := c2 (P := q159 (tB (vw C h))) (show q159 (tB (vw C h)) (((0) + ((1) * ρ 1 + ((2048) * ρ 3 + 0)))) (((1) + 0)) from hP _ (List.mem_of_getElem? (i := 1) rfl)) (by omega) (by omega)
  have p2 : (qRC 0 (tB (vw C h))) (ρ 1 + 2048 * ρ 3) (ρ 4) := c2 (P := (qRC 0 (tB (vw C h)))) (show (qRC 0 (tB (vw C h))) (((0) + ((1) * ρ 1 + ((2048) * ρ 3 + 0)))) (((0) + ((1) * ρ 4 + 0))) from hP _ (List.mem_of_getElem? (i := 2) rfl)) (by omega) (by omega)
  have iw0 : tIsB (tB (vw C h)) (ρ 1).toNat (ρ 3).toNat (wd 0) = true := b01_1 (k159 (n := ρ 1) (s := ρ 3) (w := 0) (by omega) (by omega) (by omega) (by omega) (by omega) (by omega) p1)
  have hkd := (is_el.mp iw0).1
  have nx := k158 (n := ρ 1) (s := ρ 3) (t := ρ 2) (by omega) (by omega) (by omega) (by omega) (by omega) (by omega) p0
  have ng := nx_gt (B := (tB (vw C h))) (n := (ρ 1).toNat) (s := (ρ 3).toNat) (by omega)
  have hc0 := p2.1
  have hR := rc_el (n := ρ 1) (s := ρ 3) (d := (0 : Int)) (K := (0 : Int)) (R := (0 : Int)) p2 (by omega) (by omega) (by omega) (by omega) (by omega) (by omega) (by omega) (by omega) (by omega) (by omega)
  have q := sw_0 hR iw0
  refine ⟨_, List.mem_cons_self, ρ, fun _ _ => rfl, fun q hq => absurd hq List.not_mem_nil, trivial, fun f hf => ?_, fun q hq => absurd hq List.not_mem_nil, fun q hq => absurd hq List.not_mem_nil, fun q hq => absurd hq List.not_mem_nil, fun q hq => ?_⟩
  · simp only [List.mem_cons, List.not_mem_nil, or_false] at hf
    subst hf
    show (0 : Int) ≤ ((-1) + ((1) * ρ 2 + ((-1) * ρ 3 + 0)))
    omega
  · simp only [List.mem_cons, List.not_mem_nil, or_false] at hq
    subst hq
    show (qRC 1 (tB (vw C h))) (((0) + ((1) * ρ 1 + ((2048) * ρ 2 + 0)))) (((0) + ((1) * ρ 4 + 0)))
    refine c2 (P := (qRC 1 (tB (vw C h)))) (r := ρ 1 + 2048 * ρ 2) (c := ρ 4) ?_ (by omega) (by omega)
    show (qRC 1 (tB (vw C h))) (ρ 1 + 2048 * ρ 2) (ρ 4)
    exact rc_in (n := ρ 1) (s := ρ 2) (d := (0 : Int)) (K := (0 : Int)) (R := (0 : Int)) (by omega) (by omega) (by omega) (by omega) (by omega) (by omega) (by omega) (by omega) (by omega) (by omega) q (by omega) (by omega) (by omega) (by omega) (by omega)
/-- op1M -/
theorem lem_478_ok (hU : uqG G C) : lem_478.1.2.1 = [] ∧ lemOK (PRd G C D xs) G rgs lem_478 := by
  refine ⟨rfl, fun ρ h ha hT => ?_⟩
  obtain ⟨-, -, hF, hG, hH, hA, hP⟩ := ha
  have f0 : (0 : Int) ≤ ((0) + ((1) * ρ 1 + 0)) := hF _ (List.mem_of_getElem? (i := 0) rfl)
  have f1 : (0 : Int) ≤ ((1200) + ((-1) * ρ 1 + 0)) := hF _ (List.mem_of_getElem? (i := 1) rfl)
  have f2 : (0 : Int) ≤ ((0) + ((1) * ρ 2 + 0)) := hF _ (List.mem_of_getElem? (i := 2) rfl)
  have f3 : (0 : Int) ≤ ((0) + ((1) * ρ 1 + ((-1) * ρ 2 + 0))) := hF _ (List.mem_of_getElem? (i := 3) rfl)
  have g0 : G (ρ 0).toNat = 22 := by
    have q := (hG _ (List.mem_of_getElem? (i := 0) rfl)).2
    rwa [show ev ρ (0, [(0, 1)]) = ρ 0 from ev_v] at q
  have h0 : (0 : Int) ≤ ρ 1 ∧ ρ 1 ≤ 1200 := hf_rg hT (hH _ (List.mem_of_getElem? (i := 0) rfl)) ev_v g0 rfl rfl rfl ev_v
  have h1 : (0 : Int) ≤ ρ 2 ∧ ρ 2 ≤ 1200 := hf_rg hT (hH _ (List.mem_of_getElem? (i := 1) rfl)) ev_v g0 rfl rfl rfl ev_v
  have p0 : (qRC 1 (tB (vw C h))) (ρ 1 + 2048 * ρ 2) (ρ 3) := c2 (P := (qRC 1 (tB (vw C h)))) (show (qRC 1 (tB (vw C h))) (((0) + ((1) * ρ 1 + ((2048) * ρ 2 + 0)))) (((0) + ((1) * ρ 3 + 0))) from hP _ (List.mem_of_getElem? (i := 0) rfl)) (by omega) (by omega)
  have hc0 := p0.1
  have hR := rc_el (n := ρ 1) (s := ρ 2) (d := (0 : Int)) (K := (0 : Int)) (R := (0 : Int)) p0 (by omega) (by omega) (by omega) (by omega) (by omega) (by omega) (by omega) (by omega) (by omega) (by omega)
  refine ⟨_, List.mem_cons_self, ρ, fun _ _ => rfl, fun q hq => absurd hq List.not_mem_nil, trivial, fun f hf => ?_, fun q hq => absurd hq List.not_mem_nil, fun q hq => absurd hq List.not_mem_nil, fun q hq => absurd hq List.not_mem_nil, fun q hq => ?_⟩
  · exact absurd hf List.not_mem_nil
  · simp only [List.mem_cons, List.not_mem_nil, or_false] at hq
    subst hq
    show q163 (tB (vw C h)) (((6871947673600) + ((1) * ρ 1 + ((2048) * ρ 2 + 0))))
    refine c2 (P := (fun r (_ : Int) => q163 (tB (vw C h)) r)) (c := 0) (c' := 0) (r := ρ 1 + 2048 * ρ 2 + 6871947673600) ?_ (by omega) rfl
    show q163 (tB (vw C h)) (ρ 1 + 2048 * ρ 2 + 6871947673600)
    exact o163 (n := ρ 1) (s := ρ 2) (lo := 0) (hi := 99) (by omega) (by omega) (by omega) (by omega) (by omega) (by omega) (by omega) (fn_1 hR)
/-- st1M -/
theorem lem_479_ok (hU : uqG G C) : lem_479.1.2.1 = [] ∧ lemOK (PRd G C D xs) G rgs lem_479 := by
  refine ⟨rfl, fun ρ h ha hT => ?_⟩
  obtain ⟨-, -, hF, hG, hH, hA, hP⟩ := ha
  have f0 : (0 : Int) ≤ ((0) + ((1) * ρ 1 + 0)) := hF _ (List.mem_of_getElem? (i := 0) rfl)
  have f1 : (0 : Int) ≤ ((1200) + ((-1) * ρ 1 + 0)) := hF _ (List.mem_of_getElem? (i := 1) rfl)
  have f2 : (0 : Int) ≤ ((0) + ((1) * ρ 2 + 0)) := hF _ (List.mem_of_getElem? (i := 2) rfl)
  have f3 : (0 : Int) ≤ ((0) + ((1) * ρ 1 + ((-1) * ρ 2 + 0))) := hF _ (List.mem_of_getElem? (i := 3) rfl)
  have f4 : (0 : Int) ≤ ((0) + ((1) * ρ 3 + 0)) := hF _ (List.mem_of_getElem? (i := 4) rfl)
  have f5 : (0 : Int) ≤ ((0) + ((1) * ρ 1 + ((-1) * ρ 3 + 0))) := hF _ (List.mem_of_getElem? (i := 5) rfl)
  have f6 : (0 : Int) ≤ ((0) + ((1) * ρ 4 + 0)) := hF _ (List.mem_of_getElem? (i := 6) rfl)
  have f7 : (0 : Int) ≤ ((99) + ((-1) * ρ 4 + 0)) := hF _ (List.mem_of_getElem? (i := 7) rfl)
  have g0 : G (ρ 0).toNat = 22 := by
    have q := (hG _ (List.mem_of_getElem? (i := 0) rfl)).2
    rwa [show ev ρ (0, [(0, 1)]) = ρ 0 from ev_v] at q
  have h0 : (0 : Int) ≤ ρ 1 ∧ ρ 1 ≤ 1200 := hf_rg hT (hH _ (List.mem_of_getElem? (i := 0) rfl)) ev_v g0 rfl rfl rfl ev_v
  have h1 : (0 : Int) ≤ ρ 2 ∧ ρ 2 ≤ 1200 := hf_rg hT (hH _ (List.mem_of_getElem? (i := 1) rfl)) ev_v g0 rfl rfl rfl ev_v
  have p0 : q158 (tB (vw C h)) (ρ 1 + 2048 * ρ 2) (ρ 3) := c2 (P := q158 (tB (vw C h))) (show q158 (tB (vw C h)) (((0) + ((1) * ρ 1 + ((2048) * ρ 2 + 0)))) (((0) + ((1) * ρ 3 + 0))) from hP _ (List.mem_of_getElem? (i := 0) rfl)) (by omega) (by omega)
  have p1 : q164 (tB (vw C h)) (ρ 1 + 2048 * ρ 3) (ρ 4) := c2 (P := q164 (tB (vw C h))) (show q164 (tB (vw C h)) (((0) + ((1) * ρ 1 + ((2048) * ρ 3 + 0)))) (((0) + ((1) * ρ 4 + 0))) from hP _ (List.mem_of_getElem? (i := 1) rfl)) (by omega) (by omega)
  have p2 : (qRC 1 (tB (vw C h))) (ρ 1 + 2048 * ρ 3) (ρ 5) := c2 (P := (qRC 1 (tB (vw C h)))) (show (qRC 1 (tB (vw C h))) (((0) + ((1) * ρ 1 + ((2048) * ρ 3 + 0)))) (((0) + ((1) * ρ 5 + 0))) from hP _ (List.mem_of_getElem? (i := 2) rfl)) (by omega) (by omega)
  obtain ⟨hkd, nv⟩ := k164 (n := ρ 1) (s := ρ 3) (by omega) (by omega) (by omega) (by omega) (by omega) p1
  have nx := k158 (n := ρ 1) (s := ρ 3) (t := ρ 2) (by omega) (by omega) (by omega) (by omega) (by omega) (by omega) p0
  have ng := nx_gt (B := (tB (vw C h))) (n := (ρ 1).toNat) (s := (ρ 3).toNat) (by omega)
  have hc0 := p2.1
  have hR := rc_el (n := ρ 1) (s := ρ 3) (d := (0 : Int)) (K := (0 : Int)) (R := (0 : Int)) p2 (by omega) (by omega) (by omega) (by omega) (by omega) (by omega) (by omega) (by omega) (by omega) (by omega)
  have q := sn_1 hR hkd (by omega) (by omega)
  refine ⟨_, List.mem_cons_self, ρ, fun _ _ => rfl, fun q hq => absurd hq List.not_mem_nil, trivial, fun f hf => ?_, fun q hq => absurd hq List.not_mem_nil, fun q hq => absurd hq List.not_mem_nil, fun q hq => absurd hq List.not_mem_nil, fun q hq => ?_⟩
  · simp only [List.mem_cons, List.not_mem_nil, or_false] at hf
    subst hf
    show (0 : Int) ≤ ((-1) + ((1) * ρ 2 + ((-1) * ρ 3 + 0)))
    omega
  · simp only [List.mem_cons, List.not_mem_nil, or_false] at hq
    subst hq
    show (qRC 2 (tB (vw C h))) (((0) + ((1) * ρ 1 + ((2048) * ρ 2 + 0)))) (((0) + ((1) * ρ 5 + 0)))
    refine c2 (P := (qRC 2 (tB (vw C h)))) (r := ρ 1 + 2048 * ρ 2) (c := ρ 5) ?_ (by omega) (by omega)
    show (qRC 2 (tB (vw C h))) (ρ 1 + 2048 * ρ 2) (ρ 5)
    exact rc_in (n := ρ 1) (s := ρ 2) (d := (0 : Int)) (K := (0 : Int)) (R := (0 : Int)) (by omega) (by omega) (by omega) (by omega) (by omega) (by omega) (by omega) (by omega) (by omega) (by omega) q (by omega) (by omega) (by omega) (by omega) (by omega)
/-- op2M -/
theorem lem_480_ok (hU : uqG G C) : lem_480.1.2.1 = [] ∧ lemOK (PRd G C D xs) G rgs lem_480 := by
  refine ⟨rfl, fun ρ h ha hT => ?_⟩
  obtain ⟨-, -, hF, hG, hH, hA, hP⟩ := ha
  have f0 : (0 : Int) ≤ ((0) + ((1) * ρ 1 + 0)) := hF _ (List.mem_of_getElem? (i := 0) rfl)
  have f1 : (0 : Int) ≤ ((1200) + ((-1) * ρ 1 + 0)) := hF _ (List.mem_of_getElem? (i := 1) rfl)
  have f2 : (0 : Int) ≤ ((0) + ((1) * ρ 2 + 0)) := hF _ (List.mem_of_getElem? (i := 2) rfl)
  have f3 : (0 : Int) ≤ ((0) + ((1) * ρ 1 + ((-1) * ρ 2 + 0))) := hF _ (List.mem_of_getElem? (i := 3) rfl)
  have g0 : G (ρ 0).toNat = 22 := by
    have q := (hG _ (List.mem_of_getElem? (i := 0) rfl)).2
    rwa [show ev ρ (0, [(0, 1)]) = ρ 0 from ev_v] at q
  have h0 : (0 : Int) ≤ ρ 1 ∧ ρ 1 ≤ 1200 := hf_rg hT (hH _ (List.mem_of_getElem? (i := 0) rfl)) ev_v g0 rfl rfl rfl ev_v
  have h1 : (0 : Int) ≤ ρ 2 ∧ ρ 2 ≤ 1200 := hf_rg hT (hH _ (List.mem_of_getElem? (i := 1) rfl)) ev_v g0 rfl rfl rfl ev_v
  have p0 : (qRC 2 (tB (vw C h))) (ρ 1 + 2048 * ρ 2) (ρ 3) := c2 (P := (qRC 2 (tB (vw C h)))) (show (qRC 2 (tB (vw C h))) (((0) + ((1) * ρ 1 + ((2048) * ρ 2 + 0)))) (((0) + ((1) * ρ 3 + 0))) from hP _ (List.mem_of_getElem? (i := 0) rfl)) (by omega) (by omega)
  have hc0 := p0.1
  have hR := rc_el (n := ρ 1) (s := ρ 2) (d := (0 : Int)) (K := (0 : Int)) (R := (0 : Int)) p0 (by omega) (by omega) (by omega) (by omega) (by omega) (by omega) (by omega) (by omega) (by omega) (by omega)
  refine ⟨_, List.mem_cons_self, ρ, fun _ _ => rfl, fun q hq => absurd hq List.not_mem_nil, trivial, fun f hf => ?_, fun q hq => absurd hq List.not_mem_nil, fun q hq => absurd hq List.not_mem_nil, fun q hq => absurd hq List.not_mem_nil, fun q hq => ?_⟩
  · exact absurd hf List.not_mem_nil
  · simp only [List.mem_cons, List.not_mem_nil, or_false] at hq
    subst hq
    show q163 (tB (vw C h)) (((6871947673600) + ((1) * ρ 1 + ((2048) * ρ 2 + 0))))
    refine c2 (P := (fun r (_ : Int) => q163 (tB (vw C h)) r)) (c := 0) (c' := 0) (r := ρ 1 + 2048 * ρ 2 + 6871947673600) ?_ (by omega) rfl
    show q163 (tB (vw C h)) (ρ 1 + 2048 * ρ 2 + 6871947673600)
    exact o163 (n := ρ 1) (s := ρ 2) (lo := 0) (hi := 99) (by omega) (by omega) (by omega) (by omega) (by omega) (by omega) (by omega) (fn_2 hR)
/-- st2M -/
theorem lem_481_ok (hU : uqG G C) : lem_481.1.2.1 = [] ∧ lemOK (PRd G C D xs) G rgs lem_481 := by
  refine ⟨rfl, fun ρ h ha hT => ?_⟩
  obtain ⟨-, -, hF, hG, hH, hA, hP⟩ := ha
  have f0 : (0 : Int) ≤ ((0) + ((1) * ρ 1 + 0)) := hF _ (List.mem_of_getElem? (i := 0) rfl)
  have f1 : (0 : Int) ≤ ((1200) + ((-1) * ρ 1 + 0)) := hF _ (List.mem_of_getElem? (i := 1) rfl)
  have f2 : (0 : Int) ≤ ((0) + ((1) * ρ 2 + 0)) := hF _ (List.mem_of_getElem? (i := 2) rfl)
  have f3 : (0 : Int) ≤ ((0) + ((1) * ρ 1 + ((-1) * ρ 2 + 0))) := hF _ (List.mem_of_getElem? (i := 3) rfl)
  have f4 : (0 : Int) ≤ ((0) + ((1) * ρ 3 + 0)) := hF _ (List.mem_of_getElem? (i := 4) rfl)
  have f5 : (0 : Int) ≤ ((0) + ((1) * ρ 1 + ((-1) * ρ 3 + 0))) := hF _ (List.mem_of_getElem? (i := 5) rfl)
  have f6 : (0 : Int) ≤ ((0) + ((1) * ρ 4 + 0)) := hF _ (List.mem_of_getElem? (i := 6) rfl)
  have f7 : (0 : Int) ≤ ((99) + ((-1) * ρ 4 + 0)) := hF _ (List.mem_of_getElem? (i := 7) rfl)
  have g0 : G (ρ 0).toNat = 22 := by
    have q := (hG _ (List.mem_of_getElem? (i := 0) rfl)).2
    rwa [show ev ρ (0, [(0, 1)]) = ρ 0 from ev_v] at q
  have h0 : (0 : Int) ≤ ρ 1 ∧ ρ 1 ≤ 1200 := hf_rg hT (hH _ (List.mem_of_getElem? (i := 0) rfl)) ev_v g0 rfl rfl rfl ev_v
  have h1 : (0 : Int) ≤ ρ 2 ∧ ρ 2 ≤ 1200 := hf_rg hT (hH _ (List.mem_of_getElem? (i := 1) rfl)) ev_v g0 rfl rfl rfl ev_v
  have p0 : q158 (tB (vw C h)) (ρ 1 + 2048 * ρ 2) (ρ 3) := c2 (P := q158 (tB (vw C h))) (show q158 (tB (vw C h)) (((0) + ((1) * ρ 1 + ((2048) * ρ 2 + 0)))) (((0) + ((1) * ρ 3 + 0))) from hP _ (List.mem_of_getElem? (i := 0) rfl)) (by omega) (by omega)
  have p1 : q164 (tB (vw C h)) (ρ 1 + 2048 * ρ 3) (ρ 4) := c2 (P := q164 (tB (vw C h))) (show q164 (tB (vw C h)) (((0) + ((1) * ρ 1 + ((2048) * ρ 3 + 0)))) (((0) + ((1) * ρ 4 + 0))) from hP _ (List.mem_of_getElem? (i := 1) rfl)) (by omega) (by omega)
  have p2 : (qRC 2 (tB (vw C h))) (ρ 1 + 2048 * ρ 3) (ρ 5) := c2 (P := (qRC 2 (tB (vw C h)))) (show (qRC 2 (tB (vw C h))) (((0) + ((1) * ρ 1 + ((2048) * ρ 3 + 0)))) (((0) + ((1) * ρ 5 + 0))) from hP _ (List.mem_of_getElem? (i := 2) rfl)) (by omega) (by omega)
  obtain ⟨hkd, nv⟩ := k164 (n := ρ 1) (s := ρ 3) (by omega) (by omega) (by omega) (by omega) (by omega) p1
  have nx := k158 (n := ρ 1) (s := ρ 3) (t := ρ 2) (by omega) (by omega) (by omega) (by omega) (by omega) (by omega) p0
  have ng := nx_gt (B := (tB (vw C h))) (n := (ρ 1).toNat) (s := (ρ 3).toNat) (by omega)
  have hc0 := p2.1
  have hR := rc_el (n := ρ 1) (s := ρ 3) (d := (0 : Int)) (K := (0 : Int)) (R := (0 : Int)) p2 (by omega) (by omega) (by omega) (by omega) (by omega) (by omega) (by omega) (by omega) (by omega) (by omega)
  have q := sn_2 hR hkd (by omega) (by omega)
  refine ⟨_, List.mem_cons_self, ρ, fun _ _ => rfl, fun q hq => absurd hq List.not_mem_nil, trivial, fun f hf => ?_, fun q hq => absurd hq List.not_mem_nil, fun q hq => absurd hq List.not_mem_nil, fun q hq => absurd hq List.not_mem_nil, fun q hq => ?_⟩
  · simp only [List.mem_cons, List.not_mem_nil, or_false] at hf
    subst hf
    show (0 : Int) ≤ ((-1) + ((1) * ρ 2 + ((-1) * ρ 3 + 0)))
    omega
  · simp only [List.mem_cons, List.not_mem_nil, or_false] at hq
    subst hq
    show (qRC 3 (tB (vw C h))) (((0) + ((1) * ρ 1 + ((2048) * ρ 2 + 0)))) (((0) + ((1) * ρ 5 + 0)))
    refine c2 (P := (qRC 3 (tB (vw C h)))) (r := ρ 1 + 2048 * ρ 2) (c := ρ 5) ?_ (by omega) (by omega)
    show (qRC 3 (tB (vw C h))) (ρ 1 + 2048 * ρ 2) (ρ 5)
    exact rc_in (n := ρ 1) (s := ρ 2) (d := (0 : Int)) (K := (0 : Int)) (R := (0 : Int)) (by omega) (by omega) (by omega) (by omega) (by omega) (by omega) (by omega) (by omega) (by omega) (by omega) q (by omega) (by omega) (by omega) (by omega) (by omega)
/-- op3M -/
theorem lem_482_ok (hU : uqG G C) : lem_482.1.2.1 = [] ∧ lemOK (PRd G C D xs) G rgs lem_482 := by
  refine ⟨rfl, fun ρ h ha hT => ?_⟩
  obtain ⟨-, -, hF, hG, hH, hA, hP⟩ := ha
  have f0 : (0 : Int) ≤ ((0) + ((1) * ρ 1 + 0)) := hF _ (List.mem_of_getElem? (i := 0) rfl)
  have f1 : (0 : Int) ≤ ((1200) + ((-1) * ρ 1 + 0)) := hF _ (List.mem_of_getElem? (i := 1) rfl)
  have f2 : (0 : Int) ≤ ((0) + ((1) * ρ 2 + 0)) := hF _ (List.mem_of_getElem? (i := 2) rfl)
  have f3 : (0 : Int) ≤ ((0) + ((1) * ρ 1 + ((-1) * ρ 2 + 0))) := hF _ (List.mem_of_getElem? (i := 3) rfl)
  have g0 : G (ρ 0).toNat = 22 := by
    have q := (hG _ (List.mem_of_getElem? (i := 0) rfl)).2
    rwa [show ev ρ (0, [(0, 1)]) = ρ 0 from ev_v] at q
  have h0 : (0 : Int) ≤ ρ 1 ∧ ρ 1 ≤ 1200 := hf_rg hT (hH _ (List.mem_of_getElem? (i := 0) rfl)) ev_v g0 rfl rfl rfl ev_v
  have h1 : (0 : Int) ≤ ρ 2 ∧ ρ 2 ≤ 1200 := hf_rg hT (hH _ (List.mem_of_getElem? (i := 1) rfl)) ev_v g0 rfl rfl rfl ev_v
  have p0 : (qRC 3 (tB (vw C h))) (ρ 1 + 2048 * ρ 2) (ρ 3) := c2 (P := (qRC 3 (tB (vw C h)))) (show (qRC 3 (tB (vw C h))) (((0) + ((1) * ρ 1 + ((2048) * ρ 2 + 0)))) (((0) + ((1) * ρ 3 + 0))) from hP _ (List.mem_of_getElem? (i := 0) rfl)) (by omega) (by omega)
  have hc0 := p0.1
  have hR := rc_el (n := ρ 1) (s := ρ 2) (d := (0 : Int)) (K := (0 : Int)) (R := (0 : Int)) p0 (by omega) (by omega) (by omega) (by omega) (by omega) (by omega) (by omega) (by omega) (by omega) (by omega)
  refine ⟨_, List.mem_cons_self, ρ, fun _ _ => rfl, fun q hq => absurd hq List.not_mem_nil, trivial, fun f hf => ?_, fun q hq => absurd hq List.not_mem_nil, fun q hq => absurd hq List.not_mem_nil, fun q hq => absurd hq List.not_mem_nil, fun q hq => ?_⟩
  · exact absurd hf List.not_mem_nil
  · simp only [List.mem_cons, List.not_mem_nil, or_false] at hq
    subst hq
    show q165 (tB (vw C h)) (((4194304) + ((1) * ρ 1 + ((2048) * ρ 2 + 0))))
    refine c2 (P := (fun r (_ : Int) => q165 (tB (vw C h)) r)) (c := 0) (c' := 0) (r := ρ 1 + 2048 * ρ 2 + 4194304) ?_ (by omega) rfl
    show q165 (tB (vw C h)) (ρ 1 + 2048 * ρ 2 + 4194304)
    exact o165 (n := ρ 1) (s := ρ 2) (w := 1) (by omega) (by omega) (by omega) (by omega) (by omega) (by omega) (fun hw => fw_3 hR hw)
/-- st3M -/
theorem lem_483_ok (hU : uqG G C) : lem_483.1.2.1 = [] ∧ lemOK (PRd G C D xs) G rgs lem_483 := by
  refine ⟨rfl, fun ρ h ha hT => ?_⟩
  obtain ⟨-, -, hF, hG, hH, hA, hP⟩ := ha
  have f0 : (0 : Int) ≤ ((0) + ((1) * ρ 1 + 0)) := hF _ (List.mem_of_getElem? (i := 0) rfl)
  have f1 : (0 : Int) ≤ ((1200) + ((-1) * ρ 1 + 0)) := hF _ (List.mem_of_getElem? (i := 1) rfl)
  have f2 : (0 : Int) ≤ ((0) + ((1) * ρ 2 + 0)) := hF _ (List.mem_of_getElem? (i := 2) rfl)
  have f3 : (0 : Int) ≤ ((0) + ((1) * ρ 1 + ((-1) * ρ 2 + 0))) := hF _ (List.mem_of_getElem? (i := 3) rfl)
  have f4 : (0 : Int) ≤ ((0) + ((1) * ρ 3 + 0)) := hF _ (List.mem_of_getElem? (i := 4) rfl)
  have f5 : (0 : Int) ≤ ((0) + ((1) * ρ 1 + ((-1) * ρ 3 + 0))) := hF _ (List.mem_of_getElem? (i := 5) rfl)
  have g0 : G (ρ 0).toNat = 22 := by
    have q := (hG _ (List.mem_of_getElem? (i := 0) rfl)).2
    rwa [show ev ρ (0, [(0, 1)]) = ρ 0 from ev_v] at q
  have h0 : (0 : Int) ≤ ρ 1 ∧ ρ 1 ≤ 1200 := hf_rg hT (hH _ (List.mem_of_getElem? (i := 0) rfl)) ev_v g0 rfl rfl rfl ev_v
  have h1 : (0 : Int) ≤ ρ 2 ∧ ρ 2 ≤ 1200 := hf_rg hT (hH _ (List.mem_of_getElem? (i := 1) rfl)) ev_v g0 rfl rfl rfl ev_v
  have p0 : q158 (tB (vw C h)) (ρ 1 + 2048 * ρ 2) (ρ 3) := c2 (P := q158 (tB (vw C h))) (show q158 (tB (vw C h)) (((0) + ((1) * ρ 1 + ((2048) * ρ 2 + 0)))) (((0) + ((1) * ρ 3 + 0))) from hP _ (List.mem_of_getElem? (i := 0) rfl)) (by omega) (by omega)
  have p1 : q159 (tB (vw C h)) (ρ 1 + 2048 * ρ 3 + 4194304) ((1 : Int)) := c2 (P := q159 (tB (vw C h))) (show q159 (tB (vw C h)) (((4194304) + ((1) * ρ 1 + ((2048) * ρ 3 + 0)))) (((1) + 0)) from hP _ (List.mem_of_getElem? (i := 1) rfl)) (by omega) (by omega)
  have p2 : (qRC 3 (tB (vw C h))) (ρ 1 + 2048 * ρ 3) (ρ 4) := c2 (P := (qRC 3 (tB (vw C h)))) (show (qRC 3 (tB (vw C h))) (((0) + ((1) * ρ 1 + ((2048) * ρ 3 + 0)))) (((0) + ((1) * ρ 4 + 0))) from hP _ (List.mem_of_getElem? (i := 2) rfl)) (by omega) (by omega)
  have iw1 : tIsB (tB (vw C h)) (ρ 1).toNat (ρ 3).toNat (wd 1) = true := b01_1 (k159 (n := ρ 1) (s := ρ 3) (w := 1) (by omega) (by omega) (by omega) (by omega) (by omega) (by omega) p1)
  have hkd := (is_el.mp iw1).1
  have nx := k158 (n := ρ 1) (s := ρ 3) (t := ρ 2) (by omega) (by omega) (by omega) (by omega) (by omega) (by omega) p0
  have ng := nx_gt (B := (tB (vw C h))) (n := (ρ 1).toNat) (s := (ρ 3).toNat) (by omega)
  have hc0 := p2.1
  have hR := rc_el (n := ρ 1) (s := ρ 3) (d := (0 : Int)) (K := (0 : Int)) (R := (0 : Int)) p2 (by omega) (by omega) (by omega) (by omega) (by omega) (by omega) (by omega) (by omega) (by omega) (by omega)
  have q := sw_3 hR iw1
  refine ⟨_, List.mem_cons_self, ρ, fun _ _ => rfl, fun q hq => absurd hq List.not_mem_nil, trivial, fun f hf => ?_, fun q hq => absurd hq List.not_mem_nil, fun q hq => absurd hq List.not_mem_nil, fun q hq => absurd hq List.not_mem_nil, fun q hq => ?_⟩
  · simp only [List.mem_cons, List.not_mem_nil, or_false] at hf
    subst hf
    show (0 : Int) ≤ ((-1) + ((1) * ρ 2 + ((-1) * ρ 3 + 0)))
    omega
  · simp only [List.mem_cons, List.not_mem_nil, or_false] at hq
    subst hq
    show (qRC 4 (tB (vw C h))) (((0) + ((1) * ρ 1 + ((2048) * ρ 2 + 0)))) (((0) + ((1) * ρ 4 + 0)))
    refine c2 (P := (qRC 4 (tB (vw C h)))) (r := ρ 1 + 2048 * ρ 2) (c := ρ 4) ?_ (by omega) (by omega)
    show (qRC 4 (tB (vw C h))) (ρ 1 + 2048 * ρ 2) (ρ 4)
    exact rc_in (n := ρ 1) (s := ρ 2) (d := (0 : Int)) (K := (0 : Int)) (R := (0 : Int)) (by omega) (by omega) (by omega) (by omega) (by omega) (by omega) (by omega) (by omega) (by omega) (by omega) q (by omega) (by omega) (by omega) (by omega) (by omega)
/-- op4M -/
theorem lem_484_ok (hU : uqG G C) : lem_484.1.2.1 = [] ∧ lemOK (PRd G C D xs) G rgs lem_484 := by
  refine ⟨rfl, fun ρ h ha hT => ?_⟩
  obtain ⟨-, -, hF, hG, hH, hA, hP⟩ := ha
  have f0 : (0 : Int) ≤ ((0) + ((1) * ρ 1 + 0)) := hF _ (List.mem_of_getElem? (i := 0) rfl)
  have f1 : (0 : Int) ≤ ((1200) + ((-1) * ρ 1 + 0)) := hF _ (List.mem_of_getElem? (i := 1) rfl)
  have f2 : (0 : Int) ≤ ((0) + ((1) * ρ 2 + 0)) := hF _ (List.mem_of_getElem? (i := 2) rfl)
  have f3 : (0 : Int) ≤ ((0) + ((1) * ρ 1 + ((-1) * ρ 2 + 0))) := hF _ (List.mem_of_getElem? (i := 3) rfl)
  have g0 : G (ρ 0).toNat = 22 := by
    have q := (hG _ (List.mem_of_getElem? (i := 0) rfl)).2
    rwa [show ev ρ (0, [(0, 1)]) = ρ 0 from ev_v] at q
  have h0 : (0 : Int) ≤ ρ 1 ∧ ρ 1 ≤ 1200 := hf_rg hT (hH _ (List.mem_of_getElem? (i := 0) rfl)) ev_v g0 rfl rfl rfl ev_v
  have h1 : (0 : Int) ≤ ρ 2 ∧ ρ 2 ≤ 1200 := hf_rg hT (hH _ (List.mem_of_getElem? (i := 1) rfl)) ev_v g0 rfl rfl rfl ev_v
  have p0 : (qRC 4 (tB (vw C h))) (ρ 1 + 2048 * ρ 2) (ρ 3) := c2 (P := (qRC 4 (tB (vw C h)))) (show (qRC 4 (tB (vw C h))) (((0) + ((1) * ρ 1 + ((2048) * ρ 2 + 0)))) (((0) + ((1) * ρ 3 + 0))) from hP _ (List.mem_of_getElem? (i := 0) rfl)) (by omega) (by omega)
  have hc0 := p0.1
  have hR := rc_el (n := ρ 1) (s := ρ 2) (d := (0 : Int)) (K := (0 : Int)) (R := (0 : Int)) p0 (by omega) (by omega) (by omega) (by omega) (by omega) (by omega) (by omega) (by omega) (by omega) (by omega)
  refine ⟨_, List.mem_cons_self, ρ, fun _ _ => rfl, fun q hq => absurd hq List.not_mem_nil, trivial, fun f hf => ?_, fun q hq => absurd hq List.not_mem_nil, fun q hq => absurd hq List.not_mem_nil, fun q hq => absurd hq List.not_mem_nil, fun q hq => ?_⟩
  · exact absurd hf List.not_mem_nil
  · simp only [List.mem_cons, List.not_mem_nil, or_false] at hq
    subst hq
    show q163 (tB (vw C h)) (((68719480930304) + ((1) * ρ 1 + ((2048) * ρ 2 + 0))))
    refine c2 (P := (fun r (_ : Int) => q163 (tB (vw C h)) r)) (c := 0) (c' := 0) (r := ρ 1 + 2048 * ρ 2 + 68719480930304) ?_ (by omega) rfl
    show q163 (tB (vw C h)) (ρ 1 + 2048 * ρ 2 + 68719480930304)
    exact o163 (n := ρ 1) (s := ρ 2) (lo := 1) (hi := 999) (by omega) (by omega) (by omega) (by omega) (by omega) (by omega) (by omega) (fn_4 hR)
/-- st4M -/
theorem lem_485_ok (hU : uqG G C) : lem_485.1.2.1 = [] ∧ lemOK (PRd G C D xs) G rgs lem_485 := by
  refine ⟨rfl, fun ρ h ha hT => ?_⟩
  obtain ⟨-, -, hF, hG, hH, hA, hP⟩ := ha
  have f0 : (0 : Int) ≤ ((0) + ((1) * ρ 1 + 0)) := hF _ (List.mem_of_getElem? (i := 0) rfl)
  have f1 : (0 : Int) ≤ ((1200) + ((-1) * ρ 1 + 0)) := hF _ (List.mem_of_getElem? (i := 1) rfl)
  have f2 : (0 : Int) ≤ ((0) + ((1) * ρ 2 + 0)) := hF _ (List.mem_of_getElem? (i := 2) rfl)
  have f3 : (0 : Int) ≤ ((0) + ((1) * ρ 1 + ((-1) * ρ 2 + 0))) := hF _ (List.mem_of_getElem? (i := 3) rfl)
  have f4 : (0 : Int) ≤ ((0) + ((1) * ρ 3 + 0)) := hF _ (List.mem_of_getElem? (i := 4) rfl)
  have f5 : (0 : Int) ≤ ((0) + ((1) * ρ 1 + ((-1) * ρ 3 + 0))) := hF _ (List.mem_of_getElem? (i := 5) rfl)
  have f6 : (0 : Int) ≤ ((-1) + ((1) * ρ 4 + 0)) := hF _ (List.mem_of_getElem? (i := 6) rfl)
  have f7 : (0 : Int) ≤ ((999) + ((-1) * ρ 4 + 0)) := hF _ (List.mem_of_getElem? (i := 7) rfl)
  have g0 : G (ρ 0).toNat = 22 := by
    have q := (hG _ (List.mem_of_getElem? (i := 0) rfl)).2
    rwa [show ev ρ (0, [(0, 1)]) = ρ 0 from ev_v] at q
  have h0 : (0 : Int) ≤ ρ 1 ∧ ρ 1 ≤ 1200 := hf_rg hT (hH _ (List.mem_of_getElem? (i := 0) rfl)) ev_v g0 rfl rfl rfl ev_v
  have h1 : (0 : Int) ≤ ρ 2 ∧ ρ 2 ≤ 1200 := hf_rg hT (hH _ (List.mem_of_getElem? (i := 1) rfl)) ev_v g0 rfl rfl rfl ev_v
  have p0 : q158 (tB (vw C h)) (ρ 1 + 2048 * ρ 2) (ρ 3) := c2 (P := q158 (tB (vw C h))) (show q158 (tB (vw C h)) (((0) + ((1) * ρ 1 + ((2048) * ρ 2 + 0)))) (((0) + ((1) * ρ 3 + 0))) from hP _ (List.mem_of_getElem? (i := 0) rfl)) (by omega) (by omega)
  have p1 : q164 (tB (vw C h)) (ρ 1 + 2048 * ρ 3) (ρ 4) := c2 (P := q164 (tB (vw C h))) (show q164 (tB (vw C h)) (((0) + ((1) * ρ 1 + ((2048) * ρ 3 + 0)))) (((0) + ((1) * ρ 4 + 0))) from hP _ (List.mem_of_getElem? (i := 1) rfl)) (by omega) (by omega)
  have p2 : (qRC 4 (tB (vw C h))) (ρ 1 + 2048 * ρ 3) (ρ 5) := c2 (P := (qRC 4 (tB (vw C h)))) (show (qRC 4 (tB (vw C h))) (((0) + ((1) * ρ 1 + ((2048) * ρ 3 + 0)))) (((0) + ((1) * ρ 5 + 0))) from hP _ (List.mem_of_getElem? (i := 2) rfl)) (by omega) (by omega)
  obtain ⟨hkd, nv⟩ := k164 (n := ρ 1) (s := ρ 3) (by omega) (by omega) (by omega) (by omega) (by omega) p1
  have nx := k158 (n := ρ 1) (s := ρ 3) (t := ρ 2) (by omega) (by omega) (by omega) (by omega) (by omega) (by omega) p0
  have ng := nx_gt (B := (tB (vw C h))) (n := (ρ 1).toNat) (s := (ρ 3).toNat) (by omega)
  have hc0 := p2.1
  have hR := rc_el (n := ρ 1) (s := ρ 3) (d := (0 : Int)) (K := (0 : Int)) (R := (0 : Int)) p2 (by omega) (by omega) (by omega) (by omega) (by omega) (by omega) (by omega) (by omega) (by omega) (by omega)
  have q := sn_4 hR hkd (by omega) (by omega)
  obtain ⟨σ, r1, r2a⟩ : ∃ σ : Va, (∀ i, i < 6 → σ i = ρ i) ∧ σ 6 = ((setC (ρ 5).toNat 2 (ρ 4).toNat : Nat) : Int) := ⟨fun i => if i = 6 then ((setC (ρ 5).toNat 2 (ρ 4).toNat : Nat) : Int) else ρ i, fun i hi => by dsimp only; rw [if_neg (by omega)], by dsimp only; rw [if_pos rfl]⟩
  have s0 := r1 0 (by omega)
  have s1 := r1 1 (by omega)
  have s2 := r1 2 (by omega)
  have s3 := r1 3 (by omega)
  have s4 := r1 4 (by omega)
  have s5 := r1 5 (by omega)
  refine ⟨_, List.mem_cons_self, σ, r1, fun q hq => absurd hq List.not_mem_nil, trivial, fun f hf => ?_, fun q hq => absurd hq List.not_mem_nil, fun q hq => absurd hq List.not_mem_nil, fun q hq => absurd hq List.not_mem_nil, fun q hq => ?_⟩
  · simp only [List.mem_cons, List.not_mem_nil, or_false] at hf
    subst hf
    show (0 : Int) ≤ ((-1) + ((1) * σ 2 + ((-1) * σ 3 + 0)))
    omega
  · simp only [List.mem_cons, List.not_mem_nil, or_false] at hq
    rcases hq with rfl | rfl
    · show (qRC 5 (tB (vw C h))) (((0) + ((1) * σ 1 + ((2048) * σ 2 + 0)))) (((0) + ((1) * σ 6 + 0)))
      refine c2 (P := (qRC 5 (tB (vw C h)))) (r := ρ 1 + 2048 * ρ 2) (c := ((setC (ρ 5).toNat 2 (ρ 4).toNat : Nat) : Int)) ?_ (by omega) (by omega)
      show (qRC 5 (tB (vw C h))) (ρ 1 + 2048 * ρ 2) (((setC (ρ 5).toNat 2 (ρ 4).toNat : Nat) : Int))
      exact rc_in (n := ρ 1) (s := ρ 2) (d := (0 : Int)) (K := (0 : Int)) (R := (0 : Int)) (by omega) (by omega) (by omega) (by omega) (by omega) (by omega) (by omega) (by omega) (by omega) (by omega) q (by omega) (by omega) (by omega) (by omega) (by rw [nv])
    · show qSet (((131072) + ((1) * σ 4 + ((16777216) * σ 5 + 0)))) (((0) + ((1) * σ 6 + 0)))
      refine c2 (P := qSet) (r := ρ 4 + 16777216 * ρ 5 + 131072) (c := ((setC (ρ 5).toNat 2 (ρ 4).toNat : Nat) : Int)) ?_ (by omega) (by omega)
      show qSet (ρ 4 + 16777216 * ρ 5 + 131072) (((setC (ρ 5).toNat 2 (ρ 4).toNat : Nat) : Int))
      exact oSet (V := ρ 5) (v := ρ 4) (k := 2) (by omega) (by decide) (by omega) (by omega) rfl
/-- op5M -/
theorem lem_486_ok (hU : uqG G C) : lem_486.1.2.1 = [] ∧ lemOK (PRd G C D xs) G rgs lem_486 := by
  refine ⟨rfl, fun ρ h ha hT => ?_⟩
  obtain ⟨-, -, hF, hG, hH, hA, hP⟩ := ha
  have f0 : (0 : Int) ≤ ((0) + ((1) * ρ 1 + 0)) := hF _ (List.mem_of_getElem? (i := 0) rfl)
  have f1 : (0 : Int) ≤ ((1200) + ((-1) * ρ 1 + 0)) := hF _ (List.mem_of_getElem? (i := 1) rfl)
  have f2 : (0 : Int) ≤ ((0) + ((1) * ρ 2 + 0)) := hF _ (List.mem_of_getElem? (i := 2) rfl)
  have f3 : (0 : Int) ≤ ((0) + ((1) * ρ 1 + ((-1) * ρ 2 + 0))) := hF _ (List.mem_of_getElem? (i := 3) rfl)
  have g0 : G (ρ 0).toNat = 22 := by
    have q := (hG _ (List.mem_of_getElem? (i := 0) rfl)).2
    rwa [show ev ρ (0, [(0, 1)]) = ρ 0 from ev_v] at q
  have h0 : (0 : Int) ≤ ρ 1 ∧ ρ 1 ≤ 1200 := hf_rg hT (hH _ (List.mem_of_getElem? (i := 0) rfl)) ev_v g0 rfl rfl rfl ev_v
  have h1 : (0 : Int) ≤ ρ 2 ∧ ρ 2 ≤ 1200 := hf_rg hT (hH _ (List.mem_of_getElem? (i := 1) rfl)) ev_v g0 rfl rfl rfl ev_v
  have p0 : (qRC 5 (tB (vw C h))) (ρ 1 + 2048 * ρ 2) (ρ 3) := c2 (P := (qRC 5 (tB (vw C h)))) (show (qRC 5 (tB (vw C h))) (((0) + ((1) * ρ 1 + ((2048) * ρ 2 + 0)))) (((0) + ((1) * ρ 3 + 0))) from hP _ (List.mem_of_getElem? (i := 0) rfl)) (by omega) (by omega)
  have hc0 := p0.1
  have hR := rc_el (n := ρ 1) (s := ρ 2) (d := (0 : Int)) (K := (0 : Int)) (R := (0 : Int)) p0 (by omega) (by omega) (by omega) (by omega) (by omega) (by omega) (by omega) (by omega) (by omega) (by omega)
  refine ⟨_, List.mem_cons_self, ρ, fun _ _ => rfl, fun q hq => absurd hq List.not_mem_nil, trivial, fun f hf => ?_, fun q hq => absurd hq List.not_mem_nil, fun q hq => absurd hq List.not_mem_nil, fun q hq => absurd hq List.not_mem_nil, fun q hq => ?_⟩
  · exact absurd hf List.not_mem_nil
  · simp only [List.mem_cons, List.not_mem_nil, or_false] at hq
    subst hq
    show q165 (tB (vw C h)) (((8388608) + ((1) * ρ 1 + ((2048) * ρ 2 + 0))))
    refine c2 (P := (fun r (_ : Int) => q165 (tB (vw C h)) r)) (c := 0) (c' := 0) (r := ρ 1 + 2048 * ρ 2 + 8388608) ?_ (by omega) rfl
    show q165 (tB (vw C h)) (ρ 1 + 2048 * ρ 2 + 8388608)
    exact o165 (n := ρ 1) (s := ρ 2) (w := 2) (by omega) (by omega) (by omega) (by omega) (by omega) (by omega) (fun hw => fw_5 hR hw)
/-- st5M -/
theorem lem_487_ok (hU : uqG G C) : lem_487.1.2.1 = [] ∧ lemOK (PRd G C D xs) G rgs lem_487 := by
  refine ⟨rfl, fun ρ h ha hT => ?_⟩
  obtain ⟨-, -, hF, hG, hH, hA, hP⟩ := ha
  have f0 : (0 : Int) ≤ ((0) + ((1) * ρ 1 + 0)) := hF _ (List.mem_of_getElem? (i := 0) rfl)
  have f1 : (0 : Int) ≤ ((1200) + ((-1) * ρ 1 + 0)) := hF _ (List.mem_of_getElem? (i := 1) rfl)
  have f2 : (0 : Int) ≤ ((0) + ((1) * ρ 2 + 0)) := hF _ (List.mem_of_getElem? (i := 2) rfl)
  have f3 : (0 : Int) ≤ ((0) + ((1) * ρ 1 + ((-1) * ρ 2 + 0))) := hF _ (List.mem_of_getElem? (i := 3) rfl)
  have f4 : (0 : Int) ≤ ((0) + ((1) * ρ 3 + 0)) := hF _ (List.mem_of_getElem? (i := 4) rfl)
  have f5 : (0 : Int) ≤ ((0) + ((1) * ρ 1 + ((-1) * ρ 3 + 0))) := hF _ (List.mem_of_getElem? (i := 5) rfl)
  have g0 : G (ρ 0).toNat = 22 := by
    have q := (hG _ (List.mem_of_getElem? (i := 0) rfl)).2
    rwa [show ev ρ (0, [(0, 1)]) = ρ 0 from ev_v] at q
  have h0 : (0 : Int) ≤ ρ 1 ∧ ρ 1 ≤ 1200 := hf_rg hT (hH _ (List.mem_of_getElem? (i := 0) rfl)) ev_v g0 rfl rfl rfl ev_v
  have h1 : (0 : Int) ≤ ρ 2 ∧ ρ 2 ≤ 1200 := hf_rg hT (hH _ (List.mem_of_getElem? (i := 1) rfl)) ev_v g0 rfl rfl rfl ev_v
  have p0 : q158 (tB (vw C h)) (ρ 1 + 2048 * ρ 2) (ρ 3) := c2 (P := q158 (tB (vw C h))) (show q158 (tB (vw C h)) (((0) + ((1) * ρ 1 + ((2048) * ρ 2 + 0)))) (((0) + ((1) * ρ 3 + 0))) from hP _ (List.mem_of_getElem? (i := 0) rfl)) (by omega) (by omega)
  have p1 : q159 (tB (vw C h)) (ρ 1 + 2048 * ρ 3 + 8388608) ((1 : Int)) := c2 (P := q159 (tB (vw C h))) (show q159 (tB (vw C h)) (((8388608) + ((1) * ρ 1 + ((2048) * ρ 3 + 0)))) (((1) + 0)) from hP _ (List.mem_of_getElem? (i := 1) rfl)) (by omega) (by omega)
  have p2 : (qRC 5 (tB (vw C h))) (ρ 1 + 2048 * ρ 3) (ρ 4) := c2 (P := (qRC 5 (tB (vw C h)))) (show (qRC 5 (tB (vw C h))) (((0) + ((1) * ρ 1 + ((2048) * ρ 3 + 0)))) (((0) + ((1) * ρ 4 + 0))) from hP _ (List.mem_of_getElem? (i := 2) rfl)) (by omega) (by omega)
  have iw2 : tIsB (tB (vw C h)) (ρ 1).toNat (ρ 3).toNat (wd 2) = true := b01_1 (k159 (n := ρ 1) (s := ρ 3) (w := 2) (by omega) (by omega) (by omega) (by omega) (by omega) (by omega) p1)
  have hkd := (is_el.mp iw2).1
  have nx := k158 (n := ρ 1) (s := ρ 3) (t := ρ 2) (by omega) (by omega) (by omega) (by omega) (by omega) (by omega) p0
  have ng := nx_gt (B := (tB (vw C h))) (n := (ρ 1).toNat) (s := (ρ 3).toNat) (by omega)
  have hc0 := p2.1
  have hR := rc_el (n := ρ 1) (s := ρ 3) (d := (0 : Int)) (K := (0 : Int)) (R := (0 : Int)) p2 (by omega) (by omega) (by omega) (by omega) (by omega) (by omega) (by omega) (by omega) (by omega) (by omega)
  have q := sw_5 hR iw2
  refine ⟨_, List.mem_cons_self, ρ, fun _ _ => rfl, fun q hq => absurd hq List.not_mem_nil, trivial, fun f hf => ?_, fun q hq => absurd hq List.not_mem_nil, fun q hq => absurd hq List.not_mem_nil, fun q hq => absurd hq List.not_mem_nil, fun q hq => ?_⟩
  · simp only [List.mem_cons, List.not_mem_nil, or_false] at hf
    subst hf
    show (0 : Int) ≤ ((-1) + ((1) * ρ 2 + ((-1) * ρ 3 + 0)))
    omega
  · simp only [List.mem_cons, List.not_mem_nil, or_false] at hq
    subst hq
    show (qRC 6 (tB (vw C h))) (((0) + ((1) * ρ 1 + ((2048) * ρ 2 + 0)))) (((0) + ((1) * ρ 4 + 0)))
    refine c2 (P := (qRC 6 (tB (vw C h)))) (r := ρ 1 + 2048 * ρ 2) (c := ρ 4) ?_ (by omega) (by omega)
    show (qRC 6 (tB (vw C h))) (ρ 1 + 2048 * ρ 2) (ρ 4)
    exact rc_in (n := ρ 1) (s := ρ 2) (d := (0 : Int)) (K := (0 : Int)) (R := (0 : Int)) (by omega) (by omega) (by omega) (by omega) (by omega) (by omega) (by omega) (by omega) (by omega) (by omega) q (by omega) (by omega) (by omega) (by omega) (by omega)
/-- op6M -/
theorem lem_488_ok (hU : uqG G C) : lem_488.1.2.1 = [] ∧ lemOK (PRd G C D xs) G rgs lem_488 := by
  refine ⟨rfl, fun ρ h ha hT => ?_⟩
  obtain ⟨-, -, hF, hG, hH, hA, hP⟩ := ha
  have f0 : (0 : Int) ≤ ((0) + ((1) * ρ 1 + 0)) := hF _ (List.mem_of_getElem? (i := 0) rfl)
  have f1 : (0 : Int) ≤ ((1200) + ((-1) * ρ 1 + 0)) := hF _ (List.mem_of_getElem? (i := 1) rfl)
  have f2 : (0 : Int) ≤ ((0) + ((1) * ρ 2 + 0)) := hF _ (List.mem_of_getElem? (i := 2) rfl)
  have f3 : (0 : Int) ≤ ((0) + ((1) * ρ 1 + ((-1) * ρ 2 + 0))) := hF _ (List.mem_of_getElem? (i := 3) rfl)
  have g0 : G (ρ 0).toNat = 22 := by
    have q := (hG _ (List.mem_of_getElem? (i := 0) rfl)).2
    rwa [show ev ρ (0, [(0, 1)]) = ρ 0 from ev_v] at q
  have h0 : (0 : Int) ≤ ρ 1 ∧ ρ 1 ≤ 1200 := hf_rg hT (hH _ (List.mem_of_getElem? (i := 0) rfl)) ev_v g0 rfl rfl rfl ev_v
  have h1 : (0 : Int) ≤ ρ 2 ∧ ρ 2 ≤ 1200 := hf_rg hT (hH _ (List.mem_of_getElem? (i := 1) rfl)) ev_v g0 rfl rfl rfl ev_v
  have p0 : (qRC 6 (tB (vw C h))) (ρ 1 + 2048 * ρ 2) (ρ 3) := c2 (P := (qRC 6 (tB (vw C h)))) (show (qRC 6 (tB (vw C h))) (((0) + ((1) * ρ 1 + ((2048) * ρ 2 + 0)))) (((0) + ((1) * ρ 3 + 0))) from hP _ (List.mem_of_getElem? (i := 0) rfl)) (by omega) (by omega)
  have hc0 := p0.1
  have hR := rc_el (n := ρ 1) (s := ρ 2) (d := (0 : Int)) (K := (0 : Int)) (R := (0 : Int)) p0 (by omega) (by omega) (by omega) (by omega) (by omega) (by omega) (by omega) (by omega) (by omega) (by omega)
  refine ⟨_, List.mem_cons_self, ρ, fun _ _ => rfl, fun q hq => absurd hq List.not_mem_nil, trivial, fun f hf => ?_, fun q hq => absurd hq List.not_mem_nil, fun q hq => absurd hq List.not_mem_nil, fun q hq => absurd hq List.not_mem_nil, fun q hq => ?_⟩
  · exact absurd hf List.not_mem_nil
  · simp only [List.mem_cons, List.not_mem_nil, or_false] at hq
    subst hq
    show q163 (tB (vw C h)) (((687194767360000) + ((1) * ρ 1 + ((2048) * ρ 2 + 0))))
    refine c2 (P := (fun r (_ : Int) => q163 (tB (vw C h)) r)) (c := 0) (c' := 0) (r := ρ 1 + 2048 * ρ 2 + 687194767360000) ?_ (by omega) rfl
    show q163 (tB (vw C h)) (ρ 1 + 2048 * ρ 2 + 687194767360000)
    exact o163 (n := ρ 1) (s := ρ 2) (lo := 0) (hi := 9999) (by omega) (by omega) (by omega) (by omega) (by omega) (by omega) (by omega) (fn_6 hR)
/-- st6M -/
theorem lem_489_ok (hU : uqG G C) : lem_489.1.2.1 = [] ∧ lemOK (PRd G C D xs) G rgs lem_489 := by
  refine ⟨rfl, fun ρ h ha hT => ?_⟩
  obtain ⟨-, -, hF, hG, hH, hA, hP⟩ := ha
  have f0 : (0 : Int) ≤ ((0) + ((1) * ρ 1 + 0)) := hF _ (List.mem_of_getElem? (i := 0) rfl)
  have f1 : (0 : Int) ≤ ((1200) + ((-1) * ρ 1 + 0)) := hF _ (List.mem_of_getElem? (i := 1) rfl)
  have f2 : (0 : Int) ≤ ((0) + ((1) * ρ 2 + 0)) := hF _ (List.mem_of_getElem? (i := 2) rfl)
  have f3 : (0 : Int) ≤ ((0) + ((1) * ρ 1 + ((-1) * ρ 2 + 0))) := hF _ (List.mem_of_getElem? (i := 3) rfl)
  have f4 : (0 : Int) ≤ ((0) + ((1) * ρ 3 + 0)) := hF _ (List.mem_of_getElem? (i := 4) rfl)
  have f5 : (0 : Int) ≤ ((0) + ((1) * ρ 1 + ((-1) * ρ 3 + 0))) := hF _ (List.mem_of_getElem? (i := 5) rfl)
  have f6 : (0 : Int) ≤ ((0) + ((1) * ρ 4 + 0)) := hF _ (List.mem_of_getElem? (i := 6) rfl)
  have f7 : (0 : Int) ≤ ((9999) + ((-1) * ρ 4 + 0)) := hF _ (List.mem_of_getElem? (i := 7) rfl)
  have g0 : G (ρ 0).toNat = 22 := by
    have q := (hG _ (List.mem_of_getElem? (i := 0) rfl)).2
    rwa [show ev ρ (0, [(0, 1)]) = ρ 0 from ev_v] at q
  have h0 : (0 : Int) ≤ ρ 1 ∧ ρ 1 ≤ 1200 := hf_rg hT (hH _ (List.mem_of_getElem? (i := 0) rfl)) ev_v g0 rfl rfl rfl ev_v
  have h1 : (0 : Int) ≤ ρ 2 ∧ ρ 2 ≤ 1200 := hf_rg hT (hH _ (List.mem_of_getElem? (i := 1) rfl)) ev_v g0 rfl rfl rfl ev_v
  have p0 : q158 (tB (vw C h)) (ρ 1 + 2048 * ρ 2) (ρ 3) := c2 (P := q158 (tB (vw C h))) (show q158 (tB (vw C h)) (((0) + ((1) * ρ 1 + ((2048) * ρ 2 + 0)))) (((0) + ((1) * ρ 3 + 0))) from hP _ (List.mem_of_getElem? (i := 0) rfl)) (by omega) (by omega)
  have p1 : q164 (tB (vw C h)) (ρ 1 + 2048 * ρ 3) (ρ 4) := c2 (P := q164 (tB (vw C h))) (show q164 (tB (vw C h)) (((0) + ((1) * ρ 1 + ((2048) * ρ 3 + 0)))) (((0) + ((1) * ρ 4 + 0))) from hP _ (List.mem_of_getElem? (i := 1) rfl)) (by omega) (by omega)
  have p2 : (qRC 6 (tB (vw C h))) (ρ 1 + 2048 * ρ 3) (ρ 5) := c2 (P := (qRC 6 (tB (vw C h)))) (show (qRC 6 (tB (vw C h))) (((0) + ((1) * ρ 1 + ((2048) * ρ 3 + 0)))) (((0) + ((1) * ρ 5 + 0))) from hP _ (List.mem_of_getElem? (i := 2) rfl)) (by omega) (by omega)
  obtain ⟨hkd, nv⟩ := k164 (n := ρ 1) (s := ρ 3) (by omega) (by omega) (by omega) (by omega) (by omega) p1
  have nx := k158 (n := ρ 1) (s := ρ 3) (t := ρ 2) (by omega) (by omega) (by omega) (by omega) (by omega) (by omega) p0
  have ng := nx_gt (B := (tB (vw C h))) (n := (ρ 1).toNat) (s := (ρ 3).toNat) (by omega)
  have hc0 := p2.1
  have hR := rc_el (n := ρ 1) (s := ρ 3) (d := (0 : Int)) (K := (0 : Int)) (R := (0 : Int)) p2 (by omega) (by omega) (by omega) (by omega) (by omega) (by omega) (by omega) (by omega) (by omega) (by omega)
  have q := sn_6 hR hkd (by omega) (by omega)
  refine ⟨_, List.mem_cons_self, ρ, fun _ _ => rfl, fun q hq => absurd hq List.not_mem_nil, trivial, fun f hf => ?_, fun q hq => absurd hq List.not_mem_nil, fun q hq => absurd hq List.not_mem_nil, fun q hq => absurd hq List.not_mem_nil, fun q hq => ?_⟩
  · simp only [List.mem_cons, List.not_mem_nil, or_false] at hf
    subst hf
    show (0 : Int) ≤ ((-1) + ((1) * ρ 2 + ((-1) * ρ 3 + 0)))
    omega
  · simp only [List.mem_cons, List.not_mem_nil, or_false] at hq
    subst hq
    show (qRC 7 (tB (vw C h))) (((0) + ((1) * ρ 1 + ((2048) * ρ 2 + 0)))) (((0) + ((1) * ρ 5 + 0)))
    refine c2 (P := (qRC 7 (tB (vw C h)))) (r := ρ 1 + 2048 * ρ 2) (c := ρ 5) ?_ (by omega) (by omega)
    show (qRC 7 (tB (vw C h))) (ρ 1 + 2048 * ρ 2) (ρ 5)
    exact rc_in (n := ρ 1) (s := ρ 2) (d := (0 : Int)) (K := (0 : Int)) (R := (0 : Int)) (by omega) (by omega) (by omega) (by omega) (by omega) (by omega) (by omega) (by omega) (by omega) (by omega) q (by omega) (by omega) (by omega) (by omega) (by omega)
/-- op7M -/
theorem lem_490_ok (hU : uqG G C) : lem_490.1.2.1 = [] ∧ lemOK (PRd G C D xs) G rgs lem_490 := by
  refine ⟨rfl, fun ρ h ha hT => ?_⟩
  obtain ⟨-, -, hF, hG, hH, hA, hP⟩ := ha
  have f0 : (0 : Int) ≤ ((0) + ((1) * ρ 1 + 0)) := hF _ (List.mem_of_getElem? (i := 0) rfl)
  have f1 : (0 : Int) ≤ ((1200) + ((-1) * ρ 1 + 0)) := hF _ (List.mem_of_getElem? (i := 1) rfl)
  have f2 : (0 : Int) ≤ ((0) + ((1) * ρ 2 + 0)) := hF _ (List.mem_of_getElem? (i := 2) rfl)
  have f3 : (0 : Int) ≤ ((0) + ((1) * ρ 1 + ((-1) * ρ 2 + 0))) := hF _ (List.mem_of_getElem? (i := 3) rfl)
  have g0 : G (ρ 0).toNat = 22 := by
    have q := (hG _ (List.mem_of_getElem? (i := 0) rfl)).2
    rwa [show ev ρ (0, [(0, 1)]) = ρ 0 from ev_v] at q
  have h0 : (0 : Int) ≤ ρ 1 ∧ ρ 1 ≤ 1200 := hf_rg hT (hH _ (List.mem_of_getElem? (i := 0) rfl)) ev_v g0 rfl rfl rfl ev_v
  have h1 : (0 : Int) ≤ ρ 2 ∧ ρ 2 ≤ 1200 := hf_rg hT (hH _ (List.mem_of_getElem? (i := 1) rfl)) ev_v g0 rfl rfl rfl ev_v
  have p0 : (qRC 7 (tB (vw C h))) (ρ 1 + 2048 * ρ 2) (ρ 3) := c2 (P := (qRC 7 (tB (vw C h)))) (show (qRC 7 (tB (vw C h))) (((0) + ((1) * ρ 1 + ((2048) * ρ 2 + 0)))) (((0) + ((1) * ρ 3 + 0))) from hP _ (List.mem_of_getElem? (i := 0) rfl)) (by omega) (by omega)
  have hc0 := p0.1
  have hR := rc_el (n := ρ 1) (s := ρ 2) (d := (0 : Int)) (K := (0 : Int)) (R := (0 : Int)) p0 (by omega) (by omega) (by omega) (by omega) (by omega) (by omega) (by omega) (by omega) (by omega) (by omega)
  refine ⟨_, List.mem_cons_self, ρ, fun _ _ => rfl, fun q hq => absurd hq List.not_mem_nil, trivial, fun f hf => ?_, fun q hq => absurd hq List.not_mem_nil, fun q hq => absurd hq List.not_mem_nil, fun q hq => absurd hq List.not_mem_nil, fun q hq => ?_⟩
  · exact absurd hf List.not_mem_nil
  · simp only [List.mem_cons, List.not_mem_nil, or_false] at hq
    subst hq
    show q165 (tB (vw C h)) (((12582912) + ((1) * ρ 1 + ((2048) * ρ 2 + 0))))
    refine c2 (P := (fun r (_ : Int) => q165 (tB (vw C h)) r)) (c := 0) (c' := 0) (r := ρ 1 + 2048 * ρ 2 + 12582912) ?_ (by omega) rfl
    show q165 (tB (vw C h)) (ρ 1 + 2048 * ρ 2 + 12582912)
    exact o165 (n := ρ 1) (s := ρ 2) (w := 3) (by omega) (by omega) (by omega) (by omega) (by omega) (by omega) (fun hw => fw_7 hR hw)
/-- st7M -/
theorem lem_491_ok (hU : uqG G C) : lem_491.1.2.1 = [] ∧ lemOK (PRd G C D xs) G rgs lem_491 := by
  refine ⟨rfl, fun ρ h ha hT => ?_⟩
  obtain ⟨-, -, hF, hG, hH, hA, hP⟩ := ha
  have f0 : (0 : Int) ≤ ((0) + ((1) * ρ 1 + 0)) := hF _ (List.mem_of_getElem? (i := 0) rfl)
  have f1 : (0 : Int) ≤ ((1200) + ((-1) * ρ 1 + 0)) := hF _ (List.mem_of_getElem? (i := 1) rfl)
  have f2 : (0 : Int) ≤ ((0) + ((1) * ρ 2 + 0)) := hF _ (List.mem_of_getElem? (i := 2) rfl)
  have f3 : (0 : Int) ≤ ((0) + ((1) * ρ 1 + ((-1) * ρ 2 + 0))) := hF _ (List.mem_of_getElem? (i := 3) rfl)
  have f4 : (0 : Int) ≤ ((0) + ((1) * ρ 3 + 0)) := hF _ (List.mem_of_getElem? (i := 4) rfl)
  have f5 : (0 : Int) ≤ ((0) + ((1) * ρ 1 + ((-1) * ρ 3 + 0))) := hF _ (List.mem_of_getElem? (i := 5) rfl)
  have g0 : G (ρ 0).toNat = 22 := by
    have q := (hG _ (List.mem_of_getElem? (i := 0) rfl)).2
    rwa [show ev ρ (0, [(0, 1)]) = ρ 0 from ev_v] at q
  have h0 : (0 : Int) ≤ ρ 1 ∧ ρ 1 ≤ 1200 := hf_rg hT (hH _ (List.mem_of_getElem? (i := 0) rfl)) ev_v g0 rfl rfl rfl ev_v
  have h1 : (0 : Int) ≤ ρ 2 ∧ ρ 2 ≤ 1200 := hf_rg hT (hH _ (List.mem_of_getElem? (i := 1) rfl)) ev_v g0 rfl rfl rfl ev_v
  have p0 : q158 (tB (vw C h)) (ρ 1 + 2048 * ρ 2) (ρ 3) := c2 (P := q158 (tB (vw C h))) (show q158 (tB (vw C h)) (((0) + ((1) * ρ 1 + ((2048) * ρ 2 + 0)))) (((0) + ((1) * ρ 3 + 0))) from hP _ (List.mem_of_getElem? (i := 0) rfl)) (by omega) (by omega)
  have p1 : q159 (tB (vw C h)) (ρ 1 + 2048 * ρ 3 + 12582912) ((1 : Int)) := c2 (P := q159 (tB (vw C h))) (show q159 (tB (vw C h)) (((12582912) + ((1) * ρ 1 + ((2048) * ρ 3 + 0)))) (((1) + 0)) from hP _ (List.mem_of_getElem? (i := 1) rfl)) (by omega) (by omega)
  have p2 : (qRC 7 (tB (vw C h))) (ρ 1 + 2048 * ρ 3) (ρ 4) := c2 (P := (qRC 7 (tB (vw C h)))) (show (qRC 7 (tB (vw C h))) (((0) + ((1) * ρ 1 + ((2048) * ρ 3 + 0)))) (((0) + ((1) * ρ 4 + 0))) from hP _ (List.mem_of_getElem? (i := 2) rfl)) (by omega) (by omega)
  have iw3 : tIsB (tB (vw C h)) (ρ 1).toNat (ρ 3).toNat (wd 3) = true := b01_1 (k159 (n := ρ 1) (s := ρ 3) (w := 3) (by omega) (by omega) (by omega) (by omega) (by omega) (by omega) p1)
  have hkd := (is_el.mp iw3).1
  have nx := k158 (n := ρ 1) (s := ρ 3) (t := ρ 2) (by omega) (by omega) (by omega) (by omega) (by omega) (by omega) p0
  have ng := nx_gt (B := (tB (vw C h))) (n := (ρ 1).toNat) (s := (ρ 3).toNat) (by omega)
  have hc0 := p2.1
  have hR := rc_el (n := ρ 1) (s := ρ 3) (d := (0 : Int)) (K := (0 : Int)) (R := (0 : Int)) p2 (by omega) (by omega) (by omega) (by omega) (by omega) (by omega) (by omega) (by omega) (by omega) (by omega)
  have q := sw_7 hR iw3
  refine ⟨_, List.mem_cons_self, ρ, fun _ _ => rfl, fun q hq => absurd hq List.not_mem_nil, trivial, fun f hf => ?_, fun q hq => absurd hq List.not_mem_nil, fun q hq => absurd hq List.not_mem_nil, fun q hq => absurd hq List.not_mem_nil, fun q hq => ?_⟩
  · simp only [List.mem_cons, List.not_mem_nil, or_false] at hf
    subst hf
    show (0 : Int) ≤ ((-1) + ((1) * ρ 2 + ((-1) * ρ 3 + 0)))
    omega
  · simp only [List.mem_cons, List.not_mem_nil, or_false] at hq
    subst hq
    show (qRC 8 (tB (vw C h))) (((0) + ((1) * ρ 1 + ((2048) * ρ 2 + 0)))) (((0) + ((1) * ρ 4 + 0)))
    refine c2 (P := (qRC 8 (tB (vw C h)))) (r := ρ 1 + 2048 * ρ 2) (c := ρ 4) ?_ (by omega) (by omega)
    show (qRC 8 (tB (vw C h))) (ρ 1 + 2048 * ρ 2) (ρ 4)
    exact rc_in (n := ρ 1) (s := ρ 2) (d := (0 : Int)) (K := (0 : Int)) (R := (0 : Int)) (by omega) (by omega) (by omega) (by omega) (by omega) (by omega) (by omega) (by omega) (by omega) (by omega) q (by omega) (by omega) (by omega) (by omega) (by omega)
/-- op8M -/
theorem lem_492_ok (hU : uqG G C) : lem_492.1.2.1 = [] ∧ lemOK (PRd G C D xs) G rgs lem_492 := by
  refine ⟨rfl, fun ρ h ha hT => ?_⟩
  obtain ⟨-, -, hF, hG, hH, hA, hP⟩ := ha
  have f0 : (0 : Int) ≤ ((0) + ((1) * ρ 1 + 0)) := hF _ (List.mem_of_getElem? (i := 0) rfl)
  have f1 : (0 : Int) ≤ ((1200) + ((-1) * ρ 1 + 0)) := hF _ (List.mem_of_getElem? (i := 1) rfl)
  have f2 : (0 : Int) ≤ ((0) + ((1) * ρ 2 + 0)) := hF _ (List.mem_of_getElem? (i := 2) rfl)
  have f3 : (0 : Int) ≤ ((0) + ((1) * ρ 1 + ((-1) * ρ 2 + 0))) := hF _ (List.mem_of_getElem? (i := 3) rfl)
  have g0 : G (ρ 0).toNat = 22 := by
    have q := (hG _ (List.mem_of_getElem? (i := 0) rfl)).2
    rwa [show ev ρ (0, [(0, 1)]) = ρ 0 from ev_v] at q
  have h0 : (0 : Int) ≤ ρ 1 ∧ ρ 1 ≤ 1200 := hf_rg hT (hH _ (List.mem_of_getElem? (i := 0) rfl)) ev_v g0 rfl rfl rfl ev_v
  have h1 : (0 : Int) ≤ ρ 2 ∧ ρ 2 ≤ 1200 := hf_rg hT (hH _ (List.mem_of_getElem? (i := 1) rfl)) ev_v g0 rfl rfl rfl ev_v
  have p0 : (qRC 8 (tB (vw C h))) (ρ 1 + 2048 * ρ 2) (ρ 3) := c2 (P := (qRC 8 (tB (vw C h)))) (show (qRC 8 (tB (vw C h))) (((0) + ((1) * ρ 1 + ((2048) * ρ 2 + 0)))) (((0) + ((1) * ρ 3 + 0))) from hP _ (List.mem_of_getElem? (i := 0) rfl)) (by omega) (by omega)
  have hc0 := p0.1
  have hR := rc_el (n := ρ 1) (s := ρ 2) (d := (0 : Int)) (K := (0 : Int)) (R := (0 : Int)) p0 (by omega) (by omega) (by omega) (by omega) (by omega) (by omega) (by omega) (by omega) (by omega) (by omega)
  refine ⟨_, List.mem_cons_self, ρ, fun _ _ => rfl, fun q hq => absurd hq List.not_mem_nil, trivial, fun f hf => ?_, fun q hq => absurd hq List.not_mem_nil, fun q hq => absurd hq List.not_mem_nil, fun q hq => absurd hq List.not_mem_nil, fun q hq => ?_⟩
  · exact absurd hf List.not_mem_nil
  · simp only [List.mem_cons, List.not_mem_nil, or_false] at hq
    subst hq
    show q163 (tB (vw C h)) (((6871947673600) + ((1) * ρ 1 + ((2048) * ρ 2 + 0))))
    refine c2 (P := (fun r (_ : Int) => q163 (tB (vw C h)) r)) (c := 0) (c' := 0) (r := ρ 1 + 2048 * ρ 2 + 6871947673600) ?_ (by omega) rfl
    show q163 (tB (vw C h)) (ρ 1 + 2048 * ρ 2 + 6871947673600)
    exact o163 (n := ρ 1) (s := ρ 2) (lo := 0) (hi := 99) (by omega) (by omega) (by omega) (by omega) (by omega) (by omega) (by omega) (fn_8 hR)
/-- st8M -/
theorem lem_493_ok (hU : uqG G C) : lem_493.1.2.1 = [] ∧ lemOK (PRd G C D xs) G rgs lem_493 := by
  refine ⟨rfl, fun ρ h ha hT => ?_⟩
  obtain ⟨-, -, hF, hG, hH, hA, hP⟩ := ha
  have f0 : (0 : Int) ≤ ((0) + ((1) * ρ 1 + 0)) := hF _ (List.mem_of_getElem? (i := 0) rfl)
  have f1 : (0 : Int) ≤ ((1200) + ((-1) * ρ 1 + 0)) := hF _ (List.mem_of_getElem? (i := 1) rfl)
  have f2 : (0 : Int) ≤ ((0) + ((1) * ρ 2 + 0)) := hF _ (List.mem_of_getElem? (i := 2) rfl)
  have f3 : (0 : Int) ≤ ((0) + ((1) * ρ 1 + ((-1) * ρ 2 + 0))) := hF _ (List.mem_of_getElem? (i := 3) rfl)
  have f4 : (0 : Int) ≤ ((0) + ((1) * ρ 3 + 0)) := hF _ (List.mem_of_getElem? (i := 4) rfl)
  have f5 : (0 : Int) ≤ ((0) + ((1) * ρ 1 + ((-1) * ρ 3 + 0))) := hF _ (List.mem_of_getElem? (i := 5) rfl)
  have f6 : (0 : Int) ≤ ((0) + ((1) * ρ 4 + 0)) := hF _ (List.mem_of_getElem? (i := 6) rfl)
  have f7 : (0 : Int) ≤ ((99) + ((-1) * ρ 4 + 0)) := hF _ (List.mem_of_getElem? (i := 7) rfl)
  have g0 : G (ρ 0).toNat = 22 := by
    have q := (hG _ (List.mem_of_getElem? (i := 0) rfl)).2
    rwa [show ev ρ (0, [(0, 1)]) = ρ 0 from ev_v] at q
  have h0 : (0 : Int) ≤ ρ 1 ∧ ρ 1 ≤ 1200 := hf_rg hT (hH _ (List.mem_of_getElem? (i := 0) rfl)) ev_v g0 rfl rfl rfl ev_v
  have h1 : (0 : Int) ≤ ρ 2 ∧ ρ 2 ≤ 1200 := hf_rg hT (hH _ (List.mem_of_getElem? (i := 1) rfl)) ev_v g0 rfl rfl rfl ev_v
  have p0 : q158 (tB (vw C h)) (ρ 1 + 2048 * ρ 2) (ρ 3) := c2 (P := q158 (tB (vw C h))) (show q158 (tB (vw C h)) (((0) + ((1) * ρ 1 + ((2048) * ρ 2 + 0)))) (((0) + ((1) * ρ 3 + 0))) from hP _ (List.mem_of_getElem? (i := 0) rfl)) (by omega) (by omega)
  have p1 : q164 (tB (vw C h)) (ρ 1 + 2048 * ρ 3) (ρ 4) := c2 (P := q164 (tB (vw C h))) (show q164 (tB (vw C h)) (((0) + ((1) * ρ 1 + ((2048) * ρ 3 + 0)))) (((0) + ((1) * ρ 4 + 0))) from hP _ (List.mem_of_getElem? (i := 1) rfl)) (by omega) (by omega)
  have p2 : (qRC 8 (tB (vw C h))) (ρ 1 + 2048 * ρ 3) (ρ 5) := c2 (P := (qRC 8 (tB (vw C h)))) (show (qRC 8 (tB (vw C h))) (((0) + ((1) * ρ 1 + ((2048) * ρ 3 + 0)))) (((0) + ((1) * ρ 5 + 0))) from hP _ (List.mem_of_getElem? (i := 2) rfl)) (by omega) (by omega)
  obtain ⟨hkd, nv⟩ := k164 (n := ρ 1) (s := ρ 3) (by omega) (by omega) (by omega) (by omega) (by omega) p1
  have nx := k158 (n := ρ 1) (s := ρ 3) (t := ρ 2) (by omega) (by omega) (by omega) (by omega) (by omega) (by omega) p0
  have ng := nx_gt (B := (tB (vw C h))) (n := (ρ 1).toNat) (s := (ρ 3).toNat) (by omega)
  have hc0 := p2.1
  have hR := rc_el (n := ρ 1) (s := ρ 3) (d := (0 : Int)) (K := (0 : Int)) (R := (0 : Int)) p2 (by omega) (by omega) (by omega) (by omega) (by omega) (by omega) (by omega) (by omega) (by omega) (by omega)
  have q := sn_8 hR hkd (by omega) (by omega)
  refine ⟨_, List.mem_cons_self, ρ, fun _ _ => rfl, fun q hq => absurd hq List.not_mem_nil, trivial, fun f hf => ?_, fun q hq => absurd hq List.not_mem_nil, fun q hq => absurd hq List.not_mem_nil, fun q hq => absurd hq List.not_mem_nil, fun q hq => ?_⟩
  · simp only [List.mem_cons, List.not_mem_nil, or_false] at hf
    subst hf
    show (0 : Int) ≤ ((-1) + ((1) * ρ 2 + ((-1) * ρ 3 + 0)))
    omega
  · simp only [List.mem_cons, List.not_mem_nil, or_false] at hq
    subst hq
    show (qRC 9 (tB (vw C h))) (((0) + ((1) * ρ 1 + ((2048) * ρ 2 + 0)))) (((0) + ((1) * ρ 5 + 0)))
    refine c2 (P := (qRC 9 (tB (vw C h)))) (r := ρ 1 + 2048 * ρ 2) (c := ρ 5) ?_ (by omega) (by omega)
    show (qRC 9 (tB (vw C h))) (ρ 1 + 2048 * ρ 2) (ρ 5)
    exact rc_in (n := ρ 1) (s := ρ 2) (d := (0 : Int)) (K := (0 : Int)) (R := (0 : Int)) (by omega) (by omega) (by omega) (by omega) (by omega) (by omega) (by omega) (by omega) (by omega) (by omega) q (by omega) (by omega) (by omega) (by omega) (by omega)
/-- op9M -/
theorem lem_494_ok (hU : uqG G C) : lem_494.1.2.1 = [] ∧ lemOK (PRd G C D xs) G rgs lem_494 := by
  refine ⟨rfl, fun ρ h ha hT => ?_⟩
  obtain ⟨-, -, hF, hG, hH, hA, hP⟩ := ha
  have f0 : (0 : Int) ≤ ((0) + ((1) * ρ 1 + 0)) := hF _ (List.mem_of_getElem? (i := 0) rfl)
  have f1 : (0 : Int) ≤ ((1200) + ((-1) * ρ 1 + 0)) := hF _ (List.mem_of_getElem? (i := 1) rfl)
  have f2 : (0 : Int) ≤ ((0) + ((1) * ρ 2 + 0)) := hF _ (List.mem_of_getElem? (i := 2) rfl)
  have f3 : (0 : Int) ≤ ((0) + ((1) * ρ 1 + ((-1) * ρ 2 + 0))) := hF _ (List.mem_of_getElem? (i := 3) rfl)
  have g0 : G (ρ 0).toNat = 22 := by
    have q := (hG _ (List.mem_of_getElem? (i := 0) rfl)).2
    rwa [show ev ρ (0, [(0, 1)]) = ρ 0 from ev_v] at q
  have h0 : (0 : Int) ≤ ρ 1 ∧ ρ 1 ≤ 1200 := hf_rg hT (hH _ (List.mem_of_getElem? (i := 0) rfl)) ev_v g0 rfl rfl rfl ev_v
  have h1 : (0 : Int) ≤ ρ 2 ∧ ρ 2 ≤ 1200 := hf_rg hT (hH _ (List.mem_of_getElem? (i := 1) rfl)) ev_v g0 rfl rfl rfl ev_v
  have p0 : (qRC 9 (tB (vw C h))) (ρ 1 + 2048 * ρ 2) (ρ 3) := c2 (P := (qRC 9 (tB (vw C h)))) (show (qRC 9 (tB (vw C h))) (((0) + ((1) * ρ 1 + ((2048) * ρ 2 + 0)))) (((0) + ((1) * ρ 3 + 0))) from hP _ (List.mem_of_getElem? (i := 0) rfl)) (by omega) (by omega)
  have hc0 := p0.1
  have hR := rc_el (n := ρ 1) (s := ρ 2) (d := (0 : Int)) (K := (0 : Int)) (R := (0 : Int)) p0 (by omega) (by omega) (by omega) (by omega) (by omega) (by omega) (by omega) (by omega) (by omega) (by omega)
  refine ⟨_, List.mem_cons_self, ρ, fun _ _ => rfl, fun q hq => absurd hq List.not_mem_nil, trivial, fun f hf => ?_, fun q hq => absurd hq List.not_mem_nil, fun q hq => absurd hq List.not_mem_nil, fun q hq => absurd hq List.not_mem_nil, fun q hq => ?_⟩
  · exact absurd hf List.not_mem_nil
  · simp only [List.mem_cons, List.not_mem_nil, or_false] at hq
    subst hq
    show q165 (tB (vw C h)) (((16777216) + ((1) * ρ 1 + ((2048) * ρ 2 + 0))))
    refine c2 (P := (fun r (_ : Int) => q165 (tB (vw C h)) r)) (c := 0) (c' := 0) (r := ρ 1 + 2048 * ρ 2 + 16777216) ?_ (by omega) rfl
    show q165 (tB (vw C h)) (ρ 1 + 2048 * ρ 2 + 16777216)
    exact o165 (n := ρ 1) (s := ρ 2) (w := 4) (by omega) (by omega) (by omega) (by omega) (by omega) (by omega) (fun hw => fw_9 hR hw)
/-- st9M -/
theorem lem_495_ok (hU : uqG G C) : lem_495.1.2.1 = [] ∧ lemOK (PRd G C D xs) G rgs lem_495 := by
  refine ⟨rfl, fun ρ h ha hT => ?_⟩
  obtain ⟨-, -, hF, hG, hH, hA, hP⟩ := ha
  have f0 : (0 : Int) ≤ ((0) + ((1) * ρ 1 + 0)) := hF _ (List.mem_of_getElem? (i := 0) rfl)
  have f1 : (0 : Int) ≤ ((1200) + ((-1) * ρ 1 + 0)) := hF _ (List.mem_of_getElem? (i := 1) rfl)
  have f2 : (0 : Int) ≤ ((0) + ((1) * ρ 2 + 0)) := hF _ (List.mem_of_getElem? (i := 2) rfl)
  have f3 : (0 : Int) ≤ ((0) + ((1) * ρ 1 + ((-1) * ρ 2 + 0))) := hF _ (List.mem_of_getElem? (i := 3) rfl)
  have f4 : (0 : Int) ≤ ((0) + ((1) * ρ 3 + 0)) := hF _ (List.mem_of_getElem? (i := 4) rfl)
  have f5 : (0 : Int) ≤ ((0) + ((1) * ρ 1 + ((-1) * ρ 3 + 0))) := hF _ (List.mem_of_getElem? (i := 5) rfl)
  have g0 : G (ρ 0).toNat = 22 := by
    have q := (hG _ (List.mem_of_getElem? (i := 0) rfl)).2
    rwa [show ev ρ (0, [(0, 1)]) = ρ 0 from ev_v] at q
  have h0 : (0 : Int) ≤ ρ 1 ∧ ρ 1 ≤ 1200 := hf_rg hT (hH _ (List.mem_of_getElem? (i := 0) rfl)) ev_v g0 rfl rfl rfl ev_v
  have h1 : (0 : Int) ≤ ρ 2 ∧ ρ 2 ≤ 1200 := hf_rg hT (hH _ (List.mem_of_getElem? (i := 1) rfl)) ev_v g0 rfl rfl rfl ev_v
  have p0 : q158 (tB (vw C h)) (ρ 1 + 2048 * ρ 2) (ρ 3) := c2 (P := q158 (tB (vw C h))) (show q158 (tB (vw C h)) (((0) + ((1) * ρ 1 + ((2048) * ρ 2 + 0)))) (((0) + ((1) * ρ 3 + 0))) from hP _ (List.mem_of_getElem? (i := 0) rfl)) (by omega) (by omega)
  have p1 : q159 (tB (vw C h)) (ρ 1 + 2048 * ρ 3 + 16777216) ((1 : Int)) := c2 (P := q159 (tB (vw C h))) (show q159 (tB (vw C h)) (((16777216) + ((1) * ρ 1 + ((2048) * ρ 3 + 0)))) (((1) + 0)) from hP _ (List.mem_of_getElem? (i := 1) rfl)) (by omega) (by omega)
  have p2 : (qRC 9 (tB (vw C h))) (ρ 1 + 2048 * ρ 3) (ρ 4) := c2 (P := (qRC 9 (tB (vw C h)))) (show (qRC 9 (tB (vw C h))) (((0) + ((1) * ρ 1 + ((2048) * ρ 3 + 0)))) (((0) + ((1) * ρ 4 + 0))) from hP _ (List.mem_of_getElem? (i := 2) rfl)) (by omega) (by omega)
  have iw4 : tIsB (tB (vw C h)) (ρ 1).toNat (ρ 3).toNat (wd 4) = true := b01_1 (k159 (n := ρ 1) (s := ρ 3) (w := 4) (by omega) (by omega) (by omega) (by omega) (by omega) (by omega) p1)
  have hkd := (is_el.mp iw4).1
  have nx := k158 (n := ρ 1) (s := ρ 3) (t := ρ 2) (by omega) (by omega) (by omega) (by omega) (by omega) (by omega) p0
  have ng := nx_gt (B := (tB (vw C h))) (n := (ρ 1).toNat) (s := (ρ 3).toNat) (by omega)
  have hc0 := p2.1
  have hR := rc_el (n := ρ 1) (s := ρ 3) (d := (0 : Int)) (K := (0 : Int)) (R := (0 : Int)) p2 (by omega) (by omega) (by omega) (by omega) (by omega) (by omega) (by omega) (by omega) (by omega) (by omega)
  have q := sw_9 hR iw4
  refine ⟨_, List.mem_cons_self, ρ, fun _ _ => rfl, fun q hq => absurd hq List.not_mem_nil, trivial, fun f hf => ?_, fun q hq => absurd hq List.not_mem_nil, fun q hq => absurd hq List.not_mem_nil, fun q hq => absurd hq List.not_mem_nil, fun q hq => ?_⟩
  · simp only [List.mem_cons, List.not_mem_nil, or_false] at hf
    subst hf
    show (0 : Int) ≤ ((-1) + ((1) * ρ 2 + ((-1) * ρ 3 + 0)))
    omega
  · simp only [List.mem_cons, List.not_mem_nil, or_false] at hq
    subst hq
    show (qRC 10 (tB (vw C h))) (((0) + ((1) * ρ 1 + ((2048) * ρ 2 + 0)))) (((0) + ((1) * ρ 4 + 0)))
    refine c2 (P := (qRC 10 (tB (vw C h)))) (r := ρ 1 + 2048 * ρ 2) (c := ρ 4) ?_ (by omega) (by omega)
    show (qRC 10 (tB (vw C h))) (ρ 1 + 2048 * ρ 2) (ρ 4)
    exact rc_in (n := ρ 1) (s := ρ 2) (d := (0 : Int)) (K := (0 : Int)) (R := (0 : Int)) (by omega) (by omega) (by omega) (by omega) (by omega) (by omega) (by omega) (by omega) (by omega) (by omega) q (by omega) (by omega) (by omega) (by omega) (by omega)
/-- op10M -/
theorem lem_496_ok (hU : uqG G C) : lem_496.1.2.1 = [] ∧ lemOK (PRd G C D xs) G rgs lem_496 := by
  refine ⟨rfl, fun ρ h ha hT => ?_⟩
  obtain ⟨-, -, hF, hG, hH, hA, hP⟩ := ha
  have f0 : (0 : Int) ≤ ((0) + ((1) * ρ 1 + 0)) := hF _ (List.mem_of_getElem? (i := 0) rfl)
  have f1 : (0 : Int) ≤ ((1200) + ((-1) * ρ 1 + 0)) := hF _ (List.mem_of_getElem? (i := 1) rfl)
  have f2 : (0 : Int) ≤ ((0) + ((1) * ρ 2 + 0)) := hF _ (List.mem_of_getElem? (i := 2) rfl)
  have f3 : (0 : Int) ≤ ((0) + ((1) * ρ 1 + ((-1) * ρ 2 + 0))) := hF _ (List.mem_of_getElem? (i := 3) rfl)
  have g0 : G (ρ 0).toNat = 22 := by
    have q := (hG _ (List.mem_of_getElem? (i := 0) rfl)).2
    rwa [show ev ρ (0, [(0, 1)]) = ρ 0 from ev_v] at q
  have h0 : (0 : Int) ≤ ρ 1 ∧ ρ 1 ≤ 1200 := hf_rg hT (hH _ (List.mem_of_getElem? (i := 0) rfl)) ev_v g0 rfl rfl rfl ev_v
  have h1 : (0 : Int) ≤ ρ 2 ∧ ρ 2 ≤ 1200 := hf_rg hT (hH _ (List.mem_of_getElem? (i := 1) rfl)) ev_v g0 rfl rfl rfl ev_v
  have p0 : (qRC 10 (tB (vw C h))) (ρ 1 + 2048 * ρ 2) (ρ 3) := c2 (P := (qRC 10 (tB (vw C h)))) (show (qRC 10 (tB (vw C h))) (((0) + ((1) * ρ 1 + ((2048) * ρ 2 + 0)))) (((0) + ((1) * ρ 3 + 0))) from hP _ (List.mem_of_getElem? (i := 0) rfl)) (by omega) (by omega)
  have hc0 := p0.1
  have hR := rc_el (n := ρ 1) (s := ρ 2) (d := (0 : Int)) (K := (0 : Int)) (R := (0 : Int)) p0 (by omega) (by omega) (by omega) (by omega) (by omega) (by omega) (by omega) (by omega) (by omega) (by omega)
  refine ⟨_, List.mem_cons_self, ρ, fun _ _ => rfl, fun q hq => absurd hq List.not_mem_nil, trivial, fun f hf => ?_, fun q hq => absurd hq List.not_mem_nil, fun q hq => absurd hq List.not_mem_nil, fun q hq => absurd hq List.not_mem_nil, fun q hq => ?_⟩
  · exact absurd hf List.not_mem_nil
  · simp only [List.mem_cons, List.not_mem_nil, or_false] at hq
    subst hq
    show q163 (tB (vw C h)) (((6940667150336) + ((1) * ρ 1 + ((2048) * ρ 2 + 0))))
    refine c2 (P := (fun r (_ : Int) => q163 (tB (vw C h)) r)) (c := 0) (c' := 0) (r := ρ 1 + 2048 * ρ 2 + 6940667150336) ?_ (by omega) rfl
    show q163 (tB (vw C h)) (ρ 1 + 2048 * ρ 2 + 6940667150336)
    exact o163 (n := ρ 1) (s := ρ 2) (lo := 0) (hi := 100) (by omega) (by omega) (by omega) (by omega) (by omega) (by omega) (by omega) (fn_10 hR)
/-- st10M -/
theorem lem_497_ok (hU : uqG G C) : lem_497.1.2.1 = [] ∧ lemOK (PRd G C D xs) G rgs lem_497 := by
  refine ⟨rfl, fun ρ h ha hT => ?_⟩
  obtain ⟨-, -, hF, hG, hH, hA, hP⟩ := ha
  have f0 : (0 : Int) ≤ ((0) + ((1) * ρ 1 + 0)) := hF _ (List.mem_of_getElem? (i := 0) rfl)
  have f1 : (0 : Int) ≤ ((1200) + ((-1) * ρ 1 + 0)) := hF _ (List.mem_of_getElem? (i := 1) rfl)
  have f2 : (0 : Int) ≤ ((0) + ((1) * ρ 2 + 0)) := hF _ (List.mem_of_getElem? (i := 2) rfl)
  have f3 : (0 : Int) ≤ ((0) + ((1) * ρ 1 + ((-1) * ρ 2 + 0))) := hF _ (List.mem_of_getElem? (i := 3) rfl)
  have f4 : (0 : Int) ≤ ((0) + ((1) * ρ 3 + 0)) := hF _ (List.mem_of_getElem? (i := 4) rfl)
  have f5 : (0 : Int) ≤ ((0) + ((1) * ρ 1 + ((-1) * ρ 3 + 0))) := hF _ (List.mem_of_getElem? (i := 5) rfl)
  have f6 : (0 : Int) ≤ ((0) + ((1) * ρ 4 + 0)) := hF _ (List.mem_of_getElem? (i := 6) rfl)
  have f7 : (0 : Int) ≤ ((100) + ((-1) * ρ 4 + 0)) := hF _ (List.mem_of_getElem? (i := 7) rfl)
  have g0 : G (ρ 0).toNat = 22 := by
    have q := (hG _ (List.mem_of_getElem? (i := 0) rfl)).2
    rwa [show ev ρ (0, [(0, 1)]) = ρ 0 from ev_v] at q
  have h0 : (0 : Int) ≤ ρ 1 ∧ ρ 1 ≤ 1200 := hf_rg hT (hH _ (List.mem_of_getElem? (i := 0) rfl)) ev_v g0 rfl rfl rfl ev_v
  have h1 : (0 : Int) ≤ ρ 2 ∧ ρ 2 ≤ 1200 := hf_rg hT (hH _ (List.mem_of_getElem? (i := 1) rfl)) ev_v g0 rfl rfl rfl ev_v
  have p0 : q158 (tB (vw C h)) (ρ 1 + 2048 * ρ 2) (ρ 3) := c2 (P := q158 (tB (vw C h))) (show q158 (tB (vw C h)) (((0) + ((1) * ρ 1 + ((2048) * ρ 2 + 0)))) (((0) + ((1) * ρ 3 + 0))) from hP _ (List.mem_of_getElem? (i := 0) rfl)) (by omega) (by omega)
  have p1 : q164 (tB (vw C h)) (ρ 1 + 2048 * ρ 3) (ρ 4) := c2 (P := q164 (tB (vw C h))) (show q164 (tB (vw C h)) (((0) + ((1) * ρ 1 + ((2048) * ρ 3 + 0)))) (((0) + ((1) * ρ 4 + 0))) from hP _ (List.mem_of_getElem? (i := 1) rfl)) (by omega) (by omega)
  have p2 : (qRC 10 (tB (vw C h))) (ρ 1 + 2048 * ρ 3) (ρ 5) := c2 (P := (qRC 10 (tB (vw C h)))) (show (qRC 10 (tB (vw C h))) (((0) + ((1) * ρ 1 + ((2048) * ρ 3 + 0)))) (((0) + ((1) * ρ 5 + 0))) from hP _ (List.mem_of_getElem? (i := 2) rfl)) (by omega) (by omega)
  obtain ⟨hkd, nv⟩ := k164 (n := ρ 1) (s := ρ 3) (by omega) (by omega) (by omega) (by omega) (by omega) p1
  have nx := k158 (n := ρ 1) (s := ρ 3) (t := ρ 2) (by omega) (by omega) (by omega) (by omega) (by omega) (by omega) p0
  have ng := nx_gt (B := (tB (vw C h))) (n := (ρ 1).toNat) (s := (ρ 3).toNat) (by omega)
  have hc0 := p2.1
  have hR := rc_el (n := ρ 1) (s := ρ 3) (d := (0 : Int)) (K := (0 : Int)) (R := (0 : Int)) p2 (by omega) (by omega) (by omega) (by omega) (by omega) (by omega) (by omega) (by omega) (by omega) (by omega)
  have q := sn_10 hR hkd (by omega) (by omega)
  refine ⟨_, List.mem_cons_self, ρ, fun _ _ => rfl, fun q hq => absurd hq List.not_mem_nil, trivial, fun f hf => ?_, fun q hq => absurd hq List.not_mem_nil, fun q hq => absurd hq List.not_mem_nil, fun q hq => absurd hq List.not_mem_nil, fun q hq => ?_⟩
  · simp only [List.mem_cons, List.not_mem_nil, or_false] at hf
    subst hf
    show (0 : Int) ≤ ((-1) + ((1) * ρ 2 + ((-1) * ρ 3 + 0)))
    omega
  · simp only [List.mem_cons, List.not_mem_nil, or_false] at hq
    subst hq
    show (qRC 11 (tB (vw C h))) (((0) + ((1) * ρ 1 + ((2048) * ρ 2 + 0)))) (((0) + ((1) * ρ 5 + 0)))
    refine c2 (P := (qRC 11 (tB (vw C h)))) (r := ρ 1 + 2048 * ρ 2) (c := ρ 5) ?_ (by omega) (by omega)
    show (qRC 11 (tB (vw C h))) (ρ 1 + 2048 * ρ 2) (ρ 5)
    exact rc_in (n := ρ 1) (s := ρ 2) (d := (0 : Int)) (K := (0 : Int)) (R := (0 : Int)) (by omega) (by omega) (by omega) (by omega) (by omega) (by omega) (by omega) (by omega) (by omega) (by omega) q (by omega) (by omega) (by omega) (by omega) (by omega)
/-- op11M -/
theorem lem_498_ok (hU : uqG G C) : lem_498.1.2.1 = [] ∧ lemOK (PRd G C D xs) G rgs lem_498 := by
  refine ⟨rfl, fun ρ h ha hT => ?_⟩
  obtain ⟨-, -, hF, hG, hH, hA, hP⟩ := ha
  have f0 : (0 : Int) ≤ ((0) + ((1) * ρ 1 + 0)) := hF _ (List.mem_of_getElem? (i := 0) rfl)
  have f1 : (0 : Int) ≤ ((1200) + ((-1) * ρ 1 + 0)) := hF _ (List.mem_of_getElem? (i := 1) rfl)
  have f2 : (0 : Int) ≤ ((0) + ((1) * ρ 2 + 0)) := hF _ (List.mem_of_getElem? (i := 2) rfl)
  have f3 : (0 : Int) ≤ ((0) + ((1) * ρ 1 + ((-1) * ρ 2 + 0))) := hF _ (List.mem_of_getElem? (i := 3) rfl)
  have g0 : G (ρ 0).toNat = 22 := by
    have q := (hG _ (List.mem_of_getElem? (i := 0) rfl)).2
    rwa [show ev ρ (0, [(0, 1)]) = ρ 0 from ev_v] at q
  have h0 : (0 : Int) ≤ ρ 1 ∧ ρ 1 ≤ 1200 := hf_rg hT (hH _ (List.mem_of_getElem? (i := 0) rfl)) ev_v g0 rfl rfl rfl ev_v
  have h1 : (0 : Int) ≤ ρ 2 ∧ ρ 2 ≤ 1200 := hf_rg hT (hH _ (List.mem_of_getElem? (i := 1) rfl)) ev_v g0 rfl rfl rfl ev_v
  have p0 : (qRC 11 (tB (vw C h))) (ρ 1 + 2048 * ρ 2) (ρ 3) := c2 (P := (qRC 11 (tB (vw C h)))) (show (qRC 11 (tB (vw C h))) (((0) + ((1) * ρ 1 + ((2048) * ρ 2 + 0)))) (((0) + ((1) * ρ 3 + 0))) from hP _ (List.mem_of_getElem? (i := 0) rfl)) (by omega) (by omega)
  have hc0 := p0.1
  have hR := rc_el (n := ρ 1) (s := ρ 2) (d := (0 : Int)) (K := (0 : Int)) (R := (0 : Int)) p0 (by omega) (by omega) (by omega) (by omega) (by omega) (by omega) (by omega) (by omega) (by omega) (by omega)
  refine ⟨_, List.mem_cons_self, ρ, fun _ _ => rfl, fun q hq => absurd hq List.not_mem_nil, trivial, fun f hf => ?_, fun q hq => absurd hq List.not_mem_nil, fun q hq => absurd hq List.not_mem_nil, fun q hq => absurd hq List.not_mem_nil, fun q hq => ?_⟩
  · exact absurd hf List.not_mem_nil
  · simp only [List.mem_cons, List.not_mem_nil, or_false] at hq
    subst hq
    show q165 (tB (vw C h)) (((20971520) + ((1) * ρ 1 + ((2048) * ρ 2 + 0))))
    refine c2 (P := (fun r (_ : Int) => q165 (tB (vw C h)) r)) (c := 0) (c' := 0) (r := ρ 1 + 2048 * ρ 2 + 20971520) ?_ (by omega) rfl
    show q165 (tB (vw C h)) (ρ 1 + 2048 * ρ 2 + 20971520)
    exact o165 (n := ρ 1) (s := ρ 2) (w := 5) (by omega) (by omega) (by omega) (by omega) (by omega) (by omega) (fun hw => fw_11 hR hw)
/-- st11M -/
theorem lem_499_ok (hU : uqG G C) : lem_499.1.2.1 = [] ∧ lemOK (PRd G C D xs) G rgs lem_499 := by
  refine ⟨rfl, fun ρ h ha hT => ?_⟩
  obtain ⟨-, -, hF, hG, hH, hA, hP⟩ := ha
  have f0 : (0 : Int) ≤ ((0) + ((1) * ρ 1 + 0)) := hF _ (List.mem_of_getElem? (i := 0) rfl)
  have f1 : (0 : Int) ≤ ((1200) + ((-1) * ρ 1 + 0)) := hF _ (List.mem_of_getElem? (i := 1) rfl)
  have f2 : (0 : Int) ≤ ((0) + ((1) * ρ 2 + 0)) := hF _ (List.mem_of_getElem? (i := 2) rfl)
  have f3 : (0 : Int) ≤ ((0) + ((1) * ρ 1 + ((-1) * ρ 2 + 0))) := hF _ (List.mem_of_getElem? (i := 3) rfl)
  have f4 : (0 : Int) ≤ ((0) + ((1) * ρ 3 + 0)) := hF _ (List.mem_of_getElem? (i := 4) rfl)
  have f5 : (0 : Int) ≤ ((0) + ((1) * ρ 1 + ((-1) * ρ 3 + 0))) := hF _ (List.mem_of_getElem? (i := 5) rfl)
  have g0 : G (ρ 0).toNat = 22 := by
    have q := (hG _ (List.mem_of_getElem? (i := 0) rfl)).2
    rwa [show ev ρ (0, [(0, 1)]) = ρ 0 from ev_v] at q
  have h0 : (0 : Int) ≤ ρ 1 ∧ ρ 1 ≤ 1200 := hf_rg hT (hH _ (List.mem_of_getElem? (i := 0) rfl)) ev_v g0 rfl rfl rfl ev_v
  have h1 : (0 : Int) ≤ ρ 2 ∧ ρ 2 ≤ 1200 := hf_rg hT (hH _ (List.mem_of_getElem? (i := 1) rfl)) ev_v g0 rfl rfl rfl ev_v
  have p0 : q158 (tB (vw C h)) (ρ 1 + 2048 * ρ 2) (ρ 3) := c2 (P := q158 (tB (vw C h))) (show q158 (tB (vw C h)) (((0) + ((1) * ρ 1 + ((2048) * ρ 2 + 0)))) (((0) + ((1) * ρ 3 + 0))) from hP _ (List.mem_of_getElem? (i := 0) rfl)) (by omega) (by omega)
  have p1 : q159 (tB (vw C h)) (ρ 1 + 2048 * ρ 3 + 20971520) ((1 : Int)) := c2 (P := q159 (tB (vw C h))) (show q159 (tB (vw C h)) (((20971520) + ((1) * ρ 1 + ((2048) * ρ 3 + 0)))) (((1) + 0)) from hP _ (List.mem_of_getElem? (i := 1) rfl)) (by omega) (by omega)
  have p2 : (qRC 11 (tB (vw C h))) (ρ 1 + 2048 * ρ 3) (ρ 4) := c2 (P := (qRC 11 (tB (vw C h)))) (show (qRC 11 (tB (vw C h))) (((0) + ((1) * ρ 1 + ((2048) * ρ 3 + 0)))) (((0) + ((1) * ρ 4 + 0))) from hP _ (List.mem_of_getElem? (i := 2) rfl)) (by omega) (by omega)
  have iw5 : tIsB (tB (vw C h)) (ρ 1).toNat (ρ 3).toNat (wd 5) = true := b01_1 (k159 (n := ρ 1) (s := ρ 3) (w := 5) (by omega) (by omega) (by omega) (by omega) (by omega) (by omega) p1)
  have hkd := (is_el.mp iw5).1
  have nx := k158 (n := ρ 1) (s := ρ 3) (t := ρ 2) (by omega) (by omega) (by omega) (by omega) (by omega) (by omega) p0
  have ng := nx_gt (B := (tB (vw C h))) (n := (ρ 1).toNat) (s := (ρ 3).toNat) (by omega)
  have hc0 := p2.1
  have hR := rc_el (n := ρ 1) (s := ρ 3) (d := (0 : Int)) (K := (0 : Int)) (R := (0 : Int)) p2 (by omega) (by omega) (by omega) (by omega) (by omega) (by omega) (by omega) (by omega) (by omega) (by omega)
  have q := sw_11 hR iw5
  refine ⟨_, List.mem_cons_self, ρ, fun _ _ => rfl, fun q hq => absurd hq List.not_mem_nil, trivial, fun f hf => ?_, fun q hq => absurd hq List.not_mem_nil, fun q hq => absurd hq List.not_mem_nil, fun q hq => absurd hq List.not_mem_nil, fun q hq => ?_⟩
  · simp only [List.mem_cons, List.not_mem_nil, or_false] at hf
    subst hf
    show (0 : Int) ≤ ((-1) + ((1) * ρ 2 + ((-1) * ρ 3 + 0)))
    omega
  · simp only [List.mem_cons, List.not_mem_nil, or_false] at hq
    subst hq
    show (qRC 12 (tB (vw C h))) (((0) + ((1) * ρ 1 + ((2048) * ρ 2 + 0)))) (((0) + ((1) * ρ 4 + 0)))
    refine c2 (P := (qRC 12 (tB (vw C h)))) (r := ρ 1 + 2048 * ρ 2) (c := ρ 4) ?_ (by omega) (by omega)
    show (qRC 12 (tB (vw C h))) (ρ 1 + 2048 * ρ 2) (ρ 4)
    exact rc_in (n := ρ 1) (s := ρ 2) (d := (0 : Int)) (K := (0 : Int)) (R := (0 : Int)) (by omega) (by omega) (by omega) (by omega) (by omega) (by omega) (by omega) (by omega) (by omega) (by omega) q (by omega) (by omega) (by omega) (by omega) (by omega)
/-- op12M -/
theorem lem_500_ok (hU : uqG G C) : lem_500.1.2.1 = [] ∧ lemOK (PRd G C D xs) G rgs lem_500 := by
  refine ⟨rfl, fun ρ h ha hT => ?_⟩
  obtain ⟨-, -, hF, hG, hH, hA, hP⟩ := ha
  have f0 : (0 : Int) ≤ ((0) + ((1) * ρ 1 + 0)) := hF _ (List.mem_of_getElem? (i := 0) rfl)
  have f1 : (0 : Int) ≤ ((1200) + ((-1) * ρ 1 + 0)) := hF _ (List.mem_of_getElem? (i := 1) rfl)
  have f2 : (0 : Int) ≤ ((0) + ((1) * ρ 2 + 0)) := hF _ (List.mem_of_getElem? (i := 2) rfl)
  have f3 : (0 : Int) ≤ ((0) + ((1) * ρ 1 + ((-1) * ρ 2 + 0))) := hF _ (List.mem_of_getElem? (i := 3) rfl)
  have g0 : G (ρ 0).toNat = 22 := by
    have q := (hG _ (List.mem_of_getElem? (i := 0) rfl)).2
    rwa [show ev ρ (0, [(0, 1)]) = ρ 0 from ev_v] at q
  have h0 : (0 : Int) ≤ ρ 1 ∧ ρ 1 ≤ 1200 := hf_rg hT (hH _ (List.mem_of_getElem? (i := 0) rfl)) ev_v g0 rfl rfl rfl ev_v
  have h1 : (0 : Int) ≤ ρ 2 ∧ ρ 2 ≤ 1200 := hf_rg hT (hH _ (List.mem_of_getElem? (i := 1) rfl)) ev_v g0 rfl rfl rfl ev_v
  have p0 : (qRC 12 (tB (vw C h))) (ρ 1 + 2048 * ρ 2) (ρ 3) := c2 (P := (qRC 12 (tB (vw C h)))) (show (qRC 12 (tB (vw C h))) (((0) + ((1) * ρ 1 + ((2048) * ρ 2 + 0)))) (((0) + ((1) * ρ 3 + 0))) from hP _ (List.mem_of_getElem? (i := 0) rfl)) (by omega) (by omega)
  have hc0 := p0.1
  have hR := rc_el (n := ρ 1) (s := ρ 2) (d := (0 : Int)) (K := (0 : Int)) (R := (0 : Int)) p0 (by omega) (by omega) (by omega) (by omega) (by omega) (by omega) (by omega) (by omega) (by omega) (by omega)
  refine ⟨_, List.mem_cons_self, ρ, fun _ _ => rfl, fun q hq => absurd hq List.not_mem_nil, trivial, fun f hf => ?_, fun q hq => absurd hq List.not_mem_nil, fun q hq => absurd hq List.not_mem_nil, fun q hq => absurd hq List.not_mem_nil, fun q hq => ?_⟩
  · exact absurd hf List.not_mem_nil
  · simp only [List.mem_cons, List.not_mem_nil, or_false] at hq
    subst hq
    show q163 (tB (vw C h)) (((6940667150336) + ((1) * ρ 1 + ((2048) * ρ 2 + 0))))
    refine c2 (P := (fun r (_ : Int) => q163 (tB (vw C h)) r)) (c := 0) (c' := 0) (r := ρ 1 + 2048 * ρ 2 + 6940667150336) ?_ (by omega) rfl
    show q163 (tB (vw C h)) (ρ 1 + 2048 * ρ 2 + 6940667150336)
    exact o163 (n := ρ 1) (s := ρ 2) (lo := 0) (hi := 100) (by omega) (by omega) (by omega) (by omega) (by omega) (by omega) (by omega) (fn_12 hR)
/-- st12M -/
theorem lem_501_ok (hU : uqG G C) : lem_501.1.2.1 = [] ∧ lemOK (PRd G C D xs) G rgs lem_501 := by
  refine ⟨rfl, fun ρ h ha hT => ?_⟩
  obtain ⟨-, -, hF, hG, hH, hA, hP⟩ := ha
  have f0 : (0 : Int) ≤ ((0) + ((1) * ρ 1 + 0)) := hF _ (List.mem_of_getElem? (i := 0) rfl)
  have f1 : (0 : Int) ≤ ((1200) + ((-1) * ρ 1 + 0)) := hF _ (List.mem_of_getElem? (i := 1) rfl)
  have f2 : (0 : Int) ≤ ((0) + ((1) * ρ 2 + 0)) := hF _ (List.mem_of_getElem? (i := 2) rfl)
  have f3 : (0 : Int) ≤ ((0) + ((1) * ρ 1 + ((-1) * ρ 2 + 0))) := hF _ (List.mem_of_getElem? (i := 3) rfl)
  have f4 : (0 : Int) ≤ ((0) + ((1) * ρ 3 + 0)) := hF _ (List.mem_of_getElem? (i := 4) rfl)
  have f5 : (0 : Int) ≤ ((0) + ((1) * ρ 1 + ((-1) * ρ 3 + 0))) := hF _ (List.mem_of_getElem? (i := 5) rfl)
  have f6 : (0 : Int) ≤ ((0) + ((1) * ρ 4 + 0)) := hF _ (List.mem_of_getElem? (i := 6) rfl)
  have f7 : (0 : Int) ≤ ((100) + ((-1) * ρ 4 + 0)) := hF _ (List.mem_of_getElem? (i := 7) rfl)
  have g0 : G (ρ 0).toNat = 22 := by
    have q := (hG _ (List.mem_of_getElem? (i := 0) rfl)).2
    rwa [show ev ρ (0, [(0, 1)]) = ρ 0 from ev_v] at q
  have h0 : (0 : Int) ≤ ρ 1 ∧ ρ 1 ≤ 1200 := hf_rg hT (hH _ (List.mem_of_getElem? (i := 0) rfl)) ev_v g0 rfl rfl rfl ev_v
  have h1 : (0 : Int) ≤ ρ 2 ∧ ρ 2 ≤ 1200 := hf_rg hT (hH _ (List.mem_of_getElem? (i := 1) rfl)) ev_v g0 rfl rfl rfl ev_v
  have p0 : q158 (tB (vw C h)) (ρ 1 + 2048 * ρ 2) (ρ 3) := c2 (P := q158 (tB (vw C h))) (show q158 (tB (vw C h)) (((0) + ((1) * ρ 1 + ((2048) * ρ 2 + 0)))) (((0) + ((1) * ρ 3 + 0))) from hP _ (List.mem_of_getElem? (i := 0) rfl)) (by omega) (by omega)
  have p1 : q164 (tB (vw C h)) (ρ 1 + 2048 * ρ 3) (ρ 4) := c2 (P := q164 (tB (vw C h))) (show q164 (tB (vw C h)) (((0) + ((1) * ρ 1 + ((2048) * ρ 3 + 0)))) (((0) + ((1) * ρ 4 + 0))) from hP _ (List.mem_of_getElem? (i := 1) rfl)) (by omega) (by omega)
  have p2 : (qRC 12 (tB (vw C h))) (ρ 1 + 2048 * ρ 3) (ρ 5) := c2 (P := (qRC 12 (tB (vw C h)))) (show (qRC 12 (tB (vw C h))) (((0) + ((1) * ρ 1 + ((2048) * ρ 3 + 0)))) (((0) + ((1) * ρ 5 + 0))) from hP _ (List.mem_of_getElem? (i := 2) rfl)) (by omega) (by omega)
  obtain ⟨hkd, nv⟩ := k164 (n := ρ 1) (s := ρ 3) (by omega) (by omega) (by omega) (by omega) (by omega) p1
  have nx := k158 (n := ρ 1) (s := ρ 3) (t := ρ 2) (by omega) (by omega) (by omega) (by omega) (by omega) (by omega) p0
  have ng := nx_gt (B := (tB (vw C h))) (n := (ρ 1).toNat) (s := (ρ 3).toNat) (by omega)
  have hc0 := p2.1
  have hR := rc_el (n := ρ 1) (s := ρ 3) (d := (0 : Int)) (K := (0 : Int)) (R := (0 : Int)) p2 (by omega) (by omega) (by omega) (by omega) (by omega) (by omega) (by omega) (by omega) (by omega) (by omega)
  have q := sn_12 hR hkd (by omega) (by omega)
  obtain ⟨σ, r1, r2a⟩ : ∃ σ : Va, (∀ i, i < 6 → σ i = ρ i) ∧ σ 6 = ((setC (ρ 5).toNat 1 (ρ 4).toNat : Nat) : Int) := ⟨fun i => if i = 6 then ((setC (ρ 5).toNat 1 (ρ 4).toNat : Nat) : Int) else ρ i, fun i hi => by dsimp only; rw [if_neg (by omega)], by dsimp only; rw [if_pos rfl]⟩
  have s0 := r1 0 (by omega)
  have s1 := r1 1 (by omega)
  have s2 := r1 2 (by omega)
  have s3 := r1 3 (by omega)
  have s4 := r1 4 (by omega)
  have s5 := r1 5 (by omega)
  refine ⟨_, List.mem_cons_self, σ, r1, fun q hq => absurd hq List.not_mem_nil, trivial, fun f hf => ?_, fun q hq => absurd hq List.not_mem_nil, fun q hq => absurd hq List.not_mem_nil, fun q hq => absurd hq List.not_mem_nil, fun q hq => ?_⟩
  · simp only [List.mem_cons, List.not_mem_nil, or_false] at hf
    subst hf
    show (0 : Int) ≤ ((-1) + ((1) * σ 2 + ((-1) * σ 3 + 0)))
    omega
  · simp only [List.mem_cons, List.not_mem_nil, or_false] at hq
    rcases hq with rfl | rfl
    · show (qRC 13 (tB (vw C h))) (((0) + ((1) * σ 1 + ((2048) * σ 2 + 0)))) (((0) + ((1) * σ 6 + 0)))
      refine c2 (P := (qRC 13 (tB (vw C h)))) (r := ρ 1 + 2048 * ρ 2) (c := ((setC (ρ 5).toNat 1 (ρ 4).toNat : Nat) : Int)) ?_ (by omega) (by omega)
      show (qRC 13 (tB (vw C h))) (ρ 1 + 2048 * ρ 2) (((setC (ρ 5).toNat 1 (ρ 4).toNat : Nat) : Int))
      exact rc_in (n := ρ 1) (s := ρ 2) (d := (0 : Int)) (K := (0 : Int)) (R := (0 : Int)) (by omega) (by omega) (by omega) (by omega) (by omega) (by omega) (by omega) (by omega) (by omega) (by omega) q (by omega) (by omega) (by omega) (by omega) (by rw [nv])
    · show qSet (((65536) + ((1) * σ 4 + ((16777216) * σ 5 + 0)))) (((0) + ((1) * σ 6 + 0)))
      refine c2 (P := qSet) (r := ρ 4 + 16777216 * ρ 5 + 65536) (c := ((setC (ρ 5).toNat 1 (ρ 4).toNat : Nat) : Int)) ?_ (by omega) (by omega)
      show qSet (ρ 4 + 16777216 * ρ 5 + 65536) (((setC (ρ 5).toNat 1 (ρ 4).toNat : Nat) : Int))
      exact oSet (V := ρ 5) (v := ρ 4) (k := 1) (by omega) (by decide) (by omega) (by omega) rfl
/-- op13M -/
theorem lem_502_ok (hU : uqG G C) : lem_502.1.2.1 = [] ∧ lemOK (PRd G C D xs) G rgs lem_502 := by
  refine ⟨rfl, fun ρ h ha hT => ?_⟩
  obtain ⟨-, -, hF, hG, hH, hA, hP⟩ := ha
  have f0 : (0 : Int) ≤ ((0) + ((1) * ρ 1 + 0)) := hF _ (List.mem_of_getElem? (i := 0) rfl)
  have f1 : (0 : Int) ≤ ((1200) + ((-1) * ρ 1 + 0)) := hF _ (List.mem_of_getElem? (i := 1) rfl)
  have f2 : (0 : Int) ≤ ((0) + ((1) * ρ 2 + 0)) := hF _ (List.mem_of_getElem? (i := 2) rfl)
  have f3 : (0 : Int) ≤ ((0) + ((1) * ρ 1 + ((-1) * ρ 2 + 0))) := hF _ (List.mem_of_getElem? (i := 3) rfl)
  have g0 : G (ρ 0).toNat = 22 := by
    have q := (hG _ (List.mem_of_getElem? (i := 0) rfl)).2
    rwa [show ev ρ (0, [(0, 1)]) = ρ 0 from ev_v] at q
  have h0 : (0 : Int) ≤ ρ 1 ∧ ρ 1 ≤ 1200 := hf_rg hT (hH _ (List.mem_of_getElem? (i := 0) rfl)) ev_v g0 rfl rfl rfl ev_v
  have h1 : (0 : Int) ≤ ρ 2 ∧ ρ 2 ≤ 1200 := hf_rg hT (hH _ (List.mem_of_getElem? (i := 1) rfl)) ev_v g0 rfl rfl rfl ev_v
  have p0 : (qRC 13 (tB (vw C h))) (ρ 1 + 2048 * ρ 2) (ρ 3) := c2 (P := (qRC 13 (tB (vw C h)))) (show (qRC 13 (tB (vw C h))) (((0) + ((1) * ρ 1 + ((2048) * ρ 2 + 0)))) (((0) + ((1) * ρ 3 + 0))) from hP _ (List.mem_of_getElem? (i := 0) rfl)) (by omega) (by omega)
  have hc0 := p0.1
  have hR := rc_el (n := ρ 1) (s := ρ 2) (d := (0 : Int)) (K := (0 : Int)) (R := (0 : Int)) p0 (by omega) (by omega) (by omega) (by omega) (by omega) (by omega) (by omega) (by omega) (by omega) (by omega)
  refine ⟨_, List.mem_cons_self, ρ, fun _ _ => rfl, fun q hq => absurd hq List.not_mem_nil, trivial, fun f hf => ?_, fun q hq => absurd hq List.not_mem_nil, fun q hq => absurd hq List.not_mem_nil, fun q hq => absurd hq List.not_mem_nil, fun q hq => ?_⟩
  · exact absurd hf List.not_mem_nil
  · simp only [List.mem_cons, List.not_mem_nil, or_false] at hq
    subst hq
    show q165 (tB (vw C h)) (((25165824) + ((1) * ρ 1 + ((2048) * ρ 2 + 0))))
    refine c2 (P := (fun r (_ : Int) => q165 (tB (vw C h)) r)) (c := 0) (c' := 0) (r := ρ 1 + 2048 * ρ 2 + 25165824) ?_ (by omega) rfl
    show q165 (tB (vw C h)) (ρ 1 + 2048 * ρ 2 + 25165824)
    exact o165 (n := ρ 1) (s := ρ 2) (w := 6) (by omega) (by omega) (by omega) (by omega) (by omega) (by omega) (fun hw => fw_13 hR hw)
/-- st13M -/
theorem lem_503_ok (hU : uqG G C) : lem_503.1.2.1 = [] ∧ lemOK (PRd G C D xs) G rgs lem_503 := by
  refine ⟨rfl, fun ρ h ha hT => ?_⟩
  obtain ⟨-, -, hF, hG, hH, hA, hP⟩ := ha
  have f0 : (0 : Int) ≤ ((0) + ((1) * ρ 1 + 0)) := hF _ (List.mem_of_getElem? (i := 0) rfl)
  have f1 : (0 : Int) ≤ ((1200) + ((-1) * ρ 1 + 0)) := hF _ (List.mem_of_getElem? (i := 1) rfl)
  have f2 : (0 : Int) ≤ ((0) + ((1) * ρ 2 + 0)) := hF _ (List.mem_of_getElem? (i := 2) rfl)
  have f3 : (0 : Int) ≤ ((0) + ((1) * ρ 1 + ((-1) * ρ 2 + 0))) := hF _ (List.mem_of_getElem? (i := 3) rfl)
  have f4 : (0 : Int) ≤ ((0) + ((1) * ρ 3 + 0)) := hF _ (List.mem_of_getElem? (i := 4) rfl)
  have f5 : (0 : Int) ≤ ((0) + ((1) * ρ 1 + ((-1) * ρ 3 + 0))) := hF _ (List.mem_of_getElem? (i := 5) rfl)
  have g0 : G (ρ 0).toNat = 22 := by
    have q := (hG _ (List.mem_of_getElem? (i := 0) rfl)).2
    rwa [show ev ρ (0, [(0, 1)]) = ρ 0 from ev_v] at q
  have h0 : (0 : Int) ≤ ρ 1 ∧ ρ 1 ≤ 1200 := hf_rg hT (hH _ (List.mem_of_getElem? (i := 0) rfl)) ev_v g0 rfl rfl rfl ev_v
  have h1 : (0 : Int) ≤ ρ 2 ∧ ρ 2 ≤ 1200 := hf_rg hT (hH _ (List.mem_of_getElem? (i := 1) rfl)) ev_v g0 rfl rfl rfl ev_v
  have p0 : q158 (tB (vw C h)) (ρ 1 + 2048 * ρ 2) (ρ 3) := c2 (P := q158 (tB (vw C h))) (show q158 (tB (vw C h)) (((0) + ((1) * ρ 1 + ((2048) * ρ 2 + 0)))) (((0) + ((1) * ρ 3 + 0))) from hP _ (List.mem_of_getElem? (i := 0) rfl)) (by omega) (by omega)
  have p1 : q159 (tB (vw C h)) (ρ 1 + 2048 * ρ 3 + 25165824) ((1 : Int)) := c2 (P := q159 (tB (vw C h))) (show q159 (tB (vw C h)) (((25165824) + ((1) * ρ 1 + ((2048) * ρ 3 + 0)))) (((1) + 0)) from hP _ (List.mem_of_getElem? (i := 1) rfl)) (by omega) (by omega)
  have p2 : (qRC 13 (tB (vw C h))) (ρ 1 + 2048 * ρ 3) (ρ 4) := c2 (P := (qRC 13 (tB (vw C h)))) (show (qRC 13 (tB (vw C h))) (((0) + ((1) * ρ 1 + ((2048) * ρ 3 + 0)))) (((0) + ((1) * ρ 4 + 0))) from hP _ (List.mem_of_getElem? (i := 2) rfl)) (by omega) (by omega)
  have iw6 : tIsB (tB (vw C h)) (ρ 1).toNat (ρ 3).toNat (wd 6) = true := b01_1 (k159 (n := ρ 1) (s := ρ 3) (w := 6) (by omega) (by omega) (by omega) (by omega) (by omega) (by omega) p1)
  have hkd := (is_el.mp iw6).1
  have nx := k158 (n := ρ 1) (s := ρ 3) (t := ρ 2) (by omega) (by omega) (by omega) (by omega) (by omega) (by omega) p0
  have ng := nx_gt (B := (tB (vw C h))) (n := (ρ 1).toNat) (s := (ρ 3).toNat) (by omega)
  have hc0 := p2.1
  have hR := rc_el (n := ρ 1) (s := ρ 3) (d := (0 : Int)) (K := (0 : Int)) (R := (0 : Int)) p2 (by omega) (by omega) (by omega) (by omega) (by omega) (by omega) (by omega) (by omega) (by omega) (by omega)
  have q := sw_13 hR iw6
  refine ⟨_, List.mem_cons_self, ρ, fun _ _ => rfl, fun q hq => absurd hq List.not_mem_nil, trivial, fun f hf => ?_, fun q hq => absurd hq List.not_mem_nil, fun q hq => absurd hq List.not_mem_nil, fun q hq => absurd hq List.not_mem_nil, fun q hq => ?_⟩
  · simp only [List.mem_cons, List.not_mem_nil, or_false] at hf
    subst hf
    show (0 : Int) ≤ ((-1) + ((1) * ρ 2 + ((-1) * ρ 3 + 0)))
    omega
  · simp only [List.mem_cons, List.not_mem_nil, or_false] at hq
    subst hq
    show (qRC 14 (tB (vw C h))) (((0) + ((1) * ρ 1 + ((2048) * ρ 2 + 0)))) (((0) + ((1) * ρ 4 + 0)))
    refine c2 (P := (qRC 14 (tB (vw C h)))) (r := ρ 1 + 2048 * ρ 2) (c := ρ 4) ?_ (by omega) (by omega)
    show (qRC 14 (tB (vw C h))) (ρ 1 + 2048 * ρ 2) (ρ 4)
    exact rc_in (n := ρ 1) (s := ρ 2) (d := (0 : Int)) (K := (0 : Int)) (R := (0 : Int)) (by omega) (by omega) (by omega) (by omega) (by omega) (by omega) (by omega) (by omega) (by omega) (by omega) q (by omega) (by omega) (by omega) (by omega) (by omega)
/-- op14M -/
theorem lem_504_ok (hU : uqG G C) : lem_504.1.2.1 = [] ∧ lemOK (PRd G C D xs) G rgs lem_504 := by
  refine ⟨rfl, fun ρ h ha hT => ?_⟩
  obtain ⟨-, -, hF, hG, hH, hA, hP⟩ := ha
  have f0 : (0 : Int) ≤ ((0) + ((1) * ρ 1 + 0)) := hF _ (List.mem_of_getElem? (i := 0) rfl)
  have f1 : (0 : Int) ≤ ((1200) + ((-1) * ρ 1 + 0)) := hF _ (List.mem_of_getElem? (i := 1) rfl)
  have f2 : (0 : Int) ≤ ((0) + ((1) * ρ 2 + 0)) := hF _ (List.mem_of_getElem? (i := 2) rfl)
  have f3 : (0 : Int) ≤ ((0) + ((1) * ρ 1 + ((-1) * ρ 2 + 0))) := hF _ (List.mem_of_getElem? (i := 3) rfl)
  have g0 : G (ρ 0).toNat = 22 := by
    have q := (hG _ (List.mem_of_getElem? (i := 0) rfl)).2
    rwa [show ev ρ (0, [(0, 1)]) = ρ 0 from ev_v] at q
  have h0 : (0 : Int) ≤ ρ 1 ∧ ρ 1 ≤ 1200 := hf_rg hT (hH _ (List.mem_of_getElem? (i := 0) rfl)) ev_v g0 rfl rfl rfl ev_v
  have h1 : (0 : Int) ≤ ρ 2 ∧ ρ 2 ≤ 1200 := hf_rg hT (hH _ (List.mem_of_getElem? (i := 1) rfl)) ev_v g0 rfl rfl rfl ev_v
  have p0 : (qRC 14 (tB (vw C h))) (ρ 1 + 2048 * ρ 2) (ρ 3) := c2 (P := (qRC 14 (tB (vw C h)))) (show (qRC 14 (tB (vw C h))) (((0) + ((1) * ρ 1 + ((2048) * ρ 2 + 0)))) (((0) + ((1) * ρ 3 + 0))) from hP _ (List.mem_of_getElem? (i := 0) rfl)) (by omega) (by omega)
  have hc0 := p0.1
  have hR := rc_el (n := ρ 1) (s := ρ 2) (d := (0 : Int)) (K := (0 : Int)) (R := (0 : Int)) p0 (by omega) (by omega) (by omega) (by omega) (by omega) (by omega) (by omega) (by omega) (by omega) (by omega)
  refine ⟨_, List.mem_cons_self, ρ, fun _ _ => rfl, fun q hq => absurd hq List.not_mem_nil, trivial, fun f hf => ?_, fun q hq => absurd hq List.not_mem_nil, fun q hq => absurd hq List.not_mem_nil, fun q hq => absurd hq List.not_mem_nil, fun q hq => ?_⟩
  · exact absurd hf List.not_mem_nil
  · simp only [List.mem_cons, List.not_mem_nil, or_false] at hq
    subst hq
    show q163 (tB (vw C h)) (((2130307973120) + ((1) * ρ 1 + ((2048) * ρ 2 + 0))))
    refine c2 (P := (fun r (_ : Int) => q163 (tB (vw C h)) r)) (c := 0) (c' := 0) (r := ρ 1 + 2048 * ρ 2 + 2130307973120) ?_ (by omega) rfl
    show q163 (tB (vw C h)) (ρ 1 + 2048 * ρ 2 + 2130307973120)
    exact o163 (n := ρ 1) (s := ρ 2) (lo := 1) (hi := 30) (by omega) (by omega) (by omega) (by omega) (by omega) (by omega) (by omega) (fn_14 hR)
/-- st14M -/
theorem lem_505_ok (hU : uqG G C) : lem_505.1.2.1 = [] ∧ lemOK (PRd G C D xs) G rgs lem_505 := by
  refine ⟨rfl, fun ρ h ha hT => ?_⟩
  obtain ⟨-, -, hF, hG, hH, hA, hP⟩ := ha
  have f0 : (0 : Int) ≤ ((0) + ((1) * ρ 1 + 0)) := hF _ (List.mem_of_getElem? (i := 0) rfl)
  have f1 : (0 : Int) ≤ ((1200) + ((-1) * ρ 1 + 0)) := hF _ (List.mem_of_getElem? (i := 1) rfl)
  have f2 : (0 : Int) ≤ ((0) + ((1) * ρ 2 + 0)) := hF _ (List.mem_of_getElem? (i := 2) rfl)
  have f3 : (0 : Int) ≤ ((0) + ((1) * ρ 1 + ((-1) * ρ 2 + 0))) := hF _ (List.mem_of_getElem? (i := 3) rfl)
  have f4 : (0 : Int) ≤ ((0) + ((1) * ρ 3 + 0)) := hF _ (List.mem_of_getElem? (i := 4) rfl)
  have f5 : (0 : Int) ≤ ((0) + ((1) * ρ 1 + ((-1) * ρ 3 + 0))) := hF _ (List.mem_of_getElem? (i := 5) rfl)
  have f6 : (0 : Int) ≤ ((-1) + ((1) * ρ 4 + 0)) := hF _ (List.mem_of_getElem? (i := 6) rfl)
  have f7 : (0 : Int) ≤ ((30) + ((-1) * ρ 4 + 0)) := hF _ (List.mem_of_getElem? (i := 7) rfl)
  have g0 : G (ρ 0).toNat = 22 := by
    have q := (hG _ (List.mem_of_getElem? (i := 0) rfl)).2
    rwa [show ev ρ (0, [(0, 1)]) = ρ 0 from ev_v] at q
  have h0 : (0 : Int) ≤ ρ 1 ∧ ρ 1 ≤ 1200 := hf_rg hT (hH _ (List.mem_of_getElem? (i := 0) rfl)) ev_v g0 rfl rfl rfl ev_v
  have h1 : (0 : Int) ≤ ρ 2 ∧ ρ 2 ≤ 1200 := hf_rg hT (hH _ (List.mem_of_getElem? (i := 1) rfl)) ev_v g0 rfl rfl rfl ev_v
  have p0 : q158 (tB (vw C h)) (ρ 1 + 2048 * ρ 2) (ρ 3) := c2 (P := q158 (tB (vw C h))) (show q158 (tB (vw C h)) (((0) + ((1) * ρ 1 + ((2048) * ρ 2 + 0)))) (((0) + ((1) * ρ 3 + 0))) from hP _ (List.mem_of_getElem? (i := 0) rfl)) (by omega) (by omega)
  have p1 : q164 (tB (vw C h)) (ρ 1 + 2048 * ρ 3) (ρ 4) := c2 (P := q164 (tB (vw C h))) (show q164 (tB (vw C h)) (((0) + ((1) * ρ 1 + ((2048) * ρ 3 + 0)))) (((0) + ((1) * ρ 4 + 0))) from hP _ (List.mem_of_getElem? (i := 1) rfl)) (by omega) (by omega)
  have p2 : (qRC 14 (tB (vw C h))) (ρ 1 + 2048 * ρ 3) (ρ 5) := c2 (P := (qRC 14 (tB (vw C h)))) (show (qRC 14 (tB (vw C h))) (((0) + ((1) * ρ 1 + ((2048) * ρ 3 + 0)))) (((0) + ((1) * ρ 5 + 0))) from hP _ (List.mem_of_getElem? (i := 2) rfl)) (by omega) (by omega)
  obtain ⟨hkd, nv⟩ := k164 (n := ρ 1) (s := ρ 3) (by omega) (by omega) (by omega) (by omega) (by omega) p1
  have nx := k158 (n := ρ 1) (s := ρ 3) (t := ρ 2) (by omega) (by omega) (by omega) (by omega) (by omega) (by omega) p0
  have ng := nx_gt (B := (tB (vw C h))) (n := (ρ 1).toNat) (s := (ρ 3).toNat) (by omega)
  have hc0 := p2.1
  have hR := rc_el (n := ρ 1) (s := ρ 3) (d := (0 : Int)) (K := (0 : Int)) (R := (0 : Int)) p2 (by omega) (by omega) (by omega) (by omega) (by omega) (by omega) (by omega) (by omega) (by omega) (by omega)
  have q := sn_14 hR hkd (by omega) (by omega)
  refine ⟨_, List.mem_cons_self, ρ, fun _ _ => rfl, fun q hq => absurd hq List.not_mem_nil, trivial, fun f hf => ?_, fun q hq => absurd hq List.not_mem_nil, fun q hq => absurd hq List.not_mem_nil, fun q hq => absurd hq List.not_mem_nil, fun q hq => ?_⟩
  · simp only [List.mem_cons, List.not_mem_nil, or_false] at hf
    subst hf
    show (0 : Int) ≤ ((-1) + ((1) * ρ 2 + ((-1) * ρ 3 + 0)))
    omega
  · simp only [List.mem_cons, List.not_mem_nil, or_false] at hq
    subst hq
    show (qRC 15 (tB (vw C h))) (((0) + ((1) * ρ 1 + ((2048) * ρ 2 + 0)))) (((0) + ((1) * ρ 5 + 0)))
    refine c2 (P := (qRC 15 (tB (vw C h)))) (r := ρ 1 + 2048 * ρ 2) (c := ρ 5) ?_ (by omega) (by omega)
    show (qRC 15 (tB (vw C h))) (ρ 1 + 2048 * ρ 2) (ρ 5)
    exact rc_in (n := ρ 1) (s := ρ 2) (d := (0 : Int)) (K := (0 : Int)) (R := (0 : Int)) (by omega) (by omega) (by omega) (by omega) (by omega) (by omega) (by omega) (by omega) (by omega) (by omega) q (by omega) (by omega) (by omega) (by omega) (by omega)
/-- op17M -/
theorem lem_506_ok (hU : uqG G C) : lem_506.1.2.1 = [] ∧ lemOK (PRd G C D xs) G rgs lem_506 := by
  refine ⟨rfl, fun ρ h ha hT => ?_⟩
  obtain ⟨-, -, hF, hG, hH, hA, hP⟩ := ha
  have f0 : (0 : Int) ≤ ((0) + ((1) * ρ 1 + 0)) := hF _ (List.mem_of_getElem? (i := 0) rfl)
  have f1 : (0 : Int) ≤ ((1200) + ((-1) * ρ 1 + 0)) := hF _ (List.mem_of_getElem? (i := 1) rfl)
  have f2 : (0 : Int) ≤ ((0) + ((1) * ρ 2 + 0)) := hF _ (List.mem_of_getElem? (i := 2) rfl)
  have f3 : (0 : Int) ≤ ((0) + ((1) * ρ 1 + ((-1) * ρ 2 + 0))) := hF _ (List.mem_of_getElem? (i := 3) rfl)
  have f4 : (0 : Int) ≤ ((0) + ((1) * ρ 4 + 0)) := hF _ (List.mem_of_getElem? (i := 4) rfl)
  have f5 : (0 : Int) ≤ ((6) + ((-1) * ρ 4 + 0)) := hF _ (List.mem_of_getElem? (i := 5) rfl)
  have f6 : (0 : Int) ≤ ((0) + ((1) * ρ 5 + 0)) := hF _ (List.mem_of_getElem? (i := 6) rfl)
  have f7 : (0 : Int) ≤ ((8) + ((-1) * ρ 5 + 0)) := hF _ (List.mem_of_getElem? (i := 7) rfl)
  have f8 : (0 : Int) ≤ ((0) + ((1) * ρ 7 + 0)) := hF _ (List.mem_of_getElem? (i := 8) rfl)
  have f9 : (0 : Int) ≤ ((5) + ((-1) * ρ 7 + 0)) := hF _ (List.mem_of_getElem? (i := 9) rfl)
  have f10 : (0 : Int) ≤ ((0) + ((1) * ρ 6 + 0)) := hF _ (List.mem_of_getElem? (i := 10) rfl)
  have f11 : (0 : Int) ≤ ((4) + ((-1) * ρ 6 + 0)) := hF _ (List.mem_of_getElem? (i := 11) rfl)
  have g0 : G (ρ 0).toNat = 22 := by
    have q := (hG _ (List.mem_of_getElem? (i := 0) rfl)).2
    rwa [show ev ρ (0, [(0, 1)]) = ρ 0 from ev_v] at q
  have g1 : G (ρ 3).toNat = 124 := by
    have q := (hG _ (List.mem_of_getElem? (i := 1) rfl)).2
    rwa [show ev ρ (0, [(3, 1)]) = ρ 3 from ev_v] at q
  have h0 : (0 : Int) ≤ ρ 1 ∧ ρ 1 ≤ 1200 := hf_rg hT (hH _ (List.mem_of_getElem? (i := 0) rfl)) ev_v g0 rfl rfl rfl ev_v
  have h1 : (0 : Int) ≤ ρ 2 ∧ ρ 2 ≤ 1200 := hf_rg hT (hH _ (List.mem_of_getElem? (i := 1) rfl)) ev_v g0 rfl rfl rfl ev_v
  have b0 : (0 : Int) ≤ ((6) + 0) := b_aA (hA _ (List.mem_of_getElem? (i := 0) rfl))
  have b1 : (0 : Int) ≤ ((7) + 0) := b_aA (hA _ (List.mem_of_getElem? (i := 1) rfl))
  have b2 : (0 : Int) ≤ ((50) + 0) := b_aA (hA _ (List.mem_of_getElem? (i := 2) rfl))
  have a0 : vw C h 124 (6) = ρ 4 := vw_aA hU (hA _ (List.mem_of_getElem? (i := 0) rfl)) ev_v g1 (by omega) (by omega) (i := 6) (show (((6 : Nat)) : Int) = ((6) + 0) by omega) ev_v
  have a1 : vw C h 124 (7) = ρ 5 := vw_aA hU (hA _ (List.mem_of_getElem? (i := 1) rfl)) ev_v g1 (by omega) (by omega) (i := 7) (show (((7 : Nat)) : Int) = ((7) + 0) by omega) ev_v
  have a2 : vw C h 124 (50) = ρ 6 := vw_aA hU (hA _ (List.mem_of_getElem? (i := 2) rfl)) ev_v g1 (by omega) (by omega) (i := 50) (show (((50 : Nat)) : Int) = ((50) + 0) by omega) ev_v
  have p0 : P183 (vw C h) (ρ 5) (ρ 7) := c2 (P := P183 (vw C h)) (show P183 (vw C h) (((0) + ((1) * ρ 5 + 0))) (((0) + ((1) * ρ 7 + 0))) from hP _ (List.mem_of_getElem? (i := 0) rfl)) (by omega) (by omega)
  have p1 : (qRC 17 (tB (vw C h))) (ρ 1 + 2048 * ρ 2 + 4398046511104 * ρ 4 + 35184372088832 * ρ 5 + 4503599627370496 * ρ 6 + 562949953421312 * ρ 7) (ρ 8) := c2 (P := (qRC 17 (tB (vw C h)))) (show (qRC 17 (tB (vw C h))) (((0) + ((1) * ρ 1 + ((2048) * ρ 2 + ((4398046511104) * ρ 4 + ((35184372088832) * ρ 5 + ((4503599627370496) * ρ 6 + ((562949953421312) * ρ 7 + 0)))))))) (((0) + ((1) * ρ 8 + 0))) from hP _ (List.mem_of_getElem? (i := 1) rfl)) (by omega) (by omega)
  have hc0 := p1.1
  have hR := rc_el (n := ρ 1) (s := ρ 2) (d := (0 : Int)) (K := (0 : Int)) (R := (ρ 4 + 8 * ρ 5 + 1024 * ρ 6 + 128 * ρ 7)) p1 (by omega) (by omega) (by omega) (by omega) (by omega) (by omega) (by omega) (by omega) (by omega) (by omega)
  refine ⟨_, List.mem_cons_self, ρ, fun _ _ => rfl, fun q hq => absurd hq List.not_mem_nil, trivial, fun f hf => ?_, fun q hq => absurd hq List.not_mem_nil, fun q hq => absurd hq List.not_mem_nil, fun q hq => absurd hq List.not_mem_nil, fun q hq => ?_⟩
  · exact absurd hf List.not_mem_nil
  · simp only [List.mem_cons, List.not_mem_nil, or_false] at hq
    subst hq
    show q163 (tB (vw C h)) (((68719480930304) + ((1) * ρ 1 + ((2048) * ρ 2 + 0))))
    refine c2 (P := (fun r (_ : Int) => q163 (tB (vw C h)) r)) (c := 0) (c' := 0) (r := ρ 1 + 2048 * ρ 2 + 68719480930304) ?_ (by omega) rfl
    show q163 (tB (vw C h)) (ρ 1 + 2048 * ρ 2 + 68719480930304)
    exact o163 (n := ρ 1) (s := ρ 2) (lo := 1) (hi := 999) (by omega) (by omega) (by omega) (by omega) (by omega) (by omega) (by omega) (fn_17 hR)
/-- st17M -/
theorem lem_507_ok (hU : uqG G C) : lem_507.1.2.1 = [] ∧ lemOK (PRd G C D xs) G rgs lem_507 := by
  refine ⟨rfl, fun ρ h ha hT => ?_⟩
  obtain ⟨-, -, hF, hG, hH, hA, hP⟩ := ha
  have f0 : (0 : Int) ≤ ((0) + ((1) * ρ 1 + 0)) := hF _ (List.mem_of_getElem? (i := 0) rfl)
  have f1 : (0 : Int) ≤ ((1200) + ((-1) * ρ 1 + 0)) := hF _ (List.mem_of_getElem? (i := 1) rfl)
  have f2 : (0 : Int) ≤ ((0) + ((1) * ρ 2 + 0)) := hF _ (List.mem_of_getElem? (i := 2) rfl)
  have f3 : (0 : Int) ≤ ((0) + ((1) * ρ 1 + ((-1) * ρ 2 + 0))) := hF _ (List.mem_of_getElem? (i := 3) rfl)
  have f4 : (0 : Int) ≤ ((0) + ((1) * ρ 8 + 0)) := hF _ (List.mem_of_getElem? (i := 4) rfl)
  have f5 : (0 : Int) ≤ ((0) + ((1) * ρ 1 + ((-1) * ρ 8 + 0))) := hF _ (List.mem_of_getElem? (i := 5) rfl)
  have f6 : (0 : Int) ≤ ((-1) + ((1) * ρ 9 + 0)) := hF _ (List.mem_of_getElem? (i := 6) rfl)
  have f7 : (0 : Int) ≤ ((999) + ((-1) * ρ 9 + 0)) := hF _ (List.mem_of_getElem? (i := 7) rfl)
  have f8 : (0 : Int) ≤ ((0) + ((1) * ρ 4 + 0)) := hF _ (List.mem_of_getElem? (i := 8) rfl)
  have f9 : (0 : Int) ≤ ((6) + ((-1) * ρ 4 + 0)) := hF _ (List.mem_of_getElem? (i := 9) rfl)
  have f10 : (0 : Int) ≤ ((0) + ((1) * ρ 5 + 0)) := hF _ (List.mem_of_getElem? (i := 10) rfl)
  have f11 : (0 : Int) ≤ ((8) + ((-1) * ρ 5 + 0)) := hF _ (List.mem_of_getElem? (i := 11) rfl)
  have f12 : (0 : Int) ≤ ((0) + ((1) * ρ 7 + 0)) := hF _ (List.mem_of_getElem? (i := 12) rfl)
  have f13 : (0 : Int) ≤ ((5) + ((-1) * ρ 7 + 0)) := hF _ (List.mem_of_getElem? (i := 13) rfl)
  have f14 : (0 : Int) ≤ ((0) + ((1) * ρ 6 + 0)) := hF _ (List.mem_of_getElem? (i := 14) rfl)
  have f15 : (0 : Int) ≤ ((4) + ((-1) * ρ 6 + 0)) := hF _ (List.mem_of_getElem? (i := 15) rfl)
  have g0 : G (ρ 0).toNat = 22 := by
    have q := (hG _ (List.mem_of_getElem? (i := 0) rfl)).2
    rwa [show ev ρ (0, [(0, 1)]) = ρ 0 from ev_v] at q
  have g1 : G (ρ 3).toNat = 124 := by
    have q := (hG _ (List.mem_of_getElem? (i := 1) rfl)).2
    rwa [show ev ρ (0, [(3, 1)]) = ρ 3 from ev_v] at q
  have h0 : (0 : Int) ≤ ρ 1 ∧ ρ 1 ≤ 1200 := hf_rg hT (hH _ (List.mem_of_getElem? (i := 0) rfl)) ev_v g0 rfl rfl rfl ev_v
  have h1 : (0 : Int) ≤ ρ 2 ∧ ρ 2 ≤ 1200 := hf_rg hT (hH _ (List.mem_of_getElem? (i := 1) rfl)) ev_v g0 rfl rfl rfl ev_v
  have b0 : (0 : Int) ≤ ((6) + 0) := b_aA (hA _ (List.mem_of_getElem? (i := 0) rfl))
  have b1 : (0 : Int) ≤ ((7) + 0) := b_aA (hA _ (List.mem_of_getElem? (i := 1) rfl))
  have b2 : (0 : Int) ≤ ((50) + 0) := b_aA (hA _ (List.mem_of_getElem? (i := 2) rfl))
  have a0 : vw C h 124 (6) = ρ 4 := vw_aA hU (hA _ (List.mem_of_getElem? (i := 0) rfl)) ev_v g1 (by omega) (by omega) (i := 6) (show (((6 : Nat)) : Int) = ((6) + 0) by omega) ev_v
  have a1 : vw C h 124 (7) = ρ 5 := vw_aA hU (hA _ (List.mem_of_getElem? (i := 1) rfl)) ev_v g1 (by omega) (by omega) (i := 7) (show (((7 : Nat)) : Int) = ((7) + 0) by omega) ev_v
  have a2 : vw C h 124 (50) = ρ 6 := vw_aA hU (hA _ (List.mem_of_getElem? (i := 2) rfl)) ev_v g1 (by omega) (by omega) (i := 50) (show (((50 : Nat)) : Int) = ((50) + 0) by omega) ev_v
  have p0 : P183 (vw C h) (ρ 5) (ρ 7) := c2 (P := P183 (vw C h)) (show P183 (vw C h) (((0) + ((1) * ρ 5 + 0))) (((0) + ((1) * ρ 7 + 0))) from hP _ (List.mem_of_getElem? (i := 0) rfl)) (by omega) (by omega)
  have p1 : q158 (tB (vw C h)) (ρ 1 + 2048 * ρ 2) (ρ 8) := c2 (P := q158 (tB (vw C h))) (show q158 (tB (vw C h)) (((0) + ((1) * ρ 1 + ((2048) * ρ 2 + 0)))) (((0) + ((1) * ρ 8 + 0))) from hP _ (List.mem_of_getElem? (i := 1) rfl)) (by omega) (by omega)
  have p2 : q164 (tB (vw C h)) (ρ 1 + 2048 * ρ 8) (ρ 9) := c2 (P := q164 (tB (vw C h))) (show q164 (tB (vw C h)) (((0) + ((1) * ρ 1 + ((2048) * ρ 8 + 0)))) (((0) + ((1) * ρ 9 + 0))) from hP _ (List.mem_of_getElem? (i := 2) rfl)) (by omega) (by omega)
  have p3 : (qRC 17 (tB (vw C h))) (ρ 1 + 4398046511104 * ρ 4 + 35184372088832 * ρ 5 + 4503599627370496 * ρ 6 + 562949953421312 * ρ 7 + 2048 * ρ 8) (ρ 10) := c2 (P := (qRC 17 (tB (vw C h)))) (show (qRC 17 (tB (vw C h))) (((0) + ((1) * ρ 1 + ((4398046511104) * ρ 4 + ((35184372088832) * ρ 5 + ((4503599627370496) * ρ 6 + ((562949953421312) * ρ 7 + ((2048) * ρ 8 + 0)))))))) (((0) + ((1) * ρ 10 + 0))) from hP _ (List.mem_of_getElem? (i := 3) rfl)) (by omega) (by omega)
  obtain ⟨hkd, nv⟩ := k164 (n := ρ 1) (s := ρ 8) (by omega) (by omega) (by omega) (by omega) (by omega) p2
  have nx := k158 (n := ρ 1) (s := ρ 8) (t := ρ 2) (by omega) (by omega) (by omega) (by omega) (by omega) (by omega) p1
  have ng := nx_gt (B := (tB (vw C h))) (n := (ρ 1).toNat) (s := (ρ 8).toNat) (by omega)
  have hc0 := p3.1
  have hR := rc_el (n := ρ 1) (s := ρ 8) (d := (0 : Int)) (K := (0 : Int)) (R := (ρ 4 + 8 * ρ 5 + 1024 * ρ 6 + 128 * ρ 7)) p3 (by omega) (by omega) (by omega) (by omega) (by omega) (by omega) (by omega) (by omega) (by omega) (by omega)
  have q := sn_17 hR hkd (by omega) (by omega)
  refine ⟨_, List.mem_cons_self, ρ, fun _ _ => rfl, fun q hq => absurd hq List.not_mem_nil, trivial, fun f hf => ?_, fun q hq => absurd hq List.not_mem_nil, fun q hq => absurd hq List.not_mem_nil, fun q hq => absurd hq List.not_mem_nil, fun q hq => ?_⟩
  · simp only [List.mem_cons, List.not_mem_nil, or_false] at hf
    subst hf
    show (0 : Int) ≤ ((-1) + ((1) * ρ 2 + ((-1) * ρ 8 + 0)))
    omega
  · simp only [List.mem_cons, List.not_mem_nil, or_false] at hq
    subst hq
    show (qRC 18 (tB (vw C h))) (((0) + ((1) * ρ 1 + ((2048) * ρ 2 + ((4398046511104) * ρ 4 + ((35184372088832) * ρ 5 + ((4503599627370496) * ρ 6 + ((562949953421312) * ρ 7 + 0)))))))) (((0) + ((1) * ρ 10 + 0)))
    refine c2 (P := (qRC 18 (tB (vw C h)))) (r := ρ 1 + 2048 * ρ 2 + 4398046511104 * ρ 4 + 35184372088832 * ρ 5 + 4503599627370496 * ρ 6 + 562949953421312 * ρ 7) (c := ρ 10) ?_ (by omega) (by omega)
    show (qRC 18 (tB (vw C h))) (ρ 1 + 2048 * ρ 2 + 4398046511104 * ρ 4 + 35184372088832 * ρ 5 + 4503599627370496 * ρ 6 + 562949953421312 * ρ 7) (ρ 10)
    exact rc_in (n := ρ 1) (s := ρ 2) (d := (0 : Int)) (K := (0 : Int)) (R := (ρ 4 + 8 * ρ 5 + 1024 * ρ 6 + 128 * ρ 7)) (by omega) (by omega) (by omega) (by omega) (by omega) (by omega) (by omega) (by omega) (by omega) (by omega) q (by omega) (by omega) (by omega) (by omega) (by omega)
/-- op18M -/
theorem lem_508_ok (hU : uqG G C) : lem_508.1.2.1 = [] ∧ lemOK (PRd G C D xs) G rgs lem_508 := by
  refine ⟨rfl, fun ρ h ha hT => ?_⟩
  obtain ⟨-, -, hF, hG, hH, hA, hP⟩ := ha
  have f0 : (0 : Int) ≤ ((0) + ((1) * ρ 1 + 0)) := hF _ (List.mem_of_getElem? (i := 0) rfl)
  have f1 : (0 : Int) ≤ ((1200) + ((-1) * ρ 1 + 0)) := hF _ (List.mem_of_getElem? (i := 1) rfl)
  have f2 : (0 : Int) ≤ ((0) + ((1) * ρ 2 + 0)) := hF _ (List.mem_of_getElem? (i := 2) rfl)
  have f3 : (0 : Int) ≤ ((0) + ((1) * ρ 1 + ((-1) * ρ 2 + 0))) := hF _ (List.mem_of_getElem? (i := 3) rfl)
  have f4 : (0 : Int) ≤ ((0) + ((1) * ρ 4 + 0)) := hF _ (List.mem_of_getElem? (i := 4) rfl)
  have f5 : (0 : Int) ≤ ((6) + ((-1) * ρ 4 + 0)) := hF _ (List.mem_of_getElem? (i := 5) rfl)
  have f6 : (0 : Int) ≤ ((0) + ((1) * ρ 5 + 0)) := hF _ (List.mem_of_getElem? (i := 6) rfl)
  have f7 : (0 : Int) ≤ ((8) + ((-1) * ρ 5 + 0)) := hF _ (List.mem_of_getElem? (i := 7) rfl)
  have f8 : (0 : Int) ≤ ((0) + ((1) * ρ 7 + 0)) := hF _ (List.mem_of_getElem? (i := 8) rfl)
  have f9 : (0 : Int) ≤ ((5) + ((-1) * ρ 7 + 0)) := hF _ (List.mem_of_getElem? (i := 9) rfl)
  have f10 : (0 : Int) ≤ ((0) + ((1) * ρ 6 + 0)) := hF _ (List.mem_of_getElem? (i := 10) rfl)
  have f11 : (0 : Int) ≤ ((4) + ((-1) * ρ 6 + 0)) := hF _ (List.mem_of_getElem? (i := 11) rfl)
  have g0 : G (ρ 0).toNat = 22 := by
    have q := (hG _ (List.mem_of_getElem? (i := 0) rfl)).2
    rwa [show ev ρ (0, [(0, 1)]) = ρ 0 from ev_v] at q
  have g1 : G (ρ 3).toNat = 124 := by
    have q := (hG _ (List.mem_of_getElem? (i := 1) rfl)).2
    rwa [show ev ρ (0, [(3, 1)]) = ρ 3 from ev_v] at q
  have h0 : (0 : Int) ≤ ρ 1 ∧ ρ 1 ≤ 1200 := hf_rg hT (hH _ (List.mem_of_getElem? (i := 0) rfl)) ev_v g0 rfl rfl rfl ev_v
  have h1 : (0 : Int) ≤ ρ 2 ∧ ρ 2 ≤ 1200 := hf_rg hT (hH _ (List.mem_of_getElem? (i := 1) rfl)) ev_v g0 rfl rfl rfl ev_v
  have b0 : (0 : Int) ≤ ((6) + 0) := b_aA (hA _ (List.mem_of_getElem? (i := 0) rfl))
  have b1 : (0 : Int) ≤ ((7) + 0) := b_aA (hA _ (List.mem_of_getElem? (i := 1) rfl))
  have b2 : (0 : Int) ≤ ((50) + 0) := b_aA (hA _ (List.mem_of_getElem? (i := 2) rfl))
  have a0 : vw C h 124 (6) = ρ 4 := vw_aA hU (hA _ (List.mem_of_getElem? (i := 0) rfl)) ev_v g1 (by omega) (by omega) (i := 6) (show (((6 : Nat)) : Int) = ((6) + 0) by omega) ev_v
  have a1 : vw C h 124 (7) = ρ 5 := vw_aA hU (hA _ (List.mem_of_getElem? (i := 1) rfl)) ev_v g1 (by omega) (by omega) (i := 7) (show (((7 : Nat)) : Int) = ((7) + 0) by omega) ev_v
  have a2 : vw C h 124 (50) = ρ 6 := vw_aA hU (hA _ (List.mem_of_getElem? (i := 2) rfl)) ev_v g1 (by omega) (by omega) (i := 50) (show (((50 : Nat)) : Int) = ((50) + 0) by omega) ev_v
  have p0 : P183 (vw C h) (ρ 5) (ρ 7) := c2 (P := P183 (vw C h)) (show P183 (vw C h) (((0) + ((1) * ρ 5 + 0))) (((0) + ((1) * ρ 7 + 0))) from hP _ (List.mem_of_getElem? (i := 0) rfl)) (by omega) (by omega)
  have p1 : (qRC 18 (tB (vw C h))) (ρ 1 + 2048 * ρ 2 + 4398046511104 * ρ 4 + 35184372088832 * ρ 5 + 4503599627370496 * ρ 6 + 562949953421312 * ρ 7) (ρ 8) := c2 (P := (qRC 18 (tB (vw C h)))) (show (qRC 18 (tB (vw C h))) (((0) + ((1) * ρ 1 + ((2048) * ρ 2 + ((4398046511104) * ρ 4 + ((35184372088832) * ρ 5 + ((4503599627370496) * ρ 6 + ((562949953421312) * ρ 7 + 0)))))))) (((0) + ((1) * ρ 8 + 0))) from hP _ (List.mem_of_getElem? (i := 1) rfl)) (by omega) (by omega)
  have hc0 := p1.1
  have hR := rc_el (n := ρ 1) (s := ρ 2) (d := (0 : Int)) (K := (0 : Int)) (R := (ρ 4 + 8 * ρ 5 + 1024 * ρ 6 + 128 * ρ 7)) p1 (by omega) (by omega) (by omega) (by omega) (by omega) (by omega) (by omega) (by omega) (by omega) (by omega)
  refine ⟨_, List.mem_cons_self, ρ, fun _ _ => rfl, fun q hq => absurd hq List.not_mem_nil, trivial, fun f hf => ?_, fun q hq => absurd hq List.not_mem_nil, fun q hq => absurd hq List.not_mem_nil, fun q hq => absurd hq List.not_mem_nil, fun q hq => ?_⟩
  · exact absurd hf List.not_mem_nil
  · simp only [List.mem_cons, List.not_mem_nil, or_false] at hq
    subst hq
    show q163 (tB (vw C h)) (((68719476736000) + ((1) * ρ 1 + ((2048) * ρ 2 + 0))))
    refine c2 (P := (fun r (_ : Int) => q163 (tB (vw C h)) r)) (c := 0) (c' := 0) (r := ρ 1 + 2048 * ρ 2 + 68719476736000) ?_ (by omega) rfl
    show q163 (tB (vw C h)) (ρ 1 + 2048 * ρ 2 + 68719476736000)
    exact o163 (n := ρ 1) (s := ρ 2) (lo := 0) (hi := 999) (by omega) (by omega) (by omega) (by omega) (by omega) (by omega) (by omega) (fn_18 hR)
/-- st18M -/
theorem lem_509_ok (hU : uqG G C) : lem_509.1.2.1 = [] ∧ lemOK (PRd G C D xs) G rgs lem_509 := by
  refine ⟨rfl, fun ρ h ha hT => ?_⟩
  obtain ⟨-, -, hF, hG, hH, hA, hP⟩ := ha
  have f0 : (0 : Int) ≤ ((0) + ((1) * ρ 1 + 0)) := hF _ (List.mem_of_getElem? (i := 0) rfl)
  have f1 : (0 : Int) ≤ ((1200) + ((-1) * ρ 1 + 0)) := hF _ (List.mem_of_getElem? (i := 1) rfl)
  have f2 : (0 : Int) ≤ ((0) + ((1) * ρ 2 + 0)) := hF _ (List.mem_of_getElem? (i := 2) rfl)
  have f3 : (0 : Int) ≤ ((0) + ((1) * ρ 1 + ((-1) * ρ 2 + 0))) := hF _ (List.mem_of_getElem? (i := 3) rfl)
  have f4 : (0 : Int) ≤ ((0) + ((1) * ρ 8 + 0)) := hF _ (List.mem_of_getElem? (i := 4) rfl)
  have f5 : (0 : Int) ≤ ((0) + ((1) * ρ 1 + ((-1) * ρ 8 + 0))) := hF _ (List.mem_of_getElem? (i := 5) rfl)
  have f6 : (0 : Int) ≤ ((0) + ((1) * ρ 9 + 0)) := hF _ (List.mem_of_getElem? (i := 6) rfl)
  have f7 : (0 : Int) ≤ ((999) + ((-1) * ρ 9 + 0)) := hF _ (List.mem_of_getElem? (i := 7) rfl)
  have f8 : (0 : Int) ≤ ((0) + ((1) * ρ 4 + 0)) := hF _ (List.mem_of_getElem? (i := 8) rfl)
  have f9 : (0 : Int) ≤ ((6) + ((-1) * ρ 4 + 0)) := hF _ (List.mem_of_getElem? (i := 9) rfl)
  have f10 : (0 : Int) ≤ ((0) + ((1) * ρ 5 + 0)) := hF _ (List.mem_of_getElem? (i := 10) rfl)
  have f11 : (0 : Int) ≤ ((8) + ((-1) * ρ 5 + 0)) := hF _ (List.mem_of_getElem? (i := 11) rfl)
  have f12 : (0 : Int) ≤ ((0) + ((1) * ρ 7 + 0)) := hF _ (List.mem_of_getElem? (i := 12) rfl)
  have f13 : (0 : Int) ≤ ((5) + ((-1) * ρ 7 + 0)) := hF _ (List.mem_of_getElem? (i := 13) rfl)
  have f14 : (0 : Int) ≤ ((0) + ((1) * ρ 6 + 0)) := hF _ (List.mem_of_getElem? (i := 14) rfl)
  have f15 : (0 : Int) ≤ ((4) + ((-1) * ρ 6 + 0)) := hF _ (List.mem_of_getElem? (i := 15) rfl)
  have g0 : G (ρ 0).toNat = 22 := by
    have q := (hG _ (List.mem_of_getElem? (i := 0) rfl)).2
    rwa [show ev ρ (0, [(0, 1)]) = ρ 0 from ev_v] at q
  have g1 : G (ρ 3).toNat = 124 := by
    have q := (hG _ (List.mem_of_getElem? (i := 1) rfl)).2
    rwa [show ev ρ (0, [(3, 1)]) = ρ 3 from ev_v] at q
  have h0 : (0 : Int) ≤ ρ 1 ∧ ρ 1 ≤ 1200 := hf_rg hT (hH _ (List.mem_of_getElem? (i := 0) rfl)) ev_v g0 rfl rfl rfl ev_v
  have h1 : (0 : Int) ≤ ρ 2 ∧ ρ 2 ≤ 1200 := hf_rg hT (hH _ (List.mem_of_getElem? (i := 1) rfl)) ev_v g0 rfl rfl rfl ev_v
  have b0 : (0 : Int) ≤ ((6) + 0) := b_aA (hA _ (List.mem_of_getElem? (i := 0) rfl))
  have b1 : (0 : Int) ≤ ((7) + 0) := b_aA (hA _ (List.mem_of_getElem? (i := 1) rfl))
  have b2 : (0 : Int) ≤ ((50) + 0) := b_aA (hA _ (List.mem_of_getElem? (i := 2) rfl))
  have a0 : vw C h 124 (6) = ρ 4 := vw_aA hU (hA _ (List.mem_of_getElem? (i := 0) rfl)) ev_v g1 (by omega) (by omega) (i := 6) (show (((6 : Nat)) : Int) = ((6) + 0) by omega) ev_v
  have a1 : vw C h 124 (7) = ρ 5 := vw_aA hU (hA _ (List.mem_of_getElem? (i := 1) rfl)) ev_v g1 (by omega) (by omega) (i := 7) (show (((7 : Nat)) : Int) = ((7) + 0) by omega) ev_v
  have a2 : vw C h 124 (50) = ρ 6 := vw_aA hU (hA _ (List.mem_of_getElem? (i := 2) rfl)) ev_v g1 (by omega) (by omega) (i := 50) (show (((50 : Nat)) : Int) = ((50) + 0) by omega) ev_v
  have p0 : P183 (vw C h) (ρ 5) (ρ 7) := c2 (P := P183 (vw C h)) (show P183 (vw C h) (((0) + ((1) * ρ 5 + 0))) (((0) + ((1) * ρ 7 + 0))) from hP _ (List.mem_of_getElem? (i := 0) rfl)) (by omega) (by omega)
  have p1 : q158 (tB (vw C h)) (ρ 1 + 2048 * ρ 2) (ρ 8) := c2 (P := q158 (tB (vw C h))) (show q158 (tB (vw C h)) (((0) + ((1) * ρ 1 + ((2048) * ρ 2 + 0)))) (((0) + ((1) * ρ 8 + 0))) from hP _ (List.mem_of_getElem? (i := 1) rfl)) (by omega) (by omega)
  have p2 : q164 (tB (vw C h)) (ρ 1 + 2048 * ρ 8) (ρ 9) := c2 (P := q164 (tB (vw C h))) (show q164 (tB (vw C h)) (((0) + ((1) * ρ 1 + ((2048) * ρ 8 + 0)))) (((0) + ((1) * ρ 9 + 0))) from hP _ (List.mem_of_getElem? (i := 2) rfl)) (by omega) (by omega)
  have p3 : (qRC 18 (tB (vw C h))) (ρ 1 + 4398046511104 * ρ 4 + 35184372088832 * ρ 5 + 4503599627370496 * ρ 6 + 562949953421312 * ρ 7 + 2048 * ρ 8) (ρ 10) := c2 (P := (qRC 18 (tB (vw C h)))) (show (qRC 18 (tB (vw C h))) (((0) + ((1) * ρ 1 + ((4398046511104) * ρ 4 + ((35184372088832) * ρ 5 + ((4503599627370496) * ρ 6 + ((562949953421312) * ρ 7 + ((2048) * ρ 8 + 0)))))))) (((0) + ((1) * ρ 10 + 0))) from hP _ (List.mem_of_getElem? (i := 3) rfl)) (by omega) (by omega)
  obtain ⟨hkd, nv⟩ := k164 (n := ρ 1) (s := ρ 8) (by omega) (by omega) (by omega) (by omega) (by omega) p2
  have nx := k158 (n := ρ 1) (s := ρ 8) (t := ρ 2) (by omega) (by omega) (by omega) (by omega) (by omega) (by omega) p1
  have ng := nx_gt (B := (tB (vw C h))) (n := (ρ 1).toNat) (s := (ρ 8).toNat) (by omega)
  have hc0 := p3.1
  have hR := rc_el (n := ρ 1) (s := ρ 8) (d := (0 : Int)) (K := (0 : Int)) (R := (ρ 4 + 8 * ρ 5 + 1024 * ρ 6 + 128 * ρ 7)) p3 (by omega) (by omega) (by omega) (by omega) (by omega) (by omega) (by omega) (by omega) (by omega) (by omega)
  have q := sn_18 hR hkd (by omega) (by omega)
  refine ⟨_, List.mem_cons_self, ρ, fun _ _ => rfl, fun q hq => absurd hq List.not_mem_nil, trivial, fun f hf => ?_, fun q hq => absurd hq List.not_mem_nil, fun q hq => absurd hq List.not_mem_nil, fun q hq => absurd hq List.not_mem_nil, fun q hq => ?_⟩
  · simp only [List.mem_cons, List.not_mem_nil, or_false] at hf
    subst hf
    show (0 : Int) ≤ ((-1) + ((1) * ρ 2 + ((-1) * ρ 8 + 0)))
    omega
  · simp only [List.mem_cons, List.not_mem_nil, or_false] at hq
    subst hq
    show (qRC 19 (tB (vw C h))) (((0) + ((1) * ρ 1 + ((2048) * ρ 2 + ((4398046511104) * ρ 4 + ((35184372088832) * ρ 5 + ((4503599627370496) * ρ 6 + ((562949953421312) * ρ 7 + 0)))))))) (((0) + ((1) * ρ 10 + 0)))
    refine c2 (P := (qRC 19 (tB (vw C h)))) (r := ρ 1 + 2048 * ρ 2 + 4398046511104 * ρ 4 + 35184372088832 * ρ 5 + 4503599627370496 * ρ 6 + 562949953421312 * ρ 7) (c := ρ 10) ?_ (by omega) (by omega)
    show (qRC 19 (tB (vw C h))) (ρ 1 + 2048 * ρ 2 + 4398046511104 * ρ 4 + 35184372088832 * ρ 5 + 4503599627370496 * ρ 6 + 562949953421312 * ρ 7) (ρ 10)
    exact rc_in (n := ρ 1) (s := ρ 2) (d := (0 : Int)) (K := (0 : Int)) (R := (ρ 4 + 8 * ρ 5 + 1024 * ρ 6 + 128 * ρ 7)) (by omega) (by omega) (by omega) (by omega) (by omega) (by omega) (by omega) (by omega) (by omega) (by omega) q (by omega) (by omega) (by omega) (by omega) (by omega)
/-- op19M -/
theorem lem_510_ok (hU : uqG G C) : lem_510.1.2.1 = [] ∧ lemOK (PRd G C D xs) G rgs lem_510 := by
  refine ⟨rfl, fun ρ h ha hT => ?_⟩
  obtain ⟨-, -, hF, hG, hH, hA, hP⟩ := ha
  have f0 : (0 : Int) ≤ ((0) + ((1) * ρ 1 + 0)) := hF _ (List.mem_of_getElem? (i := 0) rfl)
  have f1 : (0 : Int) ≤ ((1200) + ((-1) * ρ 1 + 0)) := hF _ (List.mem_of_getElem? (i := 1) rfl)
  have f2 : (0 : Int) ≤ ((0) + ((1) * ρ 2 + 0)) := hF _ (List.mem_of_getElem? (i := 2) rfl)
  have f3 : (0 : Int) ≤ ((0) + ((1) * ρ 1 + ((-1) * ρ 2 + 0))) := hF _ (List.mem_of_getElem? (i := 3) rfl)
  have f4 : (0 : Int) ≤ ((0) + ((1) * ρ 4 + 0)) := hF _ (List.mem_of_getElem? (i := 4) rfl)
  have f5 : (0 : Int) ≤ ((6) + ((-1) * ρ 4 + 0)) := hF _ (List.mem_of_getElem? (i := 5) rfl)
  have f6 : (0 : Int) ≤ ((0) + ((1) * ρ 5 + 0)) := hF _ (List.mem_of_getElem? (i := 6) rfl)
  have f7 : (0 : Int) ≤ ((8) + ((-1) * ρ 5 + 0)) := hF _ (List.mem_of_getElem? (i := 7) rfl)
  have f8 : (0 : Int) ≤ ((0) + ((1) * ρ 7 + 0)) := hF _ (List.mem_of_getElem? (i := 8) rfl)
  have f9 : (0 : Int) ≤ ((5) + ((-1) * ρ 7 + 0)) := hF _ (List.mem_of_getElem? (i := 9) rfl)
  have f10 : (0 : Int) ≤ ((0) + ((1) * ρ 6 + 0)) := hF _ (List.mem_of_getElem? (i := 10) rfl)
  have f11 : (0 : Int) ≤ ((4) + ((-1) * ρ 6 + 0)) := hF _ (List.mem_of_getElem? (i := 11) rfl)
  have g0 : G (ρ 0).toNat = 22 := by
    have q := (hG _ (List.mem_of_getElem? (i := 0) rfl)).2
    rwa [show ev ρ (0, [(0, 1)]) = ρ 0 from ev_v] at q
  have g1 : G (ρ 3).toNat = 124 := by
    have q := (hG _ (List.mem_of_getElem? (i := 1) rfl)).2
    rwa [show ev ρ (0, [(3, 1)]) = ρ 3 from ev_v] at q
  have h0 : (0 : Int) ≤ ρ 1 ∧ ρ 1 ≤ 1200 := hf_rg hT (hH _ (List.mem_of_getElem? (i := 0) rfl)) ev_v g0 rfl rfl rfl ev_v
  have h1 : (0 : Int) ≤ ρ 2 ∧ ρ 2 ≤ 1200 := hf_rg hT (hH _ (List.mem_of_getElem? (i := 1) rfl)) ev_v g0 rfl rfl rfl ev_v
  have b0 : (0 : Int) ≤ ((6) + 0) := b_aA (hA _ (List.mem_of_getElem? (i := 0) rfl))
  have b1 : (0 : Int) ≤ ((7) + 0) := b_aA (hA _ (List.mem_of_getElem? (i := 1) rfl))
  have b2 : (0 : Int) ≤ ((50) + 0) := b_aA (hA _ (List.mem_of_getElem? (i := 2) rfl))
  have a0 : vw C h 124 (6) = ρ 4 := vw_aA hU (hA _ (List.mem_of_getElem? (i := 0) rfl)) ev_v g1 (by omega) (by omega) (i := 6) (show (((6 : Nat)) : Int) = ((6) + 0) by omega) ev_v
  have a1 : vw C h 124 (7) = ρ 5 := vw_aA hU (hA _ (List.mem_of_getElem? (i := 1) rfl)) ev_v g1 (by omega) (by omega) (i := 7) (show (((7 : Nat)) : Int) = ((7) + 0) by omega) ev_v
  have a2 : vw C h 124 (50) = ρ 6 := vw_aA hU (hA _ (List.mem_of_getElem? (i := 2) rfl)) ev_v g1 (by omega) (by omega) (i := 50) (show (((50 : Nat)) : Int) = ((50) + 0) by omega) ev_v
  have p0 : P183 (vw C h) (ρ 5) (ρ 7) := c2 (P := P183 (vw C h)) (show P183 (vw C h) (((0) + ((1) * ρ 5 + 0))) (((0) + ((1) * ρ 7 + 0))) from hP _ (List.mem_of_getElem? (i := 0) rfl)) (by omega) (by omega)
  have p1 : (qRC 19 (tB (vw C h))) (ρ 1 + 2048 * ρ 2 + 4398046511104 * ρ 4 + 35184372088832 * ρ 5 + 4503599627370496 * ρ 6 + 562949953421312 * ρ 7) (ρ 8) := c2 (P := (qRC 19 (tB (vw C h)))) (show (qRC 19 (tB (vw C h))) (((0) + ((1) * ρ 1 + ((2048) * ρ 2 + ((4398046511104) * ρ 4 + ((35184372088832) * ρ 5 + ((4503599627370496) * ρ 6 + ((562949953421312) * ρ 7 + 0)))))))) (((0) + ((1) * ρ 8 + 0))) from hP _ (List.mem_of_getElem? (i := 1) rfl)) (by omega) (by omega)
  have hc0 := p1.1
  have hR := rc_el (n := ρ 1) (s := ρ 2) (d := (0 : Int)) (K := (0 : Int)) (R := (ρ 4 + 8 * ρ 5 + 1024 * ρ 6 + 128 * ρ 7)) p1 (by omega) (by omega) (by omega) (by omega) (by omega) (by omega) (by omega) (by omega) (by omega) (by omega)
  refine ⟨_, List.mem_cons_self, ρ, fun _ _ => rfl, fun q hq => absurd hq List.not_mem_nil, trivial, fun f hf => ?_, fun q hq => absurd hq List.not_mem_nil, fun q hq => absurd hq List.not_mem_nil, fun q hq => absurd hq List.not_mem_nil, fun q hq => ?_⟩
  · exact absurd hf List.not_mem_nil
  · simp only [List.mem_cons, List.not_mem_nil, or_false] at hq
    subst hq
    show q163 (tB (vw C h)) (((68719476736000) + ((1) * ρ 1 + ((2048) * ρ 2 + 0))))
    refine c2 (P := (fun r (_ : Int) => q163 (tB (vw C h)) r)) (c := 0) (c' := 0) (r := ρ 1 + 2048 * ρ 2 + 68719476736000) ?_ (by omega) rfl
    show q163 (tB (vw C h)) (ρ 1 + 2048 * ρ 2 + 68719476736000)
    exact o163 (n := ρ 1) (s := ρ 2) (lo := 0) (hi := 999) (by omega) (by omega) (by omega) (by omega) (by omega) (by omega) (by omega) (fn_19 hR)
/-- st19M -/
theorem lem_511_ok (hU : uqG G C) : lem_511.1.2.1 = [] ∧ lemOK (PRd G C D xs) G rgs lem_511 := by
  refine ⟨rfl, fun ρ h ha hT => ?_⟩
  obtain ⟨-, -, hF, hG, hH, hA, hP⟩ := ha
  have f0 : (0 : Int) ≤ ((0) + ((1) * ρ 1 + 0)) := hF _ (List.mem_of_getElem? (i := 0) rfl)
  have f1 : (0 : Int) ≤ ((1200) + ((-1) * ρ 1 + 0)) := hF _ (List.mem_of_getElem? (i := 1) rfl)
  have f2 : (0 : Int) ≤ ((0) + ((1) * ρ 2 + 0)) := hF _ (List.mem_of_getElem? (i := 2) rfl)
  have f3 : (0 : Int) ≤ ((0) + ((1) * ρ 1 + ((-1) * ρ 2 + 0))) := hF _ (List.mem_of_getElem? (i := 3) rfl)
  have f4 : (0 : Int) ≤ ((0) + ((1) * ρ 8 + 0)) := hF _ (List.mem_of_getElem? (i := 4) rfl)
  have f5 : (0 : Int) ≤ ((0) + ((1) * ρ 1 + ((-1) * ρ 8 + 0))) := hF _ (List.mem_of_getElem? (i := 5) rfl)
  have f6 : (0 : Int) ≤ ((0) + ((1) * ρ 9 + 0)) := hF _ (List.mem_of_getElem? (i := 6) rfl)
  have f7 : (0 : Int) ≤ ((999) + ((-1) * ρ 9 + 0)) := hF _ (List.mem_of_getElem? (i := 7) rfl)
  have f8 : (0 : Int) ≤ ((0) + ((1) * ρ 4 + 0)) := hF _ (List.mem_of_getElem? (i := 8) rfl)
  have f9 : (0 : Int) ≤ ((6) + ((-1) * ρ 4 + 0)) := hF _ (List.mem_of_getElem? (i := 9) rfl)
  have f10 : (0 : Int) ≤ ((0) + ((1) * ρ 5 + 0)) := hF _ (List.mem_of_getElem? (i := 10) rfl)
  have f11 : (0 : Int) ≤ ((8) + ((-1) * ρ 5 + 0)) := hF _ (List.mem_of_getElem? (i := 11) rfl)
  have f12 : (0 : Int) ≤ ((0) + ((1) * ρ 7 + 0)) := hF _ (List.mem_of_getElem? (i := 12) rfl)
  have f13 : (0 : Int) ≤ ((5) + ((-1) * ρ 7 + 0)) := hF _ (List.mem_of_getElem? (i := 13) rfl)
  have f14 : (0 : Int) ≤ ((0) + ((1) * ρ 6 + 0)) := hF _ (List.mem_of_getElem? (i := 14) rfl)
  have f15 : (0 : Int) ≤ ((4) + ((-1) * ρ 6 + 0)) := hF _ (List.mem_of_getElem? (i := 15) rfl)
  have g0 : G (ρ 0).toNat = 22 := by
    have q := (hG _ (List.mem_of_getElem? (i := 0) rfl)).2
    rwa [show ev ρ (0, [(0, 1)]) = ρ 0 from ev_v] at q
  have g1 : G (ρ 3).toNat = 124 := by
    have q := (hG _ (List.mem_of_getElem? (i := 1) rfl)).2
    rwa [show ev ρ (0, [(3, 1)]) = ρ 3 from ev_v] at q
  have h0 : (0 : Int) ≤ ρ 1 ∧ ρ 1 ≤ 1200 := hf_rg hT (hH _ (List.mem_of_getElem? (i := 0) rfl)) ev_v g0 rfl rfl rfl ev_v
  have h1 : (0 : Int) ≤ ρ 2 ∧ ρ 2 ≤ 1200 := hf_rg hT (hH _ (List.mem_of_getElem? (i := 1) rfl)) ev_v g0 rfl rfl rfl ev_v
  have b0 : (0 : Int) ≤ ((6) + 0) := b_aA (hA _ (List.mem_of_getElem? (i := 0) rfl))
  have b1 : (0 : Int) ≤ ((7) + 0) := b_aA (hA _ (List.mem_of_getElem? (i := 1) rfl))
  have b2 : (0 : Int) ≤ ((50) + 0) := b_aA (hA _ (List.mem_of_getElem? (i := 2) rfl))
  have a0 : vw C h 124 (6) = ρ 4 := vw_aA hU (hA _ (List.mem_of_getElem? (i := 0) rfl)) ev_v g1 (by omega) (by omega) (i := 6) (show (((6 : Nat)) : Int) = ((6) + 0) by omega) ev_v
  have a1 : vw C h 124 (7) = ρ 5 := vw_aA hU (hA _ (List.mem_of_getElem? (i := 1) rfl)) ev_v g1 (by omega) (by omega) (i := 7) (show (((7 : Nat)) : Int) = ((7) + 0) by omega) ev_v
  have a2 : vw C h 124 (50) = ρ 6 := vw_aA hU (hA _ (List.mem_of_getElem? (i := 2) rfl)) ev_v g1 (by omega) (by omega) (i := 50) (show (((50 : Nat)) : Int) = ((50) + 0) by omega) ev_v
  have p0 : P183 (vw C h) (ρ 5) (ρ 7) := c2 (P := P183 (vw C h)) (show P183 (vw C h) (((0) + ((1) * ρ 5 + 0))) (((0) + ((1) * ρ 7 + 0))) from hP _ (List.mem_of_getElem? (i := 0) rfl)) (by omega) (by omega)
  have p1 : q158 (tB (vw C h)) (ρ 1 + 2048 * ρ 2) (ρ 8) := c2 (P := q158 (tB (vw C h))) (show q158 (tB (vw C h)) (((0) + ((1) * ρ 1 + ((2048) * ρ 2 + 0)))) (((0) + ((1) * ρ 8 + 0))) from hP _ (List.mem_of_getElem? (i := 1) rfl)) (by omega) (by omega)
  have p2 : q164 (tB (vw C h)) (ρ 1 + 2048 * ρ 8) (ρ 9) := c2 (P := q164 (tB (vw C h))) (show q164 (tB (vw C h)) (((0) + ((1) * ρ 1 + ((2048) * ρ 8 + 0)))) (((0) + ((1) * ρ 9 + 0))) from hP _ (List.mem_of_getElem? (i := 2) rfl)) (by omega) (by omega)
  have p3 : (qRC 19 (tB (vw C h))) (ρ 1 + 4398046511104 * ρ 4 + 35184372088832 * ρ 5 + 4503599627370496 * ρ 6 + 562949953421312 * ρ 7 + 2048 * ρ 8) (ρ 10) := c2 (P := (qRC 19 (tB (vw C h)))) (show (qRC 19 (tB (vw C h))) (((0) + ((1) * ρ 1 + ((4398046511104) * ρ 4 + ((35184372088832) * ρ 5 + ((4503599627370496) * ρ 6 + ((562949953421312) * ρ 7 + ((2048) * ρ 8 + 0)))))))) (((0) + ((1) * ρ 10 + 0))) from hP _ (List.mem_of_getElem? (i := 3) rfl)) (by omega) (by omega)
  obtain ⟨hkd, nv⟩ := k164 (n := ρ 1) (s := ρ 8) (by omega) (by omega) (by omega) (by omega) (by omega) p2
  have nx := k158 (n := ρ 1) (s := ρ 8) (t := ρ 2) (by omega) (by omega) (by omega) (by omega) (by omega) (by omega) p1
  have ng := nx_gt (B := (tB (vw C h))) (n := (ρ 1).toNat) (s := (ρ 8).toNat) (by omega)
  have hc0 := p3.1
  have hR := rc_el (n := ρ 1) (s := ρ 8) (d := (0 : Int)) (K := (0 : Int)) (R := (ρ 4 + 8 * ρ 5 + 1024 * ρ 6 + 128 * ρ 7)) p3 (by omega) (by omega) (by omega) (by omega) (by omega) (by omega) (by omega) (by omega) (by omega) (by omega)
  have q := sn_19 hR hkd (by omega) (by omega)
  refine ⟨_, List.mem_cons_self, ρ, fun _ _ => rfl, fun q hq => absurd hq List.not_mem_nil, trivial, fun f hf => ?_, fun q hq => absurd hq List.not_mem_nil, fun q hq => absurd hq List.not_mem_nil, fun q hq => absurd hq List.not_mem_nil, fun q hq => ?_⟩
  · simp only [List.mem_cons, List.not_mem_nil, or_false] at hf
    subst hf
    show (0 : Int) ≤ ((-1) + ((1) * ρ 2 + ((-1) * ρ 8 + 0)))
    omega
  · simp only [List.mem_cons, List.not_mem_nil, or_false] at hq
    subst hq
    show (qRC 15 (tB (vw C h))) (((4398046511104) + ((1) * ρ 1 + ((2048) * ρ 2 + ((4398046511104) * ρ 4 + ((35184372088832) * ρ 5 + ((4503599627370496) * ρ 6 + ((562949953421312) * ρ 7 + 0)))))))) (((0) + ((1) * ρ 10 + 0)))
    refine c2 (P := (qRC 15 (tB (vw C h)))) (r := ρ 1 + 2048 * ρ 2 + 4398046511104 * ρ 4 + 35184372088832 * ρ 5 + 4503599627370496 * ρ 6 + 562949953421312 * ρ 7 + 4398046511104) (c := ρ 10) ?_ (by omega) (by omega)
    show (qRC 15 (tB (vw C h))) (ρ 1 + 2048 * ρ 2 + 4398046511104 * ρ 4 + 35184372088832 * ρ 5 + 4503599627370496 * ρ 6 + 562949953421312 * ρ 7 + 4398046511104) (ρ 10)
    exact rc_in (n := ρ 1) (s := ρ 2) (d := (0 : Int)) (K := (0 : Int)) (R := (ρ 4 + 8 * ρ 5 + 1024 * ρ 6 + 128 * ρ 7 + 1)) (by omega) (by omega) (by omega) (by omega) (by omega) (by omega) (by omega) (by omega) (by omega) (by omega) q (by omega) (by omega) (by omega) (by omega) (by omega)
/-- op20M -/
theorem lem_512_ok (hU : uqG G C) : lem_512.1.2.1 = [] ∧ lemOK (PRd G C D xs) G rgs lem_512 := by
  refine ⟨rfl, fun ρ h ha hT => ?_⟩
  obtain ⟨-, -, hF, hG, hH, hA, hP⟩ := ha
  have f0 : (0 : Int) ≤ ((0) + ((1) * ρ 1 + 0)) := hF _ (List.mem_of_getElem? (i := 0) rfl)
  have f1 : (0 : Int) ≤ ((1200) + ((-1) * ρ 1 + 0)) := hF _ (List.mem_of_getElem? (i := 1) rfl)
  have f2 : (0 : Int) ≤ ((0) + ((1) * ρ 2 + 0)) := hF _ (List.mem_of_getElem? (i := 2) rfl)
  have f3 : (0 : Int) ≤ ((0) + ((1) * ρ 1 + ((-1) * ρ 2 + 0))) := hF _ (List.mem_of_getElem? (i := 3) rfl)
  have f4 : (0 : Int) ≤ ((0) + ((1) * ρ 4 + 0)) := hF _ (List.mem_of_getElem? (i := 4) rfl)
  have f5 : (0 : Int) ≤ ((6) + ((-1) * ρ 4 + 0)) := hF _ (List.mem_of_getElem? (i := 5) rfl)
  have f6 : (0 : Int) ≤ ((0) + ((1) * ρ 5 + 0)) := hF _ (List.mem_of_getElem? (i := 6) rfl)
  have f7 : (0 : Int) ≤ ((8) + ((-1) * ρ 5 + 0)) := hF _ (List.mem_of_getElem? (i := 7) rfl)
  have f8 : (0 : Int) ≤ ((0) + ((1) * ρ 7 + 0)) := hF _ (List.mem_of_getElem? (i := 8) rfl)
  have f9 : (0 : Int) ≤ ((5) + ((-1) * ρ 7 + 0)) := hF _ (List.mem_of_getElem? (i := 9) rfl)
  have f10 : (0 : Int) ≤ ((0) + ((1) * ρ 6 + 0)) := hF _ (List.mem_of_getElem? (i := 10) rfl)
  have f11 : (0 : Int) ≤ ((4) + ((-1) * ρ 6 + 0)) := hF _ (List.mem_of_getElem? (i := 11) rfl)
  have g0 : G (ρ 0).toNat = 22 := by
    have q := (hG _ (List.mem_of_getElem? (i := 0) rfl)).2
    rwa [show ev ρ (0, [(0, 1)]) = ρ 0 from ev_v] at q
  have g1 : G (ρ 3).toNat = 124 := by
    have q := (hG _ (List.mem_of_getElem? (i := 1) rfl)).2
    rwa [show ev ρ (0, [(3, 1)]) = ρ 3 from ev_v] at q
  have h0 : (0 : Int) ≤ ρ 1 ∧ ρ 1 ≤ 1200 := hf_rg hT (hH _ (List.mem_of_getElem? (i := 0) rfl)) ev_v g0 rfl rfl rfl ev_v
  have h1 : (0 : Int) ≤ ρ 2 ∧ ρ 2 ≤ 1200 := hf_rg hT (hH _ (List.mem_of_getElem? (i := 1) rfl)) ev_v g0 rfl rfl rfl ev_v
  have b0 : (0 : Int) ≤ ((6) + 0) := b_aA (hA _ (List.mem_of_getElem? (i := 0) rfl))
  have b1 : (0 : Int) ≤ ((7) + 0) := b_aA (hA _ (List.mem_of_getElem? (i := 1) rfl))
  have b2 : (0 : Int) ≤ ((50) + 0) := b_aA (hA _ (List.mem_of_getElem? (i := 2) rfl))
  have a0 : vw C h 124 (6) = ρ 4 := vw_aA hU (hA _ (List.mem_of_getElem? (i := 0) rfl)) ev_v g1 (by omega) (by omega) (i := 6) (show (((6 : Nat)) : Int) = ((6) + 0) by omega) ev_v
  have a1 : vw C h 124 (7) = ρ 5 := vw_aA hU (hA _ (List.mem_of_getElem? (i := 1) rfl)) ev_v g1 (by omega) (by omega) (i := 7) (show (((7 : Nat)) : Int) = ((7) + 0) by omega) ev_v
  have a2 : vw C h 124 (50) = ρ 6 := vw_aA hU (hA _ (List.mem_of_getElem? (i := 2) rfl)) ev_v g1 (by omega) (by omega) (i := 50) (show (((50 : Nat)) : Int) = ((50) + 0) by omega) ev_v
  have p0 : P183 (vw C h) (ρ 5) (ρ 7) := c2 (P := P183 (vw C h)) (show P183 (vw C h) (((0) + ((1) * ρ 5 + 0))) (((0) + ((1) * ρ 7 + 0))) from hP _ (List.mem_of_getElem? (i := 0) rfl)) (by omega) (by omega)
  have p1 : (qRC 20 (tB (vw C h))) (ρ 1 + 2048 * ρ 2 + 4398046511104 * ρ 4 + 35184372088832 * ρ 5 + 4503599627370496 * ρ 6 + 562949953421312 * ρ 7) (ρ 8) := c2 (P := (qRC 20 (tB (vw C h)))) (show (qRC 20 (tB (vw C h))) (((0) + ((1) * ρ 1 + ((2048) * ρ 2 + ((4398046511104) * ρ 4 + ((35184372088832) * ρ 5 + ((4503599627370496) * ρ 6 + ((562949953421312) * ρ 7 + 0)))))))) (((0) + ((1) * ρ 8 + 0))) from hP _ (List.mem_of_getElem? (i := 1) rfl)) (by omega) (by omega)
  have hc0 := p1.1
  have hR := rc_el (n := ρ 1) (s := ρ 2) (d := (0 : Int)) (K := (0 : Int)) (R := (ρ 4 + 8 * ρ 5 + 1024 * ρ 6 + 128 * ρ 7)) p1 (by omega) (by omega) (by omega) (by omega) (by omega) (by omega) (by omega) (by omega) (by omega) (by omega)
  refine ⟨_, List.mem_cons_self, ρ, fun _ _ => rfl, fun q hq => absurd hq List.not_mem_nil, trivial, fun f hf => ?_, fun q hq => absurd hq List.not_mem_nil, fun q hq => absurd hq List.not_mem_nil, fun q hq => absurd hq List.not_mem_nil, fun q hq => ?_⟩
  · exact absurd hf List.not_mem_nil
  · simp only [List.mem_cons, List.not_mem_nil, or_false] at hq
    subst hq
    show q163 (tB (vw C h)) (((6871947673600) + ((1) * ρ 1 + ((2048) * ρ 2 + 0))))
    refine c2 (P := (fun r (_ : Int) => q163 (tB (vw C h)) r)) (c := 0) (c' := 0) (r := ρ 1 + 2048 * ρ 2 + 6871947673600) ?_ (by omega) rfl
    show q163 (tB (vw C h)) (ρ 1 + 2048 * ρ 2 + 6871947673600)
    exact o163 (n := ρ 1) (s := ρ 2) (lo := 0) (hi := 99) (by omega) (by omega) (by omega) (by omega) (by omega) (by omega) (by omega) (fn_20 hR)
/-- st20M -/
theorem lem_513_ok (hU : uqG G C) : lem_513.1.2.1 = [] ∧ lemOK (PRd G C D xs) G rgs lem_513 := by
  refine ⟨rfl, fun ρ h ha hT => ?_⟩
  obtain ⟨-, -, hF, hG, hH, hA, hP⟩ := ha
  have f0 : (0 : Int) ≤ ((0) + ((1) * ρ 1 + 0)) := hF _ (List.mem_of_getElem? (i := 0) rfl)
  have f1 : (0 : Int) ≤ ((1200) + ((-1) * ρ 1 + 0)) := hF _ (List.mem_of_getElem? (i := 1) rfl)
  have f2 : (0 : Int) ≤ ((0) + ((1) * ρ 2 + 0)) := hF _ (List.mem_of_getElem? (i := 2) rfl)
  have f3 : (0 : Int) ≤ ((0) + ((1) * ρ 1 + ((-1) * ρ 2 + 0))) := hF _ (List.mem_of_getElem? (i := 3) rfl)
  have f4 : (0 : Int) ≤ ((0) + ((1) * ρ 8 + 0)) := hF _ (List.mem_of_getElem? (i := 4) rfl)
  have f5 : (0 : Int) ≤ ((0) + ((1) * ρ 1 + ((-1) * ρ 8 + 0))) := hF _ (List.mem_of_getElem? (i := 5) rfl)
  have f6 : (0 : Int) ≤ ((0) + ((1) * ρ 9 + 0)) := hF _ (List.mem_of_getElem? (i := 6) rfl)
  have f7 : (0 : Int) ≤ ((99) + ((-1) * ρ 9 + 0)) := hF _ (List.mem_of_getElem? (i := 7) rfl)
  have f8 : (0 : Int) ≤ ((0) + ((1) * ρ 4 + 0)) := hF _ (List.mem_of_getElem? (i := 8) rfl)
  have f9 : (0 : Int) ≤ ((6) + ((-1) * ρ 4 + 0)) := hF _ (List.mem_of_getElem? (i := 9) rfl)
  have f10 : (0 : Int) ≤ ((0) + ((1) * ρ 5 + 0)) := hF _ (List.mem_of_getElem? (i := 10) rfl)
  have f11 : (0 : Int) ≤ ((8) + ((-1) * ρ 5 + 0)) := hF _ (List.mem_of_getElem? (i := 11) rfl)
  have f12 : (0 : Int) ≤ ((0) + ((1) * ρ 7 + 0)) := hF _ (List.mem_of_getElem? (i := 12) rfl)
  have f13 : (0 : Int) ≤ ((5) + ((-1) * ρ 7 + 0)) := hF _ (List.mem_of_getElem? (i := 13) rfl)
  have f14 : (0 : Int) ≤ ((0) + ((1) * ρ 6 + 0)) := hF _ (List.mem_of_getElem? (i := 14) rfl)
  have f15 : (0 : Int) ≤ ((4) + ((-1) * ρ 6 + 0)) := hF _ (List.mem_of_getElem? (i := 15) rfl)
  have g0 : G (ρ 0).toNat = 22 := by
    have q := (hG _ (List.mem_of_getElem? (i := 0) rfl)).2
    rwa [show ev ρ (0, [(0, 1)]) = ρ 0 from ev_v] at q
  have g1 : G (ρ 3).toNat = 124 := by
    have q := (hG _ (List.mem_of_getElem? (i := 1) rfl)).2
    rwa [show ev ρ (0, [(3, 1)]) = ρ 3 from ev_v] at q
  have h0 : (0 : Int) ≤ ρ 1 ∧ ρ 1 ≤ 1200 := hf_rg hT (hH _ (List.mem_of_getElem? (i := 0) rfl)) ev_v g0 rfl rfl rfl ev_v
  have h1 : (0 : Int) ≤ ρ 2 ∧ ρ 2 ≤ 1200 := hf_rg hT (hH _ (List.mem_of_getElem? (i := 1) rfl)) ev_v g0 rfl rfl rfl ev_v
  have b0 : (0 : Int) ≤ ((6) + 0) := b_aA (hA _ (List.mem_of_getElem? (i := 0) rfl))
  have b1 : (0 : Int) ≤ ((7) + 0) := b_aA (hA _ (List.mem_of_getElem? (i := 1) rfl))
  have b2 : (0 : Int) ≤ ((50) + 0) := b_aA (hA _ (List.mem_of_getElem? (i := 2) rfl))
  have a0 : vw C h 124 (6) = ρ 4 := vw_aA hU (hA _ (List.mem_of_getElem? (i := 0) rfl)) ev_v g1 (by omega) (by omega) (i := 6) (show (((6 : Nat)) : Int) = ((6) + 0) by omega) ev_v
  have a1 : vw C h 124 (7) = ρ 5 := vw_aA hU (hA _ (List.mem_of_getElem? (i := 1) rfl)) ev_v g1 (by omega) (by omega) (i := 7) (show (((7 : Nat)) : Int) = ((7) + 0) by omega) ev_v
  have a2 : vw C h 124 (50) = ρ 6 := vw_aA hU (hA _ (List.mem_of_getElem? (i := 2) rfl)) ev_v g1 (by omega) (by omega) (i := 50) (show (((50 : Nat)) : Int) = ((50) + 0) by omega) ev_v
  have p0 : P183 (vw C h) (ρ 5) (ρ 7) := c2 (P := P183 (vw C h)) (show P183 (vw C h) (((0) + ((1) * ρ 5 + 0))) (((0) + ((1) * ρ 7 + 0))) from hP _ (List.mem_of_getElem? (i := 0) rfl)) (by omega) (by omega)
  have p1 : q158 (tB (vw C h)) (ρ 1 + 2048 * ρ 2) (ρ 8) := c2 (P := q158 (tB (vw C h))) (show q158 (tB (vw C h)) (((0) + ((1) * ρ 1 + ((2048) * ρ 2 + 0)))) (((0) + ((1) * ρ 8 + 0))) from hP _ (List.mem_of_getElem? (i := 1) rfl)) (by omega) (by omega)
  have p2 : q164 (tB (vw C h)) (ρ 1 + 2048 * ρ 8) (ρ 9) := c2 (P := q164 (tB (vw C h))) (show q164 (tB (vw C h)) (((0) + ((1) * ρ 1 + ((2048) * ρ 8 + 0)))) (((0) + ((1) * ρ 9 + 0))) from hP _ (List.mem_of_getElem? (i := 2) rfl)) (by omega) (by omega)
  have p3 : (qRC 20 (tB (vw C h))) (ρ 1 + 4398046511104 * ρ 4 + 35184372088832 * ρ 5 + 4503599627370496 * ρ 6 + 562949953421312 * ρ 7 + 2048 * ρ 8) (ρ 10) := c2 (P := (qRC 20 (tB (vw C h)))) (show (qRC 20 (tB (vw C h))) (((0) + ((1) * ρ 1 + ((4398046511104) * ρ 4 + ((35184372088832) * ρ 5 + ((4503599627370496) * ρ 6 + ((562949953421312) * ρ 7 + ((2048) * ρ 8 + 0)))))))) (((0) + ((1) * ρ 10 + 0))) from hP _ (List.mem_of_getElem? (i := 3) rfl)) (by omega) (by omega)
  obtain ⟨hkd, nv⟩ := k164 (n := ρ 1) (s := ρ 8) (by omega) (by omega) (by omega) (by omega) (by omega) p2
  have nx := k158 (n := ρ 1) (s := ρ 8) (t := ρ 2) (by omega) (by omega) (by omega) (by omega) (by omega) (by omega) p1
  have ng := nx_gt (B := (tB (vw C h))) (n := (ρ 1).toNat) (s := (ρ 8).toNat) (by omega)
  have hc0 := p3.1
  have hR := rc_el (n := ρ 1) (s := ρ 8) (d := (0 : Int)) (K := (0 : Int)) (R := (ρ 4 + 8 * ρ 5 + 1024 * ρ 6 + 128 * ρ 7)) p3 (by omega) (by omega) (by omega) (by omega) (by omega) (by omega) (by omega) (by omega) (by omega) (by omega)
  have q := sn_20 hR hkd (by omega) (by omega)
  refine ⟨_, List.mem_cons_self, ρ, fun _ _ => rfl, fun q hq => absurd hq List.not_mem_nil, trivial, fun f hf => ?_, fun q hq => absurd hq List.not_mem_nil, fun q hq => absurd hq List.not_mem_nil, fun q hq => absurd hq List.not_mem_nil, fun q hq => ?_⟩
  · simp only [List.mem_cons, List.not_mem_nil, or_false] at hf
    subst hf
    show (0 : Int) ≤ ((-1) + ((1) * ρ 2 + ((-1) * ρ 8 + 0)))
    omega
  · simp only [List.mem_cons, List.not_mem_nil, or_false] at hq
    subst hq
    show (qRC 21 (tB (vw C h))) (((0) + ((1) * ρ 1 + ((2048) * ρ 2 + ((4398046511104) * ρ 4 + ((35184372088832) * ρ 5 + ((4503599627370496) * ρ 6 + ((562949953421312) * ρ 7 + 0)))))))) (((0) + ((1) * ρ 10 + 0)))
    refine c2 (P := (qRC 21 (tB (vw C h)))) (r := ρ 1 + 2048 * ρ 2 + 4398046511104 * ρ 4 + 35184372088832 * ρ 5 + 4503599627370496 * ρ 6 + 562949953421312 * ρ 7) (c := ρ 10) ?_ (by omega) (by omega)
    show (qRC 21 (tB (vw C h))) (ρ 1 + 2048 * ρ 2 + 4398046511104 * ρ 4 + 35184372088832 * ρ 5 + 4503599627370496 * ρ 6 + 562949953421312 * ρ 7) (ρ 10)
    exact rc_in (n := ρ 1) (s := ρ 2) (d := (0 : Int)) (K := (0 : Int)) (R := (ρ 4 + 8 * ρ 5 + 1024 * ρ 6 + 128 * ρ 7)) (by omega) (by omega) (by omega) (by omega) (by omega) (by omega) (by omega) (by omega) (by omega) (by omega) q (by omega) (by omega) (by omega) (by omega) (by omega)
/-- op21M -/
theorem lem_514_ok (hU : uqG G C) : lem_514.1.2.1 = [] ∧ lemOK (PRd G C D xs) G rgs lem_514 := by
  refine ⟨rfl, fun ρ h ha hT => ?_⟩
  obtain ⟨-, -, hF, hG, hH, hA, hP⟩ := ha
  have f0 : (0 : Int) ≤ ((0) + ((1) * ρ 1 + 0)) := hF _ (List.mem_of_getElem? (i := 0) rfl)
  have f1 : (0 : Int) ≤ ((1200) + ((-1) * ρ 1 + 0)) := hF _ (List.mem_of_getElem? (i := 1) rfl)
  have f2 : (0 : Int) ≤ ((0) + ((1) * ρ 2 + 0)) := hF _ (List.mem_of_getElem? (i := 2) rfl)
  have f3 : (0 : Int) ≤ ((0) + ((1) * ρ 1 + ((-1) * ρ 2 + 0))) := hF _ (List.mem_of_getElem? (i := 3) rfl)
  have f4 : (0 : Int) ≤ ((0) + ((1) * ρ 4 + 0)) := hF _ (List.mem_of_getElem? (i := 4) rfl)
  have f5 : (0 : Int) ≤ ((6) + ((-1) * ρ 4 + 0)) := hF _ (List.mem_of_getElem? (i := 5) rfl)
  have f6 : (0 : Int) ≤ ((0) + ((1) * ρ 5 + 0)) := hF _ (List.mem_of_getElem? (i := 6) rfl)
  have f7 : (0 : Int) ≤ ((8) + ((-1) * ρ 5 + 0)) := hF _ (List.mem_of_getElem? (i := 7) rfl)
  have f8 : (0 : Int) ≤ ((0) + ((1) * ρ 7 + 0)) := hF _ (List.mem_of_getElem? (i := 8) rfl)
  have f9 : (0 : Int) ≤ ((5) + ((-1) * ρ 7 + 0)) := hF _ (List.mem_of_getElem? (i := 9) rfl)
  have f10 : (0 : Int) ≤ ((0) + ((1) * ρ 6 + 0)) := hF _ (List.mem_of_getElem? (i := 10) rfl)
  have f11 : (0 : Int) ≤ ((4) + ((-1) * ρ 6 + 0)) := hF _ (List.mem_of_getElem? (i := 11) rfl)
  have g0 : G (ρ 0).toNat = 22 := by
    have q := (hG _ (List.mem_of_getElem? (i := 0) rfl)).2
    rwa [show ev ρ (0, [(0, 1)]) = ρ 0 from ev_v] at q
  have g1 : G (ρ 3).toNat = 124 := by
    have q := (hG _ (List.mem_of_getElem? (i := 1) rfl)).2
    rwa [show ev ρ (0, [(3, 1)]) = ρ 3 from ev_v] at q
  have h0 : (0 : Int) ≤ ρ 1 ∧ ρ 1 ≤ 1200 := hf_rg hT (hH _ (List.mem_of_getElem? (i := 0) rfl)) ev_v g0 rfl rfl rfl ev_v
  have h1 : (0 : Int) ≤ ρ 2 ∧ ρ 2 ≤ 1200 := hf_rg hT (hH _ (List.mem_of_getElem? (i := 1) rfl)) ev_v g0 rfl rfl rfl ev_v
  have b0 : (0 : Int) ≤ ((6) + 0) := b_aA (hA _ (List.mem_of_getElem? (i := 0) rfl))
  have b1 : (0 : Int) ≤ ((7) + 0) := b_aA (hA _ (List.mem_of_getElem? (i := 1) rfl))
  have b2 : (0 : Int) ≤ ((50) + 0) := b_aA (hA _ (List.mem_of_getElem? (i := 2) rfl))
  have a0 : vw C h 124 (6) = ρ 4 := vw_aA hU (hA _ (List.mem_of_getElem? (i := 0) rfl)) ev_v g1 (by omega) (by omega) (i := 6) (show (((6 : Nat)) : Int) = ((6) + 0) by omega) ev_v
  have a1 : vw C h 124 (7) = ρ 5 := vw_aA hU (hA _ (List.mem_of_getElem? (i := 1) rfl)) ev_v g1 (by omega) (by omega) (i := 7) (show (((7 : Nat)) : Int) = ((7) + 0) by omega) ev_v
  have a2 : vw C h 124 (50) = ρ 6 := vw_aA hU (hA _ (List.mem_of_getElem? (i := 2) rfl)) ev_v g1 (by omega) (by omega) (i := 50) (show (((50 : Nat)) : Int) = ((50) + 0) by omega) ev_v
  have p0 : P183 (vw C h) (ρ 5) (ρ 7) := c2 (P := P183 (vw C h)) (show P183 (vw C h) (((0) + ((1) * ρ 5 + 0))) (((0) + ((1) * ρ 7 + 0))) from hP _ (List.mem_of_getElem? (i := 0) rfl)) (by omega) (by omega)
  have p1 : (qRC 21 (tB (vw C h))) (ρ 1 + 2048 * ρ 2 + 4398046511104 * ρ 4 + 35184372088832 * ρ 5 + 4503599627370496 * ρ 6 + 562949953421312 * ρ 7) (ρ 8) := c2 (P := (qRC 21 (tB (vw C h)))) (show (qRC 21 (tB (vw C h))) (((0) + ((1) * ρ 1 + ((2048) * ρ 2 + ((4398046511104) * ρ 4 + ((35184372088832) * ρ 5 + ((4503599627370496) * ρ 6 + ((562949953421312) * ρ 7 + 0)))))))) (((0) + ((1) * ρ 8 + 0))) from hP _ (List.mem_of_getElem? (i := 1) rfl)) (by omega) (by omega)
  have hc0 := p1.1
  have hR := rc_el (n := ρ 1) (s := ρ 2) (d := (0 : Int)) (K := (0 : Int)) (R := (ρ 4 + 8 * ρ 5 + 1024 * ρ 6 + 128 * ρ 7)) p1 (by omega) (by omega) (by omega) (by omega) (by omega) (by omega) (by omega) (by omega) (by omega) (by omega)
  refine ⟨_, List.mem_cons_self, ρ, fun _ _ => rfl, fun q hq => absurd hq List.not_mem_nil, trivial, fun f hf => ?_, fun q hq => absurd hq List.not_mem_nil, fun q hq => absurd hq List.not_mem_nil, fun q hq => absurd hq List.not_mem_nil, fun q hq => ?_⟩
  · exact absurd hf List.not_mem_nil
  · simp only [List.mem_cons, List.not_mem_nil, or_false] at hq
    subst hq
    show q163 (tB (vw C h)) (((6871947673600) + ((1) * ρ 1 + ((2048) * ρ 2 + 0))))
    refine c2 (P := (fun r (_ : Int) => q163 (tB (vw C h)) r)) (c := 0) (c' := 0) (r := ρ 1 + 2048 * ρ 2 + 6871947673600) ?_ (by omega) rfl
    show q163 (tB (vw C h)) (ρ 1 + 2048 * ρ 2 + 6871947673600)
    exact o163 (n := ρ 1) (s := ρ 2) (lo := 0) (hi := 99) (by omega) (by omega) (by omega) (by omega) (by omega) (by omega) (by omega) (fn_21 hR)
/-- st21M -/
theorem lem_515_ok (hU : uqG G C) : lem_515.1.2.1 = [] ∧ lemOK (PRd G C D xs) G rgs lem_515 := by
  refine ⟨rfl, fun ρ h ha hT => ?_⟩
  obtain ⟨-, -, hF, hG, hH, hA, hP⟩ := ha
  have f0 : (0 : Int) ≤ ((0) + ((1) * ρ 1 + 0)) := hF _ (List.mem_of_getElem? (i := 0) rfl)
  have f1 : (0 : Int) ≤ ((1200) + ((-1) * ρ 1 + 0)) := hF _ (List.mem_of_getElem? (i := 1) rfl)
  have f2 : (0 : Int) ≤ ((0) + ((1) * ρ 2 + 0)) := hF _ (List.mem_of_getElem? (i := 2) rfl)
  have f3 : (0 : Int) ≤ ((0) + ((1) * ρ 1 + ((-1) * ρ 2 + 0))) := hF _ (List.mem_of_getElem? (i := 3) rfl)
  have f4 : (0 : Int) ≤ ((0) + ((1) * ρ 8 + 0)) := hF _ (List.mem_of_getElem? (i := 4) rfl)
  have f5 : (0 : Int) ≤ ((0) + ((1) * ρ 1 + ((-1) * ρ 8 + 0))) := hF _ (List.mem_of_getElem? (i := 5) rfl)
  have f6 : (0 : Int) ≤ ((0) + ((1) * ρ 9 + 0)) := hF _ (List.mem_of_getElem? (i := 6) rfl)
  have f7 : (0 : Int) ≤ ((99) + ((-1) * ρ 9 + 0)) := hF _ (List.mem_of_getElem? (i := 7) rfl)
  have f8 : (0 : Int) ≤ ((0) + ((1) * ρ 4 + 0)) := hF _ (List.mem_of_getElem? (i := 8) rfl)
  have f9 : (0 : Int) ≤ ((6) + ((-1) * ρ 4 + 0)) := hF _ (List.mem_of_getElem? (i := 9) rfl)
  have f10 : (0 : Int) ≤ ((0) + ((1) * ρ 5 + 0)) := hF _ (List.mem_of_getElem? (i := 10) rfl)
  have f11 : (0 : Int) ≤ ((8) + ((-1) * ρ 5 + 0)) := hF _ (List.mem_of_getElem? (i := 11) rfl)
  have f12 : (0 : Int) ≤ ((0) + ((1) * ρ 7 + 0)) := hF _ (List.mem_of_getElem? (i := 12) rfl)
  have f13 : (0 : Int) ≤ ((5) + ((-1) * ρ 7 + 0)) := hF _ (List.mem_of_getElem? (i := 13) rfl)
  have f14 : (0 : Int) ≤ ((0) + ((1) * ρ 6 + 0)) := hF _ (List.mem_of_getElem? (i := 14) rfl)
  have f15 : (0 : Int) ≤ ((4) + ((-1) * ρ 6 + 0)) := hF _ (List.mem_of_getElem? (i := 15) rfl)
  have g0 : G (ρ 0).toNat = 22 := by
    have q := (hG _ (List.mem_of_getElem? (i := 0) rfl)).2
    rwa [show ev ρ (0, [(0, 1)]) = ρ 0 from ev_v] at q
  have g1 : G (ρ 3).toNat = 124 := by
    have q := (hG _ (List.mem_of_getElem? (i := 1) rfl)).2
    rwa [show ev ρ (0, [(3, 1)]) = ρ 3 from ev_v] at q
  have h0 : (0 : Int) ≤ ρ 1 ∧ ρ 1 ≤ 1200 := hf_rg hT (hH _ (List.mem_of_getElem? (i := 0) rfl)) ev_v g0 rfl rfl rfl ev_v
  have h1 : (0 : Int) ≤ ρ 2 ∧ ρ 2 ≤ 1200 := hf_rg hT (hH _ (List.mem_of_getElem? (i := 1) rfl)) ev_v g0 rfl rfl rfl ev_v
  have b0 : (0 : Int) ≤ ((6) + 0) := b_aA (hA _ (List.mem_of_getElem? (i := 0) rfl))
  have b1 : (0 : Int) ≤ ((7) + 0) := b_aA (hA _ (List.mem_of_getElem? (i := 1) rfl))
  have b2 : (0 : Int) ≤ ((50) + 0) := b_aA (hA _ (List.mem_of_getElem? (i := 2) rfl))
  have a0 : vw C h 124 (6) = ρ 4 := vw_aA hU (hA _ (List.mem_of_getElem? (i := 0) rfl)) ev_v g1 (by omega) (by omega) (i := 6) (show (((6 : Nat)) : Int) = ((6) + 0) by omega) ev_v
  have a1 : vw C h 124 (7) = ρ 5 := vw_aA hU (hA _ (List.mem_of_getElem? (i := 1) rfl)) ev_v g1 (by omega) (by omega) (i := 7) (show (((7 : Nat)) : Int) = ((7) + 0) by omega) ev_v
  have a2 : vw C h 124 (50) = ρ 6 := vw_aA hU (hA _ (List.mem_of_getElem? (i := 2) rfl)) ev_v g1 (by omega) (by omega) (i := 50) (show (((50 : Nat)) : Int) = ((50) + 0) by omega) ev_v
  have p0 : P183 (vw C h) (ρ 5) (ρ 7) := c2 (P := P183 (vw C h)) (show P183 (vw C h) (((0) + ((1) * ρ 5 + 0))) (((0) + ((1) * ρ 7 + 0))) from hP _ (List.mem_of_getElem? (i := 0) rfl)) (by omega) (by omega)
  have p1 : q158 (tB (vw C h)) (ρ 1 + 2048 * ρ 2) (ρ 8) := c2 (P := q158 (tB (vw C h))) (show q158 (tB (vw C h)) (((0) + ((1) * ρ 1 + ((2048) * ρ 2 + 0)))) (((0) + ((1) * ρ 8 + 0))) from hP _ (List.mem_of_getElem? (i := 1) rfl)) (by omega) (by omega)
  have p2 : q164 (tB (vw C h)) (ρ 1 + 2048 * ρ 8) (ρ 9) := c2 (P := q164 (tB (vw C h))) (show q164 (tB (vw C h)) (((0) + ((1) * ρ 1 + ((2048) * ρ 8 + 0)))) (((0) + ((1) * ρ 9 + 0))) from hP _ (List.mem_of_getElem? (i := 2) rfl)) (by omega) (by omega)
  have p3 : (qRC 21 (tB (vw C h))) (ρ 1 + 4398046511104 * ρ 4 + 35184372088832 * ρ 5 + 4503599627370496 * ρ 6 + 562949953421312 * ρ 7 + 2048 * ρ 8) (ρ 10) := c2 (P := (qRC 21 (tB (vw C h)))) (show (qRC 21 (tB (vw C h))) (((0) + ((1) * ρ 1 + ((4398046511104) * ρ 4 + ((35184372088832) * ρ 5 + ((4503599627370496) * ρ 6 + ((562949953421312) * ρ 7 + ((2048) * ρ 8 + 0)))))))) (((0) + ((1) * ρ 10 + 0))) from hP _ (List.mem_of_getElem? (i := 3) rfl)) (by omega) (by omega)
  obtain ⟨hkd, nv⟩ := k164 (n := ρ 1) (s := ρ 8) (by omega) (by omega) (by omega) (by omega) (by omega) p2
  have nx := k158 (n := ρ 1) (s := ρ 8) (t := ρ 2) (by omega) (by omega) (by omega) (by omega) (by omega) (by omega) p1
  have ng := nx_gt (B := (tB (vw C h))) (n := (ρ 1).toNat) (s := (ρ 8).toNat) (by omega)
  have hc0 := p3.1
  have hR := rc_el (n := ρ 1) (s := ρ 8) (d := (0 : Int)) (K := (0 : Int)) (R := (ρ 4 + 8 * ρ 5 + 1024 * ρ 6 + 128 * ρ 7)) p3 (by omega) (by omega) (by omega) (by omega) (by omega) (by omega) (by omega) (by omega) (by omega) (by omega)
  have q := sn_21 hR hkd (by omega) (by omega)
  refine ⟨_, List.mem_cons_self, ρ, fun _ _ => rfl, fun q hq => absurd hq List.not_mem_nil, trivial, fun f hf => ?_, fun q hq => absurd hq List.not_mem_nil, fun q hq => absurd hq List.not_mem_nil, fun q hq => absurd hq List.not_mem_nil, fun q hq => ?_⟩
  · simp only [List.mem_cons, List.not_mem_nil, or_false] at hf
    subst hf
    show (0 : Int) ≤ ((-1) + ((1) * ρ 2 + ((-1) * ρ 8 + 0)))
    omega
  · simp only [List.mem_cons, List.not_mem_nil, or_false] at hq
    subst hq
    show (qRC 22 (tB (vw C h))) (((35184372088832) + ((1) * ρ 1 + ((2048) * ρ 2 + ((4398046511104) * ρ 4 + ((35184372088832) * ρ 5 + ((4503599627370496) * ρ 6 + 0))))))) (((0) + ((1) * ρ 10 + 0)))
    refine c2 (P := (qRC 22 (tB (vw C h)))) (r := ρ 1 + 2048 * ρ 2 + 4398046511104 * ρ 4 + 35184372088832 * ρ 5 + 4503599627370496 * ρ 6 + 35184372088832) (c := ρ 10) ?_ (by omega) (by omega)
    show (qRC 22 (tB (vw C h))) (ρ 1 + 2048 * ρ 2 + 4398046511104 * ρ 4 + 35184372088832 * ρ 5 + 4503599627370496 * ρ 6 + 35184372088832) (ρ 10)
    exact rc_in (n := ρ 1) (s := ρ 2) (d := (0 : Int)) (K := (0 : Int)) (R := (ρ 4 + 8 * ρ 5 + 1024 * ρ 6 + 8)) (by omega) (by omega) (by omega) (by omega) (by omega) (by omega) (by omega) (by omega) (by omega) (by omega) q (by omega) (by omega) (by omega) (by omega) (by omega)
/-- op23M -/
theorem lem_516_ok (hU : uqG G C) : lem_516.1.2.1 = [] ∧ lemOK (PRd G C D xs) G rgs lem_516 := by
  refine ⟨rfl, fun ρ h ha hT => ?_⟩
  obtain ⟨-, -, hF, hG, hH, hA, hP⟩ := ha
  have f0 : (0 : Int) ≤ ((0) + ((1) * ρ 1 + 0)) := hF _ (List.mem_of_getElem? (i := 0) rfl)
  have f1 : (0 : Int) ≤ ((1200) + ((-1) * ρ 1 + 0)) := hF _ (List.mem_of_getElem? (i := 1) rfl)
  have f2 : (0 : Int) ≤ ((0) + ((1) * ρ 2 + 0)) := hF _ (List.mem_of_getElem? (i := 2) rfl)
  have f3 : (0 : Int) ≤ ((0) + ((1) * ρ 1 + ((-1) * ρ 2 + 0))) := hF _ (List.mem_of_getElem? (i := 3) rfl)
  have f4 : (0 : Int) ≤ ((0) + ((1) * ρ 4 + 0)) := hF _ (List.mem_of_getElem? (i := 4) rfl)
  have f5 : (0 : Int) ≤ ((6) + ((-1) * ρ 4 + 0)) := hF _ (List.mem_of_getElem? (i := 5) rfl)
  have f6 : (0 : Int) ≤ ((0) + ((1) * ρ 5 + 0)) := hF _ (List.mem_of_getElem? (i := 6) rfl)
  have f7 : (0 : Int) ≤ ((8) + ((-1) * ρ 5 + 0)) := hF _ (List.mem_of_getElem? (i := 7) rfl)
  have f8 : (0 : Int) ≤ ((0) + ((1) * ρ 7 + 0)) := hF _ (List.mem_of_getElem? (i := 8) rfl)
  have f9 : (0 : Int) ≤ ((5) + ((-1) * ρ 7 + 0)) := hF _ (List.mem_of_getElem? (i := 9) rfl)
  have f10 : (0 : Int) ≤ ((0) + ((1) * ρ 6 + 0)) := hF _ (List.mem_of_getElem? (i := 10) rfl)
  have f11 : (0 : Int) ≤ ((4) + ((-1) * ρ 6 + 0)) := hF _ (List.mem_of_getElem? (i := 11) rfl)
  have g0 : G (ρ 0).toNat = 22 := by
    have q := (hG _ (List.mem_of_getElem? (i := 0) rfl)).2
    rwa [show ev ρ (0, [(0, 1)]) = ρ 0 from ev_v] at q
  have g1 : G (ρ 3).toNat = 124 := by
    have q := (hG _ (List.mem_of_getElem? (i := 1) rfl)).2
    rwa [show ev ρ (0, [(3, 1)]) = ρ 3 from ev_v] at q
  have h0 : (0 : Int) ≤ ρ 1 ∧ ρ 1 ≤ 1200 := hf_rg hT (hH _ (List.mem_of_getElem? (i := 0) rfl)) ev_v g0 rfl rfl rfl ev_v
  have h1 : (0 : Int) ≤ ρ 2 ∧ ρ 2 ≤ 1200 := hf_rg hT (hH _ (List.mem_of_getElem? (i := 1) rfl)) ev_v g0 rfl rfl rfl ev_v
  have b0 : (0 : Int) ≤ ((6) + 0) := b_aA (hA _ (List.mem_of_getElem? (i := 0) rfl))
  have b1 : (0 : Int) ≤ ((7) + 0) := b_aA (hA _ (List.mem_of_getElem? (i := 1) rfl))
  have b2 : (0 : Int) ≤ ((50) + 0) := b_aA (hA _ (List.mem_of_getElem? (i := 2) rfl))
  have a0 : vw C h 124 (6) = ρ 4 := vw_aA hU (hA _ (List.mem_of_getElem? (i := 0) rfl)) ev_v g1 (by omega) (by omega) (i := 6) (show (((6 : Nat)) : Int) = ((6) + 0) by omega) ev_v
  have a1 : vw C h 124 (7) = ρ 5 := vw_aA hU (hA _ (List.mem_of_getElem? (i := 1) rfl)) ev_v g1 (by omega) (by omega) (i := 7) (show (((7 : Nat)) : Int) = ((7) + 0) by omega) ev_v
  have a2 : vw C h 124 (50) = ρ 6 := vw_aA hU (hA _ (List.mem_of_getElem? (i := 2) rfl)) ev_v g1 (by omega) (by omega) (i := 50) (show (((50 : Nat)) : Int) = ((50) + 0) by omega) ev_v
  have p0 : P183 (vw C h) (ρ 5) (ρ 7) := c2 (P := P183 (vw C h)) (show P183 (vw C h) (((0) + ((1) * ρ 5 + 0))) (((0) + ((1) * ρ 7 + 0))) from hP _ (List.mem_of_getElem? (i := 0) rfl)) (by omega) (by omega)
  have p1 : (qRC 23 (tB (vw C h))) (ρ 1 + 2048 * ρ 2 + 4398046511104 * ρ 4 + 35184372088832 * ρ 5 + 4503599627370496 * ρ 6 + 35184372088832) (ρ 8) := c2 (P := (qRC 23 (tB (vw C h)))) (show (qRC 23 (tB (vw C h))) (((35184372088832) + ((1) * ρ 1 + ((2048) * ρ 2 + ((4398046511104) * ρ 4 + ((35184372088832) * ρ 5 + ((4503599627370496) * ρ 6 + 0))))))) (((0) + ((1) * ρ 8 + 0))) from hP _ (List.mem_of_getElem? (i := 1) rfl)) (by omega) (by omega)
  have hc0 := p1.1
  have hR := rc_el (n := ρ 1) (s := ρ 2) (d := (0 : Int)) (K := (0 : Int)) (R := (ρ 4 + 8 * ρ 5 + 1024 * ρ 6 + 8)) p1 (by omega) (by omega) (by omega) (by omega) (by omega) (by omega) (by omega) (by omega) (by omega) (by omega)
  refine ⟨_, List.mem_cons_self, ρ, fun _ _ => rfl, fun q hq => absurd hq List.not_mem_nil, trivial, fun f hf => ?_, fun q hq => absurd hq List.not_mem_nil, fun q hq => absurd hq List.not_mem_nil, fun q hq => absurd hq List.not_mem_nil, fun q hq => ?_⟩
  · exact absurd hf List.not_mem_nil
  · simp only [List.mem_cons, List.not_mem_nil, or_false] at hq
    subst hq
    show q163 (tB (vw C h)) (((687194767360000) + ((1) * ρ 1 + ((2048) * ρ 2 + 0))))
    refine c2 (P := (fun r (_ : Int) => q163 (tB (vw C h)) r)) (c := 0) (c' := 0) (r := ρ 1 + 2048 * ρ 2 + 687194767360000) ?_ (by omega) rfl
    show q163 (tB (vw C h)) (ρ 1 + 2048 * ρ 2 + 687194767360000)
    exact o163 (n := ρ 1) (s := ρ 2) (lo := 0) (hi := 9999) (by omega) (by omega) (by omega) (by omega) (by omega) (by omega) (by omega) (fn_23 hR)
/-- st23M -/
theorem lem_517_ok (hU : uqG G C) : lem_517.1.2.1 = [] ∧ lemOK (PRd G C D xs) G rgs lem_517 := by
  refine ⟨rfl, fun ρ h ha hT => ?_⟩
  obtain ⟨-, -, hF, hG, hH, hA, hP⟩ := ha
  have f0 : (0 : Int) ≤ ((0) + ((1) * ρ 1 + 0)) := hF _ (List.mem_of_getElem? (i := 0) rfl)
  have f1 : (0 : Int) ≤ ((1200) + ((-1) * ρ 1 + 0)) := hF _ (List.mem_of_getElem? (i := 1) rfl)
  have f2 : (0 : Int) ≤ ((0) + ((1) * ρ 2 + 0)) := hF _ (List.mem_of_getElem? (i := 2) rfl)
  have f3 : (0 : Int) ≤ ((0) + ((1) * ρ 1 + ((-1) * ρ 2 + 0))) := hF _ (List.mem_of_getElem? (i := 3) rfl)
  have f4 : (0 : Int) ≤ ((0) + ((1) * ρ 8 + 0)) := hF _ (List.mem_of_getElem? (i := 4) rfl)
  have f5 : (0 : Int) ≤ ((0) + ((1) * ρ 1 + ((-1) * ρ 8 + 0))) := hF _ (List.mem_of_getElem? (i := 5) rfl)
  have f6 : (0 : Int) ≤ ((0) + ((1) * ρ 9 + 0)) := hF _ (List.mem_of_getElem? (i := 6) rfl)
  have f7 : (0 : Int) ≤ ((9999) + ((-1) * ρ 9 + 0)) := hF _ (List.mem_of_getElem? (i := 7) rfl)
  have f8 : (0 : Int) ≤ ((0) + ((1) * ρ 4 + 0)) := hF _ (List.mem_of_getElem? (i := 8) rfl)
  have f9 : (0 : Int) ≤ ((6) + ((-1) * ρ 4 + 0)) := hF _ (List.mem_of_getElem? (i := 9) rfl)
  have f10 : (0 : Int) ≤ ((0) + ((1) * ρ 5 + 0)) := hF _ (List.mem_of_getElem? (i := 10) rfl)
  have f11 : (0 : Int) ≤ ((8) + ((-1) * ρ 5 + 0)) := hF _ (List.mem_of_getElem? (i := 11) rfl)
  have f12 : (0 : Int) ≤ ((0) + ((1) * ρ 7 + 0)) := hF _ (List.mem_of_getElem? (i := 12) rfl)
  have f13 : (0 : Int) ≤ ((5) + ((-1) * ρ 7 + 0)) := hF _ (List.mem_of_getElem? (i := 13) rfl)
  have f14 : (0 : Int) ≤ ((0) + ((1) * ρ 6 + 0)) := hF _ (List.mem_of_getElem? (i := 14) rfl)
  have f15 : (0 : Int) ≤ ((4) + ((-1) * ρ 6 + 0)) := hF _ (List.mem_of_getElem? (i := 15) rfl)
  have g0 : G (ρ 0).toNat = 22 := by
    have q := (hG _ (List.mem_of_getElem? (i := 0) rfl)).2
    rwa [show ev ρ (0, [(0, 1)]) = ρ 0 from ev_v] at q
  have g1 : G (ρ 3).toNat = 124 := by
    have q := (hG _ (List.mem_of_getElem? (i := 1) rfl)).2
    rwa [show ev ρ (0, [(3, 1)]) = ρ 3 from ev_v] at q
  have h0 : (0 : Int) ≤ ρ 1 ∧ ρ 1 ≤ 1200 := hf_rg hT (hH _ (List.mem_of_getElem? (i := 0) rfl)) ev_v g0 rfl rfl rfl ev_v
  have h1 : (0 : Int) ≤ ρ 2 ∧ ρ 2 ≤ 1200 := hf_rg hT (hH _ (List.mem_of_getElem? (i := 1) rfl)) ev_v g0 rfl rfl rfl ev_v
  have b0 : (0 : Int) ≤ ((6) + 0) := b_aA (hA _ (List.mem_of_getElem? (i := 0) rfl))
  have b1 : (0 : Int) ≤ ((7) + 0) := b_aA (hA _ (List.mem_of_getElem? (i := 1) rfl))
  have b2 : (0 : Int) ≤ ((50) + 0) := b_aA (hA _ (List.mem_of_getElem? (i := 2) rfl))
  have a0 : vw C h 124 (6) = ρ 4 := vw_aA hU (hA _ (List.mem_of_getElem? (i := 0) rfl)) ev_v g1 (by omega) (by omega) (i := 6) (show (((6 : Nat)) : Int) = ((6) + 0) by omega) ev_v
  have a1 : vw C h 124 (7) = ρ 5 := vw_aA hU (hA _ (List.mem_of_getElem? (i := 1) rfl)) ev_v g1 (by omega) (by omega) (i := 7) (show (((7 : Nat)) : Int) = ((7) + 0) by omega) ev_v
  have a2 : vw C h 124 (50) = ρ 6 := vw_aA hU (hA _ (List.mem_of_getElem? (i := 2) rfl)) ev_v g1 (by omega) (by omega) (i := 50) (show (((50 : Nat)) : Int) = ((50) + 0) by omega) ev_v
  have p0 : P183 (vw C h) (ρ 5) (ρ 7) := c2 (P := P183 (vw C h)) (show P183 (vw C h) (((0) + ((1) * ρ 5 + 0))) (((0) + ((1) * ρ 7 + 0))) from hP _ (List.mem_of_getElem? (i := 0) rfl)) (by omega) (by omega)
  have p1 : q158 (tB (vw C h)) (ρ 1 + 2048 * ρ 2) (ρ 8) := c2 (P := q158 (tB (vw C h))) (show q158 (tB (vw C h)) (((0) + ((1) * ρ 1 + ((2048) * ρ 2 + 0)))) (((0) + ((1) * ρ 8 + 0))) from hP _ (List.mem_of_getElem? (i := 1) rfl)) (by omega) (by omega)
  have p2 : q164 (tB (vw C h)) (ρ 1 + 2048 * ρ 8) (ρ 9) := c2 (P := q164 (tB (vw C h))) (show q164 (tB (vw C h)) (((0) + ((1) * ρ 1 + ((2048) * ρ 8 + 0)))) (((0) + ((1) * ρ 9 + 0))) from hP _ (List.mem_of_getElem? (i := 2) rfl)) (by omega) (by omega)
  have p3 : (qRC 23 (tB (vw C h))) (ρ 1 + 4398046511104 * ρ 4 + 35184372088832 * ρ 5 + 4503599627370496 * ρ 6 + 2048 * ρ 8 + 35184372088832) (ρ 10) := c2 (P := (qRC 23 (tB (vw C h)))) (show (qRC 23 (tB (vw C h))) (((35184372088832) + ((1) * ρ 1 + ((4398046511104) * ρ 4 + ((35184372088832) * ρ 5 + ((4503599627370496) * ρ 6 + ((2048) * ρ 8 + 0))))))) (((0) + ((1) * ρ 10 + 0))) from hP _ (List.mem_of_getElem? (i := 3) rfl)) (by omega) (by omega)
  obtain ⟨hkd, nv⟩ := k164 (n := ρ 1) (s := ρ 8) (by omega) (by omega) (by omega) (by omega) (by omega) p2
  have nx := k158 (n := ρ 1) (s := ρ 8) (t := ρ 2) (by omega) (by omega) (by omega) (by omega) (by omega) (by omega) p1
  have ng := nx_gt (B := (tB (vw C h))) (n := (ρ 1).toNat) (s := (ρ 8).toNat) (by omega)
  have hc0 := p3.1
  have hR := rc_el (n := ρ 1) (s := ρ 8) (d := (0 : Int)) (K := (0 : Int)) (R := (ρ 4 + 8 * ρ 5 + 1024 * ρ 6 + 8)) p3 (by omega) (by omega) (by omega) (by omega) (by omega) (by omega) (by omega) (by omega) (by omega) (by omega)
  have q := sn_23 hR hkd (by omega) (by omega)
  obtain ⟨σ, r1, r2a⟩ : ∃ σ : Va, (∀ i, i < 11 → σ i = ρ i) ∧ σ 11 = ((setC (ρ 10).toNat (19 + (ρ 4 + 8 * ρ 5 + 1024 * ρ 6 + 8).toNat / 8 % 16) (ρ 9).toNat : Nat) : Int) := ⟨fun i => if i = 11 then ((setC (ρ 10).toNat (19 + (ρ 4 + 8 * ρ 5 + 1024 * ρ 6 + 8).toNat / 8 % 16) (ρ 9).toNat : Nat) : Int) else ρ i, fun i hi => by dsimp only; rw [if_neg (by omega)], by dsimp only; rw [if_pos rfl]⟩
  have s0 := r1 0 (by omega)
  have s1 := r1 1 (by omega)
  have s2 := r1 2 (by omega)
  have s3 := r1 3 (by omega)
  have s4 := r1 4 (by omega)
  have s5 := r1 5 (by omega)
  have s6 := r1 6 (by omega)
  have s7 := r1 7 (by omega)
  have s8 := r1 8 (by omega)
  have s9 := r1 9 (by omega)
  have s10 := r1 10 (by omega)
  refine ⟨_, List.mem_cons_self, σ, r1, fun q hq => absurd hq List.not_mem_nil, trivial, fun f hf => ?_, fun q hq => absurd hq List.not_mem_nil, fun q hq => absurd hq List.not_mem_nil, fun q hq => absurd hq List.not_mem_nil, fun q hq => ?_⟩
  · simp only [List.mem_cons, List.not_mem_nil, or_false] at hf
    subst hf
    show (0 : Int) ≤ ((-1) + ((1) * σ 2 + ((-1) * σ 8 + 0)))
    omega
  · simp only [List.mem_cons, List.not_mem_nil, or_false] at hq
    rcases hq with rfl | rfl | rfl
    · show (qRC 24 (tB (vw C h))) (((35184372088832) + ((1) * σ 1 + ((2048) * σ 2 + ((4398046511104) * σ 4 + ((35184372088832) * σ 5 + ((4503599627370496) * σ 6 + ((36028797018963968) * σ 9 + 0)))))))) (((0) + ((1) * σ 11 + 0)))
      refine c2 (P := (qRC 24 (tB (vw C h)))) (r := ρ 1 + 2048 * ρ 2 + 4398046511104 * ρ 4 + 35184372088832 * ρ 5 + 4503599627370496 * ρ 6 + 36028797018963968 * ρ 9 + 35184372088832) (c := ((setC (ρ 10).toNat (19 + (ρ 4 + 8 * ρ 5 + 1024 * ρ 6 + 8).toNat / 8 % 16) (ρ 9).toNat : Nat) : Int)) ?_ (by omega) (by omega)
      show (qRC 24 (tB (vw C h))) (ρ 1 + 2048 * ρ 2 + 4398046511104 * ρ 4 + 35184372088832 * ρ 5 + 4503599627370496 * ρ 6 + 36028797018963968 * ρ 9 + 35184372088832) (((setC (ρ 10).toNat (19 + (ρ 4 + 8 * ρ 5 + 1024 * ρ 6 + 8).toNat / 8 % 16) (ρ 9).toNat : Nat) : Int))
      exact rc_in (n := ρ 1) (s := ρ 2) (d := (0 : Int)) (K := (0 : Int)) (R := (ρ 4 + 8 * ρ 5 + 1024 * ρ 6 + 8192 * ρ 9 + 8)) (by omega) (by omega) (by omega) (by omega) (by omega) (by omega) (by omega) (by omega) (by omega) (by omega) q (by omega) (by omega) (by omega) (by omega) (by rw [nv])
    · show qSet (((1310720) + ((65536) * σ 5 + ((1) * σ 9 + ((16777216) * σ 10 + 0))))) (((0) + ((1) * σ 11 + 0)))
      refine c2 (P := qSet) (r := 65536 * ρ 5 + ρ 9 + 16777216 * ρ 10 + 1310720) (c := ((setC (ρ 10).toNat (19 + (ρ 4 + 8 * ρ 5 + 1024 * ρ 6 + 8).toNat / 8 % 16) (ρ 9).toNat : Nat) : Int)) ?_ (by omega) (by omega)
      show qSet (65536 * ρ 5 + ρ 9 + 16777216 * ρ 10 + 1310720) (((setC (ρ 10).toNat (19 + (ρ 4 + 8 * ρ 5 + 1024 * ρ 6 + 8).toNat / 8 % 16) (ρ 9).toNat : Nat) : Int))
      exact oSet (V := ρ 10) (v := ρ 9) (k := 19 + (ρ 4 + 8 * ρ 5 + 1024 * ρ 6 + 8).toNat / 8 % 16) (by omega) (by omega) (by omega) (by omega) rfl
    · show True
      refine c2 (P := (fun (_ _ : Int) => True)) (r := 0) (r' := 0) (c := 0) (c' := 0) ?_ rfl rfl
      show True
      trivial
/-- op24M -/
theorem lem_518_ok (hU : uqG G C) : lem_518.1.2.1 = [] ∧ lemOK (PRd G C D xs) G rgs lem_518 := by
  refine ⟨rfl, fun ρ h ha hT => ?_⟩
  obtain ⟨-, -, hF, hG, hH, hA, hP⟩ := ha
  have f0 : (0 : Int) ≤ ((0) + ((1) * ρ 1 + 0)) := hF _ (List.mem_of_getElem? (i := 0) rfl)
  have f1 : (0 : Int) ≤ ((1200) + ((-1) * ρ 1 + 0)) := hF _ (List.mem_of_getElem? (i := 1) rfl)
  have f2 : (0 : Int) ≤ ((0) + ((1) * ρ 2 + 0)) := hF _ (List.mem_of_getElem? (i := 2) rfl)
  have f3 : (0 : Int) ≤ ((0) + ((1) * ρ 1 + ((-1) * ρ 2 + 0))) := hF _ (List.mem_of_getElem? (i := 3) rfl)
  have f4 : (0 : Int) ≤ ((0) + ((1) * ρ 8 + 0)) := hF _ (List.mem_of_getElem? (i := 4) rfl)
  have f5 : (0 : Int) ≤ ((9999) + ((-1) * ρ 8 + 0)) := hF _ (List.mem_of_getElem? (i := 5) rfl)
  have f6 : (0 : Int) ≤ ((0) + ((1) * ρ 4 + 0)) := hF _ (List.mem_of_getElem? (i := 6) rfl)
  have f7 : (0 : Int) ≤ ((6) + ((-1) * ρ 4 + 0)) := hF _ (List.mem_of_getElem? (i := 7) rfl)
  have f8 : (0 : Int) ≤ ((0) + ((1) * ρ 5 + 0)) := hF _ (List.mem_of_getElem? (i := 8) rfl)
  have f9 : (0 : Int) ≤ ((8) + ((-1) * ρ 5 + 0)) := hF _ (List.mem_of_getElem? (i := 9) rfl)
  have f10 : (0 : Int) ≤ ((0) + ((1) * ρ 7 + 0)) := hF _ (List.mem_of_getElem? (i := 10) rfl)
  have f11 : (0 : Int) ≤ ((5) + ((-1) * ρ 7 + 0)) := hF _ (List.mem_of_getElem? (i := 11) rfl)
  have f12 : (0 : Int) ≤ ((0) + ((1) * ρ 6 + 0)) := hF _ (List.mem_of_getElem? (i := 12) rfl)
  have f13 : (0 : Int) ≤ ((4) + ((-1) * ρ 6 + 0)) := hF _ (List.mem_of_getElem? (i := 13) rfl)
  have g0 : G (ρ 0).toNat = 22 := by
    have q := (hG _ (List.mem_of_getElem? (i := 0) rfl)).2
    rwa [show ev ρ (0, [(0, 1)]) = ρ 0 from ev_v] at q
  have g1 : G (ρ 3).toNat = 124 := by
    have q := (hG _ (List.mem_of_getElem? (i := 1) rfl)).2
    rwa [show ev ρ (0, [(3, 1)]) = ρ 3 from ev_v] at q
  have h0 : (0 : Int) ≤ ρ 1 ∧ ρ 1 ≤ 1200 := hf_rg hT (hH _ (List.mem_of_getElem? (i := 0) rfl)) ev_v g0 rfl rfl rfl ev_v
  have h1 : (0 : Int) ≤ ρ 2 ∧ ρ 2 ≤ 1200 := hf_rg hT (hH _ (List.mem_of_getElem? (i := 1) rfl)) ev_v g0 rfl rfl rfl ev_v
  have b0 : (0 : Int) ≤ ((6) + 0) := b_aA (hA _ (List.mem_of_getElem? (i := 0) rfl))
  have b1 : (0 : Int) ≤ ((7) + 0) := b_aA (hA _ (List.mem_of_getElem? (i := 1) rfl))
  have b2 : (0 : Int) ≤ ((50) + 0) := b_aA (hA _ (List.mem_of_getElem? (i := 2) rfl))
  have a0 : vw C h 124 (6) = ρ 4 := vw_aA hU (hA _ (List.mem_of_getElem? (i := 0) rfl)) ev_v g1 (by omega) (by omega) (i := 6) (show (((6 : Nat)) : Int) = ((6) + 0) by omega) ev_v
  have a1 : vw C h 124 (7) = ρ 5 := vw_aA hU (hA _ (List.mem_of_getElem? (i := 1) rfl)) ev_v g1 (by omega) (by omega) (i := 7) (show (((7 : Nat)) : Int) = ((7) + 0) by omega) ev_v
  have a2 : vw C h 124 (50) = ρ 6 := vw_aA hU (hA _ (List.mem_of_getElem? (i := 2) rfl)) ev_v g1 (by omega) (by omega) (i := 50) (show (((50 : Nat)) : Int) = ((50) + 0) by omega) ev_v
  have p0 : P183 (vw C h) (ρ 5) (ρ 7) := c2 (P := P183 (vw C h)) (show P183 (vw C h) (((0) + ((1) * ρ 5 + 0))) (((0) + ((1) * ρ 7 + 0))) from hP _ (List.mem_of_getElem? (i := 0) rfl)) (by omega) (by omega)
  have p1 : True := c2 (P := (fun (_ _ : Int) => True)) (r := 0) (r' := 0) (c := 0) (c' := 0) (show True from hP _ (List.mem_of_getElem? (i := 1) rfl)) rfl rfl
  have p2 : (qRC 24 (tB (vw C h))) (ρ 1 + 2048 * ρ 2 + 4398046511104 * ρ 4 + 35184372088832 * ρ 5 + 4503599627370496 * ρ 6 + 36028797018963968 * ρ 8 + 35184372088832) (ρ 9) := c2 (P := (qRC 24 (tB (vw C h)))) (show (qRC 24 (tB (vw C h))) (((35184372088832) + ((1) * ρ 1 + ((2048) * ρ 2 + ((4398046511104) * ρ 4 + ((35184372088832) * ρ 5 + ((4503599627370496) * ρ 6 + ((36028797018963968) * ρ 8 + 0)))))))) (((0) + ((1) * ρ 9 + 0))) from hP _ (List.mem_of_getElem? (i := 2) rfl)) (by omega) (by omega)
  have hc0 := p2.1
  have hR := rc_el (n := ρ 1) (s := ρ 2) (d := (0 : Int)) (K := (0 : Int)) (R := (ρ 4 + 8 * ρ 5 + 1024 * ρ 6 + 8192 * ρ 8 + 8)) p2 (by omega) (by omega) (by omega) (by omega) (by omega) (by omega) (by omega) (by omega) (by omega) (by omega)
  refine ⟨_, List.mem_cons_self, ρ, fun _ _ => rfl, fun q hq => absurd hq List.not_mem_nil, trivial, fun f hf => ?_, fun q hq => absurd hq List.not_mem_nil, fun q hq => absurd hq List.not_mem_nil, fun q hq => absurd hq List.not_mem_nil, fun q hq => ?_⟩
  · exact absurd hf List.not_mem_nil
  · simp only [List.mem_cons, List.not_mem_nil, or_false] at hq
    subst hq
    show q163 (tB (vw C h)) (((687194767360000) + ((1) * ρ 1 + ((2048) * ρ 2 + ((4194304) * ρ 8 + 0)))))
    refine c2 (P := (fun r (_ : Int) => q163 (tB (vw C h)) r)) (c := 0) (c' := 0) (r := ρ 1 + 2048 * ρ 2 + 4194304 * ρ 8 + 687194767360000) ?_ (by omega) rfl
    show q163 (tB (vw C h)) (ρ 1 + 2048 * ρ 2 + 4194304 * ρ 8 + 687194767360000)
    exact o163 (n := ρ 1) (s := ρ 2) (lo := ρ 8) (hi := 9999) (by omega) (by omega) (by omega) (by omega) (by omega) (by omega) (by omega) (by
      have q := fn_24 hR
      rw [show ((((ρ 4 + 8 * ρ 5 + 1024 * ρ 6 + 8192 * ρ 8 + 8)).toNat / 8192 : Nat) : Int) = ρ 8 by omega] at q
      exact q)
/-- st24M -/
theorem lem_519_ok (hU : uqG G C) : lem_519.1.2.1 = [] ∧ lemOK (PRd G C D xs) G rgs lem_519 := by
  refine ⟨rfl, fun ρ h ha hT => ?_⟩
  obtain ⟨-, -, hF, hG, hH, hA, hP⟩ := ha
  have f0 : (0 : Int) ≤ ((0) + ((1) * ρ 1 + 0)) := hF _ (List.mem_of_getElem? (i := 0) rfl)
  have f1 : (0 : Int) ≤ ((1200) + ((-1) * ρ 1 + 0)) := hF _ (List.mem_of_getElem? (i := 1) rfl)
  have f2 : (0 : Int) ≤ ((0) + ((1) * ρ 2 + 0)) := hF _ (List.mem_of_getElem? (i := 2) rfl)
  have f3 : (0 : Int) ≤ ((0) + ((1) * ρ 1 + ((-1) * ρ 2 + 0))) := hF _ (List.mem_of_getElem? (i := 3) rfl)
  have f4 : (0 : Int) ≤ ((0) + ((1) * ρ 9 + 0)) := hF _ (List.mem_of_getElem? (i := 4) rfl)
  have f5 : (0 : Int) ≤ ((0) + ((1) * ρ 1 + ((-1) * ρ 9 + 0))) := hF _ (List.mem_of_getElem? (i := 5) rfl)
  have f6 : (0 : Int) ≤ ((0) + ((1) * ρ 8 + 0)) := hF _ (List.mem_of_getElem? (i := 6) rfl)
  have f7 : (0 : Int) ≤ ((9999) + ((-1) * ρ 8 + 0)) := hF _ (List.mem_of_getElem? (i := 7) rfl)
  have f8 : (0 : Int) ≤ ((0) + ((-1) * ρ 8 + ((1) * ρ 10 + 0))) := hF _ (List.mem_of_getElem? (i := 8) rfl)
  have f9 : (0 : Int) ≤ ((9999) + ((-1) * ρ 10 + 0)) := hF _ (List.mem_of_getElem? (i := 9) rfl)
  have f10 : (0 : Int) ≤ ((0) + ((1) * ρ 4 + 0)) := hF _ (List.mem_of_getElem? (i := 10) rfl)
  have f11 : (0 : Int) ≤ ((6) + ((-1) * ρ 4 + 0)) := hF _ (List.mem_of_getElem? (i := 11) rfl)
  have f12 : (0 : Int) ≤ ((0) + ((1) * ρ 5 + 0)) := hF _ (List.mem_of_getElem? (i := 12) rfl)
  have f13 : (0 : Int) ≤ ((8) + ((-1) * ρ 5 + 0)) := hF _ (List.mem_of_getElem? (i := 13) rfl)
  have f14 : (0 : Int) ≤ ((0) + ((1) * ρ 7 + 0)) := hF _ (List.mem_of_getElem? (i := 14) rfl)
  have f15 : (0 : Int) ≤ ((5) + ((-1) * ρ 7 + 0)) := hF _ (List.mem_of_getElem? (i := 15) rfl)
  have f16 : (0 : Int) ≤ ((0) + ((1) * ρ 6 + 0)) := hF _ (List.mem_of_getElem? (i := 16) rfl)
  have f17 : (0 : Int) ≤ ((4) + ((-1) * ρ 6 + 0)) := hF _ (List.mem_of_getElem? (i := 17) rfl)
  have g0 : G (ρ 0).toNat = 22 := by
    have q := (hG _ (List.mem_of_getElem? (i := 0) rfl)).2
    rwa [show ev ρ (0, [(0, 1)]) = ρ 0 from ev_v] at q
  have g1 : G (ρ 3).toNat = 124 := by
    have q := (hG _ (List.mem_of_getElem? (i := 1) rfl)).2
    rwa [show ev ρ (0, [(3, 1)]) = ρ 3 from ev_v] at q
  have h0 : (0 : Int) ≤ ρ 1 ∧ ρ 1 ≤ 1200 := hf_rg hT (hH _ (List.mem_of_getElem? (i := 0) rfl)) ev_v g0 rfl rfl rfl ev_v
  have h1 : (0 : Int) ≤ ρ 2 ∧ ρ 2 ≤ 1200 := hf_rg hT (hH _ (List.mem_of_getElem? (i := 1) rfl)) ev_v g0 rfl rfl rfl ev_v
  have b0 : (0 : Int) ≤ ((6) + 0) := b_aA (hA _ (List.mem_of_getElem? (i := 0) rfl))
  have b1 : (0 : Int) ≤ ((7) + 0) := b_aA (hA _ (List.mem_of_getElem? (i := 1) rfl))
  have b2 : (0 : Int) ≤ ((50) + 0) := b_aA (hA _ (List.mem_of_getElem? (i := 2) rfl))
  have a0 : vw C h 124 (6) = ρ 4 := vw_aA hU (hA _ (List.mem_of_getElem? (i := 0) rfl)) ev_v g1 (by omega) (by omega) (i := 6) (show (((6 : Nat)) : Int) = ((6) + 0) by omega) ev_v
  have a1 : vw C h 124 (7) = ρ 5 := vw_aA hU (hA _ (List.mem_of_getElem? (i := 1) rfl)) ev_v g1 (by omega) (by omega) (i := 7) (show (((7 : Nat)) : Int) = ((7) + 0) by omega) ev_v
  have a2 : vw C h 124 (50) = ρ 6 := vw_aA hU (hA _ (List.mem_of_getElem? (i := 2) rfl)) ev_v g1 (by omega) (by omega) (i := 50) (show (((50 : Nat)) : Int) = ((50) + 0) by omega) ev_v
  have p0 : P183 (vw C h) (ρ 5) (ρ 7) := c2 (P := P183 (vw C h)) (show P183 (vw C h) (((0) + ((1) * ρ 5 + 0))) (((0) + ((1) * ρ 7 + 0))) from hP _ (List.mem_of_getElem? (i := 0) rfl)) (by omega) (by omega)
  have p1 : True := c2 (P := (fun (_ _ : Int) => True)) (r := 0) (r' := 0) (c := 0) (c' := 0) (show True from hP _ (List.mem_of_getElem? (i := 1) rfl)) rfl rfl
  have p2 : q158 (tB (vw C h)) (ρ 1 + 2048 * ρ 2) (ρ 9) := c2 (P := q158 (tB (vw C h))) (show q158 (tB (vw C h)) (((0) + ((1) * ρ 1 + ((2048) * ρ 2 + 0)))) (((0) + ((1) * ρ 9 + 0))) from hP _ (List.mem_of_getElem? (i := 2) rfl)) (by omega) (by omega)
  have p3 : q164 (tB (vw C h)) (ρ 1 + 2048 * ρ 9) (ρ 10) := c2 (P := q164 (tB (vw C h))) (show q164 (tB (vw C h)) (((0) + ((1) * ρ 1 + ((2048) * ρ 9 + 0)))) (((0) + ((1) * ρ 10 + 0))) from hP _ (List.mem_of_getElem? (i := 3) rfl)) (by omega) (by omega)
  have p4 : (qRC 24 (tB (vw C h))) (ρ 1 + 4398046511104 * ρ 4 + 35184372088832 * ρ 5 + 4503599627370496 * ρ 6 + 36028797018963968 * ρ 8 + 2048 * ρ 9 + 35184372088832) (ρ 11) := c2 (P := (qRC 24 (tB (vw C h)))) (show (qRC 24 (tB (vw C h))) (((35184372088832) + ((1) * ρ 1 + ((4398046511104) * ρ 4 + ((35184372088832) * ρ 5 + ((4503599627370496) * ρ 6 + ((36028797018963968) * ρ 8 + ((2048) * ρ 9 + 0)))))))) (((0) + ((1) * ρ 11 + 0))) from hP _ (List.mem_of_getElem? (i := 4) rfl)) (by omega) (by omega)
  obtain ⟨hkd, nv⟩ := k164 (n := ρ 1) (s := ρ 9) (by omega) (by omega) (by omega) (by omega) (by omega) p3
  have nx := k158 (n := ρ 1) (s := ρ 9) (t := ρ 2) (by omega) (by omega) (by omega) (by omega) (by omega) (by omega) p2
  have ng := nx_gt (B := (tB (vw C h))) (n := (ρ 1).toNat) (s := (ρ 9).toNat) (by omega)
  have hc0 := p4.1
  have hR := rc_el (n := ρ 1) (s := ρ 9) (d := (0 : Int)) (K := (0 : Int)) (R := (ρ 4 + 8 * ρ 5 + 1024 * ρ 6 + 8192 * ρ 8 + 8)) p4 (by omega) (by omega) (by omega) (by omega) (by omega) (by omega) (by omega) (by omega) (by omega) (by omega)
  have q := sn_24 hR hkd (by omega) (by omega)
  obtain ⟨σ, r1, r2a⟩ : ∃ σ : Va, (∀ i, i < 12 → σ i = ρ i) ∧ σ 12 = ((setC (ρ 11).toNat (27 + (ρ 4 + 8 * ρ 5 + 1024 * ρ 6 + 8192 * ρ 8 + 8).toNat / 8 % 16) (ρ 10).toNat : Nat) : Int) := ⟨fun i => if i = 12 then ((setC (ρ 11).toNat (27 + (ρ 4 + 8 * ρ 5 + 1024 * ρ 6 + 8192 * ρ 8 + 8).toNat / 8 % 16) (ρ 10).toNat : Nat) : Int) else ρ i, fun i hi => by dsimp only; rw [if_neg (by omega)], by dsimp only; rw [if_pos rfl]⟩
  have s0 := r1 0 (by omega)
  have s1 := r1 1 (by omega)
  have s2 := r1 2 (by omega)
  have s3 := r1 3 (by omega)
  have s4 := r1 4 (by omega)
  have s5 := r1 5 (by omega)
  have s6 := r1 6 (by omega)
  have s7 := r1 7 (by omega)
  have s8 := r1 8 (by omega)
  have s9 := r1 9 (by omega)
  have s10 := r1 10 (by omega)
  have s11 := r1 11 (by omega)
  refine ⟨_, List.mem_cons_self, σ, r1, fun q hq => absurd hq List.not_mem_nil, trivial, fun f hf => ?_, fun q hq => absurd hq List.not_mem_nil, fun q hq => absurd hq List.not_mem_nil, fun q hq => absurd hq List.not_mem_nil, fun q hq => ?_⟩
  · simp only [List.mem_cons, List.not_mem_nil, or_false] at hf
    subst hf
    show (0 : Int) ≤ ((-1) + ((1) * σ 2 + ((-1) * σ 9 + 0)))
    omega
  · simp only [List.mem_cons, List.not_mem_nil, or_false] at hq
    rcases hq with rfl | rfl
    · show (qRC 15 (tB (vw C h))) (((35184372088832) + ((1) * σ 1 + ((2048) * σ 2 + ((4398046511104) * σ 4 + ((35184372088832) * σ 5 + ((4503599627370496) * σ 6 + 0))))))) (((0) + ((1) * σ 12 + 0)))
      refine c2 (P := (qRC 15 (tB (vw C h)))) (r := ρ 1 + 2048 * ρ 2 + 4398046511104 * ρ 4 + 35184372088832 * ρ 5 + 4503599627370496 * ρ 6 + 35184372088832) (c := ((setC (ρ 11).toNat (27 + (ρ 4 + 8 * ρ 5 + 1024 * ρ 6 + 8192 * ρ 8 + 8).toNat / 8 % 16) (ρ 10).toNat : Nat) : Int)) ?_ (by omega) (by omega)
      show (qRC 15 (tB (vw C h))) (ρ 1 + 2048 * ρ 2 + 4398046511104 * ρ 4 + 35184372088832 * ρ 5 + 4503599627370496 * ρ 6 + 35184372088832) (((setC (ρ 11).toNat (27 + (ρ 4 + 8 * ρ 5 + 1024 * ρ 6 + 8192 * ρ 8 + 8).toNat / 8 % 16) (ρ 10).toNat : Nat) : Int))
      exact rc_in (n := ρ 1) (s := ρ 2) (d := (0 : Int)) (K := (0 : Int)) (R := (ρ 4 + 8 * ρ 5 + 1024 * ρ 6 + 8)) (by omega) (by omega) (by omega) (by omega) (by omega) (by omega) (by omega) (by omega) (by omega) (by omega) q (by omega) (by omega) (by omega) (by omega) (by rw [nv])
    · show qSet (((1835008) + ((65536) * σ 5 + ((1) * σ 10 + ((16777216) * σ 11 + 0))))) (((0) + ((1) * σ 12 + 0)))
      refine c2 (P := qSet) (r := 65536 * ρ 5 + ρ 10 + 16777216 * ρ 11 + 1835008) (c := ((setC (ρ 11).toNat (27 + (ρ 4 + 8 * ρ 5 + 1024 * ρ 6 + 8192 * ρ 8 + 8).toNat / 8 % 16) (ρ 10).toNat : Nat) : Int)) ?_ (by omega) (by omega)
      show qSet (65536 * ρ 5 + ρ 10 + 16777216 * ρ 11 + 1835008) (((setC (ρ 11).toNat (27 + (ρ 4 + 8 * ρ 5 + 1024 * ρ 6 + 8192 * ρ 8 + 8).toNat / 8 % 16) (ρ 10).toNat : Nat) : Int))
      exact oSet (V := ρ 11) (v := ρ 10) (k := 27 + (ρ 4 + 8 * ρ 5 + 1024 * ρ 6 + 8192 * ρ 8 + 8).toNat / 8 % 16) (by omega) (by omega) (by omega) (by omega) rfl
/-- op25M -/
theorem lem_520_ok (hU : uqG G C) : lem_520.1.2.1 = [] ∧ lemOK (PRd G C D xs) G rgs lem_520 := by
  refine ⟨rfl, fun ρ h ha hT => ?_⟩
  obtain ⟨-, -, hF, hG, hH, hA, hP⟩ := ha
  have f0 : (0 : Int) ≤ ((0) + ((1) * ρ 1 + 0)) := hF _ (List.mem_of_getElem? (i := 0) rfl)
  have f1 : (0 : Int) ≤ ((1200) + ((-1) * ρ 1 + 0)) := hF _ (List.mem_of_getElem? (i := 1) rfl)
  have f2 : (0 : Int) ≤ ((0) + ((1) * ρ 2 + 0)) := hF _ (List.mem_of_getElem? (i := 2) rfl)
  have f3 : (0 : Int) ≤ ((0) + ((1) * ρ 1 + ((-1) * ρ 2 + 0))) := hF _ (List.mem_of_getElem? (i := 3) rfl)
  have f4 : (0 : Int) ≤ ((0) + ((1) * ρ 4 + 0)) := hF _ (List.mem_of_getElem? (i := 4) rfl)
  have f5 : (0 : Int) ≤ ((6) + ((-1) * ρ 4 + 0)) := hF _ (List.mem_of_getElem? (i := 5) rfl)
  have f6 : (0 : Int) ≤ ((0) + ((1) * ρ 5 + 0)) := hF _ (List.mem_of_getElem? (i := 6) rfl)
  have f7 : (0 : Int) ≤ ((8) + ((-1) * ρ 5 + 0)) := hF _ (List.mem_of_getElem? (i := 7) rfl)
  have f8 : (0 : Int) ≤ ((0) + ((1) * ρ 7 + 0)) := hF _ (List.mem_of_getElem? (i := 8) rfl)
  have f9 : (0 : Int) ≤ ((5) + ((-1) * ρ 7 + 0)) := hF _ (List.mem_of_getElem? (i := 9) rfl)
  have f10 : (0 : Int) ≤ ((0) + ((1) * ρ 6 + 0)) := hF _ (List.mem_of_getElem? (i := 10) rfl)
  have f11 : (0 : Int) ≤ ((4) + ((-1) * ρ 6 + 0)) := hF _ (List.mem_of_getElem? (i := 11) rfl)
  have g0 : G (ρ 0).toNat = 22 := by
    have q := (hG _ (List.mem_of_getElem? (i := 0) rfl)).2
    rwa [show ev ρ (0, [(0, 1)]) = ρ 0 from ev_v] at q
  have g1 : G (ρ 3).toNat = 124 := by
    have q := (hG _ (List.mem_of_getElem? (i := 1) rfl)).2
    rwa [show ev ρ (0, [(3, 1)]) = ρ 3 from ev_v] at q
  have h0 : (0 : Int) ≤ ρ 1 ∧ ρ 1 ≤ 1200 := hf_rg hT (hH _ (List.mem_of_getElem? (i := 0) rfl)) ev_v g0 rfl rfl rfl ev_v
  have h1 : (0 : Int) ≤ ρ 2 ∧ ρ 2 ≤ 1200 := hf_rg hT (hH _ (List.mem_of_getElem? (i := 1) rfl)) ev_v g0 rfl rfl rfl ev_v
  have b0 : (0 : Int) ≤ ((6) + 0) := b_aA (hA _ (List.mem_of_getElem? (i := 0) rfl))
  have b1 : (0 : Int) ≤ ((7) + 0) := b_aA (hA _ (List.mem_of_getElem? (i := 1) rfl))
  have b2 : (0 : Int) ≤ ((50) + 0) := b_aA (hA _ (List.mem_of_getElem? (i := 2) rfl))
  have a0 : vw C h 124 (6) = ρ 4 := vw_aA hU (hA _ (List.mem_of_getElem? (i := 0) rfl)) ev_v g1 (by omega) (by omega) (i := 6) (show (((6 : Nat)) : Int) = ((6) + 0) by omega) ev_v
  have a1 : vw C h 124 (7) = ρ 5 := vw_aA hU (hA _ (List.mem_of_getElem? (i := 1) rfl)) ev_v g1 (by omega) (by omega) (i := 7) (show (((7 : Nat)) : Int) = ((7) + 0) by omega) ev_v
  have a2 : vw C h 124 (50) = ρ 6 := vw_aA hU (hA _ (List.mem_of_getElem? (i := 2) rfl)) ev_v g1 (by omega) (by omega) (i := 50) (show (((50 : Nat)) : Int) = ((50) + 0) by omega) ev_v
  have p0 : P183 (vw C h) (ρ 5) (ρ 7) := c2 (P := P183 (vw C h)) (show P183 (vw C h) (((0) + ((1) * ρ 5 + 0))) (((0) + ((1) * ρ 7 + 0))) from hP _ (List.mem_of_getElem? (i := 0) rfl)) (by omega) (by omega)
  have p1 : (qRC 25 (tB (vw C h))) (ρ 1 + 2048 * ρ 2 + 4398046511104 * ρ 4 + 35184372088832 * ρ 5 + 4503599627370496 * ρ 6 + 562949953421312 * ρ 7) (ρ 8) := c2 (P := (qRC 25 (tB (vw C h)))) (show (qRC 25 (tB (vw C h))) (((0) + ((1) * ρ 1 + ((2048) * ρ 2 + ((4398046511104) * ρ 4 + ((35184372088832) * ρ 5 + ((4503599627370496) * ρ 6 + ((562949953421312) * ρ 7 + 0)))))))) (((0) + ((1) * ρ 8 + 0))) from hP _ (List.mem_of_getElem? (i := 1) rfl)) (by omega) (by omega)
  have hc0 := p1.1
  have hR := rc_el (n := ρ 1) (s := ρ 2) (d := (0 : Int)) (K := (0 : Int)) (R := (ρ 4 + 8 * ρ 5 + 1024 * ρ 6 + 128 * ρ 7)) p1 (by omega) (by omega) (by omega) (by omega) (by omega) (by omega) (by omega) (by omega) (by omega) (by omega)
  refine ⟨_, List.mem_cons_self, ρ, fun _ _ => rfl, fun q hq => absurd hq List.not_mem_nil, trivial, fun f hf => ?_, fun q hq => absurd hq List.not_mem_nil, fun q hq => absurd hq List.not_mem_nil, fun q hq => absurd hq List.not_mem_nil, fun q hq => ?_⟩
  · exact absurd hf List.not_mem_nil
  · simp only [List.mem_cons, List.not_mem_nil, or_false] at hq
    subst hq
    show q163 (tB (vw C h)) (((0) + ((1) * ρ 1 + ((2048) * ρ 2 + ((68719476736) * ρ 4 + 0)))))
    refine c2 (P := (fun r (_ : Int) => q163 (tB (vw C h)) r)) (c := 0) (c' := 0) (r := ρ 1 + 2048 * ρ 2 + 68719476736 * ρ 4) ?_ (by omega) rfl
    show q163 (tB (vw C h)) (ρ 1 + 2048 * ρ 2 + 68719476736 * ρ 4)
    exact o163 (n := ρ 1) (s := ρ 2) (lo := 0) (hi := ρ 4 - 1) (by omega) (by omega) (by omega) (by omega) (by omega) (by omega) (by omega) (by
      have q := fn_25 hR
      rw [show ((((ρ 4 + 8 * ρ 5 + 1024 * ρ 6 + 128 * ρ 7)).toNat % 8 : Nat) : Int) = ρ 4 by omega] at q
      exact q)
end LMT
