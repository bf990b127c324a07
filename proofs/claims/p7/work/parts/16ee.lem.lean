section LMT
variable {G C : Nat → Nat} {h : mH} {D : Nat} {xs : Nat → Int32}
/-- kreg -/
theorem lem_631_ok (hU : uqG G C) : lem_631.1.2.1 = [] ∧ lemOK (PRd G C D xs) G rgs lem_631 := by
  refine ⟨rfl, fun ρ h ha hT => ?_⟩
  obtain ⟨-, -, hF, hG, hH, hA, hP⟩ := ha
  have g0 : G (ρ 0).toNat = 12 := by
    have q := (hG _ (List.mem_of_getElem? (i := 0) rfl)).2
    rwa [show ev ρ (0, [(0, 1)]) = ρ 0 from ev_v] at q
  have h0 : (0 : Int) ≤ ρ 1 ∧ ρ 1 ≤ 6 := hf_rg hT (hH _ (List.mem_of_getElem? (i := 0) rfl)) ev_v g0 rfl rfl rfl ev_v
  have p0 : q240 G (ρ 1) (ρ 2) (rfv h) (elv h) := c2 (P := (fun r c => q240 G r c (rfv h) (elv h))) (show q240 G (((0) + ((1) * ρ 1 + 0))) (((0) + ((1) * ρ 2 + 0))) (rfv h) (elv h) from hP _ (List.mem_of_getElem? (i := 0) rfl)) (by omega) (by omega)
  refine ⟨_, List.mem_cons_self, ρ, fun _ _ => rfl, fun q hq => absurd hq List.not_mem_nil, trivial, fun f hf => ?_, fun q hq => absurd hq List.not_mem_nil, fun q hq => absurd hq List.not_mem_nil, fun q hq => absurd hq List.not_mem_nil, fun q hq => ?_⟩
  · exact absurd hf List.not_mem_nil
  · simp only [List.mem_cons, List.not_mem_nil, or_false] at hq
    rcases hq with rfl | rfl
    · show True
      refine c2 (P := (fun (_ _ : Int) => True)) (r := 0) (r' := 0) (c := 0) (c' := 0) ?_ rfl rfl
      show True
      trivial
    · show True
      refine c2 (P := (fun (_ _ : Int) => True)) (r := 0) (r' := 0) (c := 0) (c' := 0) ?_ rfl rfl
      show True
      trivial
/-- ndr -/
theorem lem_632_ok (hU : uqG G C) : lem_632.1.2.1 = [] ∧ lemOK (PRd G C D xs) G rgs lem_632 := by
  refine ⟨rfl, fun ρ h ha hT => ?_⟩
  obtain ⟨-, -, hF, hG, hH, hA, hP⟩ := ha
  have f0 : (0 : Int) ≤ ((5) + ((-1) * ρ 1 + 0)) := hF _ (List.mem_of_getElem? (i := 0) rfl)
  have g0 : G (ρ 0).toNat = 12 := by
    have q := (hG _ (List.mem_of_getElem? (i := 0) rfl)).2
    rwa [show ev ρ (0, [(0, 1)]) = ρ 0 from ev_v] at q
  have h0 : (0 : Int) ≤ ρ 1 ∧ ρ 1 ≤ 6 := hf_rg hT (hH _ (List.mem_of_getElem? (i := 0) rfl)) ev_v g0 rfl rfl rfl ev_v
  have p0 : q240 G (ρ 1) (ρ 2) (rfv h) (elv h) := c2 (P := (fun r c => q240 G r c (rfv h) (elv h))) (show q240 G (((0) + ((1) * ρ 1 + 0))) (((0) + ((1) * ρ 2 + 0))) (rfv h) (elv h) from hP _ (List.mem_of_getElem? (i := 0) rfl)) (by omega) (by omega)
  have cT : 0 ≤ ρ 0 := by
    have q := (hG _ (List.mem_of_getElem? (i := 0) rfl)).1
    rwa [show ev ρ (0, [(0, 1)]) = ρ 0 from ev_v] at q
  have y0 : hasI (rfv h (ρ 0).toNat 1) (ρ 1) := ob_i hT (hH _ (List.mem_of_getElem? (i := 0) rfl)) ev_v g0 rfl ev_v
  refine ⟨_, List.mem_cons_self, ρ, fun _ _ => rfl, fun q hq => absurd hq List.not_mem_nil, trivial, fun f hf => ?_, fun q hq => absurd hq List.not_mem_nil, fun q hq => absurd hq List.not_mem_nil, fun q hq => absurd hq List.not_mem_nil, fun q hq => ?_⟩
  · exact absurd hf List.not_mem_nil
  · simp only [List.mem_cons, List.not_mem_nil, or_false] at hq
    subst hq
    show qDrop (((0) + ((1) * ρ 2 + 0))) (((0) + ((1) * ρ 2 + 0)))
    refine c2 (P := qDrop) (r := ρ 2) (c := ρ 2) ?_ (by omega) (by omega)
    show qDrop (ρ 2) (ρ 2)
    exact s_ndr (by omega) p0
/-- kp240 -/
theorem lem_633_ok (hU : uqG G C) : lem_633.1.2.1 = [] ∧ lemOK (PRd G C D xs) G rgs lem_633 := by
  refine ⟨rfl, fun ρ h ha hT => ?_⟩
  obtain ⟨-, -, hF, hG, hH, hA, hP⟩ := ha
  have f0 : (0 : Int) ≤ ((-1) + ((1) * ρ 2 + 0)) := hF _ (List.mem_of_getElem? (i := 0) rfl)
  have f1 : (0 : Int) ≤ ((6) + ((-1) * ρ 2 + 0)) := hF _ (List.mem_of_getElem? (i := 1) rfl)
  have f2 : (0 : Int) ≤ ((-1) + ((1) * ρ 2 + ((-1) * ρ 4 + ((16) * ρ 7 + 0)))) := hF _ (List.mem_of_getElem? (i := 2) rfl)
  have f3 : (0 : Int) ≤ ((1) + ((-1) * ρ 2 + ((1) * ρ 4 + ((-16) * ρ 7 + 0)))) := hF _ (List.mem_of_getElem? (i := 3) rfl)
  have g0 : G (ρ 0).toNat = 12 := by
    have q := (hG _ (List.mem_of_getElem? (i := 0) rfl)).2
    rwa [show ev ρ (0, [(0, 1)]) = ρ 0 from ev_v] at q
  have g1 : G (ρ 1).toNat = 116 := by
    have q := (hG _ (List.mem_of_getElem? (i := 1) rfl)).2
    rwa [show ev ρ (0, [(1, 1)]) = ρ 1 from ev_v] at q
  have g2 : G (ρ 3).toNat = 20 := by
    have q := (hG _ (List.mem_of_getElem? (i := 2) rfl)).2
    rwa [show ev ρ (0, [(3, 1)]) = ρ 3 from ev_v] at q
  have h1 : (0 : Int) ≤ ρ 2 ∧ ρ 2 ≤ 6 := hf_rg hT (hH _ (List.mem_of_getElem? (i := 1) rfl)) ev_v g0 rfl rfl rfl ev_v
  have b0 : (0 : Int) ≤ ((-1) + ((1) * ρ 2 + 0)) := b_aA (hA _ (List.mem_of_getElem? (i := 0) rfl))
  have p0 : q206 G := c2 (P := (fun (_ _ : Int) => q206 G)) (r := 0) (r' := 0) (c := 0) (c' := 0) (show q206 G from hP _ (List.mem_of_getElem? (i := 0) rfl)) rfl rfl
  have p1 : q246 G (ρ 3) (ρ 4) (rfv h) (elv h) := c2 (P := (fun r c => q246 G r c (rfv h) (elv h))) (show q246 G (((0) + ((1) * ρ 3 + 0))) (((0) + ((1) * ρ 4 + 0))) (rfv h) (elv h) from hP _ (List.mem_of_getElem? (i := 1) rfl)) (by omega) (by omega)
  have p2 : q361 G (ρ 3) (ρ 5) (rfv h) := c2 (P := (fun r c => q361 G r c (rfv h))) (show q361 G (((0) + ((1) * ρ 3 + 0))) (((0) + ((1) * ρ 5 + 0))) (rfv h) from hP _ (List.mem_of_getElem? (i := 2) rfl)) (by omega) (by omega)
  have p3 : True := c2 (P := (fun (_ _ : Int) => True)) (r := 0) (r' := 0) (c := 0) (c' := 0) (show True from hP _ (List.mem_of_getElem? (i := 3) rfl)) rfl rfl
  have p4 : qDrop (ρ 6) (ρ 7) := c2 (P := qDrop) (show qDrop (((0) + ((1) * ρ 6 + 0))) (((0) + ((1) * ρ 7 + 0))) from hP _ (List.mem_of_getElem? (i := 4) rfl)) (by omega) (by omega)
  have cT : 0 ≤ ρ 0 := by
    have q := (hG _ (List.mem_of_getElem? (i := 0) rfl)).1
    rwa [show ev ρ (0, [(0, 1)]) = ρ 0 from ev_v] at q
  have cA : 0 ≤ ρ 1 := by
    have q := (hG _ (List.mem_of_getElem? (i := 1) rfl)).1
    rwa [show ev ρ (0, [(1, 1)]) = ρ 1 from ev_v] at q
  have cC : 0 ≤ ρ 3 := by
    have q := (hG _ (List.mem_of_getElem? (i := 2) rfl)).1
    rwa [show ev ρ (0, [(3, 1)]) = ρ 3 from ev_v] at q
  have y0 : rfv h (ρ 0).toNat 0 = some (.ref (ρ 1).toNat) := ob_v hT (hH _ (List.mem_of_getElem? (i := 0) rfl)) ev_v g0 rfl ev_v
  have y1 : hasI (rfv h (ρ 0).toNat 1) (ρ 2) := ob_i hT (hH _ (List.mem_of_getElem? (i := 1) rfl)) ev_v g0 rfl ev_v
  have z0 : elv h (ρ 1).toNat (ρ 2 + (-1)).toNat = some (.ref (ρ 3).toNat) := ar_v (j := ρ 2 + (-1)) (hA _ (List.mem_of_getElem? (i := 0) rfl)) ev_v (show (ρ 2 + (-1) : Int) = ((-1) + ((1) * ρ 2 + 0)) by omega) ev_v
  obtain ⟨r1, r2, r3⟩ := s_kp (u := ρ 2) (by omega) (by omega) (by omega) p4 p1 p2
  obtain ⟨σ, sg1, sg2a⟩ : ∃ σ : Va, (∀ i, i < 8 → σ i = ρ i) ∧ σ 8 = ((((ρ 6).toNat % RB ^ 5) * RB + (ρ 5).toNat : Nat) : Int) := ⟨fun i => if i = 8 then ((((ρ 6).toNat % RB ^ 5) * RB + (ρ 5).toNat : Nat) : Int) else ρ i, fun i hi => by dsimp only; rw [if_neg (by omega)], by dsimp only; rw [if_pos rfl]⟩
  have s0 := sg1 0 (by omega)
  have s1 := sg1 1 (by omega)
  have s2 := sg1 2 (by omega)
  have s3 := sg1 3 (by omega)
  have s4 := sg1 4 (by omega)
  have s5 := sg1 5 (by omega)
  have s6 := sg1 6 (by omega)
  have s7 := sg1 7 (by omega)
  refine ⟨_, List.mem_cons_self, σ, sg1, fun q hq => absurd hq List.not_mem_nil, trivial, fun f hf => ?_, fun q hq => absurd hq List.not_mem_nil, fun q hq => absurd hq List.not_mem_nil, fun q hq => absurd hq List.not_mem_nil, fun q hq => ?_⟩
  · exact absurd hf List.not_mem_nil
  · simp only [List.mem_cons, List.not_mem_nil, or_false] at hq
    rcases hq with rfl | rfl
    · show q240 G (((0) + ((1) * σ 2 + 0))) (((0) + ((1) * σ 8 + 0))) (rfv h) (elv h)
      refine c2 (P := (fun r c => q240 G r c (rfv h) (elv h))) (r := ρ 2) (c := ((((ρ 6).toNat % RB ^ 5) * RB + (ρ 5).toNat : Nat) : Int)) ?_ (by omega) (by omega)
      show q240 G (ρ 2) (((((ρ 6).toNat % RB ^ 5) * RB + (ρ 5).toNat : Nat) : Int)) (rfv h) (elv h)
      exact (c2 (P := (fun r c => q240 G r c (rfv h) (elv h))) (r1) (by omega) (by omega))
    · show qPush (((0) + ((1) * σ 5 + ((1128430269653696552505663664688505519051893948117725342710709407999638941941219040912833546632301522012495604549678634617312701794930960696933850145274509219899605219518447018369658381698338332600334225533767288503097470829739413943739519714331064178097205003926859545229038622328927117691927971265095131106901145206539640038505022502031780376472027866138952425537536) * σ 6 + 0)))) (((0) + ((1) * σ 8 + 0)))
      refine c2 (P := qPush) (r := ρ 5 + 1128430269653696552505663664688505519051893948117725342710709407999638941941219040912833546632301522012495604549678634617312701794930960696933850145274509219899605219518447018369658381698338332600334225533767288503097470829739413943739519714331064178097205003926859545229038622328927117691927971265095131106901145206539640038505022502031780376472027866138952425537536 * ρ 6) (c := ((((ρ 6).toNat % RB ^ 5) * RB + (ρ 5).toNat : Nat) : Int)) ?_ (by omega) (by omega)
      show qPush (ρ 5 + 1128430269653696552505663664688505519051893948117725342710709407999638941941219040912833546632301522012495604549678634617312701794930960696933850145274509219899605219518447018369658381698338332600334225533767288503097470829739413943739519714331064178097205003926859545229038622328927117691927971265095131106901145206539640038505022502031780376472027866138952425537536 * ρ 6) (((((ρ 6).toNat % RB ^ 5) * RB + (ρ 5).toNat : Nat) : Int))
      exact oPush (L := ρ 6) (V := ρ 5) (by rw [RBe]; omega) r2 r3 rfl
/-- kctA -/
theorem lem_634_ok (hU : uqG G C) : lem_634.1.2.1 = [] ∧ lemOK (PRd G C D xs) G rgs lem_634 := by
  refine ⟨rfl, fun ρ h ha hT => ?_⟩
  obtain ⟨-, -, hF, hG, hH, hA, hP⟩ := ha
  have f0 : (0 : Int) ≤ ((5) + ((-1) * ρ 2 + 0)) := hF _ (List.mem_of_getElem? (i := 0) rfl)
  have f1 : (0 : Int) ≤ ((1) + ((-1) * ρ 1 + ((1) * ρ 2 + 0))) := hF _ (List.mem_of_getElem? (i := 1) rfl)
  have f2 : (0 : Int) ≤ ((-1) + ((1) * ρ 1 + ((-1) * ρ 2 + 0))) := hF _ (List.mem_of_getElem? (i := 2) rfl)
  have g0 : G (ρ 0).toNat = 12 := by
    have q := (hG _ (List.mem_of_getElem? (i := 0) rfl)).2
    rwa [show ev ρ (0, [(0, 1)]) = ρ 0 from ev_v] at q
  have h0 : (0 : Int) ≤ ρ 1 ∧ ρ 1 ≤ 6 := hf_rg hT (hH _ (List.mem_of_getElem? (i := 0) rfl)) ev_v g0 rfl rfl rfl ev_v
  have p0 : True := c2 (P := (fun (_ _ : Int) => True)) (r := 0) (r' := 0) (c := 0) (c' := 0) (show True from hP _ (List.mem_of_getElem? (i := 0) rfl)) rfl rfl
  refine ⟨_, List.mem_cons_self, ρ, fun _ _ => rfl, fun q hq => absurd hq List.not_mem_nil, trivial, fun f hf => ?_, fun q hq => absurd hq List.not_mem_nil, fun q hq => absurd hq List.not_mem_nil, fun q hq => absurd hq List.not_mem_nil, fun q hq => ?_⟩
  · exact absurd hf List.not_mem_nil
  · simp only [List.mem_cons, List.not_mem_nil, or_false] at hq
    subst hq
    show qCnt (((0) + ((1) * ρ 2 + 0))) (((0) + ((1) * ρ 1 + 0)))
    refine c2 (P := qCnt) (r := ρ 2) (c := ρ 1) ?_ (by omega) (by omega)
    show qCnt (ρ 2) (ρ 1)
    unfold qCnt
    rw [if_pos (by omega)]
    omega
/-- kctB -/
theorem lem_635_ok (hU : uqG G C) : lem_635.1.2.1 = [] ∧ lemOK (PRd G C D xs) G rgs lem_635 := by
  refine ⟨rfl, fun ρ h ha hT => ?_⟩
  obtain ⟨-, -, hF, hG, hH, hA, hP⟩ := ha
  have f0 : (0 : Int) ≤ ((-6) + ((1) * ρ 2 + 0)) := hF _ (List.mem_of_getElem? (i := 0) rfl)
  have f1 : (0 : Int) ≤ ((6) + ((-1) * ρ 2 + 0)) := hF _ (List.mem_of_getElem? (i := 1) rfl)
  have f2 : (0 : Int) ≤ ((6) + ((-1) * ρ 1 + 0)) := hF _ (List.mem_of_getElem? (i := 2) rfl)
  have f3 : (0 : Int) ≤ ((-6) + ((1) * ρ 1 + 0)) := hF _ (List.mem_of_getElem? (i := 3) rfl)
  have g0 : G (ρ 0).toNat = 12 := by
    have q := (hG _ (List.mem_of_getElem? (i := 0) rfl)).2
    rwa [show ev ρ (0, [(0, 1)]) = ρ 0 from ev_v] at q
  have h0 : (0 : Int) ≤ ρ 1 ∧ ρ 1 ≤ 6 := hf_rg hT (hH _ (List.mem_of_getElem? (i := 0) rfl)) ev_v g0 rfl rfl rfl ev_v
  have p0 : True := c2 (P := (fun (_ _ : Int) => True)) (r := 0) (r' := 0) (c := 0) (c' := 0) (show True from hP _ (List.mem_of_getElem? (i := 0) rfl)) rfl rfl
  refine ⟨_, List.mem_cons_self, ρ, fun _ _ => rfl, fun q hq => absurd hq List.not_mem_nil, trivial, fun f hf => ?_, fun q hq => absurd hq List.not_mem_nil, fun q hq => absurd hq List.not_mem_nil, fun q hq => absurd hq List.not_mem_nil, fun q hq => ?_⟩
  · exact absurd hf List.not_mem_nil
  · simp only [List.mem_cons, List.not_mem_nil, or_false] at hq
    subst hq
    show qCnt (((0) + ((1) * ρ 2 + 0))) (((0) + ((1) * ρ 1 + 0)))
    refine c2 (P := qCnt) (r := ρ 2) (c := ρ 1) ?_ (by omega) (by omega)
    show qCnt (ρ 2) (ρ 1)
    unfold qCnt
    rw [if_neg (by omega)]
    omega
/-- do0 -/
theorem lem_636_ok (hU : uqG G C) : lem_636.1.2.1 = [] ∧ lemOK (PRd G C D xs) G rgs lem_636 := by
  refine ⟨rfl, fun ρ h ha hT => ?_⟩
  obtain ⟨-, -, hF, hG, hH, hA, hP⟩ := ha
  have g0 : G (ρ 0).toNat = 12 := by
    have q := (hG _ (List.mem_of_getElem? (i := 0) rfl)).2
    rwa [show ev ρ (0, [(0, 1)]) = ρ 0 from ev_v] at q
  have g1 : G (ρ 1).toNat = 116 := by
    have q := (hG _ (List.mem_of_getElem? (i := 1) rfl)).2
    rwa [show ev ρ (0, [(1, 1)]) = ρ 1 from ev_v] at q
  have g2 : G (ρ 2).toNat = 20 := by
    have q := (hG _ (List.mem_of_getElem? (i := 2) rfl)).2
    rwa [show ev ρ (0, [(2, 1)]) = ρ 2 from ev_v] at q
  have g3 : G (ρ 3).toNat = 20 := by
    have q := (hG _ (List.mem_of_getElem? (i := 3) rfl)).2
    rwa [show ev ρ (0, [(3, 1)]) = ρ 3 from ev_v] at q
  have g4 : G (ρ 4).toNat = 20 := by
    have q := (hG _ (List.mem_of_getElem? (i := 4) rfl)).2
    rwa [show ev ρ (0, [(4, 1)]) = ρ 4 from ev_v] at q
  have g5 : G (ρ 5).toNat = 20 := by
    have q := (hG _ (List.mem_of_getElem? (i := 5) rfl)).2
    rwa [show ev ρ (0, [(5, 1)]) = ρ 5 from ev_v] at q
  have g6 : G (ρ 6).toNat = 20 := by
    have q := (hG _ (List.mem_of_getElem? (i := 6) rfl)).2
    rwa [show ev ρ (0, [(6, 1)]) = ρ 6 from ev_v] at q
  have g7 : G (ρ 7).toNat = 20 := by
    have q := (hG _ (List.mem_of_getElem? (i := 7) rfl)).2
    rwa [show ev ρ (0, [(7, 1)]) = ρ 7 from ev_v] at q
  have b0 : (0 : Int) ≤ ((0) + 0) := b_aA (hA _ (List.mem_of_getElem? (i := 0) rfl))
  have b1 : (0 : Int) ≤ ((1) + 0) := b_aA (hA _ (List.mem_of_getElem? (i := 1) rfl))
  have b2 : (0 : Int) ≤ ((2) + 0) := b_aA (hA _ (List.mem_of_getElem? (i := 2) rfl))
  have b3 : (0 : Int) ≤ ((3) + 0) := b_aA (hA _ (List.mem_of_getElem? (i := 3) rfl))
  have b4 : (0 : Int) ≤ ((4) + 0) := b_aA (hA _ (List.mem_of_getElem? (i := 4) rfl))
  have b5 : (0 : Int) ≤ ((5) + 0) := b_aA (hA _ (List.mem_of_getElem? (i := 5) rfl))
  have p0 : q206 G := c2 (P := (fun (_ _ : Int) => q206 G)) (r := 0) (r' := 0) (c := 0) (c' := 0) (show q206 G from hP _ (List.mem_of_getElem? (i := 0) rfl)) rfl rfl
  have p1 : q241 G (ρ 8) (elv h) := c2 (P := (fun r (_ : Int) => q241 G r (elv h))) (c := 0) (c' := 0) (show q241 G (((0) + ((1) * ρ 8 + 0))) (elv h) from hP _ (List.mem_of_getElem? (i := 1) rfl)) (by omega) rfl
  have p2 : q240 G ((6 : Int)) (ρ 9) (rfv h) (elv h) := c2 (P := (fun r c => q240 G r c (rfv h) (elv h))) (show q240 G (((6) + 0)) (((0) + ((1) * ρ 9 + 0))) (rfv h) (elv h) from hP _ (List.mem_of_getElem? (i := 2) rfl)) (by omega) (by omega)
  have cT : 0 ≤ ρ 0 := by
    have q := (hG _ (List.mem_of_getElem? (i := 0) rfl)).1
    rwa [show ev ρ (0, [(0, 1)]) = ρ 0 from ev_v] at q
  have cA : 0 ≤ ρ 1 := by
    have q := (hG _ (List.mem_of_getElem? (i := 1) rfl)).1
    rwa [show ev ρ (0, [(1, 1)]) = ρ 1 from ev_v] at q
  have cC0 : 0 ≤ ρ 2 := by
    have q := (hG _ (List.mem_of_getElem? (i := 2) rfl)).1
    rwa [show ev ρ (0, [(2, 1)]) = ρ 2 from ev_v] at q
  have cC1 : 0 ≤ ρ 3 := by
    have q := (hG _ (List.mem_of_getElem? (i := 3) rfl)).1
    rwa [show ev ρ (0, [(3, 1)]) = ρ 3 from ev_v] at q
  have cC2 : 0 ≤ ρ 4 := by
    have q := (hG _ (List.mem_of_getElem? (i := 4) rfl)).1
    rwa [show ev ρ (0, [(4, 1)]) = ρ 4 from ev_v] at q
  have cC3 : 0 ≤ ρ 5 := by
    have q := (hG _ (List.mem_of_getElem? (i := 5) rfl)).1
    rwa [show ev ρ (0, [(5, 1)]) = ρ 5 from ev_v] at q
  have cC4 : 0 ≤ ρ 6 := by
    have q := (hG _ (List.mem_of_getElem? (i := 6) rfl)).1
    rwa [show ev ρ (0, [(6, 1)]) = ρ 6 from ev_v] at q
  have cC5 : 0 ≤ ρ 7 := by
    have q := (hG _ (List.mem_of_getElem? (i := 7) rfl)).1
    rwa [show ev ρ (0, [(7, 1)]) = ρ 7 from ev_v] at q
  have y0 : rfv h (ρ 0).toNat 0 = some (.ref (ρ 1).toNat) := ob_v hT (hH _ (List.mem_of_getElem? (i := 0) rfl)) ev_v g0 rfl ev_v
  have z0 : elv h (ρ 1).toNat 0 = some (.ref (ρ 2).toNat) := ar_v (j := (0 : Int)) (hA _ (List.mem_of_getElem? (i := 0) rfl)) ev_v (show ((0 : Int) : Int) = ((0) + 0) by omega) ev_v
  have z1 : elv h (ρ 1).toNat 1 = some (.ref (ρ 3).toNat) := ar_v (j := (1 : Int)) (hA _ (List.mem_of_getElem? (i := 1) rfl)) ev_v (show ((1 : Int) : Int) = ((1) + 0) by omega) ev_v
  have z2 : elv h (ρ 1).toNat 2 = some (.ref (ρ 4).toNat) := ar_v (j := (2 : Int)) (hA _ (List.mem_of_getElem? (i := 2) rfl)) ev_v (show ((2 : Int) : Int) = ((2) + 0) by omega) ev_v
  have z3 : elv h (ρ 1).toNat 3 = some (.ref (ρ 5).toNat) := ar_v (j := (3 : Int)) (hA _ (List.mem_of_getElem? (i := 3) rfl)) ev_v (show ((3 : Int) : Int) = ((3) + 0) by omega) ev_v
  have z4 : elv h (ρ 1).toNat 4 = some (.ref (ρ 6).toNat) := ar_v (j := (4 : Int)) (hA _ (List.mem_of_getElem? (i := 4) rfl)) ev_v (show ((4 : Int) : Int) = ((4) + 0) by omega) ev_v
  have z5 : elv h (ρ 1).toNat 5 = some (.ref (ρ 7).toNat) := ar_v (j := (5 : Int)) (hA _ (List.mem_of_getElem? (i := 5) rfl)) ev_v (show ((5 : Int) : Int) = ((5) + 0) by omega) ev_v
  obtain ⟨r1, r2⟩ := s_do0 g1 cC0 cC1 cC2 cC3 cC4 cC5 z0 z1 z2 z3 z4 z5 p1 p2
  refine ⟨_, List.mem_cons_self, ρ, fun _ _ => rfl, fun q hq => absurd hq List.not_mem_nil, trivial, fun f hf => ?_, fun q hq => absurd hq List.not_mem_nil, fun q hq => absurd hq List.not_mem_nil, fun q hq => absurd hq List.not_mem_nil, fun q hq => ?_⟩
  · exact absurd hf List.not_mem_nil
  · simp only [List.mem_cons, List.not_mem_nil, or_false] at hq
    rcases hq with rfl | rfl
    · show q243 G (((0) + ((1) * ρ 2 + ((1024) * ρ 3 + ((1048576) * ρ 4 + ((1073741824) * ρ 5 + ((1099511627776) * ρ 6 + ((1125899906842624) * ρ 7 + 0)))))))) (((0) + ((1) * ρ 8 + 0)))
      refine c2 (P := (fun r c => q243 G r c)) (r := ρ 2 + 1024 * ρ 3 + 1048576 * ρ 4 + 1073741824 * ρ 5 + 1099511627776 * ρ 6 + 1125899906842624 * ρ 7) (c := ρ 8) ?_ (by omega) (by omega)
      show q243 G (ρ 2 + 1024 * ρ 3 + 1048576 * ρ 4 + 1073741824 * ρ 5 + 1099511627776 * ρ 6 + 1125899906842624 * ρ 7) (ρ 8)
      exact (c2 (P := (fun r c => q243 G r c)) (r1) (by omega) (by omega))
    · show q244 G (((0) + ((1) * ρ 2 + ((1024) * ρ 3 + ((1048576) * ρ 4 + ((1073741824) * ρ 5 + ((1099511627776) * ρ 6 + ((1125899906842624) * ρ 7 + 0)))))))) (((0) + ((1) * ρ 9 + 0))) (rfv h)
      refine c2 (P := (fun r c => q244 G r c (rfv h))) (r := ρ 2 + 1024 * ρ 3 + 1048576 * ρ 4 + 1073741824 * ρ 5 + 1099511627776 * ρ 6 + 1125899906842624 * ρ 7) (c := ρ 9) ?_ (by omega) (by omega)
      show q244 G (ρ 2 + 1024 * ρ 3 + 1048576 * ρ 4 + 1073741824 * ρ 5 + 1099511627776 * ρ 6 + 1125899906842624 * ρ 7) (ρ 9) (rfv h)
      exact (c2 (P := (fun r c => q244 G r c (rfv h))) (r2) (by omega) (by omega))
/-- do1 -/
theorem lem_637_ok (hU : uqG G C) : lem_637.1.2.1 = [] ∧ lemOK (PRd G C D xs) G rgs lem_637 := by
  refine ⟨rfl, fun ρ h ha hT => ?_⟩
  obtain ⟨-, -, hF, hG, hH, hA, hP⟩ := ha
  have f0 : (0 : Int) ≤ ((5) + ((-1) * ρ 2 + 0)) := hF _ (List.mem_of_getElem? (i := 0) rfl)
  have f1 : (0 : Int) ≤ ((-5) + ((1) * ρ 2 + 0)) := hF _ (List.mem_of_getElem? (i := 1) rfl)
  have g0 : G (ρ 0).toNat = 12 := by
    have q := (hG _ (List.mem_of_getElem? (i := 0) rfl)).2
    rwa [show ev ρ (0, [(0, 1)]) = ρ 0 from ev_v] at q
  have g1 : G (ρ 1).toNat = 116 := by
    have q := (hG _ (List.mem_of_getElem? (i := 1) rfl)).2
    rwa [show ev ρ (0, [(1, 1)]) = ρ 1 from ev_v] at q
  have g2 : G (ρ 3).toNat = 20 := by
    have q := (hG _ (List.mem_of_getElem? (i := 2) rfl)).2
    rwa [show ev ρ (0, [(3, 1)]) = ρ 3 from ev_v] at q
  have g3 : G (ρ 4).toNat = 20 := by
    have q := (hG _ (List.mem_of_getElem? (i := 3) rfl)).2
    rwa [show ev ρ (0, [(4, 1)]) = ρ 4 from ev_v] at q
  have g4 : G (ρ 5).toNat = 20 := by
    have q := (hG _ (List.mem_of_getElem? (i := 4) rfl)).2
    rwa [show ev ρ (0, [(5, 1)]) = ρ 5 from ev_v] at q
  have g5 : G (ρ 6).toNat = 20 := by
    have q := (hG _ (List.mem_of_getElem? (i := 5) rfl)).2
    rwa [show ev ρ (0, [(6, 1)]) = ρ 6 from ev_v] at q
  have g6 : G (ρ 7).toNat = 20 := by
    have q := (hG _ (List.mem_of_getElem? (i := 6) rfl)).2
    rwa [show ev ρ (0, [(7, 1)]) = ρ 7 from ev_v] at q
  have g7 : G (ρ 8).toNat = 20 := by
    have q := (hG _ (List.mem_of_getElem? (i := 7) rfl)).2
    rwa [show ev ρ (0, [(8, 1)]) = ρ 8 from ev_v] at q
  have h1 : (0 : Int) ≤ ρ 2 ∧ ρ 2 ≤ 6 := hf_rg hT (hH _ (List.mem_of_getElem? (i := 1) rfl)) ev_v g0 rfl rfl rfl ev_v
  have b0 : (0 : Int) ≤ ((0) + 0) := b_aA (hA _ (List.mem_of_getElem? (i := 0) rfl))
  have b1 : (0 : Int) ≤ ((1) + 0) := b_aA (hA _ (List.mem_of_getElem? (i := 1) rfl))
  have b2 : (0 : Int) ≤ ((2) + 0) := b_aA (hA _ (List.mem_of_getElem? (i := 2) rfl))
  have b3 : (0 : Int) ≤ ((3) + 0) := b_aA (hA _ (List.mem_of_getElem? (i := 3) rfl))
  have b4 : (0 : Int) ≤ ((4) + 0) := b_aA (hA _ (List.mem_of_getElem? (i := 4) rfl))
  have b5 : (0 : Int) ≤ ((5) + 0) := b_aA (hA _ (List.mem_of_getElem? (i := 5) rfl))
  have p0 : q206 G := c2 (P := (fun (_ _ : Int) => q206 G)) (r := 0) (r' := 0) (c := 0) (c' := 0) (show q206 G from hP _ (List.mem_of_getElem? (i := 0) rfl)) rfl rfl
  have p1 : q243 G (1024 * ρ 3 + 1048576 * ρ 4 + 1073741824 * ρ 5 + 1099511627776 * ρ 6 + 1125899906842624 * ρ 7 + ρ 8) (ρ 9) := c2 (P := (fun r c => q243 G r c)) (show q243 G (((0) + ((1024) * ρ 3 + ((1048576) * ρ 4 + ((1073741824) * ρ 5 + ((1099511627776) * ρ 6 + ((1125899906842624) * ρ 7 + ((1) * ρ 8 + 0)))))))) (((0) + ((1) * ρ 9 + 0))) from hP _ (List.mem_of_getElem? (i := 1) rfl)) (by omega) (by omega)
  have p2 : q244 G (1024 * ρ 3 + 1048576 * ρ 4 + 1073741824 * ρ 5 + 1099511627776 * ρ 6 + 1125899906842624 * ρ 7 + ρ 8) (ρ 10) (rfv h) := c2 (P := (fun r c => q244 G r c (rfv h))) (show q244 G (((0) + ((1024) * ρ 3 + ((1048576) * ρ 4 + ((1073741824) * ρ 5 + ((1099511627776) * ρ 6 + ((1125899906842624) * ρ 7 + ((1) * ρ 8 + 0)))))))) (((0) + ((1) * ρ 10 + 0))) (rfv h) from hP _ (List.mem_of_getElem? (i := 2) rfl)) (by omega) (by omega)
  have cT : 0 ≤ ρ 0 := by
    have q := (hG _ (List.mem_of_getElem? (i := 0) rfl)).1
    rwa [show ev ρ (0, [(0, 1)]) = ρ 0 from ev_v] at q
  have cA : 0 ≤ ρ 1 := by
    have q := (hG _ (List.mem_of_getElem? (i := 1) rfl)).1
    rwa [show ev ρ (0, [(1, 1)]) = ρ 1 from ev_v] at q
  have cC0 : 0 ≤ ρ 3 := by
    have q := (hG _ (List.mem_of_getElem? (i := 2) rfl)).1
    rwa [show ev ρ (0, [(3, 1)]) = ρ 3 from ev_v] at q
  have cC1 : 0 ≤ ρ 4 := by
    have q := (hG _ (List.mem_of_getElem? (i := 3) rfl)).1
    rwa [show ev ρ (0, [(4, 1)]) = ρ 4 from ev_v] at q
  have cC2 : 0 ≤ ρ 5 := by
    have q := (hG _ (List.mem_of_getElem? (i := 4) rfl)).1
    rwa [show ev ρ (0, [(5, 1)]) = ρ 5 from ev_v] at q
  have cC3 : 0 ≤ ρ 6 := by
    have q := (hG _ (List.mem_of_getElem? (i := 5) rfl)).1
    rwa [show ev ρ (0, [(6, 1)]) = ρ 6 from ev_v] at q
  have cC4 : 0 ≤ ρ 7 := by
    have q := (hG _ (List.mem_of_getElem? (i := 6) rfl)).1
    rwa [show ev ρ (0, [(7, 1)]) = ρ 7 from ev_v] at q
  have cC5 : 0 ≤ ρ 8 := by
    have q := (hG _ (List.mem_of_getElem? (i := 7) rfl)).1
    rwa [show ev ρ (0, [(8, 1)]) = ρ 8 from ev_v] at q
  have y0 : rfv h (ρ 0).toNat 0 = some (.ref (ρ 1).toNat) := ob_v hT (hH _ (List.mem_of_getElem? (i := 0) rfl)) ev_v g0 rfl ev_v
  have y1 : hasI (rfv h (ρ 0).toNat 1) (ρ 2) := ob_i hT (hH _ (List.mem_of_getElem? (i := 1) rfl)) ev_v g0 rfl ev_v
  have z0 : elv h (ρ 1).toNat 0 = some (.ref (ρ 3).toNat) := ar_v (j := (0 : Int)) (hA _ (List.mem_of_getElem? (i := 0) rfl)) ev_v (show ((0 : Int) : Int) = ((0) + 0) by omega) ev_v
  have z1 : elv h (ρ 1).toNat 1 = some (.ref (ρ 4).toNat) := ar_v (j := (1 : Int)) (hA _ (List.mem_of_getElem? (i := 1) rfl)) ev_v (show ((1 : Int) : Int) = ((1) + 0) by omega) ev_v
  have z2 : elv h (ρ 1).toNat 2 = some (.ref (ρ 5).toNat) := ar_v (j := (2 : Int)) (hA _ (List.mem_of_getElem? (i := 2) rfl)) ev_v (show ((2 : Int) : Int) = ((2) + 0) by omega) ev_v
  have z3 : elv h (ρ 1).toNat 3 = some (.ref (ρ 6).toNat) := ar_v (j := (3 : Int)) (hA _ (List.mem_of_getElem? (i := 3) rfl)) ev_v (show ((3 : Int) : Int) = ((3) + 0) by omega) ev_v
  have z4 : elv h (ρ 1).toNat 4 = some (.ref (ρ 7).toNat) := ar_v (j := (4 : Int)) (hA _ (List.mem_of_getElem? (i := 4) rfl)) ev_v (show ((4 : Int) : Int) = ((4) + 0) by omega) ev_v
  have z5 : elv h (ρ 1).toNat 5 = some (.ref (ρ 8).toNat) := ar_v (j := (5 : Int)) (hA _ (List.mem_of_getElem? (i := 5) rfl)) ev_v (show ((5 : Int) : Int) = ((5) + 0) by omega) ev_v
  obtain ⟨r1, r2⟩ := s_do1 (u := ρ 2) (x := ρ 9) (L := ρ 10) g1 (by omega) cC0 cC1 cC2 cC3 cC4 cC5 g2 g3 g4 g5 g6 g7 z0 z1 z2 z3 z4 z5 (c2 (P := (fun r c => q243 G r c)) p1 (by omega) (by omega)) (c2 (P := (fun r c => q244 G r c (rfv h))) p2 (by omega) (by omega))
  obtain ⟨σ, sg1, sg2a⟩ : ∃ σ : Va, (∀ i, i < 11 → σ i = ρ i) ∧ σ 11 = (((ρ 10).toNat % RB ^ 5 : Nat) : Int) := ⟨fun i => if i = 11 then (((ρ 10).toNat % RB ^ 5 : Nat) : Int) else ρ i, fun i hi => by dsimp only; rw [if_neg (by omega)], by dsimp only; rw [if_pos rfl]⟩
  have s0 := sg1 0 (by omega)
  have s1 := sg1 1 (by omega)
  have s2 := sg1 2 (by omega)
  have s3 := sg1 3 (by omega)
  have s4 := sg1 4 (by omega)
  have s5 := sg1 5 (by omega)
  have s6 := sg1 6 (by omega)
  have s7 := sg1 7 (by omega)
  have s8 := sg1 8 (by omega)
  have s9 := sg1 9 (by omega)
  have s10 := sg1 10 (by omega)
  refine ⟨_, List.mem_cons_self, σ, sg1, fun q hq => absurd hq List.not_mem_nil, trivial, fun f hf => ?_, fun q hq => absurd hq List.not_mem_nil, fun q hq => absurd hq List.not_mem_nil, fun q hq => absurd hq List.not_mem_nil, fun q hq => ?_⟩
  · exact absurd hf List.not_mem_nil
  · simp only [List.mem_cons, List.not_mem_nil, or_false] at hq
    rcases hq with rfl | rfl | rfl
    · show q241 G (((0) + ((1) * σ 9 + 0))) (elv h)
      refine c2 (P := (fun r (_ : Int) => q241 G r (elv h))) (c := 0) (c' := 0) (r := ρ 9) ?_ (by omega) rfl
      show q241 G (ρ 9) (elv h)
      exact (c2 (P := (fun r (_ : Int) => q241 G r (elv h))) (c := 0) (c' := 0) (r1) (by omega) rfl)
    · show q240 G (((0) + ((1) * σ 2 + 0))) (((0) + ((1) * σ 11 + 0))) (rfv h) (elv h)
      refine c2 (P := (fun r c => q240 G r c (rfv h) (elv h))) (r := ρ 2) (c := (((ρ 10).toNat % RB ^ 5 : Nat) : Int)) ?_ (by omega) (by omega)
      show q240 G (ρ 2) ((((ρ 10).toNat % RB ^ 5 : Nat) : Int)) (rfv h) (elv h)
      exact (c2 (P := (fun r c => q240 G r c (rfv h) (elv h))) (r2) (by omega) (by omega))
    · show qDrop (((0) + ((1) * σ 10 + 0))) (((0) + ((1) * σ 11 + 0)))
      refine c2 (P := qDrop) (r := ρ 10) (c := (((ρ 10).toNat % RB ^ 5 : Nat) : Int)) ?_ (by omega) (by omega)
      show qDrop (ρ 10) ((((ρ 10).toNat % RB ^ 5 : Nat) : Int))
      exact rfl
/-- tb -/
theorem lem_638_ok (hU : uqG G C) : lem_638.1.2.1 = [] ∧ lemOK (PRd G C D xs) G rgs lem_638 := by
  refine ⟨rfl, fun ρ h ha hT => ?_⟩
  obtain ⟨-, -, hF, hG, hH, hA, hP⟩ := ha
  have f0 : (0 : Int) ≤ ((0) + ((1) * ρ 4 + 0)) := hF _ (List.mem_of_getElem? (i := 0) rfl)
  have f1 : (0 : Int) ≤ ((5) + ((-1) * ρ 4 + 0)) := hF _ (List.mem_of_getElem? (i := 1) rfl)
  have g0 : G (ρ 0).toNat = 12 := by
    have q := (hG _ (List.mem_of_getElem? (i := 0) rfl)).2
    rwa [show ev ρ (0, [(0, 1)]) = ρ 0 from ev_v] at q
  have g1 : G (ρ 3).toNat = 116 := by
    have q := (hG _ (List.mem_of_getElem? (i := 1) rfl)).2
    rwa [show ev ρ (0, [(3, 1)]) = ρ 3 from ev_v] at q
  have g2 : G (ρ 1).toNat = 20 := by
    have q := (hG _ (List.mem_of_getElem? (i := 2) rfl)).2
    rwa [show ev ρ (0, [(1, 1)]) = ρ 1 from ev_v] at q
  have g3 : G (ρ 2).toNat = 20 := by
    have q := (hG _ (List.mem_of_getElem? (i := 3) rfl)).2
    rwa [show ev ρ (0, [(2, 1)]) = ρ 2 from ev_v] at q
  have h1 : (0 : Int) ≤ ρ 4 ∧ ρ 4 ≤ 6 := hf_rg hT (hH _ (List.mem_of_getElem? (i := 1) rfl)) ev_v g0 rfl rfl rfl ev_v
  have b0 : (0 : Int) ≤ ((0) + ((1) * ρ 4 + 0)) := b_aA (hA _ (List.mem_of_getElem? (i := 0) rfl))
  have p0 : q206 G := c2 (P := (fun (_ _ : Int) => q206 G)) (r := 0) (r' := 0) (c := 0) (c' := 0) (show q206 G from hP _ (List.mem_of_getElem? (i := 0) rfl)) rfl rfl
  have p1 : q241 G (ρ 2) (elv h) := c2 (P := (fun r (_ : Int) => q241 G r (elv h))) (c := 0) (c' := 0) (show q241 G (((0) + ((1) * ρ 2 + 0))) (elv h) from hP _ (List.mem_of_getElem? (i := 1) rfl)) (by omega) rfl
  have p2 : q240 G (ρ 4 + 1) (ρ 5) (rfv h) (elv h) := c2 (P := (fun r c => q240 G r c (rfv h) (elv h))) (show q240 G (((1) + ((1) * ρ 4 + 0))) (((0) + ((1) * ρ 5 + 0))) (rfv h) (elv h) from hP _ (List.mem_of_getElem? (i := 2) rfl)) (by omega) (by omega)
  have cT : 0 ≤ ρ 0 := by
    have q := (hG _ (List.mem_of_getElem? (i := 0) rfl)).1
    rwa [show ev ρ (0, [(0, 1)]) = ρ 0 from ev_v] at q
  have cA : 0 ≤ ρ 3 := by
    have q := (hG _ (List.mem_of_getElem? (i := 1) rfl)).1
    rwa [show ev ρ (0, [(3, 1)]) = ρ 3 from ev_v] at q
  have cE : 0 ≤ ρ 1 := by
    have q := (hG _ (List.mem_of_getElem? (i := 2) rfl)).1
    rwa [show ev ρ (0, [(1, 1)]) = ρ 1 from ev_v] at q
  have cX : 0 ≤ ρ 2 := by
    have q := (hG _ (List.mem_of_getElem? (i := 3) rfl)).1
    rwa [show ev ρ (0, [(2, 1)]) = ρ 2 from ev_v] at q
  have y0 : rfv h (ρ 0).toNat 0 = some (.ref (ρ 3).toNat) := ob_v hT (hH _ (List.mem_of_getElem? (i := 0) rfl)) ev_v g0 rfl ev_v
  have y1 : hasI (rfv h (ρ 0).toNat 1) (ρ 4) := ob_i hT (hH _ (List.mem_of_getElem? (i := 1) rfl)) ev_v g0 rfl ev_v
  have z0 : elv h (ρ 3).toNat (ρ 4).toNat = some (.ref (ρ 1).toNat) := ar_v (j := ρ 4) (hA _ (List.mem_of_getElem? (i := 0) rfl)) ev_v (show (ρ 4 : Int) = ((0) + ((1) * ρ 4 + 0)) by omega) ev_v
  obtain ⟨r1, r2, r3, r4, r5⟩ := s_tb (L := ρ 5) g1 cE cX (by omega) (by omega) z0 p1 (c2 (P := (fun r c => q240 G r c (rfv h) (elv h))) p2 (by omega) (by omega))
  obtain ⟨σ, sg1, sg2a, sg2b⟩ : ∃ σ : Va, (∀ i, i < 6 → σ i = ρ i) ∧ σ 6 = (((ρ 5).toNat % RB : Nat) : Int) ∧ σ 7 = (((ρ 5).toNat / RB : Nat) : Int) := ⟨fun i => if i = 6 then (((ρ 5).toNat % RB : Nat) : Int) else if i = 7 then (((ρ 5).toNat / RB : Nat) : Int) else ρ i, fun i hi => by dsimp only; rw [if_neg (by omega), if_neg (by omega)], by dsimp only; rw [if_pos rfl], by dsimp only; rw [if_neg (by decide), if_pos rfl]⟩
  have s0 := sg1 0 (by omega)
  have s1 := sg1 1 (by omega)
  have s2 := sg1 2 (by omega)
  have s3 := sg1 3 (by omega)
  have s4 := sg1 4 (by omega)
  have s5 := sg1 5 (by omega)
  refine ⟨_, List.mem_cons_self, σ, sg1, fun q hq => absurd hq List.not_mem_nil, trivial, fun f hf => ?_, fun q hq => absurd hq List.not_mem_nil, fun q hq => absurd hq List.not_mem_nil, fun q hq => absurd hq List.not_mem_nil, fun q hq => ?_⟩
  · simp only [List.mem_cons, List.not_mem_nil, or_false] at hf
    rcases hf with rfl | rfl
    · show (0 : Int) ≤ ((-162) + ((1) * σ 1 + 0))
      omega
    · show (0 : Int) ≤ ((577) + ((-1) * σ 1 + 0))
      omega
  · simp only [List.mem_cons, List.not_mem_nil, or_false] at hq
    rcases hq with rfl | rfl | rfl | rfl | rfl
    · show q210 G (((0) + ((1) * σ 1 + 0))) (((0) + ((1) * σ 6 + 0))) (rfv h)
      refine c2 (P := (fun r c => q210 G r c (rfv h))) (r := ρ 1) (c := (((ρ 5).toNat % RB : Nat) : Int)) ?_ (by omega) (by omega)
      show q210 G (ρ 1) ((((ρ 5).toNat % RB : Nat) : Int)) (rfv h)
      exact (c2 (P := (fun r c => q210 G r c (rfv h))) (r1) (by omega) (by omega))
    · show q240 G (((0) + ((1) * σ 4 + 0))) (((0) + ((1) * σ 7 + 0))) (rfv h) (elv h)
      refine c2 (P := (fun r c => q240 G r c (rfv h) (elv h))) (r := ρ 4) (c := (((ρ 5).toNat / RB : Nat) : Int)) ?_ (by omega) (by omega)
      show q240 G (ρ 4) ((((ρ 5).toNat / RB : Nat) : Int)) (rfv h) (elv h)
      exact (c2 (P := (fun r c => q240 G r c (rfv h) (elv h))) (r2) (by omega) (by omega))
    · show q249 G (((0) + ((1) * σ 4 + 0))) (((0) + ((1024) * σ 1 + ((1) * σ 2 + 0)))) (elv h)
      refine c2 (P := (fun r c => q249 G r c (elv h))) (r := ρ 4) (c := 1024 * ρ 1 + ρ 2) ?_ (by omega) (by omega)
      show q249 G (ρ 4) (1024 * ρ 1 + ρ 2) (elv h)
      exact (c2 (P := (fun r c => q249 G r c (elv h))) (r3) (by omega) (by omega))
    · show qTop (((0) + ((1) * σ 5 + 0))) (((0) + ((1) * σ 6 + 0)))
      refine c2 (P := qTop) (r := ρ 5) (c := (((ρ 5).toNat % RB : Nat) : Int)) ?_ (by omega) (by omega)
      show qTop (ρ 5) ((((ρ 5).toNat % RB : Nat) : Int))
      exact rfl
    · show qTail (((0) + ((1) * σ 5 + 0))) (((0) + ((1) * σ 7 + 0)))
      refine c2 (P := qTail) (r := ρ 5) (c := (((ρ 5).toNat / RB : Nat) : Int)) ?_ (by omega) (by omega)
      show qTail (ρ 5) ((((ρ 5).toNat / RB : Nat) : Int))
      exact rfl
/-- tb2 -/
theorem lem_639_ok (hU : uqG G C) : lem_639.1.2.1 = [] ∧ lemOK (PRd G C D xs) G rgs lem_639 := by
  refine ⟨rfl, fun ρ h ha hT => ?_⟩
  obtain ⟨-, -, hF, hG, hH, hA, hP⟩ := ha
  have f0 : (0 : Int) ≤ ((0) + ((1) * ρ 4 + 0)) := hF _ (List.mem_of_getElem? (i := 0) rfl)
  have f1 : (0 : Int) ≤ ((5) + ((-1) * ρ 4 + 0)) := hF _ (List.mem_of_getElem? (i := 1) rfl)
  have f2 : (0 : Int) ≤ ((0) + ((1024) * ρ 1 + ((1) * ρ 2 + ((-1) * ρ 5 + 0)))) := hF _ (List.mem_of_getElem? (i := 2) rfl)
  have f3 : (0 : Int) ≤ ((0) + ((-1024) * ρ 1 + ((-1) * ρ 2 + ((1) * ρ 5 + 0)))) := hF _ (List.mem_of_getElem? (i := 3) rfl)
  have g0 : G (ρ 0).toNat = 12 := by
    have q := (hG _ (List.mem_of_getElem? (i := 0) rfl)).2
    rwa [show ev ρ (0, [(0, 1)]) = ρ 0 from ev_v] at q
  have g1 : G (ρ 3).toNat = 116 := by
    have q := (hG _ (List.mem_of_getElem? (i := 1) rfl)).2
    rwa [show ev ρ (0, [(3, 1)]) = ρ 3 from ev_v] at q
  have g2 : G (ρ 1).toNat = 20 := by
    have q := (hG _ (List.mem_of_getElem? (i := 2) rfl)).2
    rwa [show ev ρ (0, [(1, 1)]) = ρ 1 from ev_v] at q
  have g3 : G (ρ 2).toNat = 20 := by
    have q := (hG _ (List.mem_of_getElem? (i := 3) rfl)).2
    rwa [show ev ρ (0, [(2, 1)]) = ρ 2 from ev_v] at q
  have h1 : (0 : Int) ≤ ρ 4 ∧ ρ 4 ≤ 6 := hf_rg hT (hH _ (List.mem_of_getElem? (i := 1) rfl)) ev_v g0 rfl rfl rfl ev_v
  have b0 : (0 : Int) ≤ ((0) + ((1) * ρ 4 + 0)) := b_aA (hA _ (List.mem_of_getElem? (i := 0) rfl))
  have p0 : q206 G := c2 (P := (fun (_ _ : Int) => q206 G)) (r := 0) (r' := 0) (c := 0) (c' := 0) (show q206 G from hP _ (List.mem_of_getElem? (i := 0) rfl)) rfl rfl
  have p1 : q249 G (ρ 4) (ρ 5) (elv h) := c2 (P := (fun r c => q249 G r c (elv h))) (show q249 G (((0) + ((1) * ρ 4 + 0))) (((0) + ((1) * ρ 5 + 0))) (elv h) from hP _ (List.mem_of_getElem? (i := 1) rfl)) (by omega) (by omega)
  have cT : 0 ≤ ρ 0 := by
    have q := (hG _ (List.mem_of_getElem? (i := 0) rfl)).1
    rwa [show ev ρ (0, [(0, 1)]) = ρ 0 from ev_v] at q
  have cA : 0 ≤ ρ 3 := by
    have q := (hG _ (List.mem_of_getElem? (i := 1) rfl)).1
    rwa [show ev ρ (0, [(3, 1)]) = ρ 3 from ev_v] at q
  have cE : 0 ≤ ρ 1 := by
    have q := (hG _ (List.mem_of_getElem? (i := 2) rfl)).1
    rwa [show ev ρ (0, [(1, 1)]) = ρ 1 from ev_v] at q
  have cX : 0 ≤ ρ 2 := by
    have q := (hG _ (List.mem_of_getElem? (i := 3) rfl)).1
    rwa [show ev ρ (0, [(2, 1)]) = ρ 2 from ev_v] at q
  have y0 : rfv h (ρ 0).toNat 0 = some (.ref (ρ 3).toNat) := ob_v hT (hH _ (List.mem_of_getElem? (i := 0) rfl)) ev_v g0 rfl ev_v
  have y1 : hasI (rfv h (ρ 0).toNat 1) (ρ 4) := ob_i hT (hH _ (List.mem_of_getElem? (i := 1) rfl)) ev_v g0 rfl ev_v
  have z0 : elv h (ρ 3).toNat (ρ 4).toNat = some (.ref (ρ 2).toNat) := ar_v (j := ρ 4) (hA _ (List.mem_of_getElem? (i := 0) rfl)) ev_v (show (ρ 4 : Int) = ((0) + ((1) * ρ 4 + 0)) by omega) ev_v
  refine ⟨_, List.mem_cons_self, ρ, fun _ _ => rfl, fun q hq => absurd hq List.not_mem_nil, trivial, fun f hf => ?_, fun q hq => absurd hq List.not_mem_nil, fun q hq => absurd hq List.not_mem_nil, fun q hq => absurd hq List.not_mem_nil, fun q hq => ?_⟩
  · exact absurd hf List.not_mem_nil
  · simp only [List.mem_cons, List.not_mem_nil, or_false] at hq
    subst hq
    show q241 G (((0) + ((1) * ρ 1 + 0))) (elv h)
    refine c2 (P := (fun r (_ : Int) => q241 G r (elv h))) (c := 0) (c' := 0) (r := ρ 1) ?_ (by omega) rfl
    show q241 G (ρ 1) (elv h)
    exact (c2 (P := (fun r (_ : Int) => q241 G r (elv h))) (c := 0) (c' := 0) (s_tb2 g1 cE cX g3 g2 (by omega) z0 p1) (by omega) rfl)
/-- reg2 -/
theorem lem_640_ok (hU : uqG G C) : lem_640.1.2.1 = [] ∧ lemOK (PRd G C D xs) G rgs lem_640 := by
  refine ⟨rfl, fun ρ h ha hT => ?_⟩
  obtain ⟨-, -, hF, hG, hH, hA, hP⟩ := ha
  refine ⟨_, List.mem_cons_self, ρ, fun _ _ => rfl, fun q hq => absurd hq List.not_mem_nil, trivial, fun f hf => ?_, fun q hq => absurd hq List.not_mem_nil, fun q hq => absurd hq List.not_mem_nil, fun q hq => absurd hq List.not_mem_nil, fun q hq => ?_⟩
  · exact absurd hf List.not_mem_nil
  · simp only [List.mem_cons, List.not_mem_nil, or_false] at hq
    rcases hq with rfl | rfl
    · show True
      refine c2 (P := (fun (_ _ : Int) => True)) (r := 0) (r' := 0) (c := 0) (c' := 0) ?_ rfl rfl
      show True
      trivial
    · show True
      refine c2 (P := (fun (_ _ : Int) => True)) (r := 0) (r' := 0) (c := 0) (c' := 0) ?_ rfl rfl
      show True
      trivial
/-- reg3 -/
theorem lem_641_ok (hU : uqG G C) : lem_641.1.2.1 = [] ∧ lemOK (PRd G C D xs) G rgs lem_641 := by
  refine ⟨rfl, fun ρ h ha hT => ?_⟩
  obtain ⟨-, -, hF, hG, hH, hA, hP⟩ := ha
  refine ⟨_, List.mem_cons_self, ρ, fun _ _ => rfl, fun q hq => absurd hq List.not_mem_nil, trivial, fun f hf => ?_, fun q hq => absurd hq List.not_mem_nil, fun q hq => absurd hq List.not_mem_nil, fun q hq => absurd hq List.not_mem_nil, fun q hq => ?_⟩
  · exact absurd hf List.not_mem_nil
  · simp only [List.mem_cons, List.not_mem_nil, or_false] at hq
    rcases hq with rfl | rfl
    · show True
      refine c2 (P := (fun (_ _ : Int) => True)) (r := 0) (r' := 0) (c := 0) (c' := 0) ?_ rfl rfl
      show True
      trivial
    · show True
      refine c2 (P := (fun (_ _ : Int) => True)) (r := 0) (r' := 0) (c := 0) (c' := 0) ?_ rfl rfl
      show True
      trivial
/-- v361 -/
theorem lem_642_ok (hU : uqG G C) : lem_642.1.2.1 = [] ∧ lemOK (PRd G C D xs) G rgs lem_642 := by
  refine ⟨rfl, fun ρ h ha hT => ?_⟩
  obtain ⟨-, -, hF, hG, hH, hA, hP⟩ := ha
  have g0 : G (ρ 0).toNat = 20 := by
    have q := (hG _ (List.mem_of_getElem? (i := 0) rfl)).2
    rwa [show ev ρ (0, [(0, 1)]) = ρ 0 from ev_v] at q
  have p0 : q210 G (ρ 0) (ρ 1) (rfv h) := c2 (P := (fun r c => q210 G r c (rfv h))) (show q210 G (((0) + ((1) * ρ 0 + 0))) (((0) + ((1) * ρ 1 + 0))) (rfv h) from hP _ (List.mem_of_getElem? (i := 0) rfl)) (by omega) (by omega)
  refine ⟨_, List.mem_cons_self, ρ, fun _ _ => rfl, fun q hq => absurd hq List.not_mem_nil, trivial, fun f hf => ?_, fun q hq => absurd hq List.not_mem_nil, fun q hq => absurd hq List.not_mem_nil, fun q hq => absurd hq List.not_mem_nil, fun q hq => ?_⟩
  · exact absurd hf List.not_mem_nil
  · simp only [List.mem_cons, List.not_mem_nil, or_false] at hq
    subst hq
    show q361 G (((0) + ((1) * ρ 0 + 0))) (((0) + ((1) * ρ 1 + 0))) (rfv h)
    refine c2 (P := (fun r c => q361 G r c (rfv h))) (r := ρ 0) (c := ρ 1) ?_ (by omega) (by omega)
    show q361 G (ρ 0) (ρ 1) (rfv h)
    exact q210.o p0
/-- st0 -/
theorem lem_643_ok (hU : uqG G C) : lem_643.1.2.1 = [] ∧ lemOK (PRd G C D xs) G rgs lem_643 := by
  refine ⟨rfl, fun ρ h ha hT => ?_⟩
  obtain ⟨-, -, hF, hG, hH, hA, hP⟩ := ha
  have g0 : G (ρ 0).toNat = 20 := by
    have q := (hG _ (List.mem_of_getElem? (i := 0) rfl)).2
    rwa [show ev ρ (0, [(0, 1)]) = ρ 0 from ev_v] at q
  have h0 : (0 : Int) ≤ ρ 1 ∧ ρ 1 ≤ 2000 := hf_rg hT (hH _ (List.mem_of_getElem? (i := 0) rfl)) ev_v g0 rfl rfl rfl ev_v
  have h3 : (0 : Int) ≤ ρ 4 ∧ ρ 4 ≤ 8 := hf_rg hT (hH _ (List.mem_of_getElem? (i := 3) rfl)) ev_v g0 rfl rfl rfl ev_v
  have p0 : q361 G (ρ 0) (ρ 5) (rfv h) := c2 (P := (fun r c => q361 G r c (rfv h))) (show q361 G (((0) + ((1) * ρ 0 + 0))) (((0) + ((1) * ρ 5 + 0))) (rfv h) from hP _ (List.mem_of_getElem? (i := 0) rfl)) (by omega) (by omega)
  have cX : 0 ≤ ρ 0 := by
    have q := (hG _ (List.mem_of_getElem? (i := 0) rfl)).1
    rwa [show ev ρ (0, [(0, 1)]) = ρ 0 from ev_v] at q
  have y0 : hasI (rfv h (ρ 0).toNat 0) (ρ 1) := ob_i hT (hH _ (List.mem_of_getElem? (i := 0) rfl)) ev_v g0 rfl ev_v
  have y1 : hasI (rfv h (ρ 0).toNat 1) (ρ 2) := ob_i hT (hH _ (List.mem_of_getElem? (i := 1) rfl)) ev_v g0 rfl ev_v
  have y2 : hasI (rfv h (ρ 0).toNat 2) (ρ 3) := ob_i hT (hH _ (List.mem_of_getElem? (i := 2) rfl)) ev_v g0 rfl ev_v
  have y3 : hasI (rfv h (ρ 0).toNat 12) (ρ 4) := ob_i hT (hH _ (List.mem_of_getElem? (i := 3) rfl)) ev_v g0 rfl ev_v
  refine ⟨_, List.mem_cons_self, ρ, fun _ _ => rfl, fun q hq => absurd hq List.not_mem_nil, trivial, fun f hf => ?_, fun q hq => absurd hq List.not_mem_nil, fun q hq => absurd hq List.not_mem_nil, fun q hq => absurd hq List.not_mem_nil, fun q hq => ?_⟩
  · exact absurd hf List.not_mem_nil
  · simp only [List.mem_cons, List.not_mem_nil, or_false] at hq
    rcases hq with rfl | rfl | rfl | rfl
    · show qCp (((0) + ((128) * ρ 5 + 0))) (((0) + ((1) * ρ 1 + 0)))
      refine c2 (P := qCp) (r := 128 * ρ 5) (c := ρ 1) ?_ (by omega) (by omega)
      show qCp (128 * ρ 5) (ρ 1)
      exact oCp (V := ρ 5) (k := 0) (by omega) (by decide) (s_f4 (k := 0) (by decide) rfl p0 y0)
    · show qCp (((1) + ((128) * ρ 5 + 0))) (((0) + ((1) * ρ 2 + 0)))
      refine c2 (P := qCp) (r := 128 * ρ 5 + 1) (c := ρ 2) ?_ (by omega) (by omega)
      show qCp (128 * ρ 5 + 1) (ρ 2)
      exact oCp (V := ρ 5) (k := 1) (by omega) (by decide) (s_f4 (k := 1) (by decide) rfl p0 y1)
    · show qCp (((2) + ((128) * ρ 5 + 0))) (((0) + ((1) * ρ 3 + 0)))
      refine c2 (P := qCp) (r := 128 * ρ 5 + 2) (c := ρ 3) ?_ (by omega) (by omega)
      show qCp (128 * ρ 5 + 2) (ρ 3)
      exact oCp (V := ρ 5) (k := 2) (by omega) (by decide) (s_f4 (k := 2) (by decide) rfl p0 y2)
    · show qCp (((3) + ((128) * ρ 5 + 0))) (((0) + ((1) * ρ 4 + 0)))
      refine c2 (P := qCp) (r := 128 * ρ 5 + 3) (c := ρ 4) ?_ (by omega) (by omega)
      show qCp (128 * ρ 5 + 3) (ρ 4)
      exact oCp (V := ρ 5) (k := 3) (by omega) (by decide) (s_f4 (k := 3) (by decide) rfl p0 y3)
/-- cp0 -/
theorem lem_644_ok (hU : uqG G C) : lem_644.1.2.1 = [] ∧ lemOK (PRd G C D xs) G rgs lem_644 := by
  refine ⟨rfl, fun ρ h ha hT => ?_⟩
  obtain ⟨-, -, hF, hG, hH, hA, hP⟩ := ha
  have g0 : G (ρ 0).toNat = 20 := by
    have q := (hG _ (List.mem_of_getElem? (i := 0) rfl)).2
    rwa [show ev ρ (0, [(0, 1)]) = ρ 0 from ev_v] at q
  have g1 : G (ρ 1).toNat = 20 := by
    have q := (hG _ (List.mem_of_getElem? (i := 1) rfl)).2
    rwa [show ev ρ (0, [(1, 1)]) = ρ 1 from ev_v] at q
  have p0 : q361 G (ρ 1) (ρ 2) (rfv h) := c2 (P := (fun r c => q361 G r c (rfv h))) (show q361 G (((0) + ((1) * ρ 1 + 0))) (((0) + ((1) * ρ 2 + 0))) (rfv h) from hP _ (List.mem_of_getElem? (i := 0) rfl)) (by omega) (by omega)
  have cT : 0 ≤ ρ 0 := by
    have q := (hG _ (List.mem_of_getElem? (i := 0) rfl)).1
    rwa [show ev ρ (0, [(0, 1)]) = ρ 0 from ev_v] at q
  have cX : 0 ≤ ρ 1 := by
    have q := (hG _ (List.mem_of_getElem? (i := 1) rfl)).1
    rwa [show ev ρ (0, [(1, 1)]) = ρ 1 from ev_v] at q
  refine ⟨_, List.mem_cons_self, ρ, fun _ _ => rfl, fun q hq => absurd hq List.not_mem_nil, trivial, fun f hf => ?_, fun q hq => absurd hq List.not_mem_nil, fun q hq => absurd hq List.not_mem_nil, fun q hq => absurd hq List.not_mem_nil, fun q hq => ?_⟩
  · exact absurd hf List.not_mem_nil
  · simp only [List.mem_cons, List.not_mem_nil, or_false] at hq
    subst hq
    show q380 G (((0) + ((1) * ρ 0 + 0))) (((0) + ((1) * ρ 2 + 0))) (rfv h)
    refine c2 (P := (fun r c => q380 G r c (rfv h))) (r := ρ 0) (c := ρ 2) ?_ (by omega) (by omega)
    show q380 G (ρ 0) (ρ 2) (rfv h)
    exact s_cp0 cT g0 p0
/-- mcS -/
theorem lem_645_ok (hU : uqG G C) : lem_645.1.2.1 = [] ∧ lemOK (PRd G C D xs) G rgs lem_645 := by
  refine ⟨rfl, fun ρ h ha hT => ?_⟩
  obtain ⟨-, -, hF, hG, hH, hA, hP⟩ := ha
  have f0 : (0 : Int) ≤ ((0) + ((1) * ρ 2 + 0)) := hF _ (List.mem_of_getElem? (i := 0) rfl)
  have f1 : (0 : Int) ≤ ((7) + ((-1) * ρ 2 + 0)) := hF _ (List.mem_of_getElem? (i := 1) rfl)
  have g0 : G (ρ 0).toNat = 20 := by
    have q := (hG _ (List.mem_of_getElem? (i := 0) rfl)).2
    rwa [show ev ρ (0, [(0, 1)]) = ρ 0 from ev_v] at q
  have g1 : G (ρ 3).toNat = 115 := by
    have q := (hG _ (List.mem_of_getElem? (i := 1) rfl)).2
    rwa [show ev ρ (0, [(3, 1)]) = ρ 3 from ev_v] at q
  have g2 : G (ρ 1).toNat = 13 := by
    have q := (hG _ (List.mem_of_getElem? (i := 2) rfl)).2
    rwa [show ev ρ (0, [(1, 1)]) = ρ 1 from ev_v] at q
  have b0 : (0 : Int) ≤ ((0) + ((1) * ρ 2 + 0)) := b_aA (hA _ (List.mem_of_getElem? (i := 0) rfl))
  have p0 : q207 G (rfv h) (elv h) := c2 (P := (fun (_ _ : Int) => q207 G (rfv h) (elv h))) (r := 0) (r' := 0) (c := 0) (c' := 0) (show q207 G (rfv h) (elv h) from hP _ (List.mem_of_getElem? (i := 0) rfl)) rfl rfl
  have cS : 0 ≤ ρ 0 := by
    have q := (hG _ (List.mem_of_getElem? (i := 0) rfl)).1
    rwa [show ev ρ (0, [(0, 1)]) = ρ 0 from ev_v] at q
  have cA : 0 ≤ ρ 3 := by
    have q := (hG _ (List.mem_of_getElem? (i := 1) rfl)).1
    rwa [show ev ρ (0, [(3, 1)]) = ρ 3 from ev_v] at q
  have cM : 0 ≤ ρ 1 := by
    have q := (hG _ (List.mem_of_getElem? (i := 2) rfl)).1
    rwa [show ev ρ (0, [(1, 1)]) = ρ 1 from ev_v] at q
  have y0 : rfv h (ρ 0).toNat 13 = some (.ref (ρ 3).toNat) := ob_v hT (hH _ (List.mem_of_getElem? (i := 0) rfl)) ev_v g0 rfl ev_v
  have z0 : elv h (ρ 3).toNat (ρ 2).toNat = some (.ref (ρ 1).toNat) := ar_v (j := ρ 2) (hA _ (List.mem_of_getElem? (i := 0) rfl)) ev_v (show (ρ 2 : Int) = ((0) + ((1) * ρ 2 + 0)) by omega) ev_v
  have rm := s_mcS (k := (ρ 2).toNat) (by omega) cS cM g0 y0 z0 p0
  refine ⟨_, List.mem_cons_self, ρ, fun _ _ => rfl, fun q hq => absurd hq List.not_mem_nil, trivial, fun f hf => ?_, fun q hq => absurd hq List.not_mem_nil, fun q hq => absurd hq List.not_mem_nil, fun q hq => absurd hq List.not_mem_nil, fun q hq => ?_⟩
  · simp only [List.mem_cons, List.not_mem_nil, or_false] at hf
    rcases hf with rfl | rfl | rfl | rfl
    · show (0 : Int) ≤ ((2) + ((1) * ρ 0 + ((-1) * ρ 1 + ((7) * ρ 2 + 0))))
      omega
    · show (0 : Int) ≤ ((-2) + ((-1) * ρ 0 + ((1) * ρ 1 + ((-7) * ρ 2 + 0))))
      omega
    · show (0 : Int) ≤ ((-2) + ((-1) * ρ 0 + ((1) * ρ 1 + 0)))
      omega
    · show (0 : Int) ≤ ((51) + ((1) * ρ 0 + ((-1) * ρ 1 + 0)))
      omega
  · exact absurd hq List.not_mem_nil
/-- mh -/
theorem lem_646_ok (hU : uqG G C) : lem_646.1.2.1 = [] ∧ lemOK (PRd G C D xs) G rgs lem_646 := by
  refine ⟨rfl, fun ρ h ha hT => ?_⟩
  obtain ⟨-, -, hF, hG, hH, hA, hP⟩ := ha
  have f0 : (0 : Int) ≤ ((0) + ((1) * ρ 2 + 0)) := hF _ (List.mem_of_getElem? (i := 0) rfl)
  have f1 : (0 : Int) ≤ ((-1) + ((-1) * ρ 2 + ((1) * ρ 4 + 0))) := hF _ (List.mem_of_getElem? (i := 1) rfl)
  have f2 : (0 : Int) ≤ ((2) + ((1) * ρ 0 + ((-1) * ρ 1 + ((7) * ρ 2 + 0)))) := hF _ (List.mem_of_getElem? (i := 2) rfl)
  have f3 : (0 : Int) ≤ ((-2) + ((-1) * ρ 0 + ((1) * ρ 1 + ((-7) * ρ 2 + 0)))) := hF _ (List.mem_of_getElem? (i := 3) rfl)
  have g0 : G (ρ 0).toNat = 20 := by
    have q := (hG _ (List.mem_of_getElem? (i := 0) rfl)).2
    rwa [show ev ρ (0, [(0, 1)]) = ρ 0 from ev_v] at q
  have g1 : G (ρ 1).toNat = 13 := by
    have q := (hG _ (List.mem_of_getElem? (i := 1) rfl)).2
    rwa [show ev ρ (0, [(1, 1)]) = ρ 1 from ev_v] at q
  have p0 : q361 G (ρ 0) (ρ 3) (rfv h) := c2 (P := (fun r c => q361 G r c (rfv h))) (show q361 G (((0) + ((1) * ρ 0 + 0))) (((0) + ((1) * ρ 3 + 0))) (rfv h) from hP _ (List.mem_of_getElem? (i := 0) rfl)) (by omega) (by omega)
  have p1 : qCp (128 * ρ 3 + 3) (ρ 4) := c2 (P := qCp) (show qCp (((3) + ((128) * ρ 3 + 0))) (((0) + ((1) * ρ 4 + 0))) from hP _ (List.mem_of_getElem? (i := 1) rfl)) (by omega) (by omega)
  have cX : 0 ≤ ρ 0 := by
    have q := (hG _ (List.mem_of_getElem? (i := 0) rfl)).1
    rwa [show ev ρ (0, [(0, 1)]) = ρ 0 from ev_v] at q
  have cM : 0 ≤ ρ 1 := by
    have q := (hG _ (List.mem_of_getElem? (i := 1) rfl)).1
    rwa [show ev ρ (0, [(1, 1)]) = ρ 1 from ev_v] at q
  refine ⟨_, List.mem_cons_self, ρ, fun _ _ => rfl, fun q hq => absurd hq List.not_mem_nil, trivial, fun f hf => ?_, fun q hq => absurd hq List.not_mem_nil, fun q hq => absurd hq List.not_mem_nil, fun q hq => absurd hq List.not_mem_nil, fun q hq => ?_⟩
  · exact absurd hf List.not_mem_nil
  · simp only [List.mem_cons, List.not_mem_nil, or_false] at hq
    subst hq
    show q390 G (((0) + ((1) * ρ 1 + 0))) (((0) + ((1) * ρ 2 + ((8) * ρ 3 + 0)))) (rfv h)
    refine c2 (P := (fun r c => q390 G r c (rfv h))) (r := ρ 1) (c := ρ 2 + 8 * ρ 3) ?_ (by omega) (by omega)
    show q390 G (ρ 1) (ρ 2 + 8 * ρ 3) (rfv h)
    exact (c2 (P := (fun r c => q390 G r c (rfv h))) (s_mh (V := ρ 3) (k := (ρ 2).toNat) g1 (by omega) (kCp (V := ρ 3) (k := 3) (by omega) (by omega) p1) (by omega) p0) (by omega) (by omega))
/-- mh2 -/
theorem lem_647_ok (hU : uqG G C) : lem_647.1.2.1 = [] ∧ lemOK (PRd G C D xs) G rgs lem_647 := by
  refine ⟨rfl, fun ρ h ha hT => ?_⟩
  obtain ⟨-, -, hF, hG, hH, hA, hP⟩ := ha
  have f0 : (0 : Int) ≤ ((0) + ((1) * ρ 1 + 0)) := hF _ (List.mem_of_getElem? (i := 0) rfl)
  have f1 : (0 : Int) ≤ ((7) + ((-1) * ρ 1 + 0)) := hF _ (List.mem_of_getElem? (i := 1) rfl)
  have f2 : (0 : Int) ≤ ((0) + ((1) * ρ 1 + ((-1) * ρ 4 + ((8) * ρ 5 + 0)))) := hF _ (List.mem_of_getElem? (i := 2) rfl)
  have f3 : (0 : Int) ≤ ((0) + ((-1) * ρ 1 + ((1) * ρ 4 + ((-8) * ρ 5 + 0)))) := hF _ (List.mem_of_getElem? (i := 3) rfl)
  have g0 : G (ρ 0).toNat = 20 := by
    have q := (hG _ (List.mem_of_getElem? (i := 0) rfl)).2
    rwa [show ev ρ (0, [(0, 1)]) = ρ 0 from ev_v] at q
  have g1 : G (ρ 2).toNat = 115 := by
    have q := (hG _ (List.mem_of_getElem? (i := 1) rfl)).2
    rwa [show ev ρ (0, [(2, 1)]) = ρ 2 from ev_v] at q
  have g2 : G (ρ 3).toNat = 13 := by
    have q := (hG _ (List.mem_of_getElem? (i := 2) rfl)).2
    rwa [show ev ρ (0, [(3, 1)]) = ρ 3 from ev_v] at q
  have b0 : (0 : Int) ≤ ((0) + ((1) * ρ 1 + 0)) := b_aA (hA _ (List.mem_of_getElem? (i := 0) rfl))
  have p0 : q207 G (rfv h) (elv h) := c2 (P := (fun (_ _ : Int) => q207 G (rfv h) (elv h))) (r := 0) (r' := 0) (c := 0) (c' := 0) (show q207 G (rfv h) (elv h) from hP _ (List.mem_of_getElem? (i := 0) rfl)) rfl rfl
  have p1 : q390 G (ρ 3) (ρ 4) (rfv h) := c2 (P := (fun r c => q390 G r c (rfv h))) (show q390 G (((0) + ((1) * ρ 3 + 0))) (((0) + ((1) * ρ 4 + 0))) (rfv h) from hP _ (List.mem_of_getElem? (i := 1) rfl)) (by omega) (by omega)
  have p2 : q380 G (ρ 0 + 7 * ρ 1) (ρ 5) (rfv h) := c2 (P := (fun r c => q380 G r c (rfv h))) (show q380 G (((0) + ((1) * ρ 0 + ((7) * ρ 1 + 0)))) (((0) + ((1) * ρ 5 + 0))) (rfv h) from hP _ (List.mem_of_getElem? (i := 2) rfl)) (by omega) (by omega)
  have cT : 0 ≤ ρ 0 := by
    have q := (hG _ (List.mem_of_getElem? (i := 0) rfl)).1
    rwa [show ev ρ (0, [(0, 1)]) = ρ 0 from ev_v] at q
  have cA : 0 ≤ ρ 2 := by
    have q := (hG _ (List.mem_of_getElem? (i := 1) rfl)).1
    rwa [show ev ρ (0, [(2, 1)]) = ρ 2 from ev_v] at q
  have cM : 0 ≤ ρ 3 := by
    have q := (hG _ (List.mem_of_getElem? (i := 2) rfl)).1
    rwa [show ev ρ (0, [(3, 1)]) = ρ 3 from ev_v] at q
  have y0 : rfv h (ρ 0).toNat 13 = some (.ref (ρ 2).toNat) := ob_v hT (hH _ (List.mem_of_getElem? (i := 0) rfl)) ev_v g0 rfl ev_v
  have z0 : elv h (ρ 2).toNat (ρ 1).toNat = some (.ref (ρ 3).toNat) := ar_v (j := ρ 1) (hA _ (List.mem_of_getElem? (i := 0) rfl)) ev_v (show (ρ 1 : Int) = ((0) + ((1) * ρ 1 + 0)) by omega) ev_v
  have rm := s_mcS (k := (ρ 1).toNat) (by omega) cT cM g0 y0 z0 p0
  refine ⟨_, List.mem_cons_self, ρ, fun _ _ => rfl, fun q hq => absurd hq List.not_mem_nil, trivial, fun f hf => ?_, fun q hq => absurd hq List.not_mem_nil, fun q hq => absurd hq List.not_mem_nil, fun q hq => absurd hq List.not_mem_nil, fun q hq => ?_⟩
  · exact absurd hf List.not_mem_nil
  · simp only [List.mem_cons, List.not_mem_nil, or_false] at hq
    subst hq
    show q380 G (((7) + ((1) * ρ 0 + ((7) * ρ 1 + 0)))) (((0) + ((1) * ρ 5 + 0))) (rfv h)
    refine c2 (P := (fun r c => q380 G r c (rfv h))) (r := ρ 0 + 7 * ρ 1 + 7) (c := ρ 5) ?_ (by omega) (by omega)
    show q380 G (ρ 0 + 7 * ρ 1 + 7) (ρ 5) (rfv h)
    exact (c2 (P := (fun r c => q380 G r c (rfv h))) (s_mh2 (V := ρ 5) (k := (ρ 1).toNat) (by omega) cT g0 (by omega) (by omega) p1 (c2 (P := (fun r c => q380 G r c (rfv h))) p2 (by omega) (by omega))) (by omega) (by omega))
/-- st9 -/
theorem lem_648_ok (hU : uqG G C) : lem_648.1.2.1 = [] ∧ lemOK (PRd G C D xs) G rgs lem_648 := by
  refine ⟨rfl, fun ρ h ha hT => ?_⟩
  obtain ⟨-, -, hF, hG, hH, hA, hP⟩ := ha
  have f0 : (0 : Int) ≤ ((0) + ((-1) * ρ 1 + ((1) * ρ 6 + 0))) := hF _ (List.mem_of_getElem? (i := 0) rfl)
  have f1 : (0 : Int) ≤ ((0) + ((1) * ρ 1 + ((-1) * ρ 6 + 0))) := hF _ (List.mem_of_getElem? (i := 1) rfl)
  have f2 : (0 : Int) ≤ ((0) + ((-1) * ρ 2 + ((1) * ρ 7 + 0))) := hF _ (List.mem_of_getElem? (i := 2) rfl)
  have f3 : (0 : Int) ≤ ((0) + ((1) * ρ 2 + ((-1) * ρ 7 + 0))) := hF _ (List.mem_of_getElem? (i := 3) rfl)
  have f4 : (0 : Int) ≤ ((0) + ((-1) * ρ 3 + ((1) * ρ 8 + 0))) := hF _ (List.mem_of_getElem? (i := 4) rfl)
  have f5 : (0 : Int) ≤ ((0) + ((1) * ρ 3 + ((-1) * ρ 8 + 0))) := hF _ (List.mem_of_getElem? (i := 5) rfl)
  have f6 : (0 : Int) ≤ ((0) + ((-1) * ρ 4 + ((1) * ρ 9 + 0))) := hF _ (List.mem_of_getElem? (i := 6) rfl)
  have f7 : (0 : Int) ≤ ((0) + ((1) * ρ 4 + ((-1) * ρ 9 + 0))) := hF _ (List.mem_of_getElem? (i := 7) rfl)
  have g0 : G (ρ 0).toNat = 20 := by
    have q := (hG _ (List.mem_of_getElem? (i := 0) rfl)).2
    rwa [show ev ρ (0, [(0, 1)]) = ρ 0 from ev_v] at q
  have h0 : (0 : Int) ≤ ρ 1 ∧ ρ 1 ≤ 2000 := hf_rg hT (hH _ (List.mem_of_getElem? (i := 0) rfl)) ev_v g0 rfl rfl rfl ev_v
  have h3 : (0 : Int) ≤ ρ 4 ∧ ρ 4 ≤ 8 := hf_rg hT (hH _ (List.mem_of_getElem? (i := 3) rfl)) ev_v g0 rfl rfl rfl ev_v
  have p0 : q380 G (ρ 0 + 7 * ρ 4) (ρ 5) (rfv h) := c2 (P := (fun r c => q380 G r c (rfv h))) (show q380 G (((0) + ((1) * ρ 0 + ((7) * ρ 4 + 0)))) (((0) + ((1) * ρ 5 + 0))) (rfv h) from hP _ (List.mem_of_getElem? (i := 0) rfl)) (by omega) (by omega)
  have p1 : qCp (128 * ρ 5) (ρ 6) := c2 (P := qCp) (show qCp (((0) + ((128) * ρ 5 + 0))) (((0) + ((1) * ρ 6 + 0))) from hP _ (List.mem_of_getElem? (i := 1) rfl)) (by omega) (by omega)
  have p2 : qCp (128 * ρ 5 + 1) (ρ 7) := c2 (P := qCp) (show qCp (((1) + ((128) * ρ 5 + 0))) (((0) + ((1) * ρ 7 + 0))) from hP _ (List.mem_of_getElem? (i := 2) rfl)) (by omega) (by omega)
  have p3 : qCp (128 * ρ 5 + 2) (ρ 8) := c2 (P := qCp) (show qCp (((2) + ((128) * ρ 5 + 0))) (((0) + ((1) * ρ 8 + 0))) from hP _ (List.mem_of_getElem? (i := 3) rfl)) (by omega) (by omega)
  have p4 : qCp (128 * ρ 5 + 3) (ρ 9) := c2 (P := qCp) (show qCp (((3) + ((128) * ρ 5 + 0))) (((0) + ((1) * ρ 9 + 0))) from hP _ (List.mem_of_getElem? (i := 4) rfl)) (by omega) (by omega)
  have cT : 0 ≤ ρ 0 := by
    have q := (hG _ (List.mem_of_getElem? (i := 0) rfl)).1
    rwa [show ev ρ (0, [(0, 1)]) = ρ 0 from ev_v] at q
  have y0 : hasI (rfv h (ρ 0).toNat 0) (ρ 1) := ob_i hT (hH _ (List.mem_of_getElem? (i := 0) rfl)) ev_v g0 rfl ev_v
  have y1 : hasI (rfv h (ρ 0).toNat 1) (ρ 2) := ob_i hT (hH _ (List.mem_of_getElem? (i := 1) rfl)) ev_v g0 rfl ev_v
  have y2 : hasI (rfv h (ρ 0).toNat 2) (ρ 3) := ob_i hT (hH _ (List.mem_of_getElem? (i := 2) rfl)) ev_v g0 rfl ev_v
  have y3 : hasI (rfv h (ρ 0).toNat 12) (ρ 4) := ob_i hT (hH _ (List.mem_of_getElem? (i := 3) rfl)) ev_v g0 rfl ev_v
  refine ⟨_, List.mem_cons_self, ρ, fun _ _ => rfl, fun q hq => absurd hq List.not_mem_nil, trivial, fun f hf => ?_, fun q hq => absurd hq List.not_mem_nil, fun q hq => absurd hq List.not_mem_nil, fun q hq => absurd hq List.not_mem_nil, fun q hq => ?_⟩
  · exact absurd hf List.not_mem_nil
  · simp only [List.mem_cons, List.not_mem_nil, or_false] at hq
    subst hq
    show q361 G (((0) + ((1) * ρ 0 + 0))) (((0) + ((1) * ρ 5 + 0))) (rfv h)
    refine c2 (P := (fun r c => q361 G r c (rfv h))) (r := ρ 0) (c := ρ 5) ?_ (by omega) (by omega)
    show q361 G (ρ 0) (ρ 5) (rfv h)
    exact s_st9 cT g0 y0 y1 y2 y3 (by have q := (kCp (V := ρ 5) (k := 0) (by omega) (by omega) p1); omega) (by have q := (kCp (V := ρ 5) (k := 1) (by omega) (by omega) p2); omega) (by have q := (kCp (V := ρ 5) (k := 2) (by omega) (by omega) p3); omega) (by have q := (kCp (V := ρ 5) (k := 3) (by omega) (by omega) p4); omega) p0
/-- mp0 -/
theorem lem_649_ok (hU : uqG G C) : lem_649.1.2.1 = [] ∧ lemOK (PRd G C D xs) G rgs lem_649 := by
  refine ⟨rfl, fun ρ h ha hT => ?_⟩
  obtain ⟨-, -, hF, hG, hH, hA, hP⟩ := ha
  have g0 : G (ρ 0).toNat = 13 := by
    have q := (hG _ (List.mem_of_getElem? (i := 0) rfl)).2
    rwa [show ev ρ (0, [(0, 1)]) = ρ 0 from ev_v] at q
  have h2 : (0 : Int) ≤ ρ 3 ∧ ρ 3 ≤ 1 := hf_rg hT (hH _ (List.mem_of_getElem? (i := 2) rfl)) ev_v g0 rfl rfl rfl ev_v
  have h3 : (0 : Int) ≤ ρ 4 ∧ ρ 4 ≤ 5 := hf_rg hT (hH _ (List.mem_of_getElem? (i := 3) rfl)) ev_v g0 rfl rfl rfl ev_v
  have p0 : q390 G (ρ 0) (ρ 5) (rfv h) := c2 (P := (fun r c => q390 G r c (rfv h))) (show q390 G (((0) + ((1) * ρ 0 + 0))) (((0) + ((1) * ρ 5 + 0))) (rfv h) from hP _ (List.mem_of_getElem? (i := 0) rfl)) (by omega) (by omega)
  have cM : 0 ≤ ρ 0 := by
    have q := (hG _ (List.mem_of_getElem? (i := 0) rfl)).1
    rwa [show ev ρ (0, [(0, 1)]) = ρ 0 from ev_v] at q
  have y0 : hasI (rfv h (ρ 0).toNat 0) (ρ 1) := ob_i hT (hH _ (List.mem_of_getElem? (i := 0) rfl)) ev_v g0 rfl ev_v
  have y1 : hasI (rfv h (ρ 0).toNat 1) (ρ 2) := ob_i hT (hH _ (List.mem_of_getElem? (i := 1) rfl)) ev_v g0 rfl ev_v
  have y2 : hasI (rfv h (ρ 0).toNat 2) (ρ 3) := ob_i hT (hH _ (List.mem_of_getElem? (i := 2) rfl)) ev_v g0 rfl ev_v
  have y3 : hasI (rfv h (ρ 0).toNat 6) (ρ 4) := ob_i hT (hH _ (List.mem_of_getElem? (i := 3) rfl)) ev_v g0 rfl ev_v
  obtain ⟨r0, r1, r2, r3⟩ := s_mp0 y0 y1 y2 y3 p0
  refine ⟨_, List.mem_cons_self, ρ, fun _ _ => rfl, fun q hq => absurd hq List.not_mem_nil, trivial, fun f hf => ?_, fun q hq => absurd hq List.not_mem_nil, fun q hq => absurd hq List.not_mem_nil, fun q hq => absurd hq List.not_mem_nil, fun q hq => ?_⟩
  · exact absurd hf List.not_mem_nil
  · simp only [List.mem_cons, List.not_mem_nil, or_false] at hq
    rcases hq with rfl | rfl | rfl | rfl
    · show qMp (((0) + ((4) * ρ 5 + 0))) (((0) + ((1) * ρ 1 + 0)))
      refine c2 (P := qMp) (r := 4 * ρ 5) (c := ρ 1) ?_ (by omega) (by omega)
      show qMp (4 * ρ 5) (ρ 1)
      exact (c2 (P := qMp) (r0) (by omega) (by omega))
    · show qMp (((1) + ((4) * ρ 5 + 0))) (((0) + ((1) * ρ 2 + 0)))
      refine c2 (P := qMp) (r := 4 * ρ 5 + 1) (c := ρ 2) ?_ (by omega) (by omega)
      show qMp (4 * ρ 5 + 1) (ρ 2)
      exact (c2 (P := qMp) (r1) (by omega) (by omega))
    · show qMp (((2) + ((4) * ρ 5 + 0))) (((0) + ((1) * ρ 3 + 0)))
      refine c2 (P := qMp) (r := 4 * ρ 5 + 2) (c := ρ 3) ?_ (by omega) (by omega)
      show qMp (4 * ρ 5 + 2) (ρ 3)
      exact (c2 (P := qMp) (r2) (by omega) (by omega))
    · show qMp (((3) + ((4) * ρ 5 + 0))) (((0) + ((1) * ρ 4 + 0)))
      refine c2 (P := qMp) (r := 4 * ρ 5 + 3) (c := ρ 4) ?_ (by omega) (by omega)
      show qMp (4 * ρ 5 + 3) (ρ 4)
      exact (c2 (P := qMp) (r3) (by omega) (by omega))
/-- sp0 -/
theorem lem_650_ok (hU : uqG G C) : lem_650.1.2.1 = [] ∧ lemOK (PRd G C D xs) G rgs lem_650 := by
  refine ⟨rfl, fun ρ h ha hT => ?_⟩
  obtain ⟨-, -, hF, hG, hH, hA, hP⟩ := ha
  have g0 : G (ρ 0).toNat = 13 := by
    have q := (hG _ (List.mem_of_getElem? (i := 0) rfl)).2
    rwa [show ev ρ (0, [(0, 1)]) = ρ 0 from ev_v] at q
  have g1 : G (ρ 1).toNat = 13 := by
    have q := (hG _ (List.mem_of_getElem? (i := 1) rfl)).2
    rwa [show ev ρ (0, [(1, 1)]) = ρ 1 from ev_v] at q
  have p0 : q390 G (ρ 1) (ρ 2) (rfv h) := c2 (P := (fun r c => q390 G r c (rfv h))) (show q390 G (((0) + ((1) * ρ 1 + 0))) (((0) + ((1) * ρ 2 + 0))) (rfv h) from hP _ (List.mem_of_getElem? (i := 0) rfl)) (by omega) (by omega)
  have cM : 0 ≤ ρ 0 := by
    have q := (hG _ (List.mem_of_getElem? (i := 0) rfl)).1
    rwa [show ev ρ (0, [(0, 1)]) = ρ 0 from ev_v] at q
  have cN : 0 ≤ ρ 1 := by
    have q := (hG _ (List.mem_of_getElem? (i := 1) rfl)).1
    rwa [show ev ρ (0, [(1, 1)]) = ρ 1 from ev_v] at q
  refine ⟨_, List.mem_cons_self, ρ, fun _ _ => rfl, fun q hq => absurd hq List.not_mem_nil, trivial, fun f hf => ?_, fun q hq => absurd hq List.not_mem_nil, fun q hq => absurd hq List.not_mem_nil, fun q hq => absurd hq List.not_mem_nil, fun q hq => ?_⟩
  · exact absurd hf List.not_mem_nil
  · simp only [List.mem_cons, List.not_mem_nil, or_false] at hq
    subst hq
    show q393 G (((2) + ((1) * ρ 0 + 0))) (((0) + ((1) * ρ 2 + 0))) (rfv h)
    refine c2 (P := (fun r c => q393 G r c (rfv h))) (r := ρ 0 + 2) (c := ρ 2) ?_ (by omega) (by omega)
    show q393 G (ρ 0 + 2) (ρ 2) (rfv h)
    exact (c2 (P := (fun r c => q393 G r c (rfv h))) (s_sp0 cM g0 p0) (by omega) (by omega))
/-- sc2 -/
theorem lem_651_ok (hU : uqG G C) : lem_651.1.2.1 = [] ∧ lemOK (PRd G C D xs) G rgs lem_651 := by
  refine ⟨rfl, fun ρ h ha hT => ?_⟩
  obtain ⟨-, -, hF, hG, hH, hA, hP⟩ := ha
  have f0 : (0 : Int) ≤ ((0) + ((1) * ρ 2 + 0)) := hF _ (List.mem_of_getElem? (i := 0) rfl)
  have f1 : (0 : Int) ≤ ((4) + ((-1) * ρ 2 + 0)) := hF _ (List.mem_of_getElem? (i := 1) rfl)
  have g0 : G (ρ 0).toNat = 13 := by
    have q := (hG _ (List.mem_of_getElem? (i := 0) rfl)).2
    rwa [show ev ρ (0, [(0, 1)]) = ρ 0 from ev_v] at q
  have g1 : G (ρ 3).toNat = 114 := by
    have q := (hG _ (List.mem_of_getElem? (i := 1) rfl)).2
    rwa [show ev ρ (0, [(3, 1)]) = ρ 3 from ev_v] at q
  have g2 : G (ρ 1).toNat = 19 := by
    have q := (hG _ (List.mem_of_getElem? (i := 2) rfl)).2
    rwa [show ev ρ (0, [(1, 1)]) = ρ 1 from ev_v] at q
  have b0 : (0 : Int) ≤ ((0) + ((1) * ρ 2 + 0)) := b_aA (hA _ (List.mem_of_getElem? (i := 0) rfl))
  have p0 : q207 G (rfv h) (elv h) := c2 (P := (fun (_ _ : Int) => q207 G (rfv h) (elv h))) (r := 0) (r' := 0) (c := 0) (c' := 0) (show q207 G (rfv h) (elv h) from hP _ (List.mem_of_getElem? (i := 0) rfl)) rfl rfl
  have cM : 0 ≤ ρ 0 := by
    have q := (hG _ (List.mem_of_getElem? (i := 0) rfl)).1
    rwa [show ev ρ (0, [(0, 1)]) = ρ 0 from ev_v] at q
  have cA : 0 ≤ ρ 3 := by
    have q := (hG _ (List.mem_of_getElem? (i := 1) rfl)).1
    rwa [show ev ρ (0, [(3, 1)]) = ρ 3 from ev_v] at q
  have cs : 0 ≤ ρ 1 := by
    have q := (hG _ (List.mem_of_getElem? (i := 2) rfl)).1
    rwa [show ev ρ (0, [(1, 1)]) = ρ 1 from ev_v] at q
  have y0 : rfv h (ρ 0).toNat 7 = some (.ref (ρ 3).toNat) := ob_v hT (hH _ (List.mem_of_getElem? (i := 0) rfl)) ev_v g0 rfl ev_v
  have z0 : elv h (ρ 3).toNat (ρ 2).toNat = some (.ref (ρ 1).toNat) := ar_v (j := ρ 2) (hA _ (List.mem_of_getElem? (i := 0) rfl)) ev_v (show (ρ 2 : Int) = ((0) + ((1) * ρ 2 + 0)) by omega) ev_v
  have rs := s_sc2 (j := (ρ 2).toNat) (by omega) cM cs g0 y0 z0 p0
  refine ⟨_, List.mem_cons_self, ρ, fun _ _ => rfl, fun q hq => absurd hq List.not_mem_nil, trivial, fun f hf => ?_, fun q hq => absurd hq List.not_mem_nil, fun q hq => absurd hq List.not_mem_nil, fun q hq => absurd hq List.not_mem_nil, fun q hq => ?_⟩
  · simp only [List.mem_cons, List.not_mem_nil, or_false] at hf
    rcases hf with rfl | rfl | rfl | rfl
    · show (0 : Int) ≤ ((2) + ((1) * ρ 0 + ((-1) * ρ 1 + ((1) * ρ 2 + 0))))
      omega
    · show (0 : Int) ≤ ((-2) + ((-1) * ρ 0 + ((1) * ρ 1 + ((-1) * ρ 2 + 0))))
      omega
    · show (0 : Int) ≤ ((-2) + ((-1) * ρ 0 + ((1) * ρ 1 + 0)))
      omega
    · show (0 : Int) ≤ ((6) + ((1) * ρ 0 + ((-1) * ρ 1 + 0)))
      omega
  · exact absurd hq List.not_mem_nil
/-- sp1 -/
theorem lem_652_ok (hU : uqG G C) : lem_652.1.2.1 = [] ∧ lemOK (PRd G C D xs) G rgs lem_652 := by
  refine ⟨rfl, fun ρ h ha hT => ?_⟩
  obtain ⟨-, -, hF, hG, hH, hA, hP⟩ := ha
  have f0 : (0 : Int) ≤ ((0) + ((1) * ρ 2 + 0)) := hF _ (List.mem_of_getElem? (i := 0) rfl)
  have f1 : (0 : Int) ≤ ((-1) + ((-1) * ρ 2 + ((1) * ρ 4 + 0))) := hF _ (List.mem_of_getElem? (i := 1) rfl)
  have f2 : (0 : Int) ≤ ((2) + ((1) * ρ 0 + ((-1) * ρ 1 + ((1) * ρ 2 + 0)))) := hF _ (List.mem_of_getElem? (i := 2) rfl)
  have f3 : (0 : Int) ≤ ((-2) + ((-1) * ρ 0 + ((1) * ρ 1 + ((-1) * ρ 2 + 0)))) := hF _ (List.mem_of_getElem? (i := 3) rfl)
  have g0 : G (ρ 0).toNat = 13 := by
    have q := (hG _ (List.mem_of_getElem? (i := 0) rfl)).2
    rwa [show ev ρ (0, [(0, 1)]) = ρ 0 from ev_v] at q
  have g1 : G (ρ 1).toNat = 19 := by
    have q := (hG _ (List.mem_of_getElem? (i := 1) rfl)).2
    rwa [show ev ρ (0, [(1, 1)]) = ρ 1 from ev_v] at q
  have p0 : q390 G (ρ 0) (ρ 3) (rfv h) := c2 (P := (fun r c => q390 G r c (rfv h))) (show q390 G (((0) + ((1) * ρ 0 + 0))) (((0) + ((1) * ρ 3 + 0))) (rfv h) from hP _ (List.mem_of_getElem? (i := 0) rfl)) (by omega) (by omega)
  have p1 : qMp (4 * ρ 3 + 3) (ρ 4) := c2 (P := qMp) (show qMp (((3) + ((4) * ρ 3 + 0))) (((0) + ((1) * ρ 4 + 0))) from hP _ (List.mem_of_getElem? (i := 1) rfl)) (by omega) (by omega)
  have cN : 0 ≤ ρ 0 := by
    have q := (hG _ (List.mem_of_getElem? (i := 0) rfl)).1
    rwa [show ev ρ (0, [(0, 1)]) = ρ 0 from ev_v] at q
  have cs : 0 ≤ ρ 1 := by
    have q := (hG _ (List.mem_of_getElem? (i := 1) rfl)).1
    rwa [show ev ρ (0, [(1, 1)]) = ρ 1 from ev_v] at q
  obtain ⟨r1, r2⟩ := s_sp1 (c := ρ 4) (j := ρ 2) (by omega) (by omega) cs g1 (by omega) p0 (c2 (P := qMp) p1 (by omega) (by omega))
  obtain ⟨σ, sg1, sg2a⟩ : ∃ σ : Va, (∀ i, i < 5 → σ i = ρ i) ∧ σ 5 = evW (ρ 3) (ρ 2) := ⟨fun i => if i = 5 then evW (ρ 3) (ρ 2) else ρ i, fun i hi => by dsimp only; rw [if_neg (by omega)], by dsimp only; rw [if_pos rfl]⟩
  have s0 := sg1 0 (by omega)
  have s1 := sg1 1 (by omega)
  have s2 := sg1 2 (by omega)
  have s3 := sg1 3 (by omega)
  have s4 := sg1 4 (by omega)
  refine ⟨_, List.mem_cons_self, σ, sg1, fun q hq => absurd hq List.not_mem_nil, trivial, fun f hf => ?_, fun q hq => absurd hq List.not_mem_nil, fun q hq => absurd hq List.not_mem_nil, fun q hq => absurd hq List.not_mem_nil, fun q hq => ?_⟩
  · exact absurd hf List.not_mem_nil
  · simp only [List.mem_cons, List.not_mem_nil, or_false] at hq
    rcases hq with rfl | rfl
    · show q395 G (((0) + ((1) * σ 1 + 0))) (((0) + ((1) * σ 5 + 0))) (rfv h)
      refine c2 (P := (fun r c => q395 G r c (rfv h))) (r := ρ 1) (c := evW (ρ 3) (ρ 2)) ?_ (by omega) (by omega)
      show q395 G (ρ 1) (evW (ρ 3) (ρ 2)) (rfv h)
      exact (c2 (P := (fun r c => q395 G r c (rfv h))) (r1) (by omega) (by omega))
    · show qEv (((0) + ((1) * σ 2 + ((8) * σ 3 + 0)))) (((0) + ((1) * σ 5 + 0)))
      refine c2 (P := qEv) (r := ρ 2 + 8 * ρ 3) (c := evW (ρ 3) (ρ 2)) ?_ (by omega) (by omega)
      show qEv (ρ 2 + 8 * ρ 3) (evW (ρ 3) (ρ 2))
      exact (c2 (P := qEv) (r2) (by omega) (by omega))
/-- sp2 -/
theorem lem_653_ok (hU : uqG G C) : lem_653.1.2.1 = [] ∧ lemOK (PRd G C D xs) G rgs lem_653 := by
  refine ⟨rfl, fun ρ h ha hT => ?_⟩
  obtain ⟨-, -, hF, hG, hH, hA, hP⟩ := ha
  have f0 : (0 : Int) ≤ ((0) + ((1) * ρ 1 + 0)) := hF _ (List.mem_of_getElem? (i := 0) rfl)
  have f1 : (0 : Int) ≤ ((4) + ((-1) * ρ 1 + 0)) := hF _ (List.mem_of_getElem? (i := 1) rfl)
  have f2 : (0 : Int) ≤ ((0) + ((-1) * ρ 4 + ((1) * ρ 6 + 0))) := hF _ (List.mem_of_getElem? (i := 2) rfl)
  have f3 : (0 : Int) ≤ ((0) + ((1) * ρ 4 + ((-1) * ρ 6 + 0))) := hF _ (List.mem_of_getElem? (i := 3) rfl)
  have g0 : G (ρ 0).toNat = 13 := by
    have q := (hG _ (List.mem_of_getElem? (i := 0) rfl)).2
    rwa [show ev ρ (0, [(0, 1)]) = ρ 0 from ev_v] at q
  have g1 : G (ρ 2).toNat = 114 := by
    have q := (hG _ (List.mem_of_getElem? (i := 1) rfl)).2
    rwa [show ev ρ (0, [(2, 1)]) = ρ 2 from ev_v] at q
  have g2 : G (ρ 3).toNat = 19 := by
    have q := (hG _ (List.mem_of_getElem? (i := 2) rfl)).2
    rwa [show ev ρ (0, [(3, 1)]) = ρ 3 from ev_v] at q
  have b0 : (0 : Int) ≤ ((0) + ((1) * ρ 1 + 0)) := b_aA (hA _ (List.mem_of_getElem? (i := 0) rfl))
  have p0 : q207 G (rfv h) (elv h) := c2 (P := (fun (_ _ : Int) => q207 G (rfv h) (elv h))) (r := 0) (r' := 0) (c := 0) (c' := 0) (show q207 G (rfv h) (elv h) from hP _ (List.mem_of_getElem? (i := 0) rfl)) rfl rfl
  have p1 : q395 G (ρ 3) (ρ 4) (rfv h) := c2 (P := (fun r c => q395 G r c (rfv h))) (show q395 G (((0) + ((1) * ρ 3 + 0))) (((0) + ((1) * ρ 4 + 0))) (rfv h) from hP _ (List.mem_of_getElem? (i := 1) rfl)) (by omega) (by omega)
  have p2 : q393 G (ρ 0 + ρ 1 + 2) (ρ 5) (rfv h) := c2 (P := (fun r c => q393 G r c (rfv h))) (show q393 G (((2) + ((1) * ρ 0 + ((1) * ρ 1 + 0)))) (((0) + ((1) * ρ 5 + 0))) (rfv h) from hP _ (List.mem_of_getElem? (i := 2) rfl)) (by omega) (by omega)
  have p3 : qEv (ρ 1 + 8 * ρ 5) (ρ 6) := c2 (P := qEv) (show qEv (((0) + ((1) * ρ 1 + ((8) * ρ 5 + 0)))) (((0) + ((1) * ρ 6 + 0))) from hP _ (List.mem_of_getElem? (i := 3) rfl)) (by omega) (by omega)
  have cM : 0 ≤ ρ 0 := by
    have q := (hG _ (List.mem_of_getElem? (i := 0) rfl)).1
    rwa [show ev ρ (0, [(0, 1)]) = ρ 0 from ev_v] at q
  have cA : 0 ≤ ρ 2 := by
    have q := (hG _ (List.mem_of_getElem? (i := 1) rfl)).1
    rwa [show ev ρ (0, [(2, 1)]) = ρ 2 from ev_v] at q
  have cs : 0 ≤ ρ 3 := by
    have q := (hG _ (List.mem_of_getElem? (i := 2) rfl)).1
    rwa [show ev ρ (0, [(3, 1)]) = ρ 3 from ev_v] at q
  have y0 : rfv h (ρ 0).toNat 7 = some (.ref (ρ 2).toNat) := ob_v hT (hH _ (List.mem_of_getElem? (i := 0) rfl)) ev_v g0 rfl ev_v
  have z0 : elv h (ρ 2).toNat (ρ 1).toNat = some (.ref (ρ 3).toNat) := ar_v (j := ρ 1) (hA _ (List.mem_of_getElem? (i := 0) rfl)) ev_v (show (ρ 1 : Int) = ((0) + ((1) * ρ 1 + 0)) by omega) ev_v
  have rs := s_sc2 (j := (ρ 1).toNat) (by omega) cM cs g0 y0 z0 p0
  refine ⟨_, List.mem_cons_self, ρ, fun _ _ => rfl, fun q hq => absurd hq List.not_mem_nil, trivial, fun f hf => ?_, fun q hq => absurd hq List.not_mem_nil, fun q hq => absurd hq List.not_mem_nil, fun q hq => absurd hq List.not_mem_nil, fun q hq => ?_⟩
  · exact absurd hf List.not_mem_nil
  · simp only [List.mem_cons, List.not_mem_nil, or_false] at hq
    subst hq
    show q393 G (((3) + ((1) * ρ 0 + ((1) * ρ 1 + 0)))) (((0) + ((1) * ρ 5 + 0))) (rfv h)
    refine c2 (P := (fun r c => q393 G r c (rfv h))) (r := ρ 0 + ρ 1 + 3) (c := ρ 5) ?_ (by omega) (by omega)
    show q393 G (ρ 0 + ρ 1 + 3) (ρ 5) (rfv h)
    exact (c2 (P := (fun r c => q393 G r c (rfv h))) (s_sp2 (j := ρ 1) (M := ρ 0) (w := ρ 5) (f := ρ 6) (by omega) (by omega) cM g0 (by omega) (by omega) p1 (c2 (P := (fun r c => q393 G r c (rfv h))) p2 (by omega) (by omega)) (c2 (P := qEv) p3 (by omega) (by omega))) (by omega) (by omega))
/-- mp9 -/
theorem lem_654_ok (hU : uqG G C) : lem_654.1.2.1 = [] ∧ lemOK (PRd G C D xs) G rgs lem_654 := by
  refine ⟨rfl, fun ρ h ha hT => ?_⟩
  obtain ⟨-, -, hF, hG, hH, hA, hP⟩ := ha
  have f0 : (0 : Int) ≤ ((0) + ((-1) * ρ 1 + ((1) * ρ 6 + 0))) := hF _ (List.mem_of_getElem? (i := 0) rfl)
  have f1 : (0 : Int) ≤ ((0) + ((1) * ρ 1 + ((-1) * ρ 6 + 0))) := hF _ (List.mem_of_getElem? (i := 1) rfl)
  have f2 : (0 : Int) ≤ ((0) + ((-1) * ρ 2 + ((1) * ρ 7 + 0))) := hF _ (List.mem_of_getElem? (i := 2) rfl)
  have f3 : (0 : Int) ≤ ((0) + ((1) * ρ 2 + ((-1) * ρ 7 + 0))) := hF _ (List.mem_of_getElem? (i := 3) rfl)
  have f4 : (0 : Int) ≤ ((0) + ((-1) * ρ 3 + ((1) * ρ 8 + 0))) := hF _ (List.mem_of_getElem? (i := 4) rfl)
  have f5 : (0 : Int) ≤ ((0) + ((1) * ρ 3 + ((-1) * ρ 8 + 0))) := hF _ (List.mem_of_getElem? (i := 5) rfl)
  have f6 : (0 : Int) ≤ ((0) + ((-1) * ρ 4 + ((1) * ρ 9 + 0))) := hF _ (List.mem_of_getElem? (i := 6) rfl)
  have f7 : (0 : Int) ≤ ((0) + ((1) * ρ 4 + ((-1) * ρ 9 + 0))) := hF _ (List.mem_of_getElem? (i := 7) rfl)
  have g0 : G (ρ 0).toNat = 13 := by
    have q := (hG _ (List.mem_of_getElem? (i := 0) rfl)).2
    rwa [show ev ρ (0, [(0, 1)]) = ρ 0 from ev_v] at q
  have h2 : (0 : Int) ≤ ρ 3 ∧ ρ 3 ≤ 1 := hf_rg hT (hH _ (List.mem_of_getElem? (i := 2) rfl)) ev_v g0 rfl rfl rfl ev_v
  have h3 : (0 : Int) ≤ ρ 4 ∧ ρ 4 ≤ 5 := hf_rg hT (hH _ (List.mem_of_getElem? (i := 3) rfl)) ev_v g0 rfl rfl rfl ev_v
  have p0 : q393 G (ρ 0 + ρ 4 + 2) (ρ 5) (rfv h) := c2 (P := (fun r c => q393 G r c (rfv h))) (show q393 G (((2) + ((1) * ρ 0 + ((1) * ρ 4 + 0)))) (((0) + ((1) * ρ 5 + 0))) (rfv h) from hP _ (List.mem_of_getElem? (i := 0) rfl)) (by omega) (by omega)
  have p1 : qMp (4 * ρ 5) (ρ 6) := c2 (P := qMp) (show qMp (((0) + ((4) * ρ 5 + 0))) (((0) + ((1) * ρ 6 + 0))) from hP _ (List.mem_of_getElem? (i := 1) rfl)) (by omega) (by omega)
  have p2 : qMp (4 * ρ 5 + 1) (ρ 7) := c2 (P := qMp) (show qMp (((1) + ((4) * ρ 5 + 0))) (((0) + ((1) * ρ 7 + 0))) from hP _ (List.mem_of_getElem? (i := 2) rfl)) (by omega) (by omega)
  have p3 : qMp (4 * ρ 5 + 2) (ρ 8) := c2 (P := qMp) (show qMp (((2) + ((4) * ρ 5 + 0))) (((0) + ((1) * ρ 8 + 0))) from hP _ (List.mem_of_getElem? (i := 3) rfl)) (by omega) (by omega)
  have p4 : qMp (4 * ρ 5 + 3) (ρ 9) := c2 (P := qMp) (show qMp (((3) + ((4) * ρ 5 + 0))) (((0) + ((1) * ρ 9 + 0))) from hP _ (List.mem_of_getElem? (i := 4) rfl)) (by omega) (by omega)
  have cM : 0 ≤ ρ 0 := by
    have q := (hG _ (List.mem_of_getElem? (i := 0) rfl)).1
    rwa [show ev ρ (0, [(0, 1)]) = ρ 0 from ev_v] at q
  have y0 : hasI (rfv h (ρ 0).toNat 0) (ρ 1) := ob_i hT (hH _ (List.mem_of_getElem? (i := 0) rfl)) ev_v g0 rfl ev_v
  have y1 : hasI (rfv h (ρ 0).toNat 1) (ρ 2) := ob_i hT (hH _ (List.mem_of_getElem? (i := 1) rfl)) ev_v g0 rfl ev_v
  have y2 : hasI (rfv h (ρ 0).toNat 2) (ρ 3) := ob_i hT (hH _ (List.mem_of_getElem? (i := 2) rfl)) ev_v g0 rfl ev_v
  have y3 : hasI (rfv h (ρ 0).toNat 6) (ρ 4) := ob_i hT (hH _ (List.mem_of_getElem? (i := 3) rfl)) ev_v g0 rfl ev_v
  refine ⟨_, List.mem_cons_self, ρ, fun _ _ => rfl, fun q hq => absurd hq List.not_mem_nil, trivial, fun f hf => ?_, fun q hq => absurd hq List.not_mem_nil, fun q hq => absurd hq List.not_mem_nil, fun q hq => absurd hq List.not_mem_nil, fun q hq => ?_⟩
  · exact absurd hf List.not_mem_nil
  · simp only [List.mem_cons, List.not_mem_nil, or_false] at hq
    subst hq
    show q390 G (((0) + ((1) * ρ 0 + 0))) (((0) + ((1) * ρ 5 + 0))) (rfv h)
    refine c2 (P := (fun r c => q390 G r c (rfv h))) (r := ρ 0) (c := ρ 5) ?_ (by omega) (by omega)
    show q390 G (ρ 0) (ρ 5) (rfv h)
    exact s_mp9 (w := ρ 5) cM g0 y0 y1 y2 y3 (c2 (P := (fun r c => q393 G r c (rfv h))) p0 (by omega) (by omega)) (c2 (P := qMp) p1 (by omega) (by omega)) (c2 (P := qMp) p2 (by omega) (by omega)) (c2 (P := qMp) p3 (by omega) (by omega)) (c2 (P := qMp) p4 (by omega) (by omega))
/-- ev0 -/
theorem lem_655_ok (hU : uqG G C) : lem_655.1.2.1 = [] ∧ lemOK (PRd G C D xs) G rgs lem_655 := by
  refine ⟨rfl, fun ρ h ha hT => ?_⟩
  obtain ⟨-, -, hF, hG, hH, hA, hP⟩ := ha
  have g0 : G (ρ 0).toNat = 19 := by
    have q := (hG _ (List.mem_of_getElem? (i := 0) rfl)).2
    rwa [show ev ρ (0, [(0, 1)]) = ρ 0 from ev_v] at q
  have p0 : q395 G (ρ 0) (ρ 2) (rfv h) := c2 (P := (fun r c => q395 G r c (rfv h))) (show q395 G (((0) + ((1) * ρ 0 + 0))) (((0) + ((1) * ρ 2 + 0))) (rfv h) from hP _ (List.mem_of_getElem? (i := 0) rfl)) (by omega) (by omega)
  have cs : 0 ≤ ρ 0 := by
    have q := (hG _ (List.mem_of_getElem? (i := 0) rfl)).1
    rwa [show ev ρ (0, [(0, 1)]) = ρ 0 from ev_v] at q
  have y0 : hasI (rfv h (ρ 0).toNat 2) (ρ 1) := ob_i hT (hH _ (List.mem_of_getElem? (i := 0) rfl)) ev_v g0 rfl ev_v
  have r := hasI_eq y0 p0.2.2
  refine ⟨_, List.mem_cons_self, ρ, fun _ _ => rfl, fun q hq => absurd hq List.not_mem_nil, trivial, fun f hf => ?_, fun q hq => absurd hq List.not_mem_nil, fun q hq => absurd hq List.not_mem_nil, fun q hq => absurd hq List.not_mem_nil, fun q hq => ?_⟩
  · simp only [List.mem_cons, List.not_mem_nil, or_false] at hf
    rcases hf with rfl | rfl
    · show (0 : Int) ≤ ((0) + ((-1) * ρ 1 + ((1) * ρ 2 + 0)))
      omega
    · show (0 : Int) ≤ ((0) + ((1) * ρ 1 + ((-1) * ρ 2 + 0)))
      omega
  · exact absurd hq List.not_mem_nil
/-- mk252 -/
theorem lem_656_ok (hU : uqG G C) : lem_656.1.2.1 = [] ∧ lemOK (PRd G C D xs) G rgs lem_656 := by
  refine ⟨rfl, fun ρ h ha hT => ?_⟩
  obtain ⟨-, -, hF, hG, hH, hA, hP⟩ := ha
  have g0 : G (ρ 0).toNat = 21 := by
    have q := (hG _ (List.mem_of_getElem? (i := 0) rfl)).2
    rwa [show ev ρ (0, [(0, 1)]) = ρ 0 from ev_v] at q
  have g1 : G (ρ 1).toNat = 20 := by
    have q := (hG _ (List.mem_of_getElem? (i := 1) rfl)).2
    rwa [show ev ρ (0, [(1, 1)]) = ρ 1 from ev_v] at q
  have cT : 0 ≤ ρ 0 := by
    have q := (hG _ (List.mem_of_getElem? (i := 0) rfl)).1
    rwa [show ev ρ (0, [(0, 1)]) = ρ 0 from ev_v] at q
  have cX : 0 ≤ ρ 1 := by
    have q := (hG _ (List.mem_of_getElem? (i := 1) rfl)).1
    rwa [show ev ρ (0, [(1, 1)]) = ρ 1 from ev_v] at q
  have y0 : rfv h (ρ 0).toNat 8 = some (.ref (ρ 1).toNat) := ob_v hT (hH _ (List.mem_of_getElem? (i := 0) rfl)) ev_v g0 rfl ev_v
  refine ⟨_, List.mem_cons_self, ρ, fun _ _ => rfl, fun q hq => absurd hq List.not_mem_nil, trivial, fun f hf => ?_, fun q hq => absurd hq List.not_mem_nil, fun q hq => absurd hq List.not_mem_nil, fun q hq => absurd hq List.not_mem_nil, fun q hq => ?_⟩
  · exact absurd hf List.not_mem_nil
  · simp only [List.mem_cons, List.not_mem_nil, or_false] at hq
    subst hq
    show q252 G (((0) + ((1) * ρ 0 + 0))) (((0) + ((1) * ρ 1 + 0))) (rfv h)
    refine c2 (P := (fun r c => q252 G r c (rfv h))) (r := ρ 0) (c := ρ 1) ?_ (by omega) (by omega)
    show q252 G (ρ 0) (ρ 1) (rfv h)
    exact ⟨cT, g0, cX, y0⟩
/-- get255 -/
theorem lem_657_ok (hU : uqG G C) : lem_657.1.2.1 = [] ∧ lemOK (PRd G C D xs) G rgs lem_657 := by
  refine ⟨rfl, fun ρ h ha hT => ?_⟩
  obtain ⟨-, -, hF, hG, hH, hA, hP⟩ := ha
  have g0 : G (ρ 0).toNat = 21 := by
    have q := (hG _ (List.mem_of_getElem? (i := 0) rfl)).2
    rwa [show ev ρ (0, [(0, 1)]) = ρ 0 from ev_v] at q
  have g1 : G (ρ 1).toNat = 20 := by
    have q := (hG _ (List.mem_of_getElem? (i := 1) rfl)).2
    rwa [show ev ρ (0, [(1, 1)]) = ρ 1 from ev_v] at q
  have g2 : G (ρ 2).toNat = 12 := by
    have q := (hG _ (List.mem_of_getElem? (i := 2) rfl)).2
    rwa [show ev ρ (0, [(2, 1)]) = ρ 2 from ev_v] at q
  have h2 : (0 : Int) ≤ ρ 3 ∧ ρ 3 ≤ 6 := hf_rg hT (hH _ (List.mem_of_getElem? (i := 2) rfl)) ev_v g2 rfl rfl rfl ev_v
  have p0 : q255 G (ρ 1) (ρ 4) (rfv h) (elv h) := c2 (P := (fun r c => q255 G r c (rfv h) (elv h))) (show q255 G (((0) + ((1) * ρ 1 + 0))) (((0) + ((1) * ρ 4 + 0))) (rfv h) (elv h) from hP _ (List.mem_of_getElem? (i := 0) rfl)) (by omega) (by omega)
  have cT : 0 ≤ ρ 0 := by
    have q := (hG _ (List.mem_of_getElem? (i := 0) rfl)).1
    rwa [show ev ρ (0, [(0, 1)]) = ρ 0 from ev_v] at q
  have cX : 0 ≤ ρ 1 := by
    have q := (hG _ (List.mem_of_getElem? (i := 1) rfl)).1
    rwa [show ev ρ (0, [(1, 1)]) = ρ 1 from ev_v] at q
  have cH : 0 ≤ ρ 2 := by
    have q := (hG _ (List.mem_of_getElem? (i := 2) rfl)).1
    rwa [show ev ρ (0, [(2, 1)]) = ρ 2 from ev_v] at q
  have y0 : rfv h (ρ 0).toNat 8 = some (.ref (ρ 1).toNat) := ob_v hT (hH _ (List.mem_of_getElem? (i := 0) rfl)) ev_v g0 rfl ev_v
  have y1 : rfv h (ρ 0).toNat 10 = some (.ref (ρ 2).toNat) := ob_v hT (hH _ (List.mem_of_getElem? (i := 1) rfl)) ev_v g0 rfl ev_v
  have y2 : hasI (rfv h (ρ 2).toNat 1) (ρ 3) := ob_i hT (hH _ (List.mem_of_getElem? (i := 2) rfl)) ev_v g2 rfl ev_v
  refine ⟨_, List.mem_cons_self, ρ, fun _ _ => rfl, fun q hq => absurd hq List.not_mem_nil, trivial, fun f hf => ?_, fun q hq => absurd hq List.not_mem_nil, fun q hq => absurd hq List.not_mem_nil, fun q hq => absurd hq List.not_mem_nil, fun q hq => ?_⟩
  · exact absurd hf List.not_mem_nil
  · simp only [List.mem_cons, List.not_mem_nil, or_false] at hq
    subst hq
    show q240 G (((0) + ((1) * ρ 3 + 0))) (((0) + ((1) * ρ 4 + 0))) (rfv h) (elv h)
    refine c2 (P := (fun r c => q240 G r c (rfv h) (elv h))) (r := ρ 3) (c := ρ 4) ?_ (by omega) (by omega)
    show q240 G (ρ 3) (ρ 4) (rfv h) (elv h)
    exact s_get255 g0 y1 y2 p0
/-- mk255 -/
theorem lem_658_ok (hU : uqG G C) : lem_658.1.2.1 = [] ∧ lemOK (PRd G C D xs) G rgs lem_658 := by
  refine ⟨rfl, fun ρ h ha hT => ?_⟩
  obtain ⟨-, -, hF, hG, hH, hA, hP⟩ := ha
  have g0 : G (ρ 0).toNat = 21 := by
    have q := (hG _ (List.mem_of_getElem? (i := 0) rfl)).2
    rwa [show ev ρ (0, [(0, 1)]) = ρ 0 from ev_v] at q
  have g1 : G (ρ 1).toNat = 20 := by
    have q := (hG _ (List.mem_of_getElem? (i := 1) rfl)).2
    rwa [show ev ρ (0, [(1, 1)]) = ρ 1 from ev_v] at q
  have g2 : G (ρ 2).toNat = 12 := by
    have q := (hG _ (List.mem_of_getElem? (i := 2) rfl)).2
    rwa [show ev ρ (0, [(2, 1)]) = ρ 2 from ev_v] at q
  have h2 : (0 : Int) ≤ ρ 3 ∧ ρ 3 ≤ 6 := hf_rg hT (hH _ (List.mem_of_getElem? (i := 2) rfl)) ev_v g2 rfl rfl rfl ev_v
  have p0 : q241 G (ρ 1) (elv h) := c2 (P := (fun r (_ : Int) => q241 G r (elv h))) (c := 0) (c' := 0) (show q241 G (((0) + ((1) * ρ 1 + 0))) (elv h) from hP _ (List.mem_of_getElem? (i := 0) rfl)) (by omega) rfl
  have p1 : q240 G (ρ 3) (ρ 4) (rfv h) (elv h) := c2 (P := (fun r c => q240 G r c (rfv h) (elv h))) (show q240 G (((0) + ((1) * ρ 3 + 0))) (((0) + ((1) * ρ 4 + 0))) (rfv h) (elv h) from hP _ (List.mem_of_getElem? (i := 1) rfl)) (by omega) (by omega)
  have cT : 0 ≤ ρ 0 := by
    have q := (hG _ (List.mem_of_getElem? (i := 0) rfl)).1
    rwa [show ev ρ (0, [(0, 1)]) = ρ 0 from ev_v] at q
  have cX : 0 ≤ ρ 1 := by
    have q := (hG _ (List.mem_of_getElem? (i := 1) rfl)).1
    rwa [show ev ρ (0, [(1, 1)]) = ρ 1 from ev_v] at q
  have cH : 0 ≤ ρ 2 := by
    have q := (hG _ (List.mem_of_getElem? (i := 2) rfl)).1
    rwa [show ev ρ (0, [(2, 1)]) = ρ 2 from ev_v] at q
  have y0 : rfv h (ρ 0).toNat 8 = some (.ref (ρ 1).toNat) := ob_v hT (hH _ (List.mem_of_getElem? (i := 0) rfl)) ev_v g0 rfl ev_v
  have y1 : rfv h (ρ 0).toNat 10 = some (.ref (ρ 2).toNat) := ob_v hT (hH _ (List.mem_of_getElem? (i := 1) rfl)) ev_v g0 rfl ev_v
  have y2 : hasI (rfv h (ρ 2).toNat 1) (ρ 3) := ob_i hT (hH _ (List.mem_of_getElem? (i := 2) rfl)) ev_v g2 rfl ev_v
  refine ⟨_, List.mem_cons_self, ρ, fun _ _ => rfl, fun q hq => absurd hq List.not_mem_nil, trivial, fun f hf => ?_, fun q hq => absurd hq List.not_mem_nil, fun q hq => absurd hq List.not_mem_nil, fun q hq => absurd hq List.not_mem_nil, fun q hq => ?_⟩
  · exact absurd hf List.not_mem_nil
  · simp only [List.mem_cons, List.not_mem_nil, or_false] at hq
    subst hq
    show q255 G (((0) + ((1) * ρ 1 + 0))) (((0) + ((1) * ρ 4 + 0))) (rfv h) (elv h)
    refine c2 (P := (fun r c => q255 G r c (rfv h) (elv h))) (r := ρ 1) (c := ρ 4) ?_ (by omega) (by omega)
    show q255 G (ρ 1) (ρ 4) (rfv h) (elv h)
    exact s_mk255 g0 g2 y1 y2 p0 p1
/-- getVR -/
theorem lem_659_ok (hU : uqG G C) : lem_659.1.2.1 = [] ∧ lemOK (PRd G C D xs) G rgs lem_659 := by
  refine ⟨rfl, fun ρ h ha hT => ?_⟩
  obtain ⟨-, -, hF, hG, hH, hA, hP⟩ := ha
  have g0 : G (ρ 0).toNat = 21 := by
    have q := (hG _ (List.mem_of_getElem? (i := 0) rfl)).2
    rwa [show ev ρ (0, [(0, 1)]) = ρ 0 from ev_v] at q
  have g1 : G (ρ 1).toNat = 20 := by
    have q := (hG _ (List.mem_of_getElem? (i := 1) rfl)).2
    rwa [show ev ρ (0, [(1, 1)]) = ρ 1 from ev_v] at q
  have p0 : q252 G (ρ 0) (ρ 2) (rfv h) := c2 (P := (fun r c => q252 G r c (rfv h))) (show q252 G (((0) + ((1) * ρ 0 + 0))) (((0) + ((1) * ρ 2 + 0))) (rfv h) from hP _ (List.mem_of_getElem? (i := 0) rfl)) (by omega) (by omega)
  have cT : 0 ≤ ρ 0 := by
    have q := (hG _ (List.mem_of_getElem? (i := 0) rfl)).1
    rwa [show ev ρ (0, [(0, 1)]) = ρ 0 from ev_v] at q
  have cX : 0 ≤ ρ 1 := by
    have q := (hG _ (List.mem_of_getElem? (i := 1) rfl)).1
    rwa [show ev ρ (0, [(1, 1)]) = ρ 1 from ev_v] at q
  have y0 : rfv h (ρ 0).toNat 8 = some (.ref (ρ 1).toNat) := ob_v hT (hH _ (List.mem_of_getElem? (i := 0) rfl)) ev_v g0 rfl ev_v
  obtain ⟨r0, r1, r2, r3⟩ := p0
  have r := eq_rf (y0.symm.trans r3)
  refine ⟨_, List.mem_cons_self, ρ, fun _ _ => rfl, fun q hq => absurd hq List.not_mem_nil, trivial, fun f hf => ?_, fun q hq => absurd hq List.not_mem_nil, fun q hq => absurd hq List.not_mem_nil, fun q hq => absurd hq List.not_mem_nil, fun q hq => ?_⟩
  · simp only [List.mem_cons, List.not_mem_nil, or_false] at hf
    rcases hf with rfl | rfl
    · show (0 : Int) ≤ ((0) + ((-1) * ρ 1 + ((1) * ρ 2 + 0)))
      omega
    · show (0 : Int) ≤ ((0) + ((1) * ρ 1 + ((-1) * ρ 2 + 0)))
      omega
  · exact absurd hq List.not_mem_nil
/-- two -/
theorem lem_660_ok (hU : uqG G C) : lem_660.1.2.1 = [] ∧ lemOK (PRd G C D xs) G rgs lem_660 := by
  refine ⟨rfl, fun ρ h ha hT => ?_⟩
  obtain ⟨-, -, hF, hG, hH, hA, hP⟩ := ha
  have f0 : (0 : Int) ≤ ((0) + ((1) * ρ 0 + 0)) := hF _ (List.mem_of_getElem? (i := 0) rfl)
  have f1 : (0 : Int) ≤ ((1) + ((-1) * ρ 0 + 0)) := hF _ (List.mem_of_getElem? (i := 1) rfl)
  rcases (by omega : ((0 : Int) ≤ (-1) * ρ 0) ∨ ((0 : Int) ≤ ρ 0 + (-1))) with hc | hc
  · refine ⟨_, List.mem_cons_self, ρ, fun _ _ => rfl, fun q hq => absurd hq List.not_mem_nil, trivial, fun f hf => ?_, fun q hq => absurd hq List.not_mem_nil, fun q hq => absurd hq List.not_mem_nil, fun q hq => absurd hq List.not_mem_nil, fun q hq => ?_⟩
    · simp only [List.mem_cons, List.not_mem_nil, or_false] at hf
      subst hf
      show (0 : Int) ≤ ((0) + ((-1) * ρ 0 + 0))
      omega
    · exact absurd hq List.not_mem_nil
  · refine ⟨_, (List.mem_cons_of_mem _ List.mem_cons_self), ρ, fun _ _ => rfl, fun q hq => absurd hq List.not_mem_nil, trivial, fun f hf => ?_, fun q hq => absurd hq List.not_mem_nil, fun q hq => absurd hq List.not_mem_nil, fun q hq => absurd hq List.not_mem_nil, fun q hq => ?_⟩
    · simp only [List.mem_cons, List.not_mem_nil, or_false] at hf
      subst hf
      show (0 : Int) ≤ ((-1) + ((1) * ρ 0 + 0))
      omega
    · exact absurd hq List.not_mem_nil
/-- svc -/
theorem lem_661_ok (hU : uqG G C) : lem_661.1.2.1 = [] ∧ lemOK (PRd G C D xs) G rgs lem_661 := by
  refine ⟨rfl, fun ρ h ha hT => ?_⟩
  obtain ⟨-, -, hF, hG, hH, hA, hP⟩ := ha
  have f0 : (0 : Int) ≤ ((0) + ((1) * ρ 2 + 0)) := hF _ (List.mem_of_getElem? (i := 0) rfl)
  have f1 : (0 : Int) ≤ ((1) + ((-1) * ρ 2 + 0)) := hF _ (List.mem_of_getElem? (i := 1) rfl)
  have g0 : G (ρ 0).toNat = 21 := by
    have q := (hG _ (List.mem_of_getElem? (i := 0) rfl)).2
    rwa [show ev ρ (0, [(0, 1)]) = ρ 0 from ev_v] at q
  have g1 : G (ρ 3).toNat = 117 := by
    have q := (hG _ (List.mem_of_getElem? (i := 1) rfl)).2
    rwa [show ev ρ (0, [(3, 1)]) = ρ 3 from ev_v] at q
  have g2 : G (ρ 1).toNat = 20 := by
    have q := (hG _ (List.mem_of_getElem? (i := 2) rfl)).2
    rwa [show ev ρ (0, [(1, 1)]) = ρ 1 from ev_v] at q
  have g3 : G (ρ 4).toNat = 20 := by
    have q := (hG _ (List.mem_of_getElem? (i := 3) rfl)).2
    rwa [show ev ρ (0, [(4, 1)]) = ρ 4 from ev_v] at q
  have b0 : (0 : Int) ≤ ((0) + ((1) * ρ 2 + 0)) := b_aA (hA _ (List.mem_of_getElem? (i := 0) rfl))
  have p0 : q206 G := c2 (P := (fun (_ _ : Int) => q206 G)) (r := 0) (r' := 0) (c := 0) (c' := 0) (show q206 G from hP _ (List.mem_of_getElem? (i := 0) rfl)) rfl rfl
  have p1 : q253 G (elv h) := c2 (P := (fun (_ _ : Int) => q253 G (elv h))) (r := 0) (r' := 0) (c := 0) (c' := 0) (show q253 G (elv h) from hP _ (List.mem_of_getElem? (i := 1) rfl)) rfl rfl
  have p2 : q241 G (ρ 4) (elv h) := c2 (P := (fun r (_ : Int) => q241 G r (elv h))) (c := 0) (c' := 0) (show q241 G (((0) + ((1) * ρ 4 + 0))) (elv h) from hP _ (List.mem_of_getElem? (i := 2) rfl)) (by omega) rfl
  have cT : 0 ≤ ρ 0 := by
    have q := (hG _ (List.mem_of_getElem? (i := 0) rfl)).1
    rwa [show ev ρ (0, [(0, 1)]) = ρ 0 from ev_v] at q
  have cA : 0 ≤ ρ 3 := by
    have q := (hG _ (List.mem_of_getElem? (i := 1) rfl)).1
    rwa [show ev ρ (0, [(3, 1)]) = ρ 3 from ev_v] at q
  have cC : 0 ≤ ρ 1 := by
    have q := (hG _ (List.mem_of_getElem? (i := 2) rfl)).1
    rwa [show ev ρ (0, [(1, 1)]) = ρ 1 from ev_v] at q
  have cX : 0 ≤ ρ 4 := by
    have q := (hG _ (List.mem_of_getElem? (i := 3) rfl)).1
    rwa [show ev ρ (0, [(4, 1)]) = ρ 4 from ev_v] at q
  have y0 : rfv h (ρ 0).toNat 11 = some (.ref (ρ 3).toNat) := ob_v hT (hH _ (List.mem_of_getElem? (i := 0) rfl)) ev_v g0 rfl ev_v
  have y1 : rfv h (ρ 0).toNat 8 = some (.ref (ρ 4).toNat) := ob_v hT (hH _ (List.mem_of_getElem? (i := 1) rfl)) ev_v g0 rfl ev_v
  have z0 : elv h (ρ 3).toNat (ρ 2).toNat = some (.ref (ρ 1).toNat) := ar_v (j := ρ 2) (hA _ (List.mem_of_getElem? (i := 0) rfl)) ev_v (show (ρ 2 : Int) = ((0) + ((1) * ρ 2 + 0)) by omega) ev_v
  have r := s_pl g1 cC (by omega) (by omega) z0 p1
  obtain ⟨x1, x2, x3⟩ := s_ord p2
  refine ⟨_, List.mem_cons_self, ρ, fun _ _ => rfl, fun q hq => absurd hq List.not_mem_nil, trivial, fun f hf => ?_, fun q hq => absurd hq List.not_mem_nil, fun q hq => absurd hq List.not_mem_nil, fun q hq => absurd hq List.not_mem_nil, fun q hq => ?_⟩
  · simp only [List.mem_cons, List.not_mem_nil, or_false] at hf
    rcases hf with rfl | rfl | rfl
    · show (0 : Int) ≤ ((637) + ((-1) * ρ 1 + ((59) * ρ 2 + 0)))
      omega
    · show (0 : Int) ≤ ((-637) + ((1) * ρ 1 + ((-59) * ρ 2 + 0)))
      omega
    · show (0 : Int) ≤ ((577) + ((-1) * ρ 4 + 0))
      omega
  · exact absurd hq List.not_mem_nil
/-- sv1 -/
theorem lem_662_ok (hU : uqG G C) : lem_662.1.2.1 = [] ∧ lemOK (PRd G C D xs) G rgs lem_662 := by
  refine ⟨rfl, fun ρ h ha hT => ?_⟩
  obtain ⟨-, -, hF, hG, hH, hA, hP⟩ := ha
  have f0 : (0 : Int) ≤ ((0) + ((1) * ρ 1 + 0)) := hF _ (List.mem_of_getElem? (i := 0) rfl)
  have f1 : (0 : Int) ≤ ((1) + ((-1) * ρ 1 + 0)) := hF _ (List.mem_of_getElem? (i := 1) rfl)
  have g0 : G (ρ 0).toNat = 21 := by
    have q := (hG _ (List.mem_of_getElem? (i := 0) rfl)).2
    rwa [show ev ρ (0, [(0, 1)]) = ρ 0 from ev_v] at q
  have g1 : G (ρ 2).toNat = 117 := by
    have q := (hG _ (List.mem_of_getElem? (i := 1) rfl)).2
    rwa [show ev ρ (0, [(2, 1)]) = ρ 2 from ev_v] at q
  have g2 : G (ρ 4).toNat = 20 := by
    have q := (hG _ (List.mem_of_getElem? (i := 2) rfl)).2
    rwa [show ev ρ (0, [(4, 1)]) = ρ 4 from ev_v] at q
  have g3 : G (ρ 3).toNat = 101 := by
    have q := (hG _ (List.mem_of_getElem? (i := 3) rfl)).2
    rwa [show ev ρ (0, [(3, 1)]) = ρ 3 from ev_v] at q
  have b0 : (0 : Int) ≤ ((0) + ((1) * ρ 1 + 0)) := b_aA (hA _ (List.mem_of_getElem? (i := 0) rfl))
  have b1 : (0 : Int) ≤ ((0) + ((1) * ρ 1 + 0)) := b_aA (hA _ (List.mem_of_getElem? (i := 1) rfl))
  have p0 : q206 G := c2 (P := (fun (_ _ : Int) => q206 G)) (r := 0) (r' := 0) (c := 0) (c' := 0) (show q206 G from hP _ (List.mem_of_getElem? (i := 0) rfl)) rfl rfl
  have p1 : q253 G (elv h) := c2 (P := (fun (_ _ : Int) => q253 G (elv h))) (r := 0) (r' := 0) (c := 0) (c' := 0) (show q253 G (elv h) from hP _ (List.mem_of_getElem? (i := 1) rfl)) rfl rfl
  have p2 : q361 G (ρ 4) (ρ 6) (rfv h) := c2 (P := (fun r c => q361 G r c (rfv h))) (show q361 G (((0) + ((1) * ρ 4 + 0))) (((0) + ((1) * ρ 6 + 0))) (rfv h) from hP _ (List.mem_of_getElem? (i := 2) rfl)) (by omega) (by omega)
  have cT : 0 ≤ ρ 0 := by
    have q := (hG _ (List.mem_of_getElem? (i := 0) rfl)).1
    rwa [show ev ρ (0, [(0, 1)]) = ρ 0 from ev_v] at q
  have cA : 0 ≤ ρ 2 := by
    have q := (hG _ (List.mem_of_getElem? (i := 1) rfl)).1
    rwa [show ev ρ (0, [(2, 1)]) = ρ 2 from ev_v] at q
  have cC : 0 ≤ ρ 4 := by
    have q := (hG _ (List.mem_of_getElem? (i := 2) rfl)).1
    rwa [show ev ρ (0, [(4, 1)]) = ρ 4 from ev_v] at q
  have cB : 0 ≤ ρ 3 := by
    have q := (hG _ (List.mem_of_getElem? (i := 3) rfl)).1
    rwa [show ev ρ (0, [(3, 1)]) = ρ 3 from ev_v] at q
  have y0 : rfv h (ρ 0).toNat 11 = some (.ref (ρ 2).toNat) := ob_v hT (hH _ (List.mem_of_getElem? (i := 0) rfl)) ev_v g0 rfl ev_v
  have y1 : rfv h (ρ 0).toNat 12 = some (.ref (ρ 3).toNat) := ob_v hT (hH _ (List.mem_of_getElem? (i := 1) rfl)) ev_v g0 rfl ev_v
  have z0 : elv h (ρ 2).toNat (ρ 1).toNat = some (.ref (ρ 4).toNat) := ar_v (j := ρ 1) (hA _ (List.mem_of_getElem? (i := 0) rfl)) ev_v (show (ρ 1 : Int) = ((0) + ((1) * ρ 1 + 0)) by omega) ev_v
  have z1 : hasI (elv h (ρ 3).toNat (ρ 1).toNat) (ρ 5) := ar_i (j := ρ 1) (hA _ (List.mem_of_getElem? (i := 1) rfl)) ev_v (show (ρ 1 : Int) = ((0) + ((1) * ρ 1 + 0)) by omega) ev_v
  have r := s_pl g1 cC (by omega) (by omega) z0 p1
  refine ⟨_, List.mem_cons_self, ρ, fun _ _ => rfl, fun q hq => absurd hq List.not_mem_nil, trivial, fun f hf => ?_, fun q hq => absurd hq List.not_mem_nil, fun q hq => absurd hq List.not_mem_nil, fun q hq => absurd hq List.not_mem_nil, fun q hq => ?_⟩
  · exact absurd hf List.not_mem_nil
  · simp only [List.mem_cons, List.not_mem_nil, or_false] at hq
    subst hq
    show q250 G (((0) + ((1) * ρ 4 + 0))) (((0) + ((1) * ρ 6 + 0))) (rfv h) (elv h)
    refine c2 (P := (fun r c => q250 G r c (rfv h) (elv h))) (r := ρ 4) (c := ρ 6) ?_ (by omega) (by omega)
    show q250 G (ρ 4) (ρ 6) (rfv h) (elv h)
    exact s_sv (show LG G from p0) g3 r (by omega) (by omega) p2.2.1 z1 (fun _ => p2.2.2)
/-- rsc -/
theorem lem_663_ok (hU : uqG G C) : lem_663.1.2.1 = [] ∧ lemOK (PRd G C D xs) G rgs lem_663 := by
  refine ⟨rfl, fun ρ h ha hT => ?_⟩
  obtain ⟨-, -, hF, hG, hH, hA, hP⟩ := ha
  have f0 : (0 : Int) ≤ ((0) + ((1) * ρ 2 + 0)) := hF _ (List.mem_of_getElem? (i := 0) rfl)
  have f1 : (0 : Int) ≤ ((1) + ((-1) * ρ 2 + 0)) := hF _ (List.mem_of_getElem? (i := 1) rfl)
  have f2 : (0 : Int) ≤ ((-1) + ((1) * ρ 6 + 0)) := hF _ (List.mem_of_getElem? (i := 2) rfl)
  have g0 : G (ρ 0).toNat = 21 := by
    have q := (hG _ (List.mem_of_getElem? (i := 0) rfl)).2
    rwa [show ev ρ (0, [(0, 1)]) = ρ 0 from ev_v] at q
  have g1 : G (ρ 3).toNat = 117 := by
    have q := (hG _ (List.mem_of_getElem? (i := 1) rfl)).2
    rwa [show ev ρ (0, [(3, 1)]) = ρ 3 from ev_v] at q
  have g2 : G (ρ 1).toNat = 20 := by
    have q := (hG _ (List.mem_of_getElem? (i := 2) rfl)).2
    rwa [show ev ρ (0, [(1, 1)]) = ρ 1 from ev_v] at q
  have g3 : G (ρ 4).toNat = 20 := by
    have q := (hG _ (List.mem_of_getElem? (i := 3) rfl)).2
    rwa [show ev ρ (0, [(4, 1)]) = ρ 4 from ev_v] at q
  have g4 : G (ρ 5).toNat = 101 := by
    have q := (hG _ (List.mem_of_getElem? (i := 4) rfl)).2
    rwa [show ev ρ (0, [(5, 1)]) = ρ 5 from ev_v] at q
  have b0 : (0 : Int) ≤ ((0) + ((1) * ρ 2 + 0)) := b_aA (hA _ (List.mem_of_getElem? (i := 0) rfl))
  have b1 : (0 : Int) ≤ ((0) + ((1) * ρ 2 + 0)) := b_aA (hA _ (List.mem_of_getElem? (i := 1) rfl))
  have p0 : q206 G := c2 (P := (fun (_ _ : Int) => q206 G)) (r := 0) (r' := 0) (c := 0) (c' := 0) (show q206 G from hP _ (List.mem_of_getElem? (i := 0) rfl)) rfl rfl
  have p1 : q253 G (elv h) := c2 (P := (fun (_ _ : Int) => q253 G (elv h))) (r := 0) (r' := 0) (c := 0) (c' := 0) (show q253 G (elv h) from hP _ (List.mem_of_getElem? (i := 1) rfl)) rfl rfl
  have p2 : q241 G (ρ 4) (elv h) := c2 (P := (fun r (_ : Int) => q241 G r (elv h))) (c := 0) (c' := 0) (show q241 G (((0) + ((1) * ρ 4 + 0))) (elv h) from hP _ (List.mem_of_getElem? (i := 2) rfl)) (by omega) rfl
  have p3 : q250 G (59 * ρ 2 + 637) (ρ 7) (rfv h) (elv h) := c2 (P := (fun r c => q250 G r c (rfv h) (elv h))) (show q250 G (((637) + ((59) * ρ 2 + 0))) (((0) + ((1) * ρ 7 + 0))) (rfv h) (elv h) from hP _ (List.mem_of_getElem? (i := 3) rfl)) (by omega) (by omega)
  have cT : 0 ≤ ρ 0 := by
    have q := (hG _ (List.mem_of_getElem? (i := 0) rfl)).1
    rwa [show ev ρ (0, [(0, 1)]) = ρ 0 from ev_v] at q
  have cA : 0 ≤ ρ 3 := by
    have q := (hG _ (List.mem_of_getElem? (i := 1) rfl)).1
    rwa [show ev ρ (0, [(3, 1)]) = ρ 3 from ev_v] at q
  have cC : 0 ≤ ρ 1 := by
    have q := (hG _ (List.mem_of_getElem? (i := 2) rfl)).1
    rwa [show ev ρ (0, [(1, 1)]) = ρ 1 from ev_v] at q
  have cX : 0 ≤ ρ 4 := by
    have q := (hG _ (List.mem_of_getElem? (i := 3) rfl)).1
    rwa [show ev ρ (0, [(4, 1)]) = ρ 4 from ev_v] at q
  have cB : 0 ≤ ρ 5 := by
    have q := (hG _ (List.mem_of_getElem? (i := 4) rfl)).1
    rwa [show ev ρ (0, [(5, 1)]) = ρ 5 from ev_v] at q
  have y0 : rfv h (ρ 0).toNat 11 = some (.ref (ρ 3).toNat) := ob_v hT (hH _ (List.mem_of_getElem? (i := 0) rfl)) ev_v g0 rfl ev_v
  have y1 : rfv h (ρ 0).toNat 8 = some (.ref (ρ 4).toNat) := ob_v hT (hH _ (List.mem_of_getElem? (i := 1) rfl)) ev_v g0 rfl ev_v
  have y2 : rfv h (ρ 0).toNat 12 = some (.ref (ρ 5).toNat) := ob_v hT (hH _ (List.mem_of_getElem? (i := 2) rfl)) ev_v g0 rfl ev_v
  have z0 : elv h (ρ 3).toNat (ρ 2).toNat = some (.ref (ρ 1).toNat) := ar_v (j := ρ 2) (hA _ (List.mem_of_getElem? (i := 0) rfl)) ev_v (show (ρ 2 : Int) = ((0) + ((1) * ρ 2 + 0)) by omega) ev_v
  have z1 : hasI (elv h (ρ 5).toNat (ρ 2).toNat) (ρ 6) := ar_i (j := ρ 2) (hA _ (List.mem_of_getElem? (i := 1) rfl)) ev_v (show (ρ 2 : Int) = ((0) + ((1) * ρ 2 + 0)) by omega) ev_v
  have r := s_pl g1 cC (by omega) (by omega) z0 p1
  obtain ⟨x1, x2, x3⟩ := s_ord p2
  refine ⟨_, List.mem_cons_self, ρ, fun _ _ => rfl, fun q hq => absurd hq List.not_mem_nil, trivial, fun f hf => ?_, fun q hq => absurd hq List.not_mem_nil, fun q hq => absurd hq List.not_mem_nil, fun q hq => absurd hq List.not_mem_nil, fun q hq => ?_⟩
  · simp only [List.mem_cons, List.not_mem_nil, or_false] at hf
    rcases hf with rfl | rfl | rfl
    · show (0 : Int) ≤ ((637) + ((-1) * ρ 1 + ((59) * ρ 2 + 0)))
      omega
    · show (0 : Int) ≤ ((-637) + ((1) * ρ 1 + ((-59) * ρ 2 + 0)))
      omega
    · show (0 : Int) ≤ ((577) + ((-1) * ρ 4 + 0))
      omega
  · simp only [List.mem_cons, List.not_mem_nil, or_false] at hq
    subst hq
    show q361 G (((0) + ((1) * ρ 1 + 0))) (((0) + ((1) * ρ 7 + 0))) (rfv h)
    refine c2 (P := (fun r c => q361 G r c (rfv h))) (r := ρ 1) (c := ρ 7) ?_ (by omega) (by omega)
    show q361 G (ρ 1) (ρ 7) (rfv h)
    exact s_rs (E := ρ 1) (y := ρ 7) g4 r (by omega) (by omega) (by omega) z1 (c2 (P := (fun r c => q250 G r c (rfv h) (elv h))) p3 (by omega) (by omega))
/-- rs1 -/
theorem lem_664_ok (hU : uqG G C) : lem_664.1.2.1 = [] ∧ lemOK (PRd G C D xs) G rgs lem_664 := by
  refine ⟨rfl, fun ρ h ha hT => ?_⟩
  obtain ⟨-, -, hF, hG, hH, hA, hP⟩ := ha
  have f0 : (0 : Int) ≤ ((0) + ((-1) * ρ 3 + 0)) := hF _ (List.mem_of_getElem? (i := 0) rfl)
  have f1 : (0 : Int) ≤ ((0) + ((1) * ρ 3 + 0)) := hF _ (List.mem_of_getElem? (i := 1) rfl)
  have g0 : G (ρ 0).toNat = 21 := by
    have q := (hG _ (List.mem_of_getElem? (i := 0) rfl)).2
    rwa [show ev ρ (0, [(0, 1)]) = ρ 0 from ev_v] at q
  have g1 : G (ρ 1).toNat = 20 := by
    have q := (hG _ (List.mem_of_getElem? (i := 1) rfl)).2
    rwa [show ev ρ (0, [(1, 1)]) = ρ 1 from ev_v] at q
  have g2 : G (ρ 2).toNat = 12 := by
    have q := (hG _ (List.mem_of_getElem? (i := 2) rfl)).2
    rwa [show ev ρ (0, [(2, 1)]) = ρ 2 from ev_v] at q
  have h2 : (0 : Int) ≤ ρ 3 ∧ ρ 3 ≤ 6 := hf_rg hT (hH _ (List.mem_of_getElem? (i := 2) rfl)) ev_v g2 rfl rfl rfl ev_v
  have p0 : q241 G (ρ 1) (elv h) := c2 (P := (fun r (_ : Int) => q241 G r (elv h))) (c := 0) (c' := 0) (show q241 G (((0) + ((1) * ρ 1 + 0))) (elv h) from hP _ (List.mem_of_getElem? (i := 0) rfl)) (by omega) rfl
  have p1 : q361 G (ρ 1) (ρ 4) (rfv h) := c2 (P := (fun r c => q361 G r c (rfv h))) (show q361 G (((0) + ((1) * ρ 1 + 0))) (((0) + ((1) * ρ 4 + 0))) (rfv h) from hP _ (List.mem_of_getElem? (i := 1) rfl)) (by omega) (by omega)
  have cT : 0 ≤ ρ 0 := by
    have q := (hG _ (List.mem_of_getElem? (i := 0) rfl)).1
    rwa [show ev ρ (0, [(0, 1)]) = ρ 0 from ev_v] at q
  have cX : 0 ≤ ρ 1 := by
    have q := (hG _ (List.mem_of_getElem? (i := 1) rfl)).1
    rwa [show ev ρ (0, [(1, 1)]) = ρ 1 from ev_v] at q
  have cH : 0 ≤ ρ 2 := by
    have q := (hG _ (List.mem_of_getElem? (i := 2) rfl)).1
    rwa [show ev ρ (0, [(2, 1)]) = ρ 2 from ev_v] at q
  have y0 : rfv h (ρ 0).toNat 8 = some (.ref (ρ 1).toNat) := ob_v hT (hH _ (List.mem_of_getElem? (i := 0) rfl)) ev_v g0 rfl ev_v
  have y1 : rfv h (ρ 0).toNat 10 = some (.ref (ρ 2).toNat) := ob_v hT (hH _ (List.mem_of_getElem? (i := 1) rfl)) ev_v g0 rfl ev_v
  have y2 : hasI (rfv h (ρ 2).toNat 1) (ρ 3) := ob_i hT (hH _ (List.mem_of_getElem? (i := 2) rfl)) ev_v g2 rfl ev_v
  refine ⟨_, List.mem_cons_self, ρ, fun _ _ => rfl, fun q hq => absurd hq List.not_mem_nil, trivial, fun f hf => ?_, fun q hq => absurd hq List.not_mem_nil, fun q hq => absurd hq List.not_mem_nil, fun q hq => absurd hq List.not_mem_nil, fun q hq => ?_⟩
  · exact absurd hf List.not_mem_nil
  · simp only [List.mem_cons, List.not_mem_nil, or_false] at hq
    rcases hq with rfl | rfl
    · show q210 G (((0) + ((1) * ρ 1 + 0))) (((0) + ((1) * ρ 4 + 0))) (rfv h)
      refine c2 (P := (fun r c => q210 G r c (rfv h))) (r := ρ 1) (c := ρ 4) ?_ (by omega) (by omega)
      show q210 G (ρ 1) (ρ 4) (rfv h)
      exact p1.toS p0.2.2.1
    · show q255 G (((0) + ((1) * ρ 1 + 0))) (((0) + 0)) (rfv h) (elv h)
      refine c2 (P := (fun r c => q255 G r c (rfv h) (elv h))) (r := ρ 1) (c := (0 : Int)) ?_ (by omega) (by omega)
      show q255 G (ρ 1) ((0 : Int)) (rfv h) (elv h)
      exact s_mk255 g0 g2 y1 y2 p0 (s_zero (by omega) (by omega) p0)
/-- ldH -/
theorem lem_665_ok (hU : uqG G C) : lem_665.1.2.1 = [] ∧ lemOK (PRd G C D xs) G rgs lem_665 := by
  refine ⟨rfl, fun ρ h ha hT => ?_⟩
  obtain ⟨-, -, hF, hG, hH, hA, hP⟩ := ha
  have f0 : (0 : Int) ≤ ((0) + ((-1) * ρ 3 + 0)) := hF _ (List.mem_of_getElem? (i := 0) rfl)
  have f1 : (0 : Int) ≤ ((0) + ((1) * ρ 3 + 0)) := hF _ (List.mem_of_getElem? (i := 1) rfl)
  have f2 : (0 : Int) ≤ ((0) + ((-1) * ρ 5 + 0)) := hF _ (List.mem_of_getElem? (i := 2) rfl)
  have f3 : (0 : Int) ≤ ((0) + ((-1) * ρ 6 + 0)) := hF _ (List.mem_of_getElem? (i := 3) rfl)
  have f4 : (0 : Int) ≤ ((0) + ((1) * ρ 5 + 0)) := hF _ (List.mem_of_getElem? (i := 4) rfl)
  have f5 : (0 : Int) ≤ ((0) + ((1) * ρ 6 + 0)) := hF _ (List.mem_of_getElem? (i := 5) rfl)
  have g0 : G (ρ 0).toNat = 21 := by
    have q := (hG _ (List.mem_of_getElem? (i := 0) rfl)).2
    rwa [show ev ρ (0, [(0, 1)]) = ρ 0 from ev_v] at q
  have g1 : G (ρ 1).toNat = 20 := by
    have q := (hG _ (List.mem_of_getElem? (i := 1) rfl)).2
    rwa [show ev ρ (0, [(1, 1)]) = ρ 1 from ev_v] at q
  have g2 : G (ρ 2).toNat = 12 := by
    have q := (hG _ (List.mem_of_getElem? (i := 2) rfl)).2
    rwa [show ev ρ (0, [(2, 1)]) = ρ 2 from ev_v] at q
  have g3 : G (ρ 4).toNat = 101 := by
    have q := (hG _ (List.mem_of_getElem? (i := 3) rfl)).2
    rwa [show ev ρ (0, [(4, 1)]) = ρ 4 from ev_v] at q
  have h2 : (0 : Int) ≤ ρ 3 ∧ ρ 3 ≤ 6 := hf_rg hT (hH _ (List.mem_of_getElem? (i := 2) rfl)) ev_v g2 rfl rfl rfl ev_v
  have b0 : (0 : Int) ≤ ((0) + 0) := b_aA (hA _ (List.mem_of_getElem? (i := 0) rfl))
  have b1 : (0 : Int) ≤ ((1) + 0) := b_aA (hA _ (List.mem_of_getElem? (i := 1) rfl))
  have p0 : q206 G := c2 (P := (fun (_ _ : Int) => q206 G)) (r := 0) (r' := 0) (c := 0) (c' := 0) (show q206 G from hP _ (List.mem_of_getElem? (i := 0) rfl)) rfl rfl
  have p1 : q253 G (elv h) := c2 (P := (fun (_ _ : Int) => q253 G (elv h))) (r := 0) (r' := 0) (c := 0) (c' := 0) (show q253 G (elv h) from hP _ (List.mem_of_getElem? (i := 1) rfl)) rfl rfl
  have p2 : q241 G (ρ 1) (elv h) := c2 (P := (fun r (_ : Int) => q241 G r (elv h))) (c := 0) (c' := 0) (show q241 G (((0) + ((1) * ρ 1 + 0))) (elv h) from hP _ (List.mem_of_getElem? (i := 2) rfl)) (by omega) rfl
  have p3 : q361 G (ρ 1) (ρ 7) (rfv h) := c2 (P := (fun r c => q361 G r c (rfv h))) (show q361 G (((0) + ((1) * ρ 1 + 0))) (((0) + ((1) * ρ 7 + 0))) (rfv h) from hP _ (List.mem_of_getElem? (i := 3) rfl)) (by omega) (by omega)
  have cT : 0 ≤ ρ 0 := by
    have q := (hG _ (List.mem_of_getElem? (i := 0) rfl)).1
    rwa [show ev ρ (0, [(0, 1)]) = ρ 0 from ev_v] at q
  have cX : 0 ≤ ρ 1 := by
    have q := (hG _ (List.mem_of_getElem? (i := 1) rfl)).1
    rwa [show ev ρ (0, [(1, 1)]) = ρ 1 from ev_v] at q
  have cH : 0 ≤ ρ 2 := by
    have q := (hG _ (List.mem_of_getElem? (i := 2) rfl)).1
    rwa [show ev ρ (0, [(2, 1)]) = ρ 2 from ev_v] at q
  have cB : 0 ≤ ρ 4 := by
    have q := (hG _ (List.mem_of_getElem? (i := 3) rfl)).1
    rwa [show ev ρ (0, [(4, 1)]) = ρ 4 from ev_v] at q
  have y0 : rfv h (ρ 0).toNat 8 = some (.ref (ρ 1).toNat) := ob_v hT (hH _ (List.mem_of_getElem? (i := 0) rfl)) ev_v g0 rfl ev_v
  have y1 : rfv h (ρ 0).toNat 10 = some (.ref (ρ 2).toNat) := ob_v hT (hH _ (List.mem_of_getElem? (i := 1) rfl)) ev_v g0 rfl ev_v
  have y2 : hasI (rfv h (ρ 2).toNat 1) (ρ 3) := ob_i hT (hH _ (List.mem_of_getElem? (i := 2) rfl)) ev_v g2 rfl ev_v
  have y3 : rfv h (ρ 0).toNat 12 = some (.ref (ρ 4).toNat) := ob_v hT (hH _ (List.mem_of_getElem? (i := 3) rfl)) ev_v g0 rfl ev_v
  have z0 : hasI (elv h (ρ 4).toNat 0) (ρ 5) := ar_i (j := (0 : Int)) (hA _ (List.mem_of_getElem? (i := 0) rfl)) ev_v (show ((0 : Int) : Int) = ((0) + 0) by omega) ev_v
  have z1 : hasI (elv h (ρ 4).toNat 1) (ρ 6) := ar_i (j := (1 : Int)) (hA _ (List.mem_of_getElem? (i := 1) rfl)) ev_v (show ((1 : Int) : Int) = ((1) + 0) by omega) ev_v
  refine ⟨_, List.mem_cons_self, ρ, fun _ _ => rfl, fun q hq => absurd hq List.not_mem_nil, trivial, fun f hf => ?_, fun q hq => absurd hq List.not_mem_nil, fun q hq => absurd hq List.not_mem_nil, fun q hq => absurd hq List.not_mem_nil, fun q hq => ?_⟩
  · exact absurd hf List.not_mem_nil
  · simp only [List.mem_cons, List.not_mem_nil, or_false] at hq
    rcases hq with rfl | rfl | rfl | rfl
    · show q210 G (((0) + ((1) * ρ 1 + 0))) (((0) + ((1) * ρ 7 + 0))) (rfv h)
      refine c2 (P := (fun r c => q210 G r c (rfv h))) (r := ρ 1) (c := ρ 7) ?_ (by omega) (by omega)
      show q210 G (ρ 1) (ρ 7) (rfv h)
      exact p3.toS p2.2.2.1
    · show q255 G (((0) + ((1) * ρ 1 + 0))) (((0) + 0)) (rfv h) (elv h)
      refine c2 (P := (fun r c => q255 G r c (rfv h) (elv h))) (r := ρ 1) (c := (0 : Int)) ?_ (by omega) (by omega)
      show q255 G (ρ 1) ((0 : Int)) (rfv h) (elv h)
      exact s_mk255 g0 g2 y1 y2 p2 (s_zero (by omega) (by omega) p2)
    · show q250 G (((637) + 0)) (((0) + 0)) (rfv h) (elv h)
      refine c2 (P := (fun r c => q250 G r c (rfv h) (elv h))) (r := (637 : Int)) (c := (0 : Int)) ?_ (by omega) (by omega)
      show q250 G ((637 : Int)) ((0 : Int)) (rfv h) (elv h)
      exact s_sv (E := 637) (p := 0) (y := 0) (show LG G from p0) g3 (by omega) (by omega) (by omega) (by omega) z0 (fun h9 => absurd (show ρ 5 = 0 by omega) h9)
    · show q250 G (((696) + 0)) (((0) + 0)) (rfv h) (elv h)
      refine c2 (P := (fun r c => q250 G r c (rfv h) (elv h))) (r := (696 : Int)) (c := (0 : Int)) ?_ (by omega) (by omega)
      show q250 G ((696 : Int)) ((0 : Int)) (rfv h) (elv h)
      exact s_sv (E := 696) (p := 1) (y := 0) (show LG G from p0) g3 (by omega) (by omega) (by omega) (by omega) z1 (fun h9 => absurd (show ρ 6 = 0 by omega) h9)
/-- ordX -/
theorem lem_666_ok (hU : uqG G C) : lem_666.1.2.1 = [] ∧ lemOK (PRd G C D xs) G rgs lem_666 := by
  refine ⟨rfl, fun ρ h ha hT => ?_⟩
  obtain ⟨-, -, hF, hG, hH, hA, hP⟩ := ha
  have g0 : G (ρ 0).toNat = 21 := by
    have q := (hG _ (List.mem_of_getElem? (i := 0) rfl)).2
    rwa [show ev ρ (0, [(0, 1)]) = ρ 0 from ev_v] at q
  have g1 : G (ρ 1).toNat = 20 := by
    have q := (hG _ (List.mem_of_getElem? (i := 1) rfl)).2
    rwa [show ev ρ (0, [(1, 1)]) = ρ 1 from ev_v] at q
  have p0 : q241 G (ρ 1) (elv h) := c2 (P := (fun r (_ : Int) => q241 G r (elv h))) (c := 0) (c' := 0) (show q241 G (((0) + ((1) * ρ 1 + 0))) (elv h) from hP _ (List.mem_of_getElem? (i := 0) rfl)) (by omega) rfl
  have cT : 0 ≤ ρ 0 := by
    have q := (hG _ (List.mem_of_getElem? (i := 0) rfl)).1
    rwa [show ev ρ (0, [(0, 1)]) = ρ 0 from ev_v] at q
  have cX : 0 ≤ ρ 1 := by
    have q := (hG _ (List.mem_of_getElem? (i := 1) rfl)).1
    rwa [show ev ρ (0, [(1, 1)]) = ρ 1 from ev_v] at q
  have y0 : rfv h (ρ 0).toNat 8 = some (.ref (ρ 1).toNat) := ob_v hT (hH _ (List.mem_of_getElem? (i := 0) rfl)) ev_v g0 rfl ev_v
  obtain ⟨r1, r2, r3⟩ := s_ord p0
  rcases r3 with hc | hc
  · refine ⟨_, List.mem_cons_self, ρ, fun _ _ => rfl, fun q hq => absurd hq List.not_mem_nil, trivial, fun f hf => ?_, fun q hq => absurd hq List.not_mem_nil, fun q hq => absurd hq List.not_mem_nil, fun q hq => absurd hq List.not_mem_nil, fun q hq => ?_⟩
    · simp only [List.mem_cons, List.not_mem_nil, or_false] at hf
      rcases hf with rfl | rfl | rfl
      · show (0 : Int) ≤ ((577) + ((-1) * ρ 1 + 0))
        omega
      · show (0 : Int) ≤ ((-162) + ((1) * ρ 1 + 0))
        omega
      · show (0 : Int) ≤ ((162) + ((-1) * ρ 1 + 0))
        omega
    · exact absurd hq List.not_mem_nil
  · refine ⟨_, (List.mem_cons_of_mem _ List.mem_cons_self), ρ, fun _ _ => rfl, fun q hq => absurd hq List.not_mem_nil, trivial, fun f hf => ?_, fun q hq => absurd hq List.not_mem_nil, fun q hq => absurd hq List.not_mem_nil, fun q hq => absurd hq List.not_mem_nil, fun q hq => ?_⟩
    · simp only [List.mem_cons, List.not_mem_nil, or_false] at hf
      rcases hf with rfl | rfl | rfl
      · show (0 : Int) ≤ ((577) + ((-1) * ρ 1 + 0))
        omega
      · show (0 : Int) ≤ ((-162) + ((1) * ρ 1 + 0))
        omega
      · show (0 : Int) ≤ ((-280) + ((1) * ρ 1 + 0))
        omega
    · exact absurd hq List.not_mem_nil
/-- leX -/
theorem lem_667_ok (hU : uqG G C) : lem_667.1.2.1 = [] ∧ lemOK (PRd G C D xs) G rgs lem_667 := by
  refine ⟨rfl, fun ρ h ha hT => ?_⟩
  obtain ⟨-, -, hF, hG, hH, hA, hP⟩ := ha
  have g0 : G (ρ 0).toNat = 21 := by
    have q := (hG _ (List.mem_of_getElem? (i := 0) rfl)).2
    rwa [show ev ρ (0, [(0, 1)]) = ρ 0 from ev_v] at q
  have g1 : G (ρ 1).toNat = 20 := by
    have q := (hG _ (List.mem_of_getElem? (i := 1) rfl)).2
    rwa [show ev ρ (0, [(1, 1)]) = ρ 1 from ev_v] at q
  have p0 : q210 G (ρ 1) (ρ 2) (rfv h) := c2 (P := (fun r c => q210 G r c (rfv h))) (show q210 G (((0) + ((1) * ρ 1 + 0))) (((0) + ((1) * ρ 2 + 0))) (rfv h) from hP _ (List.mem_of_getElem? (i := 0) rfl)) (by omega) (by omega)
  refine ⟨_, List.mem_cons_self, ρ, fun _ _ => rfl, fun q hq => absurd hq List.not_mem_nil, trivial, fun f hf => ?_, fun q hq => absurd hq List.not_mem_nil, fun q hq => absurd hq List.not_mem_nil, fun q hq => absurd hq List.not_mem_nil, fun q hq => ?_⟩
  · exact absurd hf List.not_mem_nil
  · simp only [List.mem_cons, List.not_mem_nil, or_false] at hq
    subst hq
    show qBut G 1 (((0) + ((1) * ρ 1 + 0))) (((0) + ((1) * ρ 2 + 0))) (rfv h)
    refine c2 (P := (fun r c => qBut G 1 r c (rfv h))) (r := ρ 1) (c := ρ 2) ?_ (by omega) (by omega)
    show qBut G 1 (ρ 1) (ρ 2) (rfv h)
    exact s_but 1 (q210.o p0)
/-- leV -/
theorem lem_668_ok (hU : uqG G C) : lem_668.1.2.1 = [] ∧ lemOK (PRd G C D xs) G rgs lem_668 := by
  refine ⟨rfl, fun ρ h ha hT => ?_⟩
  obtain ⟨-, -, hF, hG, hH, hA, hP⟩ := ha
  have f0 : (0 : Int) ≤ ((0) + ((1) * ρ 2 + 0)) := hF _ (List.mem_of_getElem? (i := 0) rfl)
  have f1 : (0 : Int) ≤ ((999) + ((-1) * ρ 2 + 0)) := hF _ (List.mem_of_getElem? (i := 1) rfl)
  have g0 : G (ρ 0).toNat = 21 := by
    have q := (hG _ (List.mem_of_getElem? (i := 0) rfl)).2
    rwa [show ev ρ (0, [(0, 1)]) = ρ 0 from ev_v] at q
  have g1 : G (ρ 1).toNat = 20 := by
    have q := (hG _ (List.mem_of_getElem? (i := 1) rfl)).2
    rwa [show ev ρ (0, [(1, 1)]) = ρ 1 from ev_v] at q
  have p0 : q241 G (ρ 1) (elv h) := c2 (P := (fun r (_ : Int) => q241 G r (elv h))) (c := 0) (c' := 0) (show q241 G (((0) + ((1) * ρ 1 + 0))) (elv h) from hP _ (List.mem_of_getElem? (i := 0) rfl)) (by omega) rfl
  have p1 : qBut G 1 (ρ 1) (ρ 3) (rfv h) := c2 (P := (fun r c => qBut G 1 r c (rfv h))) (show qBut G 1 (((0) + ((1) * ρ 1 + 0))) (((0) + ((1) * ρ 3 + 0))) (rfv h) from hP _ (List.mem_of_getElem? (i := 1) rfl)) (by omega) (by omega)
  have cT : 0 ≤ ρ 0 := by
    have q := (hG _ (List.mem_of_getElem? (i := 0) rfl)).1
    rwa [show ev ρ (0, [(0, 1)]) = ρ 0 from ev_v] at q
  have cX : 0 ≤ ρ 1 := by
    have q := (hG _ (List.mem_of_getElem? (i := 1) rfl)).1
    rwa [show ev ρ (0, [(1, 1)]) = ρ 1 from ev_v] at q
  have y0 : rfv h (ρ 0).toNat 8 = some (.ref (ρ 1).toNat) := ob_v hT (hH _ (List.mem_of_getElem? (i := 0) rfl)) ev_v g0 rfl ev_v
  have y1 : hasI (rfv h (ρ 1).toNat 1) (ρ 2) := ob_i hT (hH _ (List.mem_of_getElem? (i := 1) rfl)) ev_v g1 rfl ev_v
  obtain ⟨σ, r1, r2a⟩ : ∃ σ : Va, (∀ i, i < 4 → σ i = ρ i) ∧ σ 4 = ((setC (ρ 3).toNat 1 (ρ 2).toNat : Nat) : Int) := ⟨fun i => if i = 4 then ((setC (ρ 3).toNat 1 (ρ 2).toNat : Nat) : Int) else ρ i, fun i hi => by dsimp only; rw [if_neg (by omega)], by dsimp only; rw [if_pos rfl]⟩
  have s0 := r1 0 (by omega)
  have s1 := r1 1 (by omega)
  have s2 := r1 2 (by omega)
  have s3 := r1 3 (by omega)
  refine ⟨_, List.mem_cons_self, σ, r1, fun q hq => absurd hq List.not_mem_nil, trivial, fun f hf => ?_, fun q hq => absurd hq List.not_mem_nil, fun q hq => absurd hq List.not_mem_nil, fun q hq => absurd hq List.not_mem_nil, fun q hq => ?_⟩
  · exact absurd hf List.not_mem_nil
  · simp only [List.mem_cons, List.not_mem_nil, or_false] at hq
    rcases hq with rfl | rfl
    · show q210 G (((0) + ((1) * σ 1 + 0))) (((0) + ((1) * σ 4 + 0))) (rfv h)
      refine c2 (P := (fun r c => q210 G r c (rfv h))) (r := ρ 1) (c := ((setC (ρ 3).toNat 1 (ρ 2).toNat : Nat) : Int)) ?_ (by omega) (by omega)
      show q210 G (ρ 1) (((setC (ρ 3).toNat 1 (ρ 2).toNat : Nat) : Int)) (rfv h)
      exact (c2 (P := (fun r c => q210 G r c (rfv h))) ((s_v4 (k := 1) (by decide) rfl (by omega) (by omega) p1 y1).toS p0.2.2.1) (by omega) (by omega))
    · show qSet (((65536) + ((1) * σ 2 + ((16777216) * σ 3 + 0)))) (((0) + ((1) * σ 4 + 0)))
      refine c2 (P := qSet) (r := ρ 2 + 16777216 * ρ 3 + 65536) (c := ((setC (ρ 3).toNat 1 (ρ 2).toNat : Nat) : Int)) ?_ (by omega) (by omega)
      show qSet (ρ 2 + 16777216 * ρ 3 + 65536) (((setC (ρ 3).toNat 1 (ρ 2).toNat : Nat) : Int))
      exact oSet (V := ρ 3) (v := ρ 2) (k := 1) (by omega) (by decide) (by omega) (by omega) rfl
/-- shX -/
theorem lem_669_ok (hU : uqG G C) : lem_669.1.2.1 = [] ∧ lemOK (PRd G C D xs) G rgs lem_669 := by
  refine ⟨rfl, fun ρ h ha hT => ?_⟩
  obtain ⟨-, -, hF, hG, hH, hA, hP⟩ := ha
  have g0 : G (ρ 0).toNat = 21 := by
    have q := (hG _ (List.mem_of_getElem? (i := 0) rfl)).2
    rwa [show ev ρ (0, [(0, 1)]) = ρ 0 from ev_v] at q
  have g1 : G (ρ 1).toNat = 20 := by
    have q := (hG _ (List.mem_of_getElem? (i := 1) rfl)).2
    rwa [show ev ρ (0, [(1, 1)]) = ρ 1 from ev_v] at q
  have p0 : q210 G (ρ 1) (ρ 2) (rfv h) := c2 (P := (fun r c => q210 G r c (rfv h))) (show q210 G (((0) + ((1) * ρ 1 + 0))) (((0) + ((1) * ρ 2 + 0))) (rfv h) from hP _ (List.mem_of_getElem? (i := 0) rfl)) (by omega) (by omega)
  refine ⟨_, List.mem_cons_self, ρ, fun _ _ => rfl, fun q hq => absurd hq List.not_mem_nil, trivial, fun f hf => ?_, fun q hq => absurd hq List.not_mem_nil, fun q hq => absurd hq List.not_mem_nil, fun q hq => absurd hq List.not_mem_nil, fun q hq => ?_⟩
  · exact absurd hf List.not_mem_nil
  · simp only [List.mem_cons, List.not_mem_nil, or_false] at hq
    subst hq
    show qBut G 2 (((0) + ((1) * ρ 1 + 0))) (((0) + ((1) * ρ 2 + 0))) (rfv h)
    refine c2 (P := (fun r c => qBut G 2 r c (rfv h))) (r := ρ 1) (c := ρ 2) ?_ (by omega) (by omega)
    show qBut G 2 (ρ 1) (ρ 2) (rfv h)
    exact s_but 2 (q210.o p0)
/-- shV -/
theorem lem_670_ok (hU : uqG G C) : lem_670.1.2.1 = [] ∧ lemOK (PRd G C D xs) G rgs lem_670 := by
  refine ⟨rfl, fun ρ h ha hT => ?_⟩
  obtain ⟨-, -, hF, hG, hH, hA, hP⟩ := ha
  have f0 : (0 : Int) ≤ ((0) + ((1) * ρ 2 + 0)) := hF _ (List.mem_of_getElem? (i := 0) rfl)
  have f1 : (0 : Int) ≤ ((999) + ((-1) * ρ 2 + 0)) := hF _ (List.mem_of_getElem? (i := 1) rfl)
  have g0 : G (ρ 0).toNat = 21 := by
    have q := (hG _ (List.mem_of_getElem? (i := 0) rfl)).2
    rwa [show ev ρ (0, [(0, 1)]) = ρ 0 from ev_v] at q
  have g1 : G (ρ 1).toNat = 20 := by
    have q := (hG _ (List.mem_of_getElem? (i := 1) rfl)).2
    rwa [show ev ρ (0, [(1, 1)]) = ρ 1 from ev_v] at q
  have p0 : q241 G (ρ 1) (elv h) := c2 (P := (fun r (_ : Int) => q241 G r (elv h))) (c := 0) (c' := 0) (show q241 G (((0) + ((1) * ρ 1 + 0))) (elv h) from hP _ (List.mem_of_getElem? (i := 0) rfl)) (by omega) rfl
  have p1 : qBut G 2 (ρ 1) (ρ 3) (rfv h) := c2 (P := (fun r c => qBut G 2 r c (rfv h))) (show qBut G 2 (((0) + ((1) * ρ 1 + 0))) (((0) + ((1) * ρ 3 + 0))) (rfv h) from hP _ (List.mem_of_getElem? (i := 1) rfl)) (by omega) (by omega)
  have cT : 0 ≤ ρ 0 := by
    have q := (hG _ (List.mem_of_getElem? (i := 0) rfl)).1
    rwa [show ev ρ (0, [(0, 1)]) = ρ 0 from ev_v] at q
  have cX : 0 ≤ ρ 1 := by
    have q := (hG _ (List.mem_of_getElem? (i := 1) rfl)).1
    rwa [show ev ρ (0, [(1, 1)]) = ρ 1 from ev_v] at q
  have y0 : rfv h (ρ 0).toNat 8 = some (.ref (ρ 1).toNat) := ob_v hT (hH _ (List.mem_of_getElem? (i := 0) rfl)) ev_v g0 rfl ev_v
  have y1 : hasI (rfv h (ρ 1).toNat 2) (ρ 2) := ob_i hT (hH _ (List.mem_of_getElem? (i := 1) rfl)) ev_v g1 rfl ev_v
  obtain ⟨σ, r1, r2a⟩ : ∃ σ : Va, (∀ i, i < 4 → σ i = ρ i) ∧ σ 4 = ((setC (ρ 3).toNat 2 (ρ 2).toNat : Nat) : Int) := ⟨fun i => if i = 4 then ((setC (ρ 3).toNat 2 (ρ 2).toNat : Nat) : Int) else ρ i, fun i hi => by dsimp only; rw [if_neg (by omega)], by dsimp only; rw [if_pos rfl]⟩
  have s0 := r1 0 (by omega)
  have s1 := r1 1 (by omega)
  have s2 := r1 2 (by omega)
  have s3 := r1 3 (by omega)
  refine ⟨_, List.mem_cons_self, σ, r1, fun q hq => absurd hq List.not_mem_nil, trivial, fun f hf => ?_, fun q hq => absurd hq List.not_mem_nil, fun q hq => absurd hq List.not_mem_nil, fun q hq => absurd hq List.not_mem_nil, fun q hq => ?_⟩
  · exact absurd hf List.not_mem_nil
  · simp only [List.mem_cons, List.not_mem_nil, or_false] at hq
    rcases hq with rfl | rfl
    · show q210 G (((0) + ((1) * σ 1 + 0))) (((0) + ((1) * σ 4 + 0))) (rfv h)
      refine c2 (P := (fun r c => q210 G r c (rfv h))) (r := ρ 1) (c := ((setC (ρ 3).toNat 2 (ρ 2).toNat : Nat) : Int)) ?_ (by omega) (by omega)
      show q210 G (ρ 1) (((setC (ρ 3).toNat 2 (ρ 2).toNat : Nat) : Int)) (rfv h)
      exact (c2 (P := (fun r c => q210 G r c (rfv h))) ((s_v4 (k := 2) (by decide) rfl (by omega) (by omega) p1 y1).toS p0.2.2.1) (by omega) (by omega))
    · show qSet (((131072) + ((1) * σ 2 + ((16777216) * σ 3 + 0)))) (((0) + ((1) * σ 4 + 0)))
      refine c2 (P := qSet) (r := ρ 2 + 16777216 * ρ 3 + 131072) (c := ((setC (ρ 3).toNat 2 (ρ 2).toNat : Nat) : Int)) ?_ (by omega) (by omega)
      show qSet (ρ 2 + 16777216 * ρ 3 + 131072) (((setC (ρ 3).toNat 2 (ρ 2).toNat : Nat) : Int))
      exact oSet (V := ρ 3) (v := ρ 2) (k := 2) (by omega) (by decide) (by omega) (by omega) rfl
/-- macV -/
theorem lem_671_ok (hU : uqG G C) : lem_671.1.2.1 = [] ∧ lemOK (PRd G C D xs) G rgs lem_671 := by
  refine ⟨rfl, fun ρ h ha hT => ?_⟩
  obtain ⟨-, -, hF, hG, hH, hA, hP⟩ := ha
  have f0 : (0 : Int) ≤ ((0) + ((1) * ρ 2 + 0)) := hF _ (List.mem_of_getElem? (i := 0) rfl)
  have f1 : (0 : Int) ≤ ((7) + ((-1) * ρ 2 + 0)) := hF _ (List.mem_of_getElem? (i := 1) rfl)
  have g0 : G (ρ 0).toNat = 21 := by
    have q := (hG _ (List.mem_of_getElem? (i := 0) rfl)).2
    rwa [show ev ρ (0, [(0, 1)]) = ρ 0 from ev_v] at q
  have g1 : G (ρ 3).toNat = 20 := by
    have q := (hG _ (List.mem_of_getElem? (i := 1) rfl)).2
    rwa [show ev ρ (0, [(3, 1)]) = ρ 3 from ev_v] at q
  have g2 : G (ρ 1).toNat = 13 := by
    have q := (hG _ (List.mem_of_getElem? (i := 2) rfl)).2
    rwa [show ev ρ (0, [(1, 1)]) = ρ 1 from ev_v] at q
  have g3 : G (ρ 4).toNat = 115 := by
    have q := (hG _ (List.mem_of_getElem? (i := 3) rfl)).2
    rwa [show ev ρ (0, [(4, 1)]) = ρ 4 from ev_v] at q
  have b0 : (0 : Int) ≤ ((0) + ((1) * ρ 2 + 0)) := b_aA (hA _ (List.mem_of_getElem? (i := 0) rfl))
  have p0 : q207 G (rfv h) (elv h) := c2 (P := (fun (_ _ : Int) => q207 G (rfv h) (elv h))) (r := 0) (r' := 0) (c := 0) (c' := 0) (show q207 G (rfv h) (elv h) from hP _ (List.mem_of_getElem? (i := 0) rfl)) rfl rfl
  have cT : 0 ≤ ρ 0 := by
    have q := (hG _ (List.mem_of_getElem? (i := 0) rfl)).1
    rwa [show ev ρ (0, [(0, 1)]) = ρ 0 from ev_v] at q
  have cX : 0 ≤ ρ 3 := by
    have q := (hG _ (List.mem_of_getElem? (i := 1) rfl)).1
    rwa [show ev ρ (0, [(3, 1)]) = ρ 3 from ev_v] at q
  have cM : 0 ≤ ρ 1 := by
    have q := (hG _ (List.mem_of_getElem? (i := 2) rfl)).1
    rwa [show ev ρ (0, [(1, 1)]) = ρ 1 from ev_v] at q
  have cA : 0 ≤ ρ 4 := by
    have q := (hG _ (List.mem_of_getElem? (i := 3) rfl)).1
    rwa [show ev ρ (0, [(4, 1)]) = ρ 4 from ev_v] at q
  have y0 : rfv h (ρ 0).toNat 8 = some (.ref (ρ 3).toNat) := ob_v hT (hH _ (List.mem_of_getElem? (i := 0) rfl)) ev_v g0 rfl ev_v
  have y1 : rfv h (ρ 3).toNat 13 = some (.ref (ρ 4).toNat) := ob_v hT (hH _ (List.mem_of_getElem? (i := 1) rfl)) ev_v g1 rfl ev_v
  have z0 : elv h (ρ 4).toNat (ρ 2).toNat = some (.ref (ρ 1).toNat) := ar_v (j := ρ 2) (hA _ (List.mem_of_getElem? (i := 0) rfl)) ev_v (show (ρ 2 : Int) = ((0) + ((1) * ρ 2 + 0)) by omega) ev_v
  have rm := s_mcS (k := (ρ 2).toNat) (by omega) cX cM g1 y1 z0 p0
  refine ⟨_, List.mem_cons_self, ρ, fun _ _ => rfl, fun q hq => absurd hq List.not_mem_nil, trivial, fun f hf => ?_, fun q hq => absurd hq List.not_mem_nil, fun q hq => absurd hq List.not_mem_nil, fun q hq => absurd hq List.not_mem_nil, fun q hq => ?_⟩
  · simp only [List.mem_cons, List.not_mem_nil, or_false] at hf
    rcases hf with rfl | rfl | rfl | rfl
    · show (0 : Int) ≤ ((2) + ((-1) * ρ 1 + ((7) * ρ 2 + ((1) * ρ 3 + 0))))
      omega
    · show (0 : Int) ≤ ((-2) + ((1) * ρ 1 + ((-7) * ρ 2 + ((-1) * ρ 3 + 0))))
      omega
    · show (0 : Int) ≤ ((-2) + ((1) * ρ 1 + ((-1) * ρ 3 + 0)))
      omega
    · show (0 : Int) ≤ ((51) + ((-1) * ρ 1 + ((1) * ρ 3 + 0)))
      omega
  · exact absurd hq List.not_mem_nil
/-- foX -/
theorem lem_672_ok (hU : uqG G C) : lem_672.1.2.1 = [] ∧ lemOK (PRd G C D xs) G rgs lem_672 := by
  refine ⟨rfl, fun ρ h ha hT => ?_⟩
  obtain ⟨-, -, hF, hG, hH, hA, hP⟩ := ha
  have f0 : (0 : Int) ≤ ((2) + ((-1) * ρ 1 + ((7) * ρ 2 + ((1) * ρ 3 + 0)))) := hF _ (List.mem_of_getElem? (i := 0) rfl)
  have f1 : (0 : Int) ≤ ((-2) + ((1) * ρ 1 + ((-7) * ρ 2 + ((-1) * ρ 3 + 0)))) := hF _ (List.mem_of_getElem? (i := 1) rfl)
  have f2 : (0 : Int) ≤ ((0) + ((1) * ρ 2 + 0)) := hF _ (List.mem_of_getElem? (i := 2) rfl)
  have f3 : (0 : Int) ≤ ((7) + ((-1) * ρ 2 + 0)) := hF _ (List.mem_of_getElem? (i := 3) rfl)
  have f4 : (0 : Int) ≤ ((-1) + ((-1) * ρ 2 + ((1) * ρ 5 + 0))) := hF _ (List.mem_of_getElem? (i := 4) rfl)
  have g0 : G (ρ 0).toNat = 21 := by
    have q := (hG _ (List.mem_of_getElem? (i := 0) rfl)).2
    rwa [show ev ρ (0, [(0, 1)]) = ρ 0 from ev_v] at q
  have g1 : G (ρ 3).toNat = 20 := by
    have q := (hG _ (List.mem_of_getElem? (i := 1) rfl)).2
    rwa [show ev ρ (0, [(3, 1)]) = ρ 3 from ev_v] at q
  have g2 : G (ρ 1).toNat = 13 := by
    have q := (hG _ (List.mem_of_getElem? (i := 2) rfl)).2
    rwa [show ev ρ (0, [(1, 1)]) = ρ 1 from ev_v] at q
  have p0 : q210 G (ρ 3) (ρ 4) (rfv h) := c2 (P := (fun r c => q210 G r c (rfv h))) (show q210 G (((0) + ((1) * ρ 3 + 0))) (((0) + ((1) * ρ 4 + 0))) (rfv h) from hP _ (List.mem_of_getElem? (i := 0) rfl)) (by omega) (by omega)
  have p1 : qCp (128 * ρ 4 + 3) (ρ 5) := c2 (P := qCp) (show qCp (((3) + ((128) * ρ 4 + 0))) (((0) + ((1) * ρ 5 + 0))) from hP _ (List.mem_of_getElem? (i := 1) rfl)) (by omega) (by omega)
  have cT : 0 ≤ ρ 0 := by
    have q := (hG _ (List.mem_of_getElem? (i := 0) rfl)).1
    rwa [show ev ρ (0, [(0, 1)]) = ρ 0 from ev_v] at q
  have cX : 0 ≤ ρ 3 := by
    have q := (hG _ (List.mem_of_getElem? (i := 1) rfl)).1
    rwa [show ev ρ (0, [(3, 1)]) = ρ 3 from ev_v] at q
  have cM : 0 ≤ ρ 1 := by
    have q := (hG _ (List.mem_of_getElem? (i := 2) rfl)).1
    rwa [show ev ρ (0, [(1, 1)]) = ρ 1 from ev_v] at q
  have y0 : rfv h (ρ 0).toNat 8 = some (.ref (ρ 3).toNat) := ob_v hT (hH _ (List.mem_of_getElem? (i := 0) rfl)) ev_v g0 rfl ev_v
  have hm := (kCp (V := ρ 4) (k := 3) (by omega) (by omega) p1)
  refine ⟨_, List.mem_cons_self, ρ, fun _ _ => rfl, fun q hq => absurd hq List.not_mem_nil, trivial, fun f hf => ?_, fun q hq => absurd hq List.not_mem_nil, fun q hq => absurd hq List.not_mem_nil, fun q hq => absurd hq List.not_mem_nil, fun q hq => ?_⟩
  · exact absurd hf List.not_mem_nil
  · simp only [List.mem_cons, List.not_mem_nil, or_false] at hq
    subst hq
    show qM G 4 (((0) + ((1) * ρ 1 + 0))) (((0) + ((1) * ρ 4 + 0))) (rfv h)
    refine c2 (P := (fun r c => qM G 4 r c (rfv h))) (r := ρ 1) (c := ρ 4) ?_ (by omega) (by omega)
    show qM G 4 (ρ 1) (ρ 4) (rfv h)
    exact s_mX 4 (m := (ρ 2).toNat) (by omega) (by omega) (by omega) (q210.o p0)
/-- foV -/
theorem lem_673_ok (hU : uqG G C) : lem_673.1.2.1 = [] ∧ lemOK (PRd G C D xs) G rgs lem_673 := by
  refine ⟨rfl, fun ρ h ha hT => ?_⟩
  obtain ⟨-, -, hF, hG, hH, hA, hP⟩ := ha
  have f0 : (0 : Int) ≤ ((2) + ((-1) * ρ 1 + ((7) * ρ 2 + ((1) * ρ 3 + 0)))) := hF _ (List.mem_of_getElem? (i := 0) rfl)
  have f1 : (0 : Int) ≤ ((-2) + ((1) * ρ 1 + ((-7) * ρ 2 + ((-1) * ρ 3 + 0)))) := hF _ (List.mem_of_getElem? (i := 1) rfl)
  have f2 : (0 : Int) ≤ ((0) + ((1) * ρ 2 + 0)) := hF _ (List.mem_of_getElem? (i := 2) rfl)
  have f3 : (0 : Int) ≤ ((7) + ((-1) * ρ 2 + 0)) := hF _ (List.mem_of_getElem? (i := 3) rfl)
  have f4 : (0 : Int) ≤ ((-1) + ((1) * ρ 4 + 0)) := hF _ (List.mem_of_getElem? (i := 4) rfl)
  have f5 : (0 : Int) ≤ ((1) + ((-1) * ρ 4 + 0)) := hF _ (List.mem_of_getElem? (i := 5) rfl)
  have g0 : G (ρ 0).toNat = 21 := by
    have q := (hG _ (List.mem_of_getElem? (i := 0) rfl)).2
    rwa [show ev ρ (0, [(0, 1)]) = ρ 0 from ev_v] at q
  have g1 : G (ρ 3).toNat = 20 := by
    have q := (hG _ (List.mem_of_getElem? (i := 1) rfl)).2
    rwa [show ev ρ (0, [(3, 1)]) = ρ 3 from ev_v] at q
  have g2 : G (ρ 1).toNat = 13 := by
    have q := (hG _ (List.mem_of_getElem? (i := 2) rfl)).2
    rwa [show ev ρ (0, [(1, 1)]) = ρ 1 from ev_v] at q
  have h1 : (0 : Int) ≤ ρ 4 ∧ ρ 4 ≤ 1 := hf_rg hT (hH _ (List.mem_of_getElem? (i := 1) rfl)) ev_v g2 rfl rfl rfl ev_v
  have p0 : q241 G (ρ 3) (elv h) := c2 (P := (fun r (_ : Int) => q241 G r (elv h))) (c := 0) (c' := 0) (show q241 G (((0) + ((1) * ρ 3 + 0))) (elv h) from hP _ (List.mem_of_getElem? (i := 0) rfl)) (by omega) rfl
  have p1 : qM G 4 (ρ 1) (ρ 5) (rfv h) := c2 (P := (fun r c => qM G 4 r c (rfv h))) (show qM G 4 (((0) + ((1) * ρ 1 + 0))) (((0) + ((1) * ρ 5 + 0))) (rfv h) from hP _ (List.mem_of_getElem? (i := 1) rfl)) (by omega) (by omega)
  have cT : 0 ≤ ρ 0 := by
    have q := (hG _ (List.mem_of_getElem? (i := 0) rfl)).1
    rwa [show ev ρ (0, [(0, 1)]) = ρ 0 from ev_v] at q
  have cX : 0 ≤ ρ 3 := by
    have q := (hG _ (List.mem_of_getElem? (i := 1) rfl)).1
    rwa [show ev ρ (0, [(3, 1)]) = ρ 3 from ev_v] at q
  have cM : 0 ≤ ρ 1 := by
    have q := (hG _ (List.mem_of_getElem? (i := 2) rfl)).1
    rwa [show ev ρ (0, [(1, 1)]) = ρ 1 from ev_v] at q
  have y0 : rfv h (ρ 0).toNat 8 = some (.ref (ρ 3).toNat) := ob_v hT (hH _ (List.mem_of_getElem? (i := 0) rfl)) ev_v g0 rfl ev_v
  have y1 : hasI (rfv h (ρ 1).toNat 2) (ρ 4) := ob_i hT (hH _ (List.mem_of_getElem? (i := 1) rfl)) ev_v g2 rfl ev_v
  obtain ⟨σ, r1, r2a⟩ : ∃ σ : Va, (∀ i, i < 6 → σ i = ρ i) ∧ σ 6 = ((setC (ρ 5).toNat (4 + (ρ 2).toNat) (ρ 4).toNat : Nat) : Int) := ⟨fun i => if i = 6 then ((setC (ρ 5).toNat (4 + (ρ 2).toNat) (ρ 4).toNat : Nat) : Int) else ρ i, fun i hi => by dsimp only; rw [if_neg (by omega)], by dsimp only; rw [if_pos rfl]⟩
  have s0 := r1 0 (by omega)
  have s1 := r1 1 (by omega)
  have s2 := r1 2 (by omega)
  have s3 := r1 3 (by omega)
  have s4 := r1 4 (by omega)
  have s5 := r1 5 (by omega)
  refine ⟨_, List.mem_cons_self, σ, r1, fun q hq => absurd hq List.not_mem_nil, trivial, fun f hf => ?_, fun q hq => absurd hq List.not_mem_nil, fun q hq => absurd hq List.not_mem_nil, fun q hq => absurd hq List.not_mem_nil, fun q hq => ?_⟩
  · exact absurd hf List.not_mem_nil
  · simp only [List.mem_cons, List.not_mem_nil, or_false] at hq
    rcases hq with rfl | rfl
    · show q210 G (((0) + ((1) * σ 3 + 0))) (((0) + ((1) * σ 6 + 0))) (rfv h)
      refine c2 (P := (fun r c => q210 G r c (rfv h))) (r := ρ 3) (c := ((setC (ρ 5).toNat (4 + (ρ 2).toNat) (ρ 4).toNat : Nat) : Int)) ?_ (by omega) (by omega)
      show q210 G (ρ 3) (((setC (ρ 5).toNat (4 + (ρ 2).toNat) (ρ 4).toNat : Nat) : Int)) (rfv h)
      exact (c2 (P := (fun r c => q210 G r c (rfv h))) ((s_mV (off := 4) (f := 2) (m := (ρ 2).toNat) (by omega) (Or.inl ⟨rfl, rfl⟩) cX g1 (by omega) (by omega) (by omega) p1 y1).toS p0.2.2.1) (by omega) (by omega))
    · show qSet (((262145) + ((65536) * σ 2 + ((16777216) * σ 5 + 0)))) (((0) + ((1) * σ 6 + 0)))
      refine c2 (P := qSet) (r := 65536 * ρ 2 + 16777216 * ρ 5 + 262145) (c := ((setC (ρ 5).toNat (4 + (ρ 2).toNat) (ρ 4).toNat : Nat) : Int)) ?_ (by omega) (by omega)
      show qSet (65536 * ρ 2 + 16777216 * ρ 5 + 262145) (((setC (ρ 5).toNat (4 + (ρ 2).toNat) (ρ 4).toNat : Nat) : Int))
      exact oSet (V := ρ 5) (v := ρ 4) (k := 4 + (ρ 2).toNat) (by omega) (by omega) (by omega) (by omega) rfl
/-- gfX -/
theorem lem_674_ok (hU : uqG G C) : lem_674.1.2.1 = [] ∧ lemOK (PRd G C D xs) G rgs lem_674 := by
  refine ⟨rfl, fun ρ h ha hT => ?_⟩
  obtain ⟨-, -, hF, hG, hH, hA, hP⟩ := ha
  have f0 : (0 : Int) ≤ ((2) + ((-1) * ρ 1 + ((7) * ρ 2 + ((1) * ρ 3 + 0)))) := hF _ (List.mem_of_getElem? (i := 0) rfl)
  have f1 : (0 : Int) ≤ ((-2) + ((1) * ρ 1 + ((-7) * ρ 2 + ((-1) * ρ 3 + 0)))) := hF _ (List.mem_of_getElem? (i := 1) rfl)
  have f2 : (0 : Int) ≤ ((0) + ((1) * ρ 2 + 0)) := hF _ (List.mem_of_getElem? (i := 2) rfl)
  have f3 : (0 : Int) ≤ ((7) + ((-1) * ρ 2 + 0)) := hF _ (List.mem_of_getElem? (i := 3) rfl)
  have f4 : (0 : Int) ≤ ((-1) + ((-1) * ρ 2 + ((1) * ρ 5 + 0))) := hF _ (List.mem_of_getElem? (i := 4) rfl)
  have g0 : G (ρ 0).toNat = 21 := by
    have q := (hG _ (List.mem_of_getElem? (i := 0) rfl)).2
    rwa [show ev ρ (0, [(0, 1)]) = ρ 0 from ev_v] at q
  have g1 : G (ρ 3).toNat = 20 := by
    have q := (hG _ (List.mem_of_getElem? (i := 1) rfl)).2
    rwa [show ev ρ (0, [(3, 1)]) = ρ 3 from ev_v] at q
  have g2 : G (ρ 1).toNat = 13 := by
    have q := (hG _ (List.mem_of_getElem? (i := 2) rfl)).2
    rwa [show ev ρ (0, [(1, 1)]) = ρ 1 from ev_v] at q
  have p0 : q210 G (ρ 3) (ρ 4) (rfv h) := c2 (P := (fun r c => q210 G r c (rfv h))) (show q210 G (((0) + ((1) * ρ 3 + 0))) (((0) + ((1) * ρ 4 + 0))) (rfv h) from hP _ (List.mem_of_getElem? (i := 0) rfl)) (by omega) (by omega)
  have p1 : qCp (128 * ρ 4 + 3) (ρ 5) := c2 (P := qCp) (show qCp (((3) + ((128) * ρ 4 + 0))) (((0) + ((1) * ρ 5 + 0))) from hP _ (List.mem_of_getElem? (i := 1) rfl)) (by omega) (by omega)
  have cT : 0 ≤ ρ 0 := by
    have q := (hG _ (List.mem_of_getElem? (i := 0) rfl)).1
    rwa [show ev ρ (0, [(0, 1)]) = ρ 0 from ev_v] at q
  have cX : 0 ≤ ρ 3 := by
    have q := (hG _ (List.mem_of_getElem? (i := 1) rfl)).1
    rwa [show ev ρ (0, [(3, 1)]) = ρ 3 from ev_v] at q
  have cM : 0 ≤ ρ 1 := by
    have q := (hG _ (List.mem_of_getElem? (i := 2) rfl)).1
    rwa [show ev ρ (0, [(1, 1)]) = ρ 1 from ev_v] at q
  have y0 : rfv h (ρ 0).toNat 8 = some (.ref (ρ 3).toNat) := ob_v hT (hH _ (List.mem_of_getElem? (i := 0) rfl)) ev_v g0 rfl ev_v
  have hm := (kCp (V := ρ 4) (k := 3) (by omega) (by omega) p1)
  refine ⟨_, List.mem_cons_self, ρ, fun _ _ => rfl, fun q hq => absurd hq List.not_mem_nil, trivial, fun f hf => ?_, fun q hq => absurd hq List.not_mem_nil, fun q hq => absurd hq List.not_mem_nil, fun q hq => absurd hq List.not_mem_nil, fun q hq => ?_⟩
  · exact absurd hf List.not_mem_nil
  · simp only [List.mem_cons, List.not_mem_nil, or_false] at hq
    subst hq
    show qM G 20 (((0) + ((1) * ρ 1 + 0))) (((0) + ((1) * ρ 4 + 0))) (rfv h)
    refine c2 (P := (fun r c => qM G 20 r c (rfv h))) (r := ρ 1) (c := ρ 4) ?_ (by omega) (by omega)
    show qM G 20 (ρ 1) (ρ 4) (rfv h)
    exact s_mX 20 (m := (ρ 2).toNat) (by omega) (by omega) (by omega) (q210.o p0)
/-- gfV -/
theorem lem_675_ok (hU : uqG G C) : lem_675.1.2.1 = [] ∧ lemOK (PRd G C D xs) G rgs lem_675 := by
  refine ⟨rfl, fun ρ h ha hT => ?_⟩
  obtain ⟨-, -, hF, hG, hH, hA, hP⟩ := ha
  have f0 : (0 : Int) ≤ ((2) + ((-1) * ρ 1 + ((7) * ρ 2 + ((1) * ρ 3 + 0)))) := hF _ (List.mem_of_getElem? (i := 0) rfl)
  have f1 : (0 : Int) ≤ ((-2) + ((1) * ρ 1 + ((-7) * ρ 2 + ((-1) * ρ 3 + 0)))) := hF _ (List.mem_of_getElem? (i := 1) rfl)
  have f2 : (0 : Int) ≤ ((0) + ((1) * ρ 2 + 0)) := hF _ (List.mem_of_getElem? (i := 2) rfl)
  have f3 : (0 : Int) ≤ ((7) + ((-1) * ρ 2 + 0)) := hF _ (List.mem_of_getElem? (i := 3) rfl)
  have f4 : (0 : Int) ≤ ((0) + ((1) * ρ 4 + 0)) := hF _ (List.mem_of_getElem? (i := 4) rfl)
  have f5 : (0 : Int) ≤ ((9999) + ((-1) * ρ 4 + 0)) := hF _ (List.mem_of_getElem? (i := 5) rfl)
  have g0 : G (ρ 0).toNat = 21 := by
    have q := (hG _ (List.mem_of_getElem? (i := 0) rfl)).2
    rwa [show ev ρ (0, [(0, 1)]) = ρ 0 from ev_v] at q
  have g1 : G (ρ 3).toNat = 20 := by
    have q := (hG _ (List.mem_of_getElem? (i := 1) rfl)).2
    rwa [show ev ρ (0, [(3, 1)]) = ρ 3 from ev_v] at q
  have g2 : G (ρ 1).toNat = 13 := by
    have q := (hG _ (List.mem_of_getElem? (i := 2) rfl)).2
    rwa [show ev ρ (0, [(1, 1)]) = ρ 1 from ev_v] at q
  have p0 : q241 G (ρ 3) (elv h) := c2 (P := (fun r (_ : Int) => q241 G r (elv h))) (c := 0) (c' := 0) (show q241 G (((0) + ((1) * ρ 3 + 0))) (elv h) from hP _ (List.mem_of_getElem? (i := 0) rfl)) (by omega) rfl
  have p1 : qM G 20 (ρ 1) (ρ 5) (rfv h) := c2 (P := (fun r c => qM G 20 r c (rfv h))) (show qM G 20 (((0) + ((1) * ρ 1 + 0))) (((0) + ((1) * ρ 5 + 0))) (rfv h) from hP _ (List.mem_of_getElem? (i := 1) rfl)) (by omega) (by omega)
  have p2 : qCp (128 * ρ 5 + 3) (ρ 6) := c2 (P := qCp) (show qCp (((3) + ((128) * ρ 5 + 0))) (((0) + ((1) * ρ 6 + 0))) from hP _ (List.mem_of_getElem? (i := 2) rfl)) (by omega) (by omega)
  have cT : 0 ≤ ρ 0 := by
    have q := (hG _ (List.mem_of_getElem? (i := 0) rfl)).1
    rwa [show ev ρ (0, [(0, 1)]) = ρ 0 from ev_v] at q
  have cX : 0 ≤ ρ 3 := by
    have q := (hG _ (List.mem_of_getElem? (i := 1) rfl)).1
    rwa [show ev ρ (0, [(3, 1)]) = ρ 3 from ev_v] at q
  have cM : 0 ≤ ρ 1 := by
    have q := (hG _ (List.mem_of_getElem? (i := 2) rfl)).1
    rwa [show ev ρ (0, [(1, 1)]) = ρ 1 from ev_v] at q
  have y0 : rfv h (ρ 0).toNat 8 = some (.ref (ρ 3).toNat) := ob_v hT (hH _ (List.mem_of_getElem? (i := 0) rfl)) ev_v g0 rfl ev_v
  have y1 : hasI (rfv h (ρ 1).toNat 0) (ρ 4) := ob_i hT (hH _ (List.mem_of_getElem? (i := 1) rfl)) ev_v g2 rfl ev_v
  obtain ⟨σ, r1, r2a⟩ : ∃ σ : Va, (∀ i, i < 7 → σ i = ρ i) ∧ σ 7 = ((setC (ρ 5).toNat (20 + (ρ 2).toNat) (ρ 4).toNat : Nat) : Int) := ⟨fun i => if i = 7 then ((setC (ρ 5).toNat (20 + (ρ 2).toNat) (ρ 4).toNat : Nat) : Int) else ρ i, fun i hi => by dsimp only; rw [if_neg (by omega)], by dsimp only; rw [if_pos rfl]⟩
  have s0 := r1 0 (by omega)
  have s1 := r1 1 (by omega)
  have s2 := r1 2 (by omega)
  have s3 := r1 3 (by omega)
  have s4 := r1 4 (by omega)
  have s5 := r1 5 (by omega)
  have s6 := r1 6 (by omega)
  refine ⟨_, List.mem_cons_self, σ, r1, fun q hq => absurd hq List.not_mem_nil, trivial, fun f hf => ?_, fun q hq => absurd hq List.not_mem_nil, fun q hq => absurd hq List.not_mem_nil, fun q hq => absurd hq List.not_mem_nil, fun q hq => ?_⟩
  · exact absurd hf List.not_mem_nil
  · simp only [List.mem_cons, List.not_mem_nil, or_false] at hq
    rcases hq with rfl | rfl | rfl
    · show q210 G (((0) + ((1) * σ 3 + 0))) (((0) + ((1) * σ 7 + 0))) (rfv h)
      refine c2 (P := (fun r c => q210 G r c (rfv h))) (r := ρ 3) (c := ((setC (ρ 5).toNat (20 + (ρ 2).toNat) (ρ 4).toNat : Nat) : Int)) ?_ (by omega) (by omega)
      show q210 G (ρ 3) (((setC (ρ 5).toNat (20 + (ρ 2).toNat) (ρ 4).toNat : Nat) : Int)) (rfv h)
      exact (c2 (P := (fun r c => q210 G r c (rfv h))) ((s_mV (off := 20) (f := 0) (m := (ρ 2).toNat) (by omega) (Or.inr (Or.inl ⟨rfl, rfl⟩)) cX g1 (by omega) (by omega) (by omega) p1 y1).toS p0.2.2.1) (by omega) (by omega))
    · show qSet (((1310720) + ((65536) * σ 2 + ((1) * σ 4 + ((16777216) * σ 5 + 0))))) (((0) + ((1) * σ 7 + 0)))
      refine c2 (P := qSet) (r := 65536 * ρ 2 + ρ 4 + 16777216 * ρ 5 + 1310720) (c := ((setC (ρ 5).toNat (20 + (ρ 2).toNat) (ρ 4).toNat : Nat) : Int)) ?_ (by omega) (by omega)
      show qSet (65536 * ρ 2 + ρ 4 + 16777216 * ρ 5 + 1310720) (((setC (ρ 5).toNat (20 + (ρ 2).toNat) (ρ 4).toNat : Nat) : Int))
      exact oSet (V := ρ 5) (v := ρ 4) (k := 20 + (ρ 2).toNat) (by omega) (by omega) (by omega) (by omega) rfl
    · show qCp (((3) + ((128) * σ 7 + 0))) (((0) + ((1) * σ 6 + 0)))
      refine c2 (P := qCp) (r := 128 * ((setC (ρ 5).toNat (20 + (ρ 2).toNat) (ρ 4).toNat : Nat) : Int) + 3) (c := ρ 6) ?_ (by omega) (by omega)
      show qCp (128 * ((setC (ρ 5).toNat (20 + (ρ 2).toNat) (ρ 4).toNat : Nat) : Int) + 3) (ρ 6)
      exact oCp (k := 3) rfl (by decide) (by rw [Int.toNat_natCast, cp3_set (by omega)]; exact (kCp (V := ρ 5) (k := 3) (by omega) (by omega) p2))
/-- guX -/
theorem lem_676_ok (hU : uqG G C) : lem_676.1.2.1 = [] ∧ lemOK (PRd G C D xs) G rgs lem_676 := by
  refine ⟨rfl, fun ρ h ha hT => ?_⟩
  obtain ⟨-, -, hF, hG, hH, hA, hP⟩ := ha
  have f0 : (0 : Int) ≤ ((2) + ((-1) * ρ 1 + ((7) * ρ 2 + ((1) * ρ 3 + 0)))) := hF _ (List.mem_of_getElem? (i := 0) rfl)
  have f1 : (0 : Int) ≤ ((-2) + ((1) * ρ 1 + ((-7) * ρ 2 + ((-1) * ρ 3 + 0)))) := hF _ (List.mem_of_getElem? (i := 1) rfl)
  have f2 : (0 : Int) ≤ ((0) + ((1) * ρ 2 + 0)) := hF _ (List.mem_of_getElem? (i := 2) rfl)
  have f3 : (0 : Int) ≤ ((7) + ((-1) * ρ 2 + 0)) := hF _ (List.mem_of_getElem? (i := 3) rfl)
  have f4 : (0 : Int) ≤ ((-1) + ((-1) * ρ 2 + ((1) * ρ 5 + 0))) := hF _ (List.mem_of_getElem? (i := 4) rfl)
  have g0 : G (ρ 0).toNat = 21 := by
    have q := (hG _ (List.mem_of_getElem? (i := 0) rfl)).2
    rwa [show ev ρ (0, [(0, 1)]) = ρ 0 from ev_v] at q
  have g1 : G (ρ 3).toNat = 20 := by
    have q := (hG _ (List.mem_of_getElem? (i := 1) rfl)).2
    rwa [show ev ρ (0, [(3, 1)]) = ρ 3 from ev_v] at q
  have g2 : G (ρ 1).toNat = 13 := by
    have q := (hG _ (List.mem_of_getElem? (i := 2) rfl)).2
    rwa [show ev ρ (0, [(1, 1)]) = ρ 1 from ev_v] at q
  have p0 : q210 G (ρ 3) (ρ 4) (rfv h) := c2 (P := (fun r c => q210 G r c (rfv h))) (show q210 G (((0) + ((1) * ρ 3 + 0))) (((0) + ((1) * ρ 4 + 0))) (rfv h) from hP _ (List.mem_of_getElem? (i := 0) rfl)) (by omega) (by omega)
  have p1 : qCp (128 * ρ 4 + 3) (ρ 5) := c2 (P := qCp) (show qCp (((3) + ((128) * ρ 4 + 0))) (((0) + ((1) * ρ 5 + 0))) from hP _ (List.mem_of_getElem? (i := 1) rfl)) (by omega) (by omega)
  have cT : 0 ≤ ρ 0 := by
    have q := (hG _ (List.mem_of_getElem? (i := 0) rfl)).1
    rwa [show ev ρ (0, [(0, 1)]) = ρ 0 from ev_v] at q
  have cX : 0 ≤ ρ 3 := by
    have q := (hG _ (List.mem_of_getElem? (i := 1) rfl)).1
    rwa [show ev ρ (0, [(3, 1)]) = ρ 3 from ev_v] at q
  have cM : 0 ≤ ρ 1 := by
    have q := (hG _ (List.mem_of_getElem? (i := 2) rfl)).1
    rwa [show ev ρ (0, [(1, 1)]) = ρ 1 from ev_v] at q
  have y0 : rfv h (ρ 0).toNat 8 = some (.ref (ρ 3).toNat) := ob_v hT (hH _ (List.mem_of_getElem? (i := 0) rfl)) ev_v g0 rfl ev_v
  have hm := (kCp (V := ρ 4) (k := 3) (by omega) (by omega) p1)
  refine ⟨_, List.mem_cons_self, ρ, fun _ _ => rfl, fun q hq => absurd hq List.not_mem_nil, trivial, fun f hf => ?_, fun q hq => absurd hq List.not_mem_nil, fun q hq => absurd hq List.not_mem_nil, fun q hq => absurd hq List.not_mem_nil, fun q hq => ?_⟩
  · exact absurd hf List.not_mem_nil
  · simp only [List.mem_cons, List.not_mem_nil, or_false] at hq
    subst hq
    show qM G 28 (((0) + ((1) * ρ 1 + 0))) (((0) + ((1) * ρ 4 + 0))) (rfv h)
    refine c2 (P := (fun r c => qM G 28 r c (rfv h))) (r := ρ 1) (c := ρ 4) ?_ (by omega) (by omega)
    show qM G 28 (ρ 1) (ρ 4) (rfv h)
    exact s_mX 28 (m := (ρ 2).toNat) (by omega) (by omega) (by omega) (q210.o p0)
/-- guV -/
theorem lem_677_ok (hU : uqG G C) : lem_677.1.2.1 = [] ∧ lemOK (PRd G C D xs) G rgs lem_677 := by
  refine ⟨rfl, fun ρ h ha hT => ?_⟩
  obtain ⟨-, -, hF, hG, hH, hA, hP⟩ := ha
  have f0 : (0 : Int) ≤ ((2) + ((-1) * ρ 1 + ((7) * ρ 2 + ((1) * ρ 3 + 0)))) := hF _ (List.mem_of_getElem? (i := 0) rfl)
  have f1 : (0 : Int) ≤ ((-2) + ((1) * ρ 1 + ((-7) * ρ 2 + ((-1) * ρ 3 + 0)))) := hF _ (List.mem_of_getElem? (i := 1) rfl)
  have f2 : (0 : Int) ≤ ((0) + ((1) * ρ 2 + 0)) := hF _ (List.mem_of_getElem? (i := 2) rfl)
  have f3 : (0 : Int) ≤ ((7) + ((-1) * ρ 2 + 0)) := hF _ (List.mem_of_getElem? (i := 3) rfl)
  have f4 : (0 : Int) ≤ ((0) + ((1) * ρ 4 + 0)) := hF _ (List.mem_of_getElem? (i := 4) rfl)
  have f5 : (0 : Int) ≤ ((9999) + ((-1) * ρ 4 + 0)) := hF _ (List.mem_of_getElem? (i := 5) rfl)
  have g0 : G (ρ 0).toNat = 21 := by
    have q := (hG _ (List.mem_of_getElem? (i := 0) rfl)).2
    rwa [show ev ρ (0, [(0, 1)]) = ρ 0 from ev_v] at q
  have g1 : G (ρ 3).toNat = 20 := by
    have q := (hG _ (List.mem_of_getElem? (i := 1) rfl)).2
    rwa [show ev ρ (0, [(3, 1)]) = ρ 3 from ev_v] at q
  have g2 : G (ρ 1).toNat = 13 := by
    have q := (hG _ (List.mem_of_getElem? (i := 2) rfl)).2
    rwa [show ev ρ (0, [(1, 1)]) = ρ 1 from ev_v] at q
  have p0 : q241 G (ρ 3) (elv h) := c2 (P := (fun r (_ : Int) => q241 G r (elv h))) (c := 0) (c' := 0) (show q241 G (((0) + ((1) * ρ 3 + 0))) (elv h) from hP _ (List.mem_of_getElem? (i := 0) rfl)) (by omega) rfl
  have p1 : qM G 28 (ρ 1) (ρ 5) (rfv h) := c2 (P := (fun r c => qM G 28 r c (rfv h))) (show qM G 28 (((0) + ((1) * ρ 1 + 0))) (((0) + ((1) * ρ 5 + 0))) (rfv h) from hP _ (List.mem_of_getElem? (i := 1) rfl)) (by omega) (by omega)
  have cT : 0 ≤ ρ 0 := by
    have q := (hG _ (List.mem_of_getElem? (i := 0) rfl)).1
    rwa [show ev ρ (0, [(0, 1)]) = ρ 0 from ev_v] at q
  have cX : 0 ≤ ρ 3 := by
    have q := (hG _ (List.mem_of_getElem? (i := 1) rfl)).1
    rwa [show ev ρ (0, [(3, 1)]) = ρ 3 from ev_v] at q
  have cM : 0 ≤ ρ 1 := by
    have q := (hG _ (List.mem_of_getElem? (i := 2) rfl)).1
    rwa [show ev ρ (0, [(1, 1)]) = ρ 1 from ev_v] at q
  have y0 : rfv h (ρ 0).toNat 8 = some (.ref (ρ 3).toNat) := ob_v hT (hH _ (List.mem_of_getElem? (i := 0) rfl)) ev_v g0 rfl ev_v
  have y1 : hasI (rfv h (ρ 1).toNat 1) (ρ 4) := ob_i hT (hH _ (List.mem_of_getElem? (i := 1) rfl)) ev_v g2 rfl ev_v
  obtain ⟨σ, r1, r2a⟩ : ∃ σ : Va, (∀ i, i < 6 → σ i = ρ i) ∧ σ 6 = ((setC (ρ 5).toNat (28 + (ρ 2).toNat) (ρ 4).toNat : Nat) : Int) := ⟨fun i => if i = 6 then ((setC (ρ 5).toNat (28 + (ρ 2).toNat) (ρ 4).toNat : Nat) : Int) else ρ i, fun i hi => by dsimp only; rw [if_neg (by omega)], by dsimp only; rw [if_pos rfl]⟩
  have s0 := r1 0 (by omega)
  have s1 := r1 1 (by omega)
  have s2 := r1 2 (by omega)
  have s3 := r1 3 (by omega)
  have s4 := r1 4 (by omega)
  have s5 := r1 5 (by omega)
  refine ⟨_, List.mem_cons_self, σ, r1, fun q hq => absurd hq List.not_mem_nil, trivial, fun f hf => ?_, fun q hq => absurd hq List.not_mem_nil, fun q hq => absurd hq List.not_mem_nil, fun q hq => absurd hq List.not_mem_nil, fun q hq => ?_⟩
  · exact absurd hf List.not_mem_nil
  · simp only [List.mem_cons, List.not_mem_nil, or_false] at hq
    rcases hq with rfl | rfl
    · show q210 G (((0) + ((1) * σ 3 + 0))) (((0) + ((1) * σ 6 + 0))) (rfv h)
      refine c2 (P := (fun r c => q210 G r c (rfv h))) (r := ρ 3) (c := ((setC (ρ 5).toNat (28 + (ρ 2).toNat) (ρ 4).toNat : Nat) : Int)) ?_ (by omega) (by omega)
      show q210 G (ρ 3) (((setC (ρ 5).toNat (28 + (ρ 2).toNat) (ρ 4).toNat : Nat) : Int)) (rfv h)
      exact (c2 (P := (fun r c => q210 G r c (rfv h))) ((s_mV (off := 28) (f := 1) (m := (ρ 2).toNat) (by omega) (Or.inr (Or.inr ⟨rfl, rfl⟩)) cX g1 (by omega) (by omega) (by omega) p1 y1).toS p0.2.2.1) (by omega) (by omega))
    · show qSet (((1835008) + ((65536) * σ 2 + ((1) * σ 4 + ((16777216) * σ 5 + 0))))) (((0) + ((1) * σ 6 + 0)))
      refine c2 (P := qSet) (r := 65536 * ρ 2 + ρ 4 + 16777216 * ρ 5 + 1835008) (c := ((setC (ρ 5).toNat (28 + (ρ 2).toNat) (ρ 4).toNat : Nat) : Int)) ?_ (by omega) (by omega)
      show qSet (65536 * ρ 2 + ρ 4 + 16777216 * ρ 5 + 1835008) (((setC (ρ 5).toNat (28 + (ρ 2).toNat) (ρ 4).toNat : Nat) : Int))
      exact oSet (V := ρ 5) (v := ρ 4) (k := 28 + (ρ 2).toNat) (by omega) (by omega) (by omega) (by omega) rfl
/-- vX -/
theorem lem_678_ok (hU : uqG G C) : lem_678.1.2.1 = [] ∧ lemOK (PRd G C D xs) G rgs lem_678 := by
  refine ⟨rfl, fun ρ h ha hT => ?_⟩
  obtain ⟨-, -, hF, hG, hH, hA, hP⟩ := ha
  have g0 : G (ρ 0).toNat = 21 := by
    have q := (hG _ (List.mem_of_getElem? (i := 0) rfl)).2
    rwa [show ev ρ (0, [(0, 1)]) = ρ 0 from ev_v] at q
  have g1 : G (ρ 1).toNat = 20 := by
    have q := (hG _ (List.mem_of_getElem? (i := 1) rfl)).2
    rwa [show ev ρ (0, [(1, 1)]) = ρ 1 from ev_v] at q
  have p0 : q210 G (ρ 1) (ρ 2) (rfv h) := c2 (P := (fun r c => q210 G r c (rfv h))) (show q210 G (((0) + ((1) * ρ 1 + 0))) (((0) + ((1) * ρ 2 + 0))) (rfv h) from hP _ (List.mem_of_getElem? (i := 0) rfl)) (by omega) (by omega)
  refine ⟨_, List.mem_cons_self, ρ, fun _ _ => rfl, fun q hq => absurd hq List.not_mem_nil, trivial, fun f hf => ?_, fun q hq => absurd hq List.not_mem_nil, fun q hq => absurd hq List.not_mem_nil, fun q hq => absurd hq List.not_mem_nil, fun q hq => ?_⟩
  · exact absurd hf List.not_mem_nil
  · simp only [List.mem_cons, List.not_mem_nil, or_false] at hq
    subst hq
    show q361 G (((0) + ((1) * ρ 1 + 0))) (((0) + ((1) * ρ 2 + 0))) (rfv h)
    refine c2 (P := (fun r c => q361 G r c (rfv h))) (r := ρ 1) (c := ρ 2) ?_ (by omega) (by omega)
    show q361 G (ρ 1) (ρ 2) (rfv h)
    exact q210.o p0
/-- dayV -/
theorem lem_679_ok (hU : uqG G C) : lem_679.1.2.1 = [] ∧ lemOK (PRd G C D xs) G rgs lem_679 := by
  refine ⟨rfl, fun ρ h ha hT => ?_⟩
  obtain ⟨-, -, hF, hG, hH, hA, hP⟩ := ha
  have g0 : G (ρ 0).toNat = 21 := by
    have q := (hG _ (List.mem_of_getElem? (i := 0) rfl)).2
    rwa [show ev ρ (0, [(0, 1)]) = ρ 0 from ev_v] at q
  have g1 : G (ρ 1).toNat = 20 := by
    have q := (hG _ (List.mem_of_getElem? (i := 1) rfl)).2
    rwa [show ev ρ (0, [(1, 1)]) = ρ 1 from ev_v] at q
  have h1 : (0 : Int) ≤ ρ 2 ∧ ρ 2 ≤ 2000 := hf_rg hT (hH _ (List.mem_of_getElem? (i := 1) rfl)) ev_v g1 rfl rfl rfl ev_v
  have p0 : q210 G (ρ 1) (ρ 3) (rfv h) := c2 (P := (fun r c => q210 G r c (rfv h))) (show q210 G (((0) + ((1) * ρ 1 + 0))) (((0) + ((1) * ρ 3 + 0))) (rfv h) from hP _ (List.mem_of_getElem? (i := 0) rfl)) (by omega) (by omega)
  have cT : 0 ≤ ρ 0 := by
    have q := (hG _ (List.mem_of_getElem? (i := 0) rfl)).1
    rwa [show ev ρ (0, [(0, 1)]) = ρ 0 from ev_v] at q
  have cX : 0 ≤ ρ 1 := by
    have q := (hG _ (List.mem_of_getElem? (i := 1) rfl)).1
    rwa [show ev ρ (0, [(1, 1)]) = ρ 1 from ev_v] at q
  have y0 : rfv h (ρ 0).toNat 8 = some (.ref (ρ 1).toNat) := ob_v hT (hH _ (List.mem_of_getElem? (i := 0) rfl)) ev_v g0 rfl ev_v
  have y1 : hasI (rfv h (ρ 1).toNat 0) (ρ 2) := ob_i hT (hH _ (List.mem_of_getElem? (i := 1) rfl)) ev_v g1 rfl ev_v
  refine ⟨_, List.mem_cons_self, ρ, fun _ _ => rfl, fun q hq => absurd hq List.not_mem_nil, trivial, fun f hf => ?_, fun q hq => absurd hq List.not_mem_nil, fun q hq => absurd hq List.not_mem_nil, fun q hq => absurd hq List.not_mem_nil, fun q hq => ?_⟩
  · exact absurd hf List.not_mem_nil
  · simp only [List.mem_cons, List.not_mem_nil, or_false] at hq
    subst hq
    show qCp (((0) + ((128) * ρ 3 + 0))) (((0) + ((1) * ρ 2 + 0)))
    refine c2 (P := qCp) (r := 128 * ρ 3) (c := ρ 2) ?_ (by omega) (by omega)
    show qCp (128 * ρ 3) (ρ 2)
    exact oCp (V := ρ 3) (k := 0) (by omega) (by decide) (s_f4 (k := 0) (by decide) rfl (q210.o p0) y1)
/-- dayW -/
theorem lem_680_ok (hU : uqG G C) : lem_680.1.2.1 = [] ∧ lemOK (PRd G C D xs) G rgs lem_680 := by
  refine ⟨rfl, fun ρ h ha hT => ?_⟩
  obtain ⟨-, -, hF, hG, hH, hA, hP⟩ := ha
  have g0 : G (ρ 0).toNat = 21 := by
    have q := (hG _ (List.mem_of_getElem? (i := 0) rfl)).2
    rwa [show ev ρ (0, [(0, 1)]) = ρ 0 from ev_v] at q
  have g1 : G (ρ 1).toNat = 20 := by
    have q := (hG _ (List.mem_of_getElem? (i := 1) rfl)).2
    rwa [show ev ρ (0, [(1, 1)]) = ρ 1 from ev_v] at q
  have h1 : (0 : Int) ≤ ρ 2 ∧ ρ 2 ≤ 2000 := hf_rg hT (hH _ (List.mem_of_getElem? (i := 1) rfl)) ev_v g1 rfl rfl rfl ev_v
  have p0 : q210 G (ρ 1) (ρ 3) (rfv h) := c2 (P := (fun r c => q210 G r c (rfv h))) (show q210 G (((0) + ((1) * ρ 1 + 0))) (((0) + ((1) * ρ 3 + 0))) (rfv h) from hP _ (List.mem_of_getElem? (i := 0) rfl)) (by omega) (by omega)
  have p1 : qCp (128 * ρ 3) (ρ 4) := c2 (P := qCp) (show qCp (((0) + ((128) * ρ 3 + 0))) (((0) + ((1) * ρ 4 + 0))) from hP _ (List.mem_of_getElem? (i := 1) rfl)) (by omega) (by omega)
  have cT : 0 ≤ ρ 0 := by
    have q := (hG _ (List.mem_of_getElem? (i := 0) rfl)).1
    rwa [show ev ρ (0, [(0, 1)]) = ρ 0 from ev_v] at q
  have cX : 0 ≤ ρ 1 := by
    have q := (hG _ (List.mem_of_getElem? (i := 1) rfl)).1
    rwa [show ev ρ (0, [(1, 1)]) = ρ 1 from ev_v] at q
  have y0 : rfv h (ρ 0).toNat 8 = some (.ref (ρ 1).toNat) := ob_v hT (hH _ (List.mem_of_getElem? (i := 0) rfl)) ev_v g0 rfl ev_v
  have y1 : hasI (rfv h (ρ 1).toNat 0) (ρ 2) := ob_i hT (hH _ (List.mem_of_getElem? (i := 1) rfl)) ev_v g1 rfl ev_v
  have r := (s_f4 (k := 0) (by decide) rfl (q210.o p0) y1)
  have r2 := (kCp (V := ρ 3) (k := 0) (by omega) (by omega) p1)
  refine ⟨_, List.mem_cons_self, ρ, fun _ _ => rfl, fun q hq => absurd hq List.not_mem_nil, trivial, fun f hf => ?_, fun q hq => absurd hq List.not_mem_nil, fun q hq => absurd hq List.not_mem_nil, fun q hq => absurd hq List.not_mem_nil, fun q hq => ?_⟩
  · simp only [List.mem_cons, List.not_mem_nil, or_false] at hf
    rcases hf with rfl | rfl
    · show (0 : Int) ≤ ((0) + ((-1) * ρ 2 + ((1) * ρ 4 + 0)))
      omega
    · show (0 : Int) ≤ ((0) + ((1) * ρ 2 + ((-1) * ρ 4 + 0)))
      omega
  · exact absurd hq List.not_mem_nil
/-- macT -/
theorem lem_681_ok (hU : uqG G C) : lem_681.1.2.1 = [] ∧ lemOK (PRd G C D xs) G rgs lem_681 := by
  refine ⟨rfl, fun ρ h ha hT => ?_⟩
  obtain ⟨-, -, hF, hG, hH, hA, hP⟩ := ha
  have f0 : (0 : Int) ≤ ((0) + ((1) * ρ 2 + 0)) := hF _ (List.mem_of_getElem? (i := 0) rfl)
  have f1 : (0 : Int) ≤ ((7) + ((-1) * ρ 2 + 0)) := hF _ (List.mem_of_getElem? (i := 1) rfl)
  have g0 : G (ρ 0).toNat = 21 := by
    have q := (hG _ (List.mem_of_getElem? (i := 0) rfl)).2
    rwa [show ev ρ (0, [(0, 1)]) = ρ 0 from ev_v] at q
  have g1 : G (ρ 3).toNat = 20 := by
    have q := (hG _ (List.mem_of_getElem? (i := 1) rfl)).2
    rwa [show ev ρ (0, [(3, 1)]) = ρ 3 from ev_v] at q
  have g2 : G (ρ 1).toNat = 13 := by
    have q := (hG _ (List.mem_of_getElem? (i := 2) rfl)).2
    rwa [show ev ρ (0, [(1, 1)]) = ρ 1 from ev_v] at q
  have g3 : G (ρ 4).toNat = 115 := by
    have q := (hG _ (List.mem_of_getElem? (i := 3) rfl)).2
    rwa [show ev ρ (0, [(4, 1)]) = ρ 4 from ev_v] at q
  have b0 : (0 : Int) ≤ ((0) + ((1) * ρ 2 + 0)) := b_aA (hA _ (List.mem_of_getElem? (i := 0) rfl))
  have p0 : q207 G (rfv h) (elv h) := c2 (P := (fun (_ _ : Int) => q207 G (rfv h) (elv h))) (r := 0) (r' := 0) (c := 0) (c' := 0) (show q207 G (rfv h) (elv h) from hP _ (List.mem_of_getElem? (i := 0) rfl)) rfl rfl
  have cT : 0 ≤ ρ 0 := by
    have q := (hG _ (List.mem_of_getElem? (i := 0) rfl)).1
    rwa [show ev ρ (0, [(0, 1)]) = ρ 0 from ev_v] at q
  have cX : 0 ≤ ρ 3 := by
    have q := (hG _ (List.mem_of_getElem? (i := 1) rfl)).1
    rwa [show ev ρ (0, [(3, 1)]) = ρ 3 from ev_v] at q
  have cM : 0 ≤ ρ 1 := by
    have q := (hG _ (List.mem_of_getElem? (i := 2) rfl)).1
    rwa [show ev ρ (0, [(1, 1)]) = ρ 1 from ev_v] at q
  have cA : 0 ≤ ρ 4 := by
    have q := (hG _ (List.mem_of_getElem? (i := 3) rfl)).1
    rwa [show ev ρ (0, [(4, 1)]) = ρ 4 from ev_v] at q
  have y0 : rfv h (ρ 0).toNat 9 = some (.ref (ρ 3).toNat) := ob_v hT (hH _ (List.mem_of_getElem? (i := 0) rfl)) ev_v g0 rfl ev_v
  have y1 : rfv h (ρ 3).toNat 13 = some (.ref (ρ 4).toNat) := ob_v hT (hH _ (List.mem_of_getElem? (i := 1) rfl)) ev_v g1 rfl ev_v
  have z0 : elv h (ρ 4).toNat (ρ 2).toNat = some (.ref (ρ 1).toNat) := ar_v (j := ρ 2) (hA _ (List.mem_of_getElem? (i := 0) rfl)) ev_v (show (ρ 2 : Int) = ((0) + ((1) * ρ 2 + 0)) by omega) ev_v
  have rm := s_mcS (k := (ρ 2).toNat) (by omega) cX cM g1 y1 z0 p0
  refine ⟨_, List.mem_cons_self, ρ, fun _ _ => rfl, fun q hq => absurd hq List.not_mem_nil, trivial, fun f hf => ?_, fun q hq => absurd hq List.not_mem_nil, fun q hq => absurd hq List.not_mem_nil, fun q hq => absurd hq List.not_mem_nil, fun q hq => ?_⟩
  · simp only [List.mem_cons, List.not_mem_nil, or_false] at hf
    rcases hf with rfl | rfl | rfl | rfl
    · show (0 : Int) ≤ ((2) + ((-1) * ρ 1 + ((7) * ρ 2 + ((1) * ρ 3 + 0))))
      omega
    · show (0 : Int) ≤ ((-2) + ((1) * ρ 1 + ((-7) * ρ 2 + ((-1) * ρ 3 + 0))))
      omega
    · show (0 : Int) ≤ ((-2) + ((1) * ρ 1 + ((-1) * ρ 3 + 0)))
      omega
    · show (0 : Int) ≤ ((51) + ((-1) * ρ 1 + ((1) * ρ 3 + 0)))
      omega
  · exact absurd hq List.not_mem_nil
/-- mcN -/
theorem lem_682_ok (hU : uqG G C) : lem_682.1.2.1 = [] ∧ lemOK (PRd G C D xs) G rgs lem_682 := by
  refine ⟨rfl, fun ρ h ha hT => ?_⟩
  obtain ⟨-, -, hF, hG, hH, hA, hP⟩ := ha
  have g0 : G (ρ 0).toNat = 21 := by
    have q := (hG _ (List.mem_of_getElem? (i := 0) rfl)).2
    rwa [show ev ρ (0, [(0, 1)]) = ρ 0 from ev_v] at q
  have g1 : G (ρ 1).toNat = 20 := by
    have q := (hG _ (List.mem_of_getElem? (i := 1) rfl)).2
    rwa [show ev ρ (0, [(1, 1)]) = ρ 1 from ev_v] at q
  have h1 : (0 : Int) ≤ ρ 2 ∧ ρ 2 ≤ 8 := hf_rg hT (hH _ (List.mem_of_getElem? (i := 1) rfl)) ev_v g1 rfl rfl rfl ev_v
  have p0 : q210 G (ρ 1) (ρ 3) (rfv h) := c2 (P := (fun r c => q210 G r c (rfv h))) (show q210 G (((0) + ((1) * ρ 1 + 0))) (((0) + ((1) * ρ 3 + 0))) (rfv h) from hP _ (List.mem_of_getElem? (i := 0) rfl)) (by omega) (by omega)
  have cT : 0 ≤ ρ 0 := by
    have q := (hG _ (List.mem_of_getElem? (i := 0) rfl)).1
    rwa [show ev ρ (0, [(0, 1)]) = ρ 0 from ev_v] at q
  have cX : 0 ≤ ρ 1 := by
    have q := (hG _ (List.mem_of_getElem? (i := 1) rfl)).1
    rwa [show ev ρ (0, [(1, 1)]) = ρ 1 from ev_v] at q
  have y0 : rfv h (ρ 0).toNat 8 = some (.ref (ρ 1).toNat) := ob_v hT (hH _ (List.mem_of_getElem? (i := 0) rfl)) ev_v g0 rfl ev_v
  have y1 : hasI (rfv h (ρ 1).toNat 12) (ρ 2) := ob_i hT (hH _ (List.mem_of_getElem? (i := 1) rfl)) ev_v g1 rfl ev_v
  refine ⟨_, List.mem_cons_self, ρ, fun _ _ => rfl, fun q hq => absurd hq List.not_mem_nil, trivial, fun f hf => ?_, fun q hq => absurd hq List.not_mem_nil, fun q hq => absurd hq List.not_mem_nil, fun q hq => absurd hq List.not_mem_nil, fun q hq => ?_⟩
  · exact absurd hf List.not_mem_nil
  · simp only [List.mem_cons, List.not_mem_nil, or_false] at hq
    subst hq
    show qCp (((3) + ((128) * ρ 3 + 0))) (((0) + ((1) * ρ 2 + 0)))
    refine c2 (P := qCp) (r := 128 * ρ 3 + 3) (c := ρ 2) ?_ (by omega) (by omega)
    show qCp (128 * ρ 3 + 3) (ρ 2)
    exact oCp (V := ρ 3) (k := 3) (by omega) (by decide) (s_f4 (k := 3) (by decide) rfl (q210.o p0) y1)
/-- mcE -/
theorem lem_683_ok (hU : uqG G C) : lem_683.1.2.1 = [] ∧ lemOK (PRd G C D xs) G rgs lem_683 := by
  refine ⟨rfl, fun ρ h ha hT => ?_⟩
  obtain ⟨-, -, hF, hG, hH, hA, hP⟩ := ha
  have g0 : G (ρ 0).toNat = 21 := by
    have q := (hG _ (List.mem_of_getElem? (i := 0) rfl)).2
    rwa [show ev ρ (0, [(0, 1)]) = ρ 0 from ev_v] at q
  have g1 : G (ρ 1).toNat = 20 := by
    have q := (hG _ (List.mem_of_getElem? (i := 1) rfl)).2
    rwa [show ev ρ (0, [(1, 1)]) = ρ 1 from ev_v] at q
  have h1 : (0 : Int) ≤ ρ 2 ∧ ρ 2 ≤ 8 := hf_rg hT (hH _ (List.mem_of_getElem? (i := 1) rfl)) ev_v g1 rfl rfl rfl ev_v
  have p0 : q210 G (ρ 1) (ρ 3) (rfv h) := c2 (P := (fun r c => q210 G r c (rfv h))) (show q210 G (((0) + ((1) * ρ 1 + 0))) (((0) + ((1) * ρ 3 + 0))) (rfv h) from hP _ (List.mem_of_getElem? (i := 0) rfl)) (by omega) (by omega)
  have p1 : qCp (128 * ρ 3 + 3) (ρ 4) := c2 (P := qCp) (show qCp (((3) + ((128) * ρ 3 + 0))) (((0) + ((1) * ρ 4 + 0))) from hP _ (List.mem_of_getElem? (i := 1) rfl)) (by omega) (by omega)
  have cT : 0 ≤ ρ 0 := by
    have q := (hG _ (List.mem_of_getElem? (i := 0) rfl)).1
    rwa [show ev ρ (0, [(0, 1)]) = ρ 0 from ev_v] at q
  have cX : 0 ≤ ρ 1 := by
    have q := (hG _ (List.mem_of_getElem? (i := 1) rfl)).1
    rwa [show ev ρ (0, [(1, 1)]) = ρ 1 from ev_v] at q
  have y0 : rfv h (ρ 0).toNat 8 = some (.ref (ρ 1).toNat) := ob_v hT (hH _ (List.mem_of_getElem? (i := 0) rfl)) ev_v g0 rfl ev_v
  have y1 : hasI (rfv h (ρ 1).toNat 12) (ρ 2) := ob_i hT (hH _ (List.mem_of_getElem? (i := 1) rfl)) ev_v g1 rfl ev_v
  have r := (s_f4 (k := 3) (by decide) rfl (q210.o p0) y1)
  have r2 := (kCp (V := ρ 3) (k := 3) (by omega) (by omega) p1)
  refine ⟨_, List.mem_cons_self, ρ, fun _ _ => rfl, fun q hq => absurd hq List.not_mem_nil, trivial, fun f hf => ?_, fun q hq => absurd hq List.not_mem_nil, fun q hq => absurd hq List.not_mem_nil, fun q hq => absurd hq List.not_mem_nil, fun q hq => ?_⟩
  · simp only [List.mem_cons, List.not_mem_nil, or_false] at hf
    rcases hf with rfl | rfl
    · show (0 : Int) ≤ ((0) + ((-1) * ρ 2 + ((1) * ρ 4 + 0)))
      omega
    · show (0 : Int) ≤ ((0) + ((1) * ρ 2 + ((-1) * ρ 4 + 0)))
      omega
  · exact absurd hq List.not_mem_nil
/-- scN -/
theorem lem_684_ok (hU : uqG G C) : lem_684.1.2.1 = [] ∧ lemOK (PRd G C D xs) G rgs lem_684 := by
  refine ⟨rfl, fun ρ h ha hT => ?_⟩
  obtain ⟨-, -, hF, hG, hH, hA, hP⟩ := ha
  have f0 : (0 : Int) ≤ ((2) + ((-1) * ρ 1 + ((7) * ρ 2 + ((1) * ρ 3 + 0)))) := hF _ (List.mem_of_getElem? (i := 0) rfl)
  have f1 : (0 : Int) ≤ ((-2) + ((1) * ρ 1 + ((-7) * ρ 2 + ((-1) * ρ 3 + 0)))) := hF _ (List.mem_of_getElem? (i := 1) rfl)
  have f2 : (0 : Int) ≤ ((0) + ((1) * ρ 2 + 0)) := hF _ (List.mem_of_getElem? (i := 2) rfl)
  have f3 : (0 : Int) ≤ ((7) + ((-1) * ρ 2 + 0)) := hF _ (List.mem_of_getElem? (i := 3) rfl)
  have f4 : (0 : Int) ≤ ((-1) + ((-1) * ρ 2 + ((1) * ρ 6 + 0))) := hF _ (List.mem_of_getElem? (i := 4) rfl)
  have g0 : G (ρ 0).toNat = 21 := by
    have q := (hG _ (List.mem_of_getElem? (i := 0) rfl)).2
    rwa [show ev ρ (0, [(0, 1)]) = ρ 0 from ev_v] at q
  have g1 : G (ρ 3).toNat = 20 := by
    have q := (hG _ (List.mem_of_getElem? (i := 1) rfl)).2
    rwa [show ev ρ (0, [(3, 1)]) = ρ 3 from ev_v] at q
  have g2 : G (ρ 1).toNat = 13 := by
    have q := (hG _ (List.mem_of_getElem? (i := 2) rfl)).2
    rwa [show ev ρ (0, [(1, 1)]) = ρ 1 from ev_v] at q
  have h1 : (0 : Int) ≤ ρ 4 ∧ ρ 4 ≤ 5 := hf_rg hT (hH _ (List.mem_of_getElem? (i := 1) rfl)) ev_v g2 rfl rfl rfl ev_v
  have p0 : q210 G (ρ 3) (ρ 5) (rfv h) := c2 (P := (fun r c => q210 G r c (rfv h))) (show q210 G (((0) + ((1) * ρ 3 + 0))) (((0) + ((1) * ρ 5 + 0))) (rfv h) from hP _ (List.mem_of_getElem? (i := 0) rfl)) (by omega) (by omega)
  have p1 : qCp (128 * ρ 5 + 3) (ρ 6) := c2 (P := qCp) (show qCp (((3) + ((128) * ρ 5 + 0))) (((0) + ((1) * ρ 6 + 0))) from hP _ (List.mem_of_getElem? (i := 1) rfl)) (by omega) (by omega)
  have cT : 0 ≤ ρ 0 := by
    have q := (hG _ (List.mem_of_getElem? (i := 0) rfl)).1
    rwa [show ev ρ (0, [(0, 1)]) = ρ 0 from ev_v] at q
  have cX : 0 ≤ ρ 3 := by
    have q := (hG _ (List.mem_of_getElem? (i := 1) rfl)).1
    rwa [show ev ρ (0, [(3, 1)]) = ρ 3 from ev_v] at q
  have cM : 0 ≤ ρ 1 := by
    have q := (hG _ (List.mem_of_getElem? (i := 2) rfl)).1
    rwa [show ev ρ (0, [(1, 1)]) = ρ 1 from ev_v] at q
  have y0 : rfv h (ρ 0).toNat 8 = some (.ref (ρ 3).toNat) := ob_v hT (hH _ (List.mem_of_getElem? (i := 0) rfl)) ev_v g0 rfl ev_v
  have y1 : hasI (rfv h (ρ 1).toNat 6) (ρ 4) := ob_i hT (hH _ (List.mem_of_getElem? (i := 1) rfl)) ev_v g2 rfl ev_v
  have hm := (kCp (V := ρ 5) (k := 3) (by omega) (by omega) p1)
  refine ⟨_, List.mem_cons_self, ρ, fun _ _ => rfl, fun q hq => absurd hq List.not_mem_nil, trivial, fun f hf => ?_, fun q hq => absurd hq List.not_mem_nil, fun q hq => absurd hq List.not_mem_nil, fun q hq => absurd hq List.not_mem_nil, fun q hq => ?_⟩
  · exact absurd hf List.not_mem_nil
  · simp only [List.mem_cons, List.not_mem_nil, or_false] at hq
    subst hq
    show qCp (((12) + ((1) * ρ 2 + ((128) * ρ 5 + 0)))) (((0) + ((1) * ρ 4 + 0)))
    refine c2 (P := qCp) (r := ρ 2 + 128 * ρ 5 + 12) (c := ρ 4) ?_ (by omega) (by omega)
    show qCp (ρ 2 + 128 * ρ 5 + 12) (ρ 4)
    exact oCp (V := ρ 5) (k := 12 + (ρ 2).toNat) (by omega) (by omega) (s_mf (k := 12 + (ρ 2).toNat) (f := 6) (m := (ρ 2).toNat) (by omega) (by omega) (by omega) (by omega) (q210.o p0) y1)
/-- scE -/
theorem lem_685_ok (hU : uqG G C) : lem_685.1.2.1 = [] ∧ lemOK (PRd G C D xs) G rgs lem_685 := by
  refine ⟨rfl, fun ρ h ha hT => ?_⟩
  obtain ⟨-, -, hF, hG, hH, hA, hP⟩ := ha
  have f0 : (0 : Int) ≤ ((2) + ((-1) * ρ 1 + ((7) * ρ 2 + ((1) * ρ 3 + 0)))) := hF _ (List.mem_of_getElem? (i := 0) rfl)
  have f1 : (0 : Int) ≤ ((-2) + ((1) * ρ 1 + ((-7) * ρ 2 + ((-1) * ρ 3 + 0)))) := hF _ (List.mem_of_getElem? (i := 1) rfl)
  have f2 : (0 : Int) ≤ ((0) + ((1) * ρ 2 + 0)) := hF _ (List.mem_of_getElem? (i := 2) rfl)
  have f3 : (0 : Int) ≤ ((7) + ((-1) * ρ 2 + 0)) := hF _ (List.mem_of_getElem? (i := 3) rfl)
  have f4 : (0 : Int) ≤ ((-1) + ((-1) * ρ 2 + ((1) * ρ 7 + 0))) := hF _ (List.mem_of_getElem? (i := 4) rfl)
  have g0 : G (ρ 0).toNat = 21 := by
    have q := (hG _ (List.mem_of_getElem? (i := 0) rfl)).2
    rwa [show ev ρ (0, [(0, 1)]) = ρ 0 from ev_v] at q
  have g1 : G (ρ 3).toNat = 20 := by
    have q := (hG _ (List.mem_of_getElem? (i := 1) rfl)).2
    rwa [show ev ρ (0, [(3, 1)]) = ρ 3 from ev_v] at q
  have g2 : G (ρ 1).toNat = 13 := by
    have q := (hG _ (List.mem_of_getElem? (i := 2) rfl)).2
    rwa [show ev ρ (0, [(1, 1)]) = ρ 1 from ev_v] at q
  have h1 : (0 : Int) ≤ ρ 4 ∧ ρ 4 ≤ 5 := hf_rg hT (hH _ (List.mem_of_getElem? (i := 1) rfl)) ev_v g2 rfl rfl rfl ev_v
  have p0 : q210 G (ρ 3) (ρ 5) (rfv h) := c2 (P := (fun r c => q210 G r c (rfv h))) (show q210 G (((0) + ((1) * ρ 3 + 0))) (((0) + ((1) * ρ 5 + 0))) (rfv h) from hP _ (List.mem_of_getElem? (i := 0) rfl)) (by omega) (by omega)
  have p1 : qCp (ρ 2 + 128 * ρ 5 + 12) (ρ 6) := c2 (P := qCp) (show qCp (((12) + ((1) * ρ 2 + ((128) * ρ 5 + 0)))) (((0) + ((1) * ρ 6 + 0))) from hP _ (List.mem_of_getElem? (i := 1) rfl)) (by omega) (by omega)
  have p2 : qCp (128 * ρ 5 + 3) (ρ 7) := c2 (P := qCp) (show qCp (((3) + ((128) * ρ 5 + 0))) (((0) + ((1) * ρ 7 + 0))) from hP _ (List.mem_of_getElem? (i := 2) rfl)) (by omega) (by omega)
  have cT : 0 ≤ ρ 0 := by
    have q := (hG _ (List.mem_of_getElem? (i := 0) rfl)).1
    rwa [show ev ρ (0, [(0, 1)]) = ρ 0 from ev_v] at q
  have cX : 0 ≤ ρ 3 := by
    have q := (hG _ (List.mem_of_getElem? (i := 1) rfl)).1
    rwa [show ev ρ (0, [(3, 1)]) = ρ 3 from ev_v] at q
  have cM : 0 ≤ ρ 1 := by
    have q := (hG _ (List.mem_of_getElem? (i := 2) rfl)).1
    rwa [show ev ρ (0, [(1, 1)]) = ρ 1 from ev_v] at q
  have y0 : rfv h (ρ 0).toNat 8 = some (.ref (ρ 3).toNat) := ob_v hT (hH _ (List.mem_of_getElem? (i := 0) rfl)) ev_v g0 rfl ev_v
  have y1 : hasI (rfv h (ρ 1).toNat 6) (ρ 4) := ob_i hT (hH _ (List.mem_of_getElem? (i := 1) rfl)) ev_v g2 rfl ev_v
  have hm := (kCp (V := ρ 5) (k := 3) (by omega) (by omega) p2)
  have r := (s_mf (k := 12 + (ρ 2).toNat) (f := 6) (m := (ρ 2).toNat) (by omega) (by omega) (by omega) (by omega) (q210.o p0) y1)
  have r2 := (kCp (V := ρ 5) (k := 12 + (ρ 2).toNat) (by omega) (by omega) p1)
  refine ⟨_, List.mem_cons_self, ρ, fun _ _ => rfl, fun q hq => absurd hq List.not_mem_nil, trivial, fun f hf => ?_, fun q hq => absurd hq List.not_mem_nil, fun q hq => absurd hq List.not_mem_nil, fun q hq => absurd hq List.not_mem_nil, fun q hq => ?_⟩
  · simp only [List.mem_cons, List.not_mem_nil, or_false] at hf
    rcases hf with rfl | rfl
    · show (0 : Int) ≤ ((0) + ((-1) * ρ 4 + ((1) * ρ 6 + 0)))
      omega
    · show (0 : Int) ≤ ((0) + ((1) * ρ 4 + ((-1) * ρ 6 + 0)))
      omega
  · exact absurd hq List.not_mem_nil
/-- mk210 -/
theorem lem_686_ok (hU : uqG G C) : lem_686.1.2.1 = [] ∧ lemOK (PRd G C D xs) G rgs lem_686 := by
  refine ⟨rfl, fun ρ h ha hT => ?_⟩
  obtain ⟨-, -, hF, hG, hH, hA, hP⟩ := ha
  have g0 : G (ρ 0).toNat = 21 := by
    have q := (hG _ (List.mem_of_getElem? (i := 0) rfl)).2
    rwa [show ev ρ (0, [(0, 1)]) = ρ 0 from ev_v] at q
  have g1 : G (ρ 1).toNat = 20 := by
    have q := (hG _ (List.mem_of_getElem? (i := 1) rfl)).2
    rwa [show ev ρ (0, [(1, 1)]) = ρ 1 from ev_v] at q
  have p0 : q241 G (ρ 1) (elv h) := c2 (P := (fun r (_ : Int) => q241 G r (elv h))) (c := 0) (c' := 0) (show q241 G (((0) + ((1) * ρ 1 + 0))) (elv h) from hP _ (List.mem_of_getElem? (i := 0) rfl)) (by omega) rfl
  have p1 : q361 G (ρ 1) (ρ 2) (rfv h) := c2 (P := (fun r c => q361 G r c (rfv h))) (show q361 G (((0) + ((1) * ρ 1 + 0))) (((0) + ((1) * ρ 2 + 0))) (rfv h) from hP _ (List.mem_of_getElem? (i := 1) rfl)) (by omega) (by omega)
  refine ⟨_, List.mem_cons_self, ρ, fun _ _ => rfl, fun q hq => absurd hq List.not_mem_nil, trivial, fun f hf => ?_, fun q hq => absurd hq List.not_mem_nil, fun q hq => absurd hq List.not_mem_nil, fun q hq => absurd hq List.not_mem_nil, fun q hq => ?_⟩
  · exact absurd hf List.not_mem_nil
  · simp only [List.mem_cons, List.not_mem_nil, or_false] at hq
    subst hq
    show q210 G (((0) + ((1) * ρ 1 + 0))) (((0) + ((1) * ρ 2 + 0))) (rfv h)
    refine c2 (P := (fun r c => q210 G r c (rfv h))) (r := ρ 1) (c := ρ 2) ?_ (by omega) (by omega)
    show q210 G (ρ 1) (ρ 2) (rfv h)
    exact p1.toS p0.2.2.1
/-- dy0 -/
theorem lem_687_ok (hU : uqG G C) : lem_687.1.2.1 = [] ∧ lemOK (PRd G C D xs) G rgs lem_687 := by
  refine ⟨rfl, fun ρ h ha hT => ?_⟩
  obtain ⟨-, -, hF, hG, hH, hA, hP⟩ := ha
  have g0 : G (ρ 0).toNat = 20 := by
    have q := (hG _ (List.mem_of_getElem? (i := 0) rfl)).2
    rwa [show ev ρ (0, [(0, 1)]) = ρ 0 from ev_v] at q
  have p0 : q361 G (ρ 0) (ρ 1) (rfv h) := c2 (P := (fun r c => q361 G r c (rfv h))) (show q361 G (((0) + ((1) * ρ 0 + 0))) (((0) + ((1) * ρ 1 + 0))) (rfv h) from hP _ (List.mem_of_getElem? (i := 0) rfl)) (by omega) (by omega)
  refine ⟨_, List.mem_cons_self, ρ, fun _ _ => rfl, fun q hq => absurd hq List.not_mem_nil, trivial, fun f hf => ?_, fun q hq => absurd hq List.not_mem_nil, fun q hq => absurd hq List.not_mem_nil, fun q hq => absurd hq List.not_mem_nil, fun q hq => ?_⟩
  · exact absurd hf List.not_mem_nil
  · simp only [List.mem_cons, List.not_mem_nil, or_false] at hq
    rcases hq with rfl | rfl
    · show qDay (((0) + ((256) * ρ 1 + 0))) (((0) + ((1) * ρ 1 + 0)))
      refine c2 (P := qDay) (r := 256 * ρ 1) (c := ρ 1) ?_ (by omega) (by omega)
      show qDay (256 * ρ 1) (ρ 1)
      exact oDay (V := ρ 1) (i := 0) (by omega) (by decide) (toN p0.2.1).symm
    · show True
      refine c2 (P := (fun (_ _ : Int) => True)) (r := 0) (r' := 0) (c := 0) (c' := 0) ?_ rfl rfl
      show True
      trivial
/-- dyA -/
theorem lem_688_ok (hU : uqG G C) : lem_688.1.2.1 = [] ∧ lemOK (PRd G C D xs) G rgs lem_688 := by
  refine ⟨rfl, fun ρ h ha hT => ?_⟩
  obtain ⟨-, -, hF, hG, hH, hA, hP⟩ := ha
  have g0 : G (ρ 0).toNat = 20 := by
    have q := (hG _ (List.mem_of_getElem? (i := 0) rfl)).2
    rwa [show ev ρ (0, [(0, 1)]) = ρ 0 from ev_v] at q
  have h0 : (0 : Int) ≤ ρ 1 ∧ ρ 1 ≤ 2000 := hf_rg hT (hH _ (List.mem_of_getElem? (i := 0) rfl)) ev_v g0 rfl rfl rfl ev_v
  have p0 : q361 G (ρ 0) (ρ 2) (rfv h) := c2 (P := (fun r c => q361 G r c (rfv h))) (show q361 G (((0) + ((1) * ρ 0 + 0))) (((0) + ((1) * ρ 2 + 0))) (rfv h) from hP _ (List.mem_of_getElem? (i := 0) rfl)) (by omega) (by omega)
  have cS : 0 ≤ ρ 0 := by
    have q := (hG _ (List.mem_of_getElem? (i := 0) rfl)).1
    rwa [show ev ρ (0, [(0, 1)]) = ρ 0 from ev_v] at q
  have y0 : hasI (rfv h (ρ 0).toNat 0) (ρ 1) := ob_i hT (hH _ (List.mem_of_getElem? (i := 0) rfl)) ev_v g0 rfl ev_v
  refine ⟨_, List.mem_cons_self, ρ, fun _ _ => rfl, fun q hq => absurd hq List.not_mem_nil, trivial, fun f hf => ?_, fun q hq => absurd hq List.not_mem_nil, fun q hq => absurd hq List.not_mem_nil, fun q hq => absurd hq List.not_mem_nil, fun q hq => ?_⟩
  · exact absurd hf List.not_mem_nil
  · simp only [List.mem_cons, List.not_mem_nil, or_false] at hq
    rcases hq with rfl | rfl
    · show qBut G 0 (((0) + ((1) * ρ 0 + 0))) (((0) + ((1) * ρ 2 + 0))) (rfv h)
      refine c2 (P := (fun r c => qBut G 0 r c (rfv h))) (r := ρ 0) (c := ρ 2) ?_ (by omega) (by omega)
      show qBut G 0 (ρ 0) (ρ 2) (rfv h)
      exact s_but 0 p0
    · show qCp (((0) + ((128) * ρ 2 + 0))) (((0) + ((1) * ρ 1 + 0)))
      refine c2 (P := qCp) (r := 128 * ρ 2) (c := ρ 1) ?_ (by omega) (by omega)
      show qCp (128 * ρ 2) (ρ 1)
      exact oCp (V := ρ 2) (k := 0) (by omega) (by decide) (s_f4 (k := 0) (by decide) rfl p0 y0)
/-- dyB -/
theorem lem_689_ok (hU : uqG G C) : lem_689.1.2.1 = [] ∧ lemOK (PRd G C D xs) G rgs lem_689 := by
  refine ⟨rfl, fun ρ h ha hT => ?_⟩
  obtain ⟨-, -, hF, hG, hH, hA, hP⟩ := ha
  have f0 : (0 : Int) ≤ ((0) + ((1) * ρ 1 + 0)) := hF _ (List.mem_of_getElem? (i := 0) rfl)
  have f1 : (0 : Int) ≤ ((254) + ((-1) * ρ 1 + 0)) := hF _ (List.mem_of_getElem? (i := 1) rfl)
  have f2 : (0 : Int) ≤ ((1) + ((-1) * ρ 2 + ((1) * ρ 4 + 0))) := hF _ (List.mem_of_getElem? (i := 2) rfl)
  have f3 : (0 : Int) ≤ ((-1) + ((1) * ρ 2 + ((-1) * ρ 4 + 0))) := hF _ (List.mem_of_getElem? (i := 3) rfl)
  have g0 : G (ρ 0).toNat = 20 := by
    have q := (hG _ (List.mem_of_getElem? (i := 0) rfl)).2
    rwa [show ev ρ (0, [(0, 1)]) = ρ 0 from ev_v] at q
  have h0 : (0 : Int) ≤ ρ 2 ∧ ρ 2 ≤ 2000 := hf_rg hT (hH _ (List.mem_of_getElem? (i := 0) rfl)) ev_v g0 rfl rfl rfl ev_v
  have p0 : qBut G 0 (ρ 0) (ρ 3) (rfv h) := c2 (P := (fun r c => qBut G 0 r c (rfv h))) (show qBut G 0 (((0) + ((1) * ρ 0 + 0))) (((0) + ((1) * ρ 3 + 0))) (rfv h) from hP _ (List.mem_of_getElem? (i := 0) rfl)) (by omega) (by omega)
  have p1 : qCp (128 * ρ 3) (ρ 4) := c2 (P := qCp) (show qCp (((0) + ((128) * ρ 3 + 0))) (((0) + ((1) * ρ 4 + 0))) from hP _ (List.mem_of_getElem? (i := 1) rfl)) (by omega) (by omega)
  have p2 : True := c2 (P := (fun (_ _ : Int) => True)) (r := 0) (r' := 0) (c := 0) (c' := 0) (show True from hP _ (List.mem_of_getElem? (i := 2) rfl)) rfl rfl
  have p3 : qDay (ρ 1 + 256 * ρ 5) (ρ 3) := c2 (P := qDay) (show qDay (((0) + ((1) * ρ 1 + ((256) * ρ 5 + 0)))) (((0) + ((1) * ρ 3 + 0))) from hP _ (List.mem_of_getElem? (i := 3) rfl)) (by omega) (by omega)
  have cS : 0 ≤ ρ 0 := by
    have q := (hG _ (List.mem_of_getElem? (i := 0) rfl)).1
    rwa [show ev ρ (0, [(0, 1)]) = ρ 0 from ev_v] at q
  have y0 : hasI (rfv h (ρ 0).toNat 0) (ρ 2) := ob_i hT (hH _ (List.mem_of_getElem? (i := 0) rfl)) ev_v g0 rfl ev_v
  have rd := kDay (V := ρ 5) (i := (ρ 1).toNat) (by omega) (by omega) p3
  obtain ⟨σ, r1, r2a⟩ : ∃ σ : Va, (∀ i, i < 6 → σ i = ρ i) ∧ σ 6 = ((day1 (ρ 3).toNat : Nat) : Int) := ⟨fun i => if i = 6 then ((day1 (ρ 3).toNat : Nat) : Int) else ρ i, fun i hi => by dsimp only; rw [if_neg (by omega)], by dsimp only; rw [if_pos rfl]⟩
  have s0 := r1 0 (by omega)
  have s1 := r1 1 (by omega)
  have s2 := r1 2 (by omega)
  have s3 := r1 3 (by omega)
  have s4 := r1 4 (by omega)
  have s5 := r1 5 (by omega)
  refine ⟨_, List.mem_cons_self, σ, r1, fun q hq => absurd hq List.not_mem_nil, trivial, fun f hf => ?_, fun q hq => absurd hq List.not_mem_nil, fun q hq => absurd hq List.not_mem_nil, fun q hq => absurd hq List.not_mem_nil, fun q hq => ?_⟩
  · exact absurd hf List.not_mem_nil
  · simp only [List.mem_cons, List.not_mem_nil, or_false] at hq
    rcases hq with rfl | rfl
    · show q385 G (((0) + ((1) * σ 0 + 0))) (((0) + ((1) * σ 6 + 0))) (rfv h)
      refine c2 (P := (fun r c => q385 G r c (rfv h))) (r := ρ 0) (c := ((day1 (ρ 3).toNat : Nat) : Int)) ?_ (by omega) (by omega)
      show q385 G (ρ 0) (((day1 (ρ 3).toNat : Nat) : Int)) (rfv h)
      exact (c2 (P := (fun r c => q385 G r c (rfv h))) (s_dyB (d := ρ 2) (e := ρ 4) (by omega) (by omega) y0 (kCp (V := ρ 3) (k := 0) (by omega) (by omega) p1) p0) (by omega) (by omega))
    · show qDay (((1) + ((1) * σ 1 + ((256) * σ 5 + 0)))) (((0) + ((1) * σ 6 + 0)))
      refine c2 (P := qDay) (r := ρ 1 + 256 * ρ 5 + 1) (c := ((day1 (ρ 3).toNat : Nat) : Int)) ?_ (by omega) (by omega)
      show qDay (ρ 1 + 256 * ρ 5 + 1) (((day1 (ρ 3).toNat : Nat) : Int))
      exact oDay (V := ρ 5) (i := (ρ 1).toNat + 1) (by omega) (by omega) (s_dayS rd)
/-- dyC -/
theorem lem_690_ok (hU : uqG G C) : lem_690.1.2.1 = [] ∧ lemOK (PRd G C D xs) G rgs lem_690 := by
  refine ⟨rfl, fun ρ h ha hT => ?_⟩
  obtain ⟨-, -, hF, hG, hH, hA, hP⟩ := ha
  have f0 : (0 : Int) ≤ ((0) + ((1) * ρ 2 + 0)) := hF _ (List.mem_of_getElem? (i := 0) rfl)
  have f1 : (0 : Int) ≤ ((7) + ((-1) * ρ 2 + 0)) := hF _ (List.mem_of_getElem? (i := 1) rfl)
  have f2 : (0 : Int) ≤ ((2) + ((1) * ρ 0 + ((-1) * ρ 1 + ((7) * ρ 2 + 0)))) := hF _ (List.mem_of_getElem? (i := 2) rfl)
  have f3 : (0 : Int) ≤ ((-2) + ((-1) * ρ 0 + ((1) * ρ 1 + ((-7) * ρ 2 + 0)))) := hF _ (List.mem_of_getElem? (i := 3) rfl)
  have g0 : G (ρ 0).toNat = 20 := by
    have q := (hG _ (List.mem_of_getElem? (i := 0) rfl)).2
    rwa [show ev ρ (0, [(0, 1)]) = ρ 0 from ev_v] at q
  have g1 : G (ρ 1).toNat = 13 := by
    have q := (hG _ (List.mem_of_getElem? (i := 1) rfl)).2
    rwa [show ev ρ (0, [(1, 1)]) = ρ 1 from ev_v] at q
  have p0 : q385 G (ρ 0 + 7 * ρ 2) (ρ 3) (rfv h) := c2 (P := (fun r c => q385 G r c (rfv h))) (show q385 G (((0) + ((1) * ρ 0 + ((7) * ρ 2 + 0)))) (((0) + ((1) * ρ 3 + 0))) (rfv h) from hP _ (List.mem_of_getElem? (i := 0) rfl)) (by omega) (by omega)
  have cS : 0 ≤ ρ 0 := by
    have q := (hG _ (List.mem_of_getElem? (i := 0) rfl)).1
    rwa [show ev ρ (0, [(0, 1)]) = ρ 0 from ev_v] at q
  have cM : 0 ≤ ρ 1 := by
    have q := (hG _ (List.mem_of_getElem? (i := 1) rfl)).1
    rwa [show ev ρ (0, [(1, 1)]) = ρ 1 from ev_v] at q
  refine ⟨_, List.mem_cons_self, ρ, fun _ _ => rfl, fun q hq => absurd hq List.not_mem_nil, trivial, fun f hf => ?_, fun q hq => absurd hq List.not_mem_nil, fun q hq => absurd hq List.not_mem_nil, fun q hq => absurd hq List.not_mem_nil, fun q hq => ?_⟩
  · exact absurd hf List.not_mem_nil
  · simp only [List.mem_cons, List.not_mem_nil, or_false] at hq
    subst hq
    show q387 G (((0) + ((1) * ρ 1 + 0))) (((0) + ((1) * ρ 3 + 0))) (rfv h)
    refine c2 (P := (fun r c => q387 G r c (rfv h))) (r := ρ 1) (c := ρ 3) ?_ (by omega) (by omega)
    show q387 G (ρ 1) (ρ 3) (rfv h)
    exact s_dyC (m := (ρ 2).toNat) (by omega) cS g0 (by omega) (c2 (P := (fun r c => q385 G r c (rfv h))) p0 (by omega) (by omega))
/-- dyD -/
theorem lem_691_ok (hU : uqG G C) : lem_691.1.2.1 = [] ∧ lemOK (PRd G C D xs) G rgs lem_691 := by
  refine ⟨rfl, fun ρ h ha hT => ?_⟩
  obtain ⟨-, -, hF, hG, hH, hA, hP⟩ := ha
  have f0 : (0 : Int) ≤ ((0) + ((1) * ρ 2 + 0)) := hF _ (List.mem_of_getElem? (i := 0) rfl)
  have f1 : (0 : Int) ≤ ((7) + ((-1) * ρ 2 + 0)) := hF _ (List.mem_of_getElem? (i := 1) rfl)
  have f2 : (0 : Int) ≤ ((0) + ((-1) * ρ 3 + 0)) := hF _ (List.mem_of_getElem? (i := 2) rfl)
  have f3 : (0 : Int) ≤ ((0) + ((1) * ρ 3 + 0)) := hF _ (List.mem_of_getElem? (i := 3) rfl)
  have f4 : (0 : Int) ≤ ((2) + ((1) * ρ 0 + ((-1) * ρ 1 + ((7) * ρ 2 + 0)))) := hF _ (List.mem_of_getElem? (i := 4) rfl)
  have f5 : (0 : Int) ≤ ((-2) + ((-1) * ρ 0 + ((1) * ρ 1 + ((-7) * ρ 2 + 0)))) := hF _ (List.mem_of_getElem? (i := 5) rfl)
  have g0 : G (ρ 0).toNat = 20 := by
    have q := (hG _ (List.mem_of_getElem? (i := 0) rfl)).2
    rwa [show ev ρ (0, [(0, 1)]) = ρ 0 from ev_v] at q
  have g1 : G (ρ 1).toNat = 13 := by
    have q := (hG _ (List.mem_of_getElem? (i := 1) rfl)).2
    rwa [show ev ρ (0, [(1, 1)]) = ρ 1 from ev_v] at q
  have h0 : (0 : Int) ≤ ρ 3 ∧ ρ 3 ≤ 1 := hf_rg hT (hH _ (List.mem_of_getElem? (i := 0) rfl)) ev_v g1 rfl rfl rfl ev_v
  have p0 : q387 G (ρ 1) (ρ 4) (rfv h) := c2 (P := (fun r c => q387 G r c (rfv h))) (show q387 G (((0) + ((1) * ρ 1 + 0))) (((0) + ((1) * ρ 4 + 0))) (rfv h) from hP _ (List.mem_of_getElem? (i := 0) rfl)) (by omega) (by omega)
  have cS : 0 ≤ ρ 0 := by
    have q := (hG _ (List.mem_of_getElem? (i := 0) rfl)).1
    rwa [show ev ρ (0, [(0, 1)]) = ρ 0 from ev_v] at q
  have cM : 0 ≤ ρ 1 := by
    have q := (hG _ (List.mem_of_getElem? (i := 1) rfl)).1
    rwa [show ev ρ (0, [(1, 1)]) = ρ 1 from ev_v] at q
  have y0 : hasI (rfv h (ρ 1).toNat 2) (ρ 3) := ob_i hT (hH _ (List.mem_of_getElem? (i := 0) rfl)) ev_v g1 rfl ev_v
  refine ⟨_, List.mem_cons_self, ρ, fun _ _ => rfl, fun q hq => absurd hq List.not_mem_nil, trivial, fun f hf => ?_, fun q hq => absurd hq List.not_mem_nil, fun q hq => absurd hq List.not_mem_nil, fun q hq => absurd hq List.not_mem_nil, fun q hq => ?_⟩
  · exact absurd hf List.not_mem_nil
  · simp only [List.mem_cons, List.not_mem_nil, or_false] at hq
    subst hq
    show q385 G (((7) + ((1) * ρ 0 + ((7) * ρ 2 + 0)))) (((0) + ((1) * ρ 4 + 0))) (rfv h)
    refine c2 (P := (fun r c => q385 G r c (rfv h))) (r := ρ 0 + 7 * ρ 2 + 7) (c := ρ 4) ?_ (by omega) (by omega)
    show q385 G (ρ 0 + 7 * ρ 2 + 7) (ρ 4) (rfv h)
    exact (c2 (P := (fun r c => q385 G r c (rfv h))) (s_dyD (m := (ρ 2).toNat) (by omega) cS g0 (by omega) (by omega) y0 p0) (by omega) (by omega))
/-- dyE -/
theorem lem_692_ok (hU : uqG G C) : lem_692.1.2.1 = [] ∧ lemOK (PRd G C D xs) G rgs lem_692 := by
  refine ⟨rfl, fun ρ h ha hT => ?_⟩
  obtain ⟨-, -, hF, hG, hH, hA, hP⟩ := ha
  have f0 : (0 : Int) ≤ ((0) + ((1) * ρ 1 + ((-1) * ρ 2 + 0))) := hF _ (List.mem_of_getElem? (i := 0) rfl)
  have f1 : (0 : Int) ≤ ((0) + ((-1) * ρ 1 + ((1) * ρ 2 + 0))) := hF _ (List.mem_of_getElem? (i := 1) rfl)
  have g0 : G (ρ 0).toNat = 20 := by
    have q := (hG _ (List.mem_of_getElem? (i := 0) rfl)).2
    rwa [show ev ρ (0, [(0, 1)]) = ρ 0 from ev_v] at q
  have h0 : (0 : Int) ≤ ρ 2 ∧ ρ 2 ≤ 8 := hf_rg hT (hH _ (List.mem_of_getElem? (i := 0) rfl)) ev_v g0 rfl rfl rfl ev_v
  have p0 : q385 G (ρ 0 + 7 * ρ 1) (ρ 3) (rfv h) := c2 (P := (fun r c => q385 G r c (rfv h))) (show q385 G (((0) + ((1) * ρ 0 + ((7) * ρ 1 + 0)))) (((0) + ((1) * ρ 3 + 0))) (rfv h) from hP _ (List.mem_of_getElem? (i := 0) rfl)) (by omega) (by omega)
  have cS : 0 ≤ ρ 0 := by
    have q := (hG _ (List.mem_of_getElem? (i := 0) rfl)).1
    rwa [show ev ρ (0, [(0, 1)]) = ρ 0 from ev_v] at q
  have y0 : hasI (rfv h (ρ 0).toNat 12) (ρ 2) := ob_i hT (hH _ (List.mem_of_getElem? (i := 0) rfl)) ev_v g0 rfl ev_v
  refine ⟨_, List.mem_cons_self, ρ, fun _ _ => rfl, fun q hq => absurd hq List.not_mem_nil, trivial, fun f hf => ?_, fun q hq => absurd hq List.not_mem_nil, fun q hq => absurd hq List.not_mem_nil, fun q hq => absurd hq List.not_mem_nil, fun q hq => ?_⟩
  · exact absurd hf List.not_mem_nil
  · simp only [List.mem_cons, List.not_mem_nil, or_false] at hq
    subst hq
    show q361 G (((0) + ((1) * ρ 0 + 0))) (((0) + ((1) * ρ 3 + 0))) (rfv h)
    refine c2 (P := (fun r c => q361 G r c (rfv h))) (r := ρ 0) (c := ρ 3) ?_ (by omega) (by omega)
    show q361 G (ρ 0) (ρ 3) (rfv h)
    exact s_dyE (m := (ρ 1).toNat) cS g0 (by omega) (by omega) y0 (c2 (P := (fun r c => q385 G r c (rfv h))) p0 (by omega) (by omega))
/-- beg0 -/
theorem lem_693_ok (hU : uqG G C) : lem_693.1.2.1 = [] ∧ lemOK (PRd G C D xs) G rgs lem_693 := by
  refine ⟨rfl, fun ρ h ha hT => ?_⟩
  obtain ⟨-, -, hF, hG, hH, hA, hP⟩ := ha
  have f0 : (0 : Int) ≤ ((0) + ((-1) * ρ 1 + 0)) := hF _ (List.mem_of_getElem? (i := 0) rfl)
  have f1 : (0 : Int) ≤ ((0) + ((1) * ρ 1 + 0)) := hF _ (List.mem_of_getElem? (i := 1) rfl)
  have f2 : (0 : Int) ≤ ((0) + ((-1) * ρ 2 + 0)) := hF _ (List.mem_of_getElem? (i := 2) rfl)
  have f3 : (0 : Int) ≤ ((0) + ((1) * ρ 2 + 0)) := hF _ (List.mem_of_getElem? (i := 3) rfl)
  have f4 : (0 : Int) ≤ ((0) + ((-1) * ρ 3 + 0)) := hF _ (List.mem_of_getElem? (i := 4) rfl)
  have f5 : (0 : Int) ≤ ((0) + ((1) * ρ 3 + 0)) := hF _ (List.mem_of_getElem? (i := 5) rfl)
  have f6 : (0 : Int) ≤ ((0) + ((-1) * ρ 4 + 0)) := hF _ (List.mem_of_getElem? (i := 6) rfl)
  have f7 : (0 : Int) ≤ ((0) + ((1) * ρ 4 + 0)) := hF _ (List.mem_of_getElem? (i := 7) rfl)
  have g0 : G (ρ 0).toNat = 20 := by
    have q := (hG _ (List.mem_of_getElem? (i := 0) rfl)).2
    rwa [show ev ρ (0, [(0, 1)]) = ρ 0 from ev_v] at q
  have h0 : (0 : Int) ≤ ρ 1 ∧ ρ 1 ≤ 2000 := hf_rg hT (hH _ (List.mem_of_getElem? (i := 0) rfl)) ev_v g0 rfl rfl rfl ev_v
  have h3 : (0 : Int) ≤ ρ 4 ∧ ρ 4 ≤ 8 := hf_rg hT (hH _ (List.mem_of_getElem? (i := 3) rfl)) ev_v g0 rfl rfl rfl ev_v
  have p0 : q241 G (ρ 5) (elv h) := c2 (P := (fun r (_ : Int) => q241 G r (elv h))) (c := 0) (c' := 0) (show q241 G (((0) + ((1) * ρ 5 + 0))) (elv h) from hP _ (List.mem_of_getElem? (i := 0) rfl)) (by omega) rfl
  have cT : 0 ≤ ρ 0 := by
    have q := (hG _ (List.mem_of_getElem? (i := 0) rfl)).1
    rwa [show ev ρ (0, [(0, 1)]) = ρ 0 from ev_v] at q
  have y0 : hasI (rfv h (ρ 0).toNat 0) (ρ 1) := ob_i hT (hH _ (List.mem_of_getElem? (i := 0) rfl)) ev_v g0 rfl ev_v
  have y1 : hasI (rfv h (ρ 0).toNat 1) (ρ 2) := ob_i hT (hH _ (List.mem_of_getElem? (i := 1) rfl)) ev_v g0 rfl ev_v
  have y2 : hasI (rfv h (ρ 0).toNat 2) (ρ 3) := ob_i hT (hH _ (List.mem_of_getElem? (i := 2) rfl)) ev_v g0 rfl ev_v
  have y3 : hasI (rfv h (ρ 0).toNat 12) (ρ 4) := ob_i hT (hH _ (List.mem_of_getElem? (i := 3) rfl)) ev_v g0 rfl ev_v
  refine ⟨_, List.mem_cons_self, ρ, fun _ _ => rfl, fun q hq => absurd hq List.not_mem_nil, trivial, fun f hf => ?_, fun q hq => absurd hq List.not_mem_nil, fun q hq => absurd hq List.not_mem_nil, fun q hq => absurd hq List.not_mem_nil, fun q hq => ?_⟩
  · exact absurd hf List.not_mem_nil
  · simp only [List.mem_cons, List.not_mem_nil, or_false] at hq
    subst hq
    show q361 G (((0) + ((1) * ρ 0 + 0))) (((0) + 0)) (rfv h)
    refine c2 (P := (fun r c => q361 G r c (rfv h))) (r := ρ 0) (c := (0 : Int)) ?_ (by omega) (by omega)
    show q361 G (ρ 0) ((0 : Int)) (rfv h)
    exact s_beg cT g0 (by omega) (by omega) (by omega) (by omega) y0 y1 y2 y3 p0
/-- shA -/
theorem lem_694_ok (hU : uqG G C) : lem_694.1.2.1 = [] ∧ lemOK (PRd G C D xs) G rgs lem_694 := by
  refine ⟨rfl, fun ρ h ha hT => ?_⟩
  obtain ⟨-, -, hF, hG, hH, hA, hP⟩ := ha
  have g0 : G (ρ 0).toNat = 20 := by
    have q := (hG _ (List.mem_of_getElem? (i := 0) rfl)).2
    rwa [show ev ρ (0, [(0, 1)]) = ρ 0 from ev_v] at q
  have p0 : q361 G (ρ 0) (ρ 1) (rfv h) := c2 (P := (fun r c => q361 G r c (rfv h))) (show q361 G (((0) + ((1) * ρ 0 + 0))) (((0) + ((1) * ρ 1 + 0))) (rfv h) from hP _ (List.mem_of_getElem? (i := 0) rfl)) (by omega) (by omega)
  refine ⟨_, List.mem_cons_self, ρ, fun _ _ => rfl, fun q hq => absurd hq List.not_mem_nil, trivial, fun f hf => ?_, fun q hq => absurd hq List.not_mem_nil, fun q hq => absurd hq List.not_mem_nil, fun q hq => absurd hq List.not_mem_nil, fun q hq => ?_⟩
  · exact absurd hf List.not_mem_nil
  · simp only [List.mem_cons, List.not_mem_nil, or_false] at hq
    subst hq
    show qBut G 2 (((0) + ((1) * ρ 0 + 0))) (((0) + ((1) * ρ 1 + 0))) (rfv h)
    refine c2 (P := (fun r c => qBut G 2 r c (rfv h))) (r := ρ 0) (c := ρ 1) ?_ (by omega) (by omega)
    show qBut G 2 (ρ 0) (ρ 1) (rfv h)
    exact s_but 2 p0
/-- shB -/
theorem lem_695_ok (hU : uqG G C) : lem_695.1.2.1 = [] ∧ lemOK (PRd G C D xs) G rgs lem_695 := by
  refine ⟨rfl, fun ρ h ha hT => ?_⟩
  obtain ⟨-, -, hF, hG, hH, hA, hP⟩ := ha
  have f0 : (0 : Int) ≤ ((0) + ((1) * ρ 2 + 0)) := hF _ (List.mem_of_getElem? (i := 0) rfl)
  have f1 : (0 : Int) ≤ ((999) + ((-1) * ρ 2 + 0)) := hF _ (List.mem_of_getElem? (i := 1) rfl)
  have g0 : G (ρ 0).toNat = 14 := by
    have q := (hG _ (List.mem_of_getElem? (i := 0) rfl)).2
    rwa [show ev ρ (0, [(0, 1)]) = ρ 0 from ev_v] at q
  have g1 : G (ρ 1).toNat = 20 := by
    have q := (hG _ (List.mem_of_getElem? (i := 1) rfl)).2
    rwa [show ev ρ (0, [(1, 1)]) = ρ 1 from ev_v] at q
  have p0 : qBut G 2 (ρ 1) (ρ 3) (rfv h) := c2 (P := (fun r c => qBut G 2 r c (rfv h))) (show qBut G 2 (((0) + ((1) * ρ 1 + 0))) (((0) + ((1) * ρ 3 + 0))) (rfv h) from hP _ (List.mem_of_getElem? (i := 0) rfl)) (by omega) (by omega)
  have p1 : qSet (ρ 2 + 16777216 * ρ 3 + 131072) (ρ 4) := c2 (P := qSet) (show qSet (((131072) + ((1) * ρ 2 + ((16777216) * ρ 3 + 0)))) (((0) + ((1) * ρ 4 + 0))) from hP _ (List.mem_of_getElem? (i := 1) rfl)) (by omega) (by omega)
  have cT : 0 ≤ ρ 0 := by
    have q := (hG _ (List.mem_of_getElem? (i := 0) rfl)).1
    rwa [show ev ρ (0, [(0, 1)]) = ρ 0 from ev_v] at q
  have cS : 0 ≤ ρ 1 := by
    have q := (hG _ (List.mem_of_getElem? (i := 1) rfl)).1
    rwa [show ev ρ (0, [(1, 1)]) = ρ 1 from ev_v] at q
  have y0 : rfv h (ρ 0).toNat 2 = some (.ref (ρ 1).toNat) := ob_v hT (hH _ (List.mem_of_getElem? (i := 0) rfl)) ev_v g0 rfl ev_v
  have y1 : hasI (rfv h (ρ 1).toNat 2) (ρ 2) := ob_i hT (hH _ (List.mem_of_getElem? (i := 1) rfl)) ev_v g1 rfl ev_v
  have rb := kSet (V := ρ 3) (v := ρ 2) (k := 2) (by omega) (by decide) (by omega) (by omega) p1
  refine ⟨_, List.mem_cons_self, ρ, fun _ _ => rfl, fun q hq => absurd hq List.not_mem_nil, trivial, fun f hf => ?_, fun q hq => absurd hq List.not_mem_nil, fun q hq => absurd hq List.not_mem_nil, fun q hq => absurd hq List.not_mem_nil, fun q hq => ?_⟩
  · exact absurd hf List.not_mem_nil
  · simp only [List.mem_cons, List.not_mem_nil, or_false] at hq
    subst hq
    show q361 G (((0) + ((1) * ρ 1 + 0))) (((0) + ((1) * ρ 4 + 0))) (rfv h)
    refine c2 (P := (fun r c => q361 G r c (rfv h))) (r := ρ 1) (c := ρ 4) ?_ (by omega) (by omega)
    show q361 G (ρ 1) (ρ 4) (rfv h)
    exact (c2 (P := (fun r c => q361 G r c (rfv h))) (s_v4 (k := 2) (by decide) rfl (by omega) (by omega) p0 y1) (by omega) (by omega))
/-- leA -/
theorem lem_696_ok (hU : uqG G C) : lem_696.1.2.1 = [] ∧ lemOK (PRd G C D xs) G rgs lem_696 := by
  refine ⟨rfl, fun ρ h ha hT => ?_⟩
  obtain ⟨-, -, hF, hG, hH, hA, hP⟩ := ha
  have g0 : G (ρ 0).toNat = 20 := by
    have q := (hG _ (List.mem_of_getElem? (i := 0) rfl)).2
    rwa [show ev ρ (0, [(0, 1)]) = ρ 0 from ev_v] at q
  have p0 : q361 G (ρ 0) (ρ 1) (rfv h) := c2 (P := (fun r c => q361 G r c (rfv h))) (show q361 G (((0) + ((1) * ρ 0 + 0))) (((0) + ((1) * ρ 1 + 0))) (rfv h) from hP _ (List.mem_of_getElem? (i := 0) rfl)) (by omega) (by omega)
  refine ⟨_, List.mem_cons_self, ρ, fun _ _ => rfl, fun q hq => absurd hq List.not_mem_nil, trivial, fun f hf => ?_, fun q hq => absurd hq List.not_mem_nil, fun q hq => absurd hq List.not_mem_nil, fun q hq => absurd hq List.not_mem_nil, fun q hq => ?_⟩
  · exact absurd hf List.not_mem_nil
  · simp only [List.mem_cons, List.not_mem_nil, or_false] at hq
    subst hq
    show qBut G 1 (((0) + ((1) * ρ 0 + 0))) (((0) + ((1) * ρ 1 + 0))) (rfv h)
    refine c2 (P := (fun r c => qBut G 1 r c (rfv h))) (r := ρ 0) (c := ρ 1) ?_ (by omega) (by omega)
    show qBut G 1 (ρ 0) (ρ 1) (rfv h)
    exact s_but 1 p0
/-- leB -/
theorem lem_697_ok (hU : uqG G C) : lem_697.1.2.1 = [] ∧ lemOK (PRd G C D xs) G rgs lem_697 := by
  refine ⟨rfl, fun ρ h ha hT => ?_⟩
  obtain ⟨-, -, hF, hG, hH, hA, hP⟩ := ha
  have f0 : (0 : Int) ≤ ((0) + ((1) * ρ 2 + 0)) := hF _ (List.mem_of_getElem? (i := 0) rfl)
  have f1 : (0 : Int) ≤ ((999) + ((-1) * ρ 2 + 0)) := hF _ (List.mem_of_getElem? (i := 1) rfl)
  have g0 : G (ρ 0).toNat = 14 := by
    have q := (hG _ (List.mem_of_getElem? (i := 0) rfl)).2
    rwa [show ev ρ (0, [(0, 1)]) = ρ 0 from ev_v] at q
  have g1 : G (ρ 1).toNat = 20 := by
    have q := (hG _ (List.mem_of_getElem? (i := 1) rfl)).2
    rwa [show ev ρ (0, [(1, 1)]) = ρ 1 from ev_v] at q
  have p0 : qBut G 1 (ρ 1) (ρ 3) (rfv h) := c2 (P := (fun r c => qBut G 1 r c (rfv h))) (show qBut G 1 (((0) + ((1) * ρ 1 + 0))) (((0) + ((1) * ρ 3 + 0))) (rfv h) from hP _ (List.mem_of_getElem? (i := 0) rfl)) (by omega) (by omega)
  have p1 : qSet (ρ 2 + 16777216 * ρ 3 + 65536) (ρ 4) := c2 (P := qSet) (show qSet (((65536) + ((1) * ρ 2 + ((16777216) * ρ 3 + 0)))) (((0) + ((1) * ρ 4 + 0))) from hP _ (List.mem_of_getElem? (i := 1) rfl)) (by omega) (by omega)
  have cT : 0 ≤ ρ 0 := by
    have q := (hG _ (List.mem_of_getElem? (i := 0) rfl)).1
    rwa [show ev ρ (0, [(0, 1)]) = ρ 0 from ev_v] at q
  have cS : 0 ≤ ρ 1 := by
    have q := (hG _ (List.mem_of_getElem? (i := 1) rfl)).1
    rwa [show ev ρ (0, [(1, 1)]) = ρ 1 from ev_v] at q
  have y0 : rfv h (ρ 0).toNat 2 = some (.ref (ρ 1).toNat) := ob_v hT (hH _ (List.mem_of_getElem? (i := 0) rfl)) ev_v g0 rfl ev_v
  have y1 : hasI (rfv h (ρ 1).toNat 1) (ρ 2) := ob_i hT (hH _ (List.mem_of_getElem? (i := 1) rfl)) ev_v g1 rfl ev_v
  have rb := kSet (V := ρ 3) (v := ρ 2) (k := 1) (by omega) (by decide) (by omega) (by omega) p1
  refine ⟨_, List.mem_cons_self, ρ, fun _ _ => rfl, fun q hq => absurd hq List.not_mem_nil, trivial, fun f hf => ?_, fun q hq => absurd hq List.not_mem_nil, fun q hq => absurd hq List.not_mem_nil, fun q hq => absurd hq List.not_mem_nil, fun q hq => ?_⟩
  · exact absurd hf List.not_mem_nil
  · simp only [List.mem_cons, List.not_mem_nil, or_false] at hq
    subst hq
    show q361 G (((0) + ((1) * ρ 1 + 0))) (((0) + ((1) * ρ 4 + 0))) (rfv h)
    refine c2 (P := (fun r c => q361 G r c (rfv h))) (r := ρ 1) (c := ρ 4) ?_ (by omega) (by omega)
    show q361 G (ρ 1) (ρ 4) (rfv h)
    exact (c2 (P := (fun r c => q361 G r c (rfv h))) (s_v4 (k := 1) (by decide) rfl (by omega) (by omega) p0 y1) (by omega) (by omega))
/-- mcell -/
theorem lem_698_ok (hU : uqG G C) : lem_698.1.2.1 = [] ∧ lemOK (PRd G C D xs) G rgs lem_698 := by
  refine ⟨rfl, fun ρ h ha hT => ?_⟩
  obtain ⟨-, -, hF, hG, hH, hA, hP⟩ := ha
  have f0 : (0 : Int) ≤ ((0) + ((1) * ρ 2 + 0)) := hF _ (List.mem_of_getElem? (i := 0) rfl)
  have f1 : (0 : Int) ≤ ((7) + ((-1) * ρ 2 + 0)) := hF _ (List.mem_of_getElem? (i := 1) rfl)
  have g0 : G (ρ 0).toNat = 14 := by
    have q := (hG _ (List.mem_of_getElem? (i := 0) rfl)).2
    rwa [show ev ρ (0, [(0, 1)]) = ρ 0 from ev_v] at q
  have g1 : G (ρ 3).toNat = 20 := by
    have q := (hG _ (List.mem_of_getElem? (i := 1) rfl)).2
    rwa [show ev ρ (0, [(3, 1)]) = ρ 3 from ev_v] at q
  have g2 : G (ρ 4).toNat = 115 := by
    have q := (hG _ (List.mem_of_getElem? (i := 2) rfl)).2
    rwa [show ev ρ (0, [(4, 1)]) = ρ 4 from ev_v] at q
  have g3 : G (ρ 1).toNat = 13 := by
    have q := (hG _ (List.mem_of_getElem? (i := 3) rfl)).2
    rwa [show ev ρ (0, [(1, 1)]) = ρ 1 from ev_v] at q
  have b0 : (0 : Int) ≤ ((0) + ((1) * ρ 2 + 0)) := b_aA (hA _ (List.mem_of_getElem? (i := 0) rfl))
  have p0 : q207 G (rfv h) (elv h) := c2 (P := (fun (_ _ : Int) => q207 G (rfv h) (elv h))) (r := 0) (r' := 0) (c := 0) (c' := 0) (show q207 G (rfv h) (elv h) from hP _ (List.mem_of_getElem? (i := 0) rfl)) rfl rfl
  have cT : 0 ≤ ρ 0 := by
    have q := (hG _ (List.mem_of_getElem? (i := 0) rfl)).1
    rwa [show ev ρ (0, [(0, 1)]) = ρ 0 from ev_v] at q
  have cS : 0 ≤ ρ 3 := by
    have q := (hG _ (List.mem_of_getElem? (i := 1) rfl)).1
    rwa [show ev ρ (0, [(3, 1)]) = ρ 3 from ev_v] at q
  have cA : 0 ≤ ρ 4 := by
    have q := (hG _ (List.mem_of_getElem? (i := 2) rfl)).1
    rwa [show ev ρ (0, [(4, 1)]) = ρ 4 from ev_v] at q
  have cM : 0 ≤ ρ 1 := by
    have q := (hG _ (List.mem_of_getElem? (i := 3) rfl)).1
    rwa [show ev ρ (0, [(1, 1)]) = ρ 1 from ev_v] at q
  have y0 : rfv h (ρ 0).toNat 2 = some (.ref (ρ 3).toNat) := ob_v hT (hH _ (List.mem_of_getElem? (i := 0) rfl)) ev_v g0 rfl ev_v
  have y1 : rfv h (ρ 3).toNat 13 = some (.ref (ρ 4).toNat) := ob_v hT (hH _ (List.mem_of_getElem? (i := 1) rfl)) ev_v g1 rfl ev_v
  have z0 : elv h (ρ 4).toNat (ρ 2).toNat = some (.ref (ρ 1).toNat) := ar_v (j := ρ 2) (hA _ (List.mem_of_getElem? (i := 0) rfl)) ev_v (show (ρ 2 : Int) = ((0) + ((1) * ρ 2 + 0)) by omega) ev_v
  have rm := s_mcS (k := (ρ 2).toNat) (by omega) cS cM g1 y1 z0 p0
  refine ⟨_, List.mem_cons_self, ρ, fun _ _ => rfl, fun q hq => absurd hq List.not_mem_nil, trivial, fun f hf => ?_, fun q hq => absurd hq List.not_mem_nil, fun q hq => absurd hq List.not_mem_nil, fun q hq => absurd hq List.not_mem_nil, fun q hq => ?_⟩
  · simp only [List.mem_cons, List.not_mem_nil, or_false] at hf
    rcases hf with rfl | rfl | rfl | rfl
    · show (0 : Int) ≤ ((2) + ((-1) * ρ 1 + ((7) * ρ 2 + ((1) * ρ 3 + 0))))
      omega
    · show (0 : Int) ≤ ((-2) + ((1) * ρ 1 + ((-7) * ρ 2 + ((-1) * ρ 3 + 0))))
      omega
    · show (0 : Int) ≤ ((-2) + ((1) * ρ 1 + ((-1) * ρ 3 + 0)))
      omega
    · show (0 : Int) ≤ ((51) + ((-1) * ρ 1 + ((1) * ρ 3 + 0)))
      omega
  · exact absurd hq List.not_mem_nil
/-- mcellL -/
theorem lem_699_ok (hU : uqG G C) : lem_699.1.2.1 = [] ∧ lemOK (PRd G C D xs) G rgs lem_699 := by
  refine ⟨rfl, fun ρ h ha hT => ?_⟩
  obtain ⟨-, -, hF, hG, hH, hA, hP⟩ := ha
  have f0 : (0 : Int) ≤ ((-1) + ((1) * ρ 3 + 0)) := hF _ (List.mem_of_getElem? (i := 0) rfl)
  have f1 : (0 : Int) ≤ ((8) + ((-1) * ρ 3 + 0)) := hF _ (List.mem_of_getElem? (i := 1) rfl)
  have g0 : G (ρ 0).toNat = 14 := by
    have q := (hG _ (List.mem_of_getElem? (i := 0) rfl)).2
    rwa [show ev ρ (0, [(0, 1)]) = ρ 0 from ev_v] at q
  have g1 : G (ρ 2).toNat = 20 := by
    have q := (hG _ (List.mem_of_getElem? (i := 1) rfl)).2
    rwa [show ev ρ (0, [(2, 1)]) = ρ 2 from ev_v] at q
  have g2 : G (ρ 4).toNat = 115 := by
    have q := (hG _ (List.mem_of_getElem? (i := 2) rfl)).2
    rwa [show ev ρ (0, [(4, 1)]) = ρ 4 from ev_v] at q
  have g3 : G (ρ 1).toNat = 13 := by
    have q := (hG _ (List.mem_of_getElem? (i := 3) rfl)).2
    rwa [show ev ρ (0, [(1, 1)]) = ρ 1 from ev_v] at q
  have h1 : (0 : Int) ≤ ρ 3 ∧ ρ 3 ≤ 8 := hf_rg hT (hH _ (List.mem_of_getElem? (i := 1) rfl)) ev_v g1 rfl rfl rfl ev_v
  have b0 : (0 : Int) ≤ ((-1) + ((1) * ρ 3 + 0)) := b_aA (hA _ (List.mem_of_getElem? (i := 0) rfl))
  have p0 : q207 G (rfv h) (elv h) := c2 (P := (fun (_ _ : Int) => q207 G (rfv h) (elv h))) (r := 0) (r' := 0) (c := 0) (c' := 0) (show q207 G (rfv h) (elv h) from hP _ (List.mem_of_getElem? (i := 0) rfl)) rfl rfl
  have cT : 0 ≤ ρ 0 := by
    have q := (hG _ (List.mem_of_getElem? (i := 0) rfl)).1
    rwa [show ev ρ (0, [(0, 1)]) = ρ 0 from ev_v] at q
  have cS : 0 ≤ ρ 2 := by
    have q := (hG _ (List.mem_of_getElem? (i := 1) rfl)).1
    rwa [show ev ρ (0, [(2, 1)]) = ρ 2 from ev_v] at q
  have cA : 0 ≤ ρ 4 := by
    have q := (hG _ (List.mem_of_getElem? (i := 2) rfl)).1
    rwa [show ev ρ (0, [(4, 1)]) = ρ 4 from ev_v] at q
  have cM : 0 ≤ ρ 1 := by
    have q := (hG _ (List.mem_of_getElem? (i := 3) rfl)).1
    rwa [show ev ρ (0, [(1, 1)]) = ρ 1 from ev_v] at q
  have y0 : rfv h (ρ 0).toNat 2 = some (.ref (ρ 2).toNat) := ob_v hT (hH _ (List.mem_of_getElem? (i := 0) rfl)) ev_v g0 rfl ev_v
  have y1 : hasI (rfv h (ρ 2).toNat 12) (ρ 3) := ob_i hT (hH _ (List.mem_of_getElem? (i := 1) rfl)) ev_v g1 rfl ev_v
  have y2 : rfv h (ρ 2).toNat 13 = some (.ref (ρ 4).toNat) := ob_v hT (hH _ (List.mem_of_getElem? (i := 2) rfl)) ev_v g1 rfl ev_v
  have z0 : elv h (ρ 4).toNat (ρ 3 + (-1)).toNat = some (.ref (ρ 1).toNat) := ar_v (j := ρ 3 + (-1)) (hA _ (List.mem_of_getElem? (i := 0) rfl)) ev_v (show (ρ 3 + (-1) : Int) = ((-1) + ((1) * ρ 3 + 0)) by omega) ev_v
  have rm := s_mcS (k := (ρ 3 + (-1)).toNat) (by omega) cS cM g1 y2 z0 p0
  refine ⟨_, List.mem_cons_self, ρ, fun _ _ => rfl, fun q hq => absurd hq List.not_mem_nil, trivial, fun f hf => ?_, fun q hq => absurd hq List.not_mem_nil, fun q hq => absurd hq List.not_mem_nil, fun q hq => absurd hq List.not_mem_nil, fun q hq => ?_⟩
  · simp only [List.mem_cons, List.not_mem_nil, or_false] at hf
    rcases hf with rfl | rfl | rfl | rfl
    · show (0 : Int) ≤ ((-5) + ((-1) * ρ 1 + ((1) * ρ 2 + ((7) * ρ 3 + 0))))
      omega
    · show (0 : Int) ≤ ((5) + ((1) * ρ 1 + ((-1) * ρ 2 + ((-7) * ρ 3 + 0))))
      omega
    · show (0 : Int) ≤ ((-2) + ((1) * ρ 1 + ((-1) * ρ 2 + 0)))
      omega
    · show (0 : Int) ≤ ((51) + ((-1) * ρ 1 + ((1) * ρ 2 + 0)))
      omega
  · exact absurd hq List.not_mem_nil
/-- scell -/
theorem lem_700_ok (hU : uqG G C) : lem_700.1.2.1 = [] ∧ lemOK (PRd G C D xs) G rgs lem_700 := by
  refine ⟨rfl, fun ρ h ha hT => ?_⟩
  obtain ⟨-, -, hF, hG, hH, hA, hP⟩ := ha
  have f0 : (0 : Int) ≤ ((0) + ((1) * ρ 3 + 0)) := hF _ (List.mem_of_getElem? (i := 0) rfl)
  have f1 : (0 : Int) ≤ ((4) + ((-1) * ρ 3 + 0)) := hF _ (List.mem_of_getElem? (i := 1) rfl)
  have g0 : G (ρ 0).toNat = 13 := by
    have q := (hG _ (List.mem_of_getElem? (i := 0) rfl)).2
    rwa [show ev ρ (0, [(0, 1)]) = ρ 0 from ev_v] at q
  have g1 : G (ρ 2).toNat = 114 := by
    have q := (hG _ (List.mem_of_getElem? (i := 1) rfl)).2
    rwa [show ev ρ (0, [(2, 1)]) = ρ 2 from ev_v] at q
  have g2 : G (ρ 1).toNat = 19 := by
    have q := (hG _ (List.mem_of_getElem? (i := 2) rfl)).2
    rwa [show ev ρ (0, [(1, 1)]) = ρ 1 from ev_v] at q
  have h1 : (0 : Int) ≤ ρ 3 ∧ ρ 3 ≤ 5 := hf_rg hT (hH _ (List.mem_of_getElem? (i := 1) rfl)) ev_v g0 rfl rfl rfl ev_v
  have b0 : (0 : Int) ≤ ((0) + ((1) * ρ 3 + 0)) := b_aA (hA _ (List.mem_of_getElem? (i := 0) rfl))
  have p0 : q207 G (rfv h) (elv h) := c2 (P := (fun (_ _ : Int) => q207 G (rfv h) (elv h))) (r := 0) (r' := 0) (c := 0) (c' := 0) (show q207 G (rfv h) (elv h) from hP _ (List.mem_of_getElem? (i := 0) rfl)) rfl rfl
  have cM : 0 ≤ ρ 0 := by
    have q := (hG _ (List.mem_of_getElem? (i := 0) rfl)).1
    rwa [show ev ρ (0, [(0, 1)]) = ρ 0 from ev_v] at q
  have cA : 0 ≤ ρ 2 := by
    have q := (hG _ (List.mem_of_getElem? (i := 1) rfl)).1
    rwa [show ev ρ (0, [(2, 1)]) = ρ 2 from ev_v] at q
  have cs : 0 ≤ ρ 1 := by
    have q := (hG _ (List.mem_of_getElem? (i := 2) rfl)).1
    rwa [show ev ρ (0, [(1, 1)]) = ρ 1 from ev_v] at q
  have y0 : rfv h (ρ 0).toNat 7 = some (.ref (ρ 2).toNat) := ob_v hT (hH _ (List.mem_of_getElem? (i := 0) rfl)) ev_v g0 rfl ev_v
  have y1 : hasI (rfv h (ρ 0).toNat 6) (ρ 3) := ob_i hT (hH _ (List.mem_of_getElem? (i := 1) rfl)) ev_v g0 rfl ev_v
  have z0 : elv h (ρ 2).toNat (ρ 3).toNat = some (.ref (ρ 1).toNat) := ar_v (j := ρ 3) (hA _ (List.mem_of_getElem? (i := 0) rfl)) ev_v (show (ρ 3 : Int) = ((0) + ((1) * ρ 3 + 0)) by omega) ev_v
  have rs := s_sc2 (j := (ρ 3).toNat) (by omega) cM cs g0 y0 z0 p0
  refine ⟨_, List.mem_cons_self, ρ, fun _ _ => rfl, fun q hq => absurd hq List.not_mem_nil, trivial, fun f hf => ?_, fun q hq => absurd hq List.not_mem_nil, fun q hq => absurd hq List.not_mem_nil, fun q hq => absurd hq List.not_mem_nil, fun q hq => ?_⟩
  · simp only [List.mem_cons, List.not_mem_nil, or_false] at hf
    rcases hf with rfl | rfl | rfl | rfl
    · show (0 : Int) ≤ ((2) + ((1) * ρ 0 + ((-1) * ρ 1 + ((1) * ρ 3 + 0))))
      omega
    · show (0 : Int) ≤ ((-2) + ((-1) * ρ 0 + ((1) * ρ 1 + ((-1) * ρ 3 + 0))))
      omega
    · show (0 : Int) ≤ ((-2) + ((-1) * ρ 0 + ((1) * ρ 1 + 0)))
      omega
    · show (0 : Int) ≤ ((6) + ((1) * ρ 0 + ((-1) * ρ 1 + 0)))
      omega
  · exact absurd hq List.not_mem_nil
/-- mbA -/
theorem lem_701_ok (hU : uqG G C) : lem_701.1.2.1 = [] ∧ lemOK (PRd G C D xs) G rgs lem_701 := by
  refine ⟨rfl, fun ρ h ha hT => ?_⟩
  obtain ⟨-, -, hF, hG, hH, hA, hP⟩ := ha
  have f0 : (0 : Int) ≤ ((0) + ((1) * ρ 3 + 0)) := hF _ (List.mem_of_getElem? (i := 0) rfl)
  have f1 : (0 : Int) ≤ ((7) + ((-1) * ρ 3 + 0)) := hF _ (List.mem_of_getElem? (i := 1) rfl)
  have f2 : (0 : Int) ≤ ((2) + ((-1) * ρ 1 + ((1) * ρ 2 + ((7) * ρ 3 + 0)))) := hF _ (List.mem_of_getElem? (i := 2) rfl)
  have f3 : (0 : Int) ≤ ((-2) + ((1) * ρ 1 + ((-1) * ρ 2 + ((-7) * ρ 3 + 0)))) := hF _ (List.mem_of_getElem? (i := 3) rfl)
  have g0 : G (ρ 0).toNat = 14 := by
    have q := (hG _ (List.mem_of_getElem? (i := 0) rfl)).2
    rwa [show ev ρ (0, [(0, 1)]) = ρ 0 from ev_v] at q
  have g1 : G (ρ 2).toNat = 20 := by
    have q := (hG _ (List.mem_of_getElem? (i := 1) rfl)).2
    rwa [show ev ρ (0, [(2, 1)]) = ρ 2 from ev_v] at q
  have g2 : G (ρ 1).toNat = 13 := by
    have q := (hG _ (List.mem_of_getElem? (i := 2) rfl)).2
    rwa [show ev ρ (0, [(1, 1)]) = ρ 1 from ev_v] at q
  have h1 : (0 : Int) ≤ ρ 3 ∧ ρ 3 ≤ 8 := hf_rg hT (hH _ (List.mem_of_getElem? (i := 1) rfl)) ev_v g1 rfl rfl rfl ev_v
  have p0 : q361 G (ρ 2) (ρ 4) (rfv h) := c2 (P := (fun r c => q361 G r c (rfv h))) (show q361 G (((0) + ((1) * ρ 2 + 0))) (((0) + ((1) * ρ 4 + 0))) (rfv h) from hP _ (List.mem_of_getElem? (i := 0) rfl)) (by omega) (by omega)
  have cT : 0 ≤ ρ 0 := by
    have q := (hG _ (List.mem_of_getElem? (i := 0) rfl)).1
    rwa [show ev ρ (0, [(0, 1)]) = ρ 0 from ev_v] at q
  have cS : 0 ≤ ρ 2 := by
    have q := (hG _ (List.mem_of_getElem? (i := 1) rfl)).1
    rwa [show ev ρ (0, [(2, 1)]) = ρ 2 from ev_v] at q
  have cM : 0 ≤ ρ 1 := by
    have q := (hG _ (List.mem_of_getElem? (i := 2) rfl)).1
    rwa [show ev ρ (0, [(1, 1)]) = ρ 1 from ev_v] at q
  have y0 : rfv h (ρ 0).toNat 2 = some (.ref (ρ 2).toNat) := ob_v hT (hH _ (List.mem_of_getElem? (i := 0) rfl)) ev_v g0 rfl ev_v
  have y1 : hasI (rfv h (ρ 2).toNat 12) (ρ 3) := ob_i hT (hH _ (List.mem_of_getElem? (i := 1) rfl)) ev_v g1 rfl ev_v
  refine ⟨_, List.mem_cons_self, ρ, fun _ _ => rfl, fun q hq => absurd hq List.not_mem_nil, trivial, fun f hf => ?_, fun q hq => absurd hq List.not_mem_nil, fun q hq => absurd hq List.not_mem_nil, fun q hq => absurd hq List.not_mem_nil, fun q hq => ?_⟩
  · exact absurd hf List.not_mem_nil
  · simp only [List.mem_cons, List.not_mem_nil, or_false] at hq
    subst hq
    show q374 G (((0) + ((1) * ρ 1 + 0))) (((0) + ((1) * ρ 4 + 0))) (rfv h)
    refine c2 (P := (fun r c => q374 G r c (rfv h))) (r := ρ 1) (c := ρ 4) ?_ (by omega) (by omega)
    show q374 G (ρ 1) (ρ 4) (rfv h)
    exact s_mbA (m := (ρ 3).toNat) (by omega) (by omega) (by omega) y1 p0
/-- mbB -/
theorem lem_702_ok (hU : uqG G C) : lem_702.1.2.1 = [] ∧ lemOK (PRd G C D xs) G rgs lem_702 := by
  refine ⟨rfl, fun ρ h ha hT => ?_⟩
  obtain ⟨-, -, hF, hG, hH, hA, hP⟩ := ha
  have f0 : (0 : Int) ≤ ((0) + ((1) * ρ 3 + 0)) := hF _ (List.mem_of_getElem? (i := 0) rfl)
  have f1 : (0 : Int) ≤ ((7) + ((-1) * ρ 3 + 0)) := hF _ (List.mem_of_getElem? (i := 1) rfl)
  have f2 : (0 : Int) ≤ ((2) + ((-1) * ρ 1 + ((1) * ρ 2 + ((7) * ρ 3 + 0)))) := hF _ (List.mem_of_getElem? (i := 2) rfl)
  have f3 : (0 : Int) ≤ ((-2) + ((1) * ρ 1 + ((-1) * ρ 2 + ((-7) * ρ 3 + 0)))) := hF _ (List.mem_of_getElem? (i := 3) rfl)
  have f4 : (0 : Int) ≤ ((1) + ((-1) * ρ 4 + 0)) := hF _ (List.mem_of_getElem? (i := 4) rfl)
  have f5 : (0 : Int) ≤ ((-1) + ((1) * ρ 4 + 0)) := hF _ (List.mem_of_getElem? (i := 5) rfl)
  have f6 : (0 : Int) ≤ ((0) + ((-1) * ρ 5 + 0)) := hF _ (List.mem_of_getElem? (i := 6) rfl)
  have f7 : (0 : Int) ≤ ((0) + ((1) * ρ 5 + 0)) := hF _ (List.mem_of_getElem? (i := 7) rfl)
  have f8 : (0 : Int) ≤ ((0) + ((-1) * ρ 6 + 0)) := hF _ (List.mem_of_getElem? (i := 8) rfl)
  have f9 : (0 : Int) ≤ ((0) + ((1) * ρ 6 + 0)) := hF _ (List.mem_of_getElem? (i := 9) rfl)
  have f10 : (0 : Int) ≤ ((0) + ((-1) * ρ 7 + 0)) := hF _ (List.mem_of_getElem? (i := 10) rfl)
  have f11 : (0 : Int) ≤ ((0) + ((1) * ρ 7 + 0)) := hF _ (List.mem_of_getElem? (i := 11) rfl)
  have g0 : G (ρ 0).toNat = 14 := by
    have q := (hG _ (List.mem_of_getElem? (i := 0) rfl)).2
    rwa [show ev ρ (0, [(0, 1)]) = ρ 0 from ev_v] at q
  have g1 : G (ρ 2).toNat = 20 := by
    have q := (hG _ (List.mem_of_getElem? (i := 1) rfl)).2
    rwa [show ev ρ (0, [(2, 1)]) = ρ 2 from ev_v] at q
  have g2 : G (ρ 1).toNat = 13 := by
    have q := (hG _ (List.mem_of_getElem? (i := 2) rfl)).2
    rwa [show ev ρ (0, [(1, 1)]) = ρ 1 from ev_v] at q
  have h1 : (0 : Int) ≤ ρ 3 ∧ ρ 3 ≤ 8 := hf_rg hT (hH _ (List.mem_of_getElem? (i := 1) rfl)) ev_v g1 rfl rfl rfl ev_v
  have h4 : (0 : Int) ≤ ρ 6 ∧ ρ 6 ≤ 1 := hf_rg hT (hH _ (List.mem_of_getElem? (i := 4) rfl)) ev_v g2 rfl rfl rfl ev_v
  have h5 : (0 : Int) ≤ ρ 7 ∧ ρ 7 ≤ 5 := hf_rg hT (hH _ (List.mem_of_getElem? (i := 5) rfl)) ev_v g2 rfl rfl rfl ev_v
  have p0 : q374 G (ρ 1) (ρ 8) (rfv h) := c2 (P := (fun r c => q374 G r c (rfv h))) (show q374 G (((0) + ((1) * ρ 1 + 0))) (((0) + ((1) * ρ 8 + 0))) (rfv h) from hP _ (List.mem_of_getElem? (i := 0) rfl)) (by omega) (by omega)
  have p1 : qNM (ρ 3 + 16 * ρ 8) (ρ 9) := c2 (P := qNM) (show qNM (((0) + ((1) * ρ 3 + ((16) * ρ 8 + 0)))) (((0) + ((1) * ρ 9 + 0))) from hP _ (List.mem_of_getElem? (i := 1) rfl)) (by omega) (by omega)
  have cT : 0 ≤ ρ 0 := by
    have q := (hG _ (List.mem_of_getElem? (i := 0) rfl)).1
    rwa [show ev ρ (0, [(0, 1)]) = ρ 0 from ev_v] at q
  have cS : 0 ≤ ρ 2 := by
    have q := (hG _ (List.mem_of_getElem? (i := 1) rfl)).1
    rwa [show ev ρ (0, [(2, 1)]) = ρ 2 from ev_v] at q
  have cM : 0 ≤ ρ 1 := by
    have q := (hG _ (List.mem_of_getElem? (i := 2) rfl)).1
    rwa [show ev ρ (0, [(1, 1)]) = ρ 1 from ev_v] at q
  have y0 : rfv h (ρ 0).toNat 2 = some (.ref (ρ 2).toNat) := ob_v hT (hH _ (List.mem_of_getElem? (i := 0) rfl)) ev_v g0 rfl ev_v
  have y1 : hasI (rfv h (ρ 2).toNat 12) (ρ 3) := ob_i hT (hH _ (List.mem_of_getElem? (i := 1) rfl)) ev_v g1 rfl ev_v
  have y2 : hasI (rfv h (ρ 1).toNat 0) (ρ 4) := ob_i hT (hH _ (List.mem_of_getElem? (i := 2) rfl)) ev_v g2 rfl ev_v
  have y3 : hasI (rfv h (ρ 1).toNat 1) (ρ 5) := ob_i hT (hH _ (List.mem_of_getElem? (i := 3) rfl)) ev_v g2 rfl ev_v
  have y4 : hasI (rfv h (ρ 1).toNat 2) (ρ 6) := ob_i hT (hH _ (List.mem_of_getElem? (i := 4) rfl)) ev_v g2 rfl ev_v
  have y5 : hasI (rfv h (ρ 1).toNat 6) (ρ 7) := ob_i hT (hH _ (List.mem_of_getElem? (i := 5) rfl)) ev_v g2 rfl ev_v
  obtain ⟨r1, r2⟩ := s_mbB (m := (ρ 3).toNat) (c := ρ 3) cS g1 (by omega) (by omega) (by omega) (by omega) (by omega) (by omega) (by omega) y2 y3 y4 y5 p0
  have rb := kNM (a := ρ 8) (m := (ρ 3).toNat) (by omega) (by omega) p1
  refine ⟨_, List.mem_cons_self, ρ, fun _ _ => rfl, fun q hq => absurd hq List.not_mem_nil, trivial, fun f hf => ?_, fun q hq => absurd hq List.not_mem_nil, fun q hq => absurd hq List.not_mem_nil, fun q hq => absurd hq List.not_mem_nil, fun q hq => ?_⟩
  · exact absurd hf List.not_mem_nil
  · simp only [List.mem_cons, List.not_mem_nil, or_false] at hq
    rcases hq with rfl | rfl
    · show qBut G 3 (((0) + ((1) * ρ 2 + 0))) (((0) + ((1) * ρ 9 + 0))) (rfv h)
      refine c2 (P := (fun r c => qBut G 3 r c (rfv h))) (r := ρ 2) (c := ρ 9) ?_ (by omega) (by omega)
      show qBut G 3 (ρ 2) (ρ 9) (rfv h)
      exact (c2 (P := (fun r c => qBut G 3 r c (rfv h))) (r1) (by omega) (by omega))
    · show qCp (((3) + ((128) * ρ 9 + 0))) (((1) + ((1) * ρ 3 + 0)))
      refine c2 (P := qCp) (r := 128 * ρ 9 + 3) (c := ρ 3 + 1) ?_ (by omega) (by omega)
      show qCp (128 * ρ 9 + 3) (ρ 3 + 1)
      exact oCp (V := ρ 9) (k := 3) (by omega) (by decide) (by rw [rb, Int.toNat_natCast, r2]; omega)
/-- mcB -/
theorem lem_703_ok (hU : uqG G C) : lem_703.1.2.1 = [] ∧ lemOK (PRd G C D xs) G rgs lem_703 := by
  refine ⟨rfl, fun ρ h ha hT => ?_⟩
  obtain ⟨-, -, hF, hG, hH, hA, hP⟩ := ha
  have f0 : (0 : Int) ≤ ((0) + ((1) * ρ 2 + ((-1) * ρ 4 + 0))) := hF _ (List.mem_of_getElem? (i := 0) rfl)
  have f1 : (0 : Int) ≤ ((0) + ((-1) * ρ 2 + ((1) * ρ 4 + 0))) := hF _ (List.mem_of_getElem? (i := 1) rfl)
  have g0 : G (ρ 0).toNat = 14 := by
    have q := (hG _ (List.mem_of_getElem? (i := 0) rfl)).2
    rwa [show ev ρ (0, [(0, 1)]) = ρ 0 from ev_v] at q
  have g1 : G (ρ 1).toNat = 20 := by
    have q := (hG _ (List.mem_of_getElem? (i := 1) rfl)).2
    rwa [show ev ρ (0, [(1, 1)]) = ρ 1 from ev_v] at q
  have h1 : (0 : Int) ≤ ρ 2 ∧ ρ 2 ≤ 8 := hf_rg hT (hH _ (List.mem_of_getElem? (i := 1) rfl)) ev_v g1 rfl rfl rfl ev_v
  have p0 : qBut G 3 (ρ 1) (ρ 3) (rfv h) := c2 (P := (fun r c => qBut G 3 r c (rfv h))) (show qBut G 3 (((0) + ((1) * ρ 1 + 0))) (((0) + ((1) * ρ 3 + 0))) (rfv h) from hP _ (List.mem_of_getElem? (i := 0) rfl)) (by omega) (by omega)
  have p1 : qCp (128 * ρ 3 + 3) (ρ 4) := c2 (P := qCp) (show qCp (((3) + ((128) * ρ 3 + 0))) (((0) + ((1) * ρ 4 + 0))) from hP _ (List.mem_of_getElem? (i := 1) rfl)) (by omega) (by omega)
  have cT : 0 ≤ ρ 0 := by
    have q := (hG _ (List.mem_of_getElem? (i := 0) rfl)).1
    rwa [show ev ρ (0, [(0, 1)]) = ρ 0 from ev_v] at q
  have cS : 0 ≤ ρ 1 := by
    have q := (hG _ (List.mem_of_getElem? (i := 1) rfl)).1
    rwa [show ev ρ (0, [(1, 1)]) = ρ 1 from ev_v] at q
  have y0 : rfv h (ρ 0).toNat 2 = some (.ref (ρ 1).toNat) := ob_v hT (hH _ (List.mem_of_getElem? (i := 0) rfl)) ev_v g0 rfl ev_v
  have y1 : hasI (rfv h (ρ 1).toNat 12) (ρ 2) := ob_i hT (hH _ (List.mem_of_getElem? (i := 1) rfl)) ev_v g1 rfl ev_v
  refine ⟨_, List.mem_cons_self, ρ, fun _ _ => rfl, fun q hq => absurd hq List.not_mem_nil, trivial, fun f hf => ?_, fun q hq => absurd hq List.not_mem_nil, fun q hq => absurd hq List.not_mem_nil, fun q hq => absurd hq List.not_mem_nil, fun q hq => ?_⟩
  · exact absurd hf List.not_mem_nil
  · simp only [List.mem_cons, List.not_mem_nil, or_false] at hq
    subst hq
    show q361 G (((0) + ((1) * ρ 1 + 0))) (((0) + ((1) * ρ 3 + 0))) (rfv h)
    refine c2 (P := (fun r c => q361 G r c (rfv h))) (r := ρ 1) (c := ρ 3) ?_ (by omega) (by omega)
    show q361 G (ρ 1) (ρ 3) (rfv h)
    exact s_mcB (by have q := (kCp (V := ρ 3) (k := 3) (by omega) (by omega) p1); omega) y1 p0
/-- gfA -/
theorem lem_704_ok (hU : uqG G C) : lem_704.1.2.1 = [] ∧ lemOK (PRd G C D xs) G rgs lem_704 := by
  refine ⟨rfl, fun ρ h ha hT => ?_⟩
  obtain ⟨-, -, hF, hG, hH, hA, hP⟩ := ha
  have f0 : (0 : Int) ≤ ((-1) + ((1) * ρ 3 + 0)) := hF _ (List.mem_of_getElem? (i := 0) rfl)
  have f1 : (0 : Int) ≤ ((8) + ((-1) * ρ 3 + 0)) := hF _ (List.mem_of_getElem? (i := 1) rfl)
  have f2 : (0 : Int) ≤ ((-5) + ((-1) * ρ 1 + ((1) * ρ 2 + ((7) * ρ 3 + 0)))) := hF _ (List.mem_of_getElem? (i := 2) rfl)
  have f3 : (0 : Int) ≤ ((5) + ((1) * ρ 1 + ((-1) * ρ 2 + ((-7) * ρ 3 + 0)))) := hF _ (List.mem_of_getElem? (i := 3) rfl)
  have g0 : G (ρ 0).toNat = 14 := by
    have q := (hG _ (List.mem_of_getElem? (i := 0) rfl)).2
    rwa [show ev ρ (0, [(0, 1)]) = ρ 0 from ev_v] at q
  have g1 : G (ρ 2).toNat = 20 := by
    have q := (hG _ (List.mem_of_getElem? (i := 1) rfl)).2
    rwa [show ev ρ (0, [(2, 1)]) = ρ 2 from ev_v] at q
  have g2 : G (ρ 1).toNat = 13 := by
    have q := (hG _ (List.mem_of_getElem? (i := 2) rfl)).2
    rwa [show ev ρ (0, [(1, 1)]) = ρ 1 from ev_v] at q
  have h1 : (0 : Int) ≤ ρ 3 ∧ ρ 3 ≤ 8 := hf_rg hT (hH _ (List.mem_of_getElem? (i := 1) rfl)) ev_v g1 rfl rfl rfl ev_v
  have p0 : q361 G (ρ 2) (ρ 4) (rfv h) := c2 (P := (fun r c => q361 G r c (rfv h))) (show q361 G (((0) + ((1) * ρ 2 + 0))) (((0) + ((1) * ρ 4 + 0))) (rfv h) from hP _ (List.mem_of_getElem? (i := 0) rfl)) (by omega) (by omega)
  have cT : 0 ≤ ρ 0 := by
    have q := (hG _ (List.mem_of_getElem? (i := 0) rfl)).1
    rwa [show ev ρ (0, [(0, 1)]) = ρ 0 from ev_v] at q
  have cS : 0 ≤ ρ 2 := by
    have q := (hG _ (List.mem_of_getElem? (i := 1) rfl)).1
    rwa [show ev ρ (0, [(2, 1)]) = ρ 2 from ev_v] at q
  have cM : 0 ≤ ρ 1 := by
    have q := (hG _ (List.mem_of_getElem? (i := 2) rfl)).1
    rwa [show ev ρ (0, [(1, 1)]) = ρ 1 from ev_v] at q
  have y0 : rfv h (ρ 0).toNat 2 = some (.ref (ρ 2).toNat) := ob_v hT (hH _ (List.mem_of_getElem? (i := 0) rfl)) ev_v g0 rfl ev_v
  have y1 : hasI (rfv h (ρ 2).toNat 12) (ρ 3) := ob_i hT (hH _ (List.mem_of_getElem? (i := 1) rfl)) ev_v g1 rfl ev_v
  have hm := (s_f4 (k := 3) (by decide) rfl p0 y1)
  refine ⟨_, List.mem_cons_self, ρ, fun _ _ => rfl, fun q hq => absurd hq List.not_mem_nil, trivial, fun f hf => ?_, fun q hq => absurd hq List.not_mem_nil, fun q hq => absurd hq List.not_mem_nil, fun q hq => absurd hq List.not_mem_nil, fun q hq => ?_⟩
  · exact absurd hf List.not_mem_nil
  · simp only [List.mem_cons, List.not_mem_nil, or_false] at hq
    subst hq
    show qM G 20 (((0) + ((1) * ρ 1 + 0))) (((0) + ((1) * ρ 4 + 0))) (rfv h)
    refine c2 (P := (fun r c => qM G 20 r c (rfv h))) (r := ρ 1) (c := ρ 4) ?_ (by omega) (by omega)
    show qM G 20 (ρ 1) (ρ 4) (rfv h)
    exact s_mX 20 (m := (ρ 3 - 1).toNat) (by omega) (by omega) (by omega) p0
/-- gfB -/
theorem lem_705_ok (hU : uqG G C) : lem_705.1.2.1 = [] ∧ lemOK (PRd G C D xs) G rgs lem_705 := by
  refine ⟨rfl, fun ρ h ha hT => ?_⟩
  obtain ⟨-, -, hF, hG, hH, hA, hP⟩ := ha
  have f0 : (0 : Int) ≤ ((-1) + ((1) * ρ 3 + 0)) := hF _ (List.mem_of_getElem? (i := 0) rfl)
  have f1 : (0 : Int) ≤ ((8) + ((-1) * ρ 3 + 0)) := hF _ (List.mem_of_getElem? (i := 1) rfl)
  have f2 : (0 : Int) ≤ ((-5) + ((-1) * ρ 1 + ((1) * ρ 2 + ((7) * ρ 3 + 0)))) := hF _ (List.mem_of_getElem? (i := 2) rfl)
  have f3 : (0 : Int) ≤ ((5) + ((1) * ρ 1 + ((-1) * ρ 2 + ((-7) * ρ 3 + 0)))) := hF _ (List.mem_of_getElem? (i := 3) rfl)
  have f4 : (0 : Int) ≤ ((0) + ((1) * ρ 4 + 0)) := hF _ (List.mem_of_getElem? (i := 4) rfl)
  have f5 : (0 : Int) ≤ ((9999) + ((-1) * ρ 4 + 0)) := hF _ (List.mem_of_getElem? (i := 5) rfl)
  have g0 : G (ρ 0).toNat = 14 := by
    have q := (hG _ (List.mem_of_getElem? (i := 0) rfl)).2
    rwa [show ev ρ (0, [(0, 1)]) = ρ 0 from ev_v] at q
  have g1 : G (ρ 2).toNat = 20 := by
    have q := (hG _ (List.mem_of_getElem? (i := 1) rfl)).2
    rwa [show ev ρ (0, [(2, 1)]) = ρ 2 from ev_v] at q
  have g2 : G (ρ 1).toNat = 13 := by
    have q := (hG _ (List.mem_of_getElem? (i := 2) rfl)).2
    rwa [show ev ρ (0, [(1, 1)]) = ρ 1 from ev_v] at q
  have h1 : (0 : Int) ≤ ρ 3 ∧ ρ 3 ≤ 8 := hf_rg hT (hH _ (List.mem_of_getElem? (i := 1) rfl)) ev_v g1 rfl rfl rfl ev_v
  have p0 : qM G 20 (ρ 1) (ρ 5) (rfv h) := c2 (P := (fun r c => qM G 20 r c (rfv h))) (show qM G 20 (((0) + ((1) * ρ 1 + 0))) (((0) + ((1) * ρ 5 + 0))) (rfv h) from hP _ (List.mem_of_getElem? (i := 0) rfl)) (by omega) (by omega)
  have p1 : qSet (65536 * ρ 3 + ρ 4 + 16777216 * ρ 5 + 1245184) (ρ 6) := c2 (P := qSet) (show qSet (((1245184) + ((65536) * ρ 3 + ((1) * ρ 4 + ((16777216) * ρ 5 + 0))))) (((0) + ((1) * ρ 6 + 0))) from hP _ (List.mem_of_getElem? (i := 1) rfl)) (by omega) (by omega)
  have cT : 0 ≤ ρ 0 := by
    have q := (hG _ (List.mem_of_getElem? (i := 0) rfl)).1
    rwa [show ev ρ (0, [(0, 1)]) = ρ 0 from ev_v] at q
  have cS : 0 ≤ ρ 2 := by
    have q := (hG _ (List.mem_of_getElem? (i := 1) rfl)).1
    rwa [show ev ρ (0, [(2, 1)]) = ρ 2 from ev_v] at q
  have cM : 0 ≤ ρ 1 := by
    have q := (hG _ (List.mem_of_getElem? (i := 2) rfl)).1
    rwa [show ev ρ (0, [(1, 1)]) = ρ 1 from ev_v] at q
  have y0 : rfv h (ρ 0).toNat 2 = some (.ref (ρ 2).toNat) := ob_v hT (hH _ (List.mem_of_getElem? (i := 0) rfl)) ev_v g0 rfl ev_v
  have y1 : hasI (rfv h (ρ 2).toNat 12) (ρ 3) := ob_i hT (hH _ (List.mem_of_getElem? (i := 1) rfl)) ev_v g1 rfl ev_v
  have y2 : hasI (rfv h (ρ 1).toNat 0) (ρ 4) := ob_i hT (hH _ (List.mem_of_getElem? (i := 2) rfl)) ev_v g2 rfl ev_v
  have rb := kSet (V := ρ 5) (v := ρ 4) (k := 20 + (ρ 3 - 1).toNat) (by omega) (by omega) (by omega) (by omega) p1
  refine ⟨_, List.mem_cons_self, ρ, fun _ _ => rfl, fun q hq => absurd hq List.not_mem_nil, trivial, fun f hf => ?_, fun q hq => absurd hq List.not_mem_nil, fun q hq => absurd hq List.not_mem_nil, fun q hq => absurd hq List.not_mem_nil, fun q hq => ?_⟩
  · exact absurd hf List.not_mem_nil
  · simp only [List.mem_cons, List.not_mem_nil, or_false] at hq
    subst hq
    show q361 G (((0) + ((1) * ρ 2 + 0))) (((0) + ((1) * ρ 6 + 0))) (rfv h)
    refine c2 (P := (fun r c => q361 G r c (rfv h))) (r := ρ 2) (c := ρ 6) ?_ (by omega) (by omega)
    show q361 G (ρ 2) (ρ 6) (rfv h)
    exact (c2 (P := (fun r c => q361 G r c (rfv h))) (s_mV (off := 20) (f := 0) (m := (ρ 3 - 1).toNat) (by omega) (Or.inr (Or.inl ⟨rfl, rfl⟩)) cS g1 (by omega) (by omega) (by omega) p0 y2) (by omega) (by omega))
/-- guA -/
theorem lem_706_ok (hU : uqG G C) : lem_706.1.2.1 = [] ∧ lemOK (PRd G C D xs) G rgs lem_706 := by
  refine ⟨rfl, fun ρ h ha hT => ?_⟩
  obtain ⟨-, -, hF, hG, hH, hA, hP⟩ := ha
  have f0 : (0 : Int) ≤ ((-1) + ((1) * ρ 3 + 0)) := hF _ (List.mem_of_getElem? (i := 0) rfl)
  have f1 : (0 : Int) ≤ ((8) + ((-1) * ρ 3 + 0)) := hF _ (List.mem_of_getElem? (i := 1) rfl)
  have f2 : (0 : Int) ≤ ((-5) + ((-1) * ρ 1 + ((1) * ρ 2 + ((7) * ρ 3 + 0)))) := hF _ (List.mem_of_getElem? (i := 2) rfl)
  have f3 : (0 : Int) ≤ ((5) + ((1) * ρ 1 + ((-1) * ρ 2 + ((-7) * ρ 3 + 0)))) := hF _ (List.mem_of_getElem? (i := 3) rfl)
  have g0 : G (ρ 0).toNat = 14 := by
    have q := (hG _ (List.mem_of_getElem? (i := 0) rfl)).2
    rwa [show ev ρ (0, [(0, 1)]) = ρ 0 from ev_v] at q
  have g1 : G (ρ 2).toNat = 20 := by
    have q := (hG _ (List.mem_of_getElem? (i := 1) rfl)).2
    rwa [show ev ρ (0, [(2, 1)]) = ρ 2 from ev_v] at q
  have g2 : G (ρ 1).toNat = 13 := by
    have q := (hG _ (List.mem_of_getElem? (i := 2) rfl)).2
    rwa [show ev ρ (0, [(1, 1)]) = ρ 1 from ev_v] at q
  have h1 : (0 : Int) ≤ ρ 3 ∧ ρ 3 ≤ 8 := hf_rg hT (hH _ (List.mem_of_getElem? (i := 1) rfl)) ev_v g1 rfl rfl rfl ev_v
  have p0 : q361 G (ρ 2) (ρ 4) (rfv h) := c2 (P := (fun r c => q361 G r c (rfv h))) (show q361 G (((0) + ((1) * ρ 2 + 0))) (((0) + ((1) * ρ 4 + 0))) (rfv h) from hP _ (List.mem_of_getElem? (i := 0) rfl)) (by omega) (by omega)
  have cT : 0 ≤ ρ 0 := by
    have q := (hG _ (List.mem_of_getElem? (i := 0) rfl)).1
    rwa [show ev ρ (0, [(0, 1)]) = ρ 0 from ev_v] at q
  have cS : 0 ≤ ρ 2 := by
    have q := (hG _ (List.mem_of_getElem? (i := 1) rfl)).1
    rwa [show ev ρ (0, [(2, 1)]) = ρ 2 from ev_v] at q
  have cM : 0 ≤ ρ 1 := by
    have q := (hG _ (List.mem_of_getElem? (i := 2) rfl)).1
    rwa [show ev ρ (0, [(1, 1)]) = ρ 1 from ev_v] at q
  have y0 : rfv h (ρ 0).toNat 2 = some (.ref (ρ 2).toNat) := ob_v hT (hH _ (List.mem_of_getElem? (i := 0) rfl)) ev_v g0 rfl ev_v
  have y1 : hasI (rfv h (ρ 2).toNat 12) (ρ 3) := ob_i hT (hH _ (List.mem_of_getElem? (i := 1) rfl)) ev_v g1 rfl ev_v
  have hm := (s_f4 (k := 3) (by decide) rfl p0 y1)
  refine ⟨_, List.mem_cons_self, ρ, fun _ _ => rfl, fun q hq => absurd hq List.not_mem_nil, trivial, fun f hf => ?_, fun q hq => absurd hq List.not_mem_nil, fun q hq => absurd hq List.not_mem_nil, fun q hq => absurd hq List.not_mem_nil, fun q hq => ?_⟩
  · exact absurd hf List.not_mem_nil
  · simp only [List.mem_cons, List.not_mem_nil, or_false] at hq
    subst hq
    show qM G 28 (((0) + ((1) * ρ 1 + 0))) (((0) + ((1) * ρ 4 + 0))) (rfv h)
    refine c2 (P := (fun r c => qM G 28 r c (rfv h))) (r := ρ 1) (c := ρ 4) ?_ (by omega) (by omega)
    show qM G 28 (ρ 1) (ρ 4) (rfv h)
    exact s_mX 28 (m := (ρ 3 - 1).toNat) (by omega) (by omega) (by omega) p0
/-- guB -/
theorem lem_707_ok (hU : uqG G C) : lem_707.1.2.1 = [] ∧ lemOK (PRd G C D xs) G rgs lem_707 := by
  refine ⟨rfl, fun ρ h ha hT => ?_⟩
  obtain ⟨-, -, hF, hG, hH, hA, hP⟩ := ha
  have f0 : (0 : Int) ≤ ((-1) + ((1) * ρ 3 + 0)) := hF _ (List.mem_of_getElem? (i := 0) rfl)
  have f1 : (0 : Int) ≤ ((8) + ((-1) * ρ 3 + 0)) := hF _ (List.mem_of_getElem? (i := 1) rfl)
  have f2 : (0 : Int) ≤ ((-5) + ((-1) * ρ 1 + ((1) * ρ 2 + ((7) * ρ 3 + 0)))) := hF _ (List.mem_of_getElem? (i := 2) rfl)
  have f3 : (0 : Int) ≤ ((5) + ((1) * ρ 1 + ((-1) * ρ 2 + ((-7) * ρ 3 + 0)))) := hF _ (List.mem_of_getElem? (i := 3) rfl)
  have f4 : (0 : Int) ≤ ((0) + ((1) * ρ 4 + 0)) := hF _ (List.mem_of_getElem? (i := 4) rfl)
  have f5 : (0 : Int) ≤ ((9999) + ((-1) * ρ 4 + 0)) := hF _ (List.mem_of_getElem? (i := 5) rfl)
  have g0 : G (ρ 0).toNat = 14 := by
    have q := (hG _ (List.mem_of_getElem? (i := 0) rfl)).2
    rwa [show ev ρ (0, [(0, 1)]) = ρ 0 from ev_v] at q
  have g1 : G (ρ 2).toNat = 20 := by
    have q := (hG _ (List.mem_of_getElem? (i := 1) rfl)).2
    rwa [show ev ρ (0, [(2, 1)]) = ρ 2 from ev_v] at q
  have g2 : G (ρ 1).toNat = 13 := by
    have q := (hG _ (List.mem_of_getElem? (i := 2) rfl)).2
    rwa [show ev ρ (0, [(1, 1)]) = ρ 1 from ev_v] at q
  have h1 : (0 : Int) ≤ ρ 3 ∧ ρ 3 ≤ 8 := hf_rg hT (hH _ (List.mem_of_getElem? (i := 1) rfl)) ev_v g1 rfl rfl rfl ev_v
  have p0 : qM G 28 (ρ 1) (ρ 5) (rfv h) := c2 (P := (fun r c => qM G 28 r c (rfv h))) (show qM G 28 (((0) + ((1) * ρ 1 + 0))) (((0) + ((1) * ρ 5 + 0))) (rfv h) from hP _ (List.mem_of_getElem? (i := 0) rfl)) (by omega) (by omega)
  have p1 : qSet (65536 * ρ 3 + ρ 4 + 16777216 * ρ 5 + 1769472) (ρ 6) := c2 (P := qSet) (show qSet (((1769472) + ((65536) * ρ 3 + ((1) * ρ 4 + ((16777216) * ρ 5 + 0))))) (((0) + ((1) * ρ 6 + 0))) from hP _ (List.mem_of_getElem? (i := 1) rfl)) (by omega) (by omega)
  have cT : 0 ≤ ρ 0 := by
    have q := (hG _ (List.mem_of_getElem? (i := 0) rfl)).1
    rwa [show ev ρ (0, [(0, 1)]) = ρ 0 from ev_v] at q
  have cS : 0 ≤ ρ 2 := by
    have q := (hG _ (List.mem_of_getElem? (i := 1) rfl)).1
    rwa [show ev ρ (0, [(2, 1)]) = ρ 2 from ev_v] at q
  have cM : 0 ≤ ρ 1 := by
    have q := (hG _ (List.mem_of_getElem? (i := 2) rfl)).1
    rwa [show ev ρ (0, [(1, 1)]) = ρ 1 from ev_v] at q
  have y0 : rfv h (ρ 0).toNat 2 = some (.ref (ρ 2).toNat) := ob_v hT (hH _ (List.mem_of_getElem? (i := 0) rfl)) ev_v g0 rfl ev_v
  have y1 : hasI (rfv h (ρ 2).toNat 12) (ρ 3) := ob_i hT (hH _ (List.mem_of_getElem? (i := 1) rfl)) ev_v g1 rfl ev_v
  have y2 : hasI (rfv h (ρ 1).toNat 1) (ρ 4) := ob_i hT (hH _ (List.mem_of_getElem? (i := 2) rfl)) ev_v g2 rfl ev_v
  have rb := kSet (V := ρ 5) (v := ρ 4) (k := 28 + (ρ 3 - 1).toNat) (by omega) (by omega) (by omega) (by omega) p1
  refine ⟨_, List.mem_cons_self, ρ, fun _ _ => rfl, fun q hq => absurd hq List.not_mem_nil, trivial, fun f hf => ?_, fun q hq => absurd hq List.not_mem_nil, fun q hq => absurd hq List.not_mem_nil, fun q hq => absurd hq List.not_mem_nil, fun q hq => ?_⟩
  · exact absurd hf List.not_mem_nil
  · simp only [List.mem_cons, List.not_mem_nil, or_false] at hq
    subst hq
    show q361 G (((0) + ((1) * ρ 2 + 0))) (((0) + ((1) * ρ 6 + 0))) (rfv h)
    refine c2 (P := (fun r c => q361 G r c (rfv h))) (r := ρ 2) (c := ρ 6) ?_ (by omega) (by omega)
    show q361 G (ρ 2) (ρ 6) (rfv h)
    exact (c2 (P := (fun r c => q361 G r c (rfv h))) (s_mV (off := 28) (f := 1) (m := (ρ 3 - 1).toNat) (by omega) (Or.inr (Or.inr ⟨rfl, rfl⟩)) cS g1 (by omega) (by omega) (by omega) p0 y2) (by omega) (by omega))
/-- mk295 -/
theorem lem_708_ok (hU : uqG G C) : lem_708.1.2.1 = [] ∧ lemOK (PRd G C D xs) G rgs lem_708 := by
  refine ⟨rfl, fun ρ h ha hT => ?_⟩
  obtain ⟨-, -, hF, hG, hH, hA, hP⟩ := ha
  have g0 : G (ρ 0).toNat = 19 := by
    have q := (hG _ (List.mem_of_getElem? (i := 0) rfl)).2
    rwa [show ev ρ (0, [(0, 1)]) = ρ 0 from ev_v] at q
  have cs : 0 ≤ ρ 0 := by
    have q := (hG _ (List.mem_of_getElem? (i := 0) rfl)).1
    rwa [show ev ρ (0, [(0, 1)]) = ρ 0 from ev_v] at q
  have y0 : hasI (rfv h (ρ 0).toNat 2) (ρ 1) := ob_i hT (hH _ (List.mem_of_getElem? (i := 0) rfl)) ev_v g0 rfl ev_v
  refine ⟨_, List.mem_cons_self, ρ, fun _ _ => rfl, fun q hq => absurd hq List.not_mem_nil, trivial, fun f hf => ?_, fun q hq => absurd hq List.not_mem_nil, fun q hq => absurd hq List.not_mem_nil, fun q hq => absurd hq List.not_mem_nil, fun q hq => ?_⟩
  · exact absurd hf List.not_mem_nil
  · simp only [List.mem_cons, List.not_mem_nil, or_false] at hq
    subst hq
    show q395 G (((0) + ((1) * ρ 0 + 0))) (((0) + ((1) * ρ 1 + 0))) (rfv h)
    refine c2 (P := (fun r c => q395 G r c (rfv h))) (r := ρ 0) (c := ρ 1) ?_ (by omega) (by omega)
    show q395 G (ρ 0) (ρ 1) (rfv h)
    exact ⟨cs, g0, y0⟩
/-- sbA -/
theorem lem_709_ok (hU : uqG G C) : lem_709.1.2.1 = [] ∧ lemOK (PRd G C D xs) G rgs lem_709 := by
  refine ⟨rfl, fun ρ h ha hT => ?_⟩
  obtain ⟨-, -, hF, hG, hH, hA, hP⟩ := ha
  have f0 : (0 : Int) ≤ ((-1) + ((1) * ρ 4 + 0)) := hF _ (List.mem_of_getElem? (i := 0) rfl)
  have f1 : (0 : Int) ≤ ((8) + ((-1) * ρ 4 + 0)) := hF _ (List.mem_of_getElem? (i := 1) rfl)
  have f2 : (0 : Int) ≤ ((0) + ((1) * ρ 5 + 0)) := hF _ (List.mem_of_getElem? (i := 2) rfl)
  have f3 : (0 : Int) ≤ ((4) + ((-1) * ρ 5 + 0)) := hF _ (List.mem_of_getElem? (i := 3) rfl)
  have f4 : (0 : Int) ≤ ((-5) + ((-1) * ρ 1 + ((1) * ρ 3 + ((7) * ρ 4 + 0)))) := hF _ (List.mem_of_getElem? (i := 4) rfl)
  have f5 : (0 : Int) ≤ ((5) + ((1) * ρ 1 + ((-1) * ρ 3 + ((-7) * ρ 4 + 0)))) := hF _ (List.mem_of_getElem? (i := 5) rfl)
  have f6 : (0 : Int) ≤ ((2) + ((1) * ρ 1 + ((-1) * ρ 2 + ((1) * ρ 5 + 0)))) := hF _ (List.mem_of_getElem? (i := 6) rfl)
  have f7 : (0 : Int) ≤ ((-2) + ((-1) * ρ 1 + ((1) * ρ 2 + ((-1) * ρ 5 + 0)))) := hF _ (List.mem_of_getElem? (i := 7) rfl)
  have g0 : G (ρ 0).toNat = 14 := by
    have q := (hG _ (List.mem_of_getElem? (i := 0) rfl)).2
    rwa [show ev ρ (0, [(0, 1)]) = ρ 0 from ev_v] at q
  have g1 : G (ρ 3).toNat = 20 := by
    have q := (hG _ (List.mem_of_getElem? (i := 1) rfl)).2
    rwa [show ev ρ (0, [(3, 1)]) = ρ 3 from ev_v] at q
  have g2 : G (ρ 1).toNat = 13 := by
    have q := (hG _ (List.mem_of_getElem? (i := 2) rfl)).2
    rwa [show ev ρ (0, [(1, 1)]) = ρ 1 from ev_v] at q
  have g3 : G (ρ 2).toNat = 19 := by
    have q := (hG _ (List.mem_of_getElem? (i := 3) rfl)).2
    rwa [show ev ρ (0, [(2, 1)]) = ρ 2 from ev_v] at q
  have h1 : (0 : Int) ≤ ρ 4 ∧ ρ 4 ≤ 8 := hf_rg hT (hH _ (List.mem_of_getElem? (i := 1) rfl)) ev_v g1 rfl rfl rfl ev_v
  have h2 : (0 : Int) ≤ ρ 5 ∧ ρ 5 ≤ 5 := hf_rg hT (hH _ (List.mem_of_getElem? (i := 2) rfl)) ev_v g2 rfl rfl rfl ev_v
  have p0 : q361 G (ρ 3) (ρ 6) (rfv h) := c2 (P := (fun r c => q361 G r c (rfv h))) (show q361 G (((0) + ((1) * ρ 3 + 0))) (((0) + ((1) * ρ 6 + 0))) (rfv h) from hP _ (List.mem_of_getElem? (i := 0) rfl)) (by omega) (by omega)
  have cT : 0 ≤ ρ 0 := by
    have q := (hG _ (List.mem_of_getElem? (i := 0) rfl)).1
    rwa [show ev ρ (0, [(0, 1)]) = ρ 0 from ev_v] at q
  have cS : 0 ≤ ρ 3 := by
    have q := (hG _ (List.mem_of_getElem? (i := 1) rfl)).1
    rwa [show ev ρ (0, [(3, 1)]) = ρ 3 from ev_v] at q
  have cM : 0 ≤ ρ 1 := by
    have q := (hG _ (List.mem_of_getElem? (i := 2) rfl)).1
    rwa [show ev ρ (0, [(1, 1)]) = ρ 1 from ev_v] at q
  have cs : 0 ≤ ρ 2 := by
    have q := (hG _ (List.mem_of_getElem? (i := 3) rfl)).1
    rwa [show ev ρ (0, [(2, 1)]) = ρ 2 from ev_v] at q
  have y0 : rfv h (ρ 0).toNat 2 = some (.ref (ρ 3).toNat) := ob_v hT (hH _ (List.mem_of_getElem? (i := 0) rfl)) ev_v g0 rfl ev_v
  have y1 : hasI (rfv h (ρ 3).toNat 12) (ρ 4) := ob_i hT (hH _ (List.mem_of_getElem? (i := 1) rfl)) ev_v g1 rfl ev_v
  have y2 : hasI (rfv h (ρ 1).toNat 6) (ρ 5) := ob_i hT (hH _ (List.mem_of_getElem? (i := 2) rfl)) ev_v g2 rfl ev_v
  refine ⟨_, List.mem_cons_self, ρ, fun _ _ => rfl, fun q hq => absurd hq List.not_mem_nil, trivial, fun f hf => ?_, fun q hq => absurd hq List.not_mem_nil, fun q hq => absurd hq List.not_mem_nil, fun q hq => absurd hq List.not_mem_nil, fun q hq => ?_⟩
  · exact absurd hf List.not_mem_nil
  · simp only [List.mem_cons, List.not_mem_nil, or_false] at hq
    subst hq
    show q377 G (((0) + ((1) * ρ 2 + 0))) (((0) + ((1) * ρ 6 + 0))) (rfv h)
    refine c2 (P := (fun r c => q377 G r c (rfv h))) (r := ρ 2) (c := ρ 6) ?_ (by omega) (by omega)
    show q377 G (ρ 2) (ρ 6) (rfv h)
    exact s_sbA (m := (ρ 4 - 1).toNat) (n := (ρ 5).toNat) (by omega) (by omega) (by omega) (by omega) (by omega) (by omega) y1 y2 p0
/-- sbB -/
theorem lem_710_ok (hU : uqG G C) : lem_710.1.2.1 = [] ∧ lemOK (PRd G C D xs) G rgs lem_710 := by
  refine ⟨rfl, fun ρ h ha hT => ?_⟩
  obtain ⟨-, -, hF, hG, hH, hA, hP⟩ := ha
  have f0 : (0 : Int) ≤ ((-1) + ((1) * ρ 3 + 0)) := hF _ (List.mem_of_getElem? (i := 0) rfl)
  have f1 : (0 : Int) ≤ ((8) + ((-1) * ρ 3 + 0)) := hF _ (List.mem_of_getElem? (i := 1) rfl)
  have f2 : (0 : Int) ≤ ((0) + ((1) * ρ 4 + 0)) := hF _ (List.mem_of_getElem? (i := 2) rfl)
  have f3 : (0 : Int) ≤ ((4) + ((-1) * ρ 4 + 0)) := hF _ (List.mem_of_getElem? (i := 3) rfl)
  have f4 : (0 : Int) ≤ ((-5) + ((-1) * ρ 1 + ((1) * ρ 2 + ((7) * ρ 3 + 0)))) := hF _ (List.mem_of_getElem? (i := 4) rfl)
  have f5 : (0 : Int) ≤ ((5) + ((1) * ρ 1 + ((-1) * ρ 2 + ((-7) * ρ 3 + 0)))) := hF _ (List.mem_of_getElem? (i := 5) rfl)
  have f6 : (0 : Int) ≤ ((2) + ((1) * ρ 1 + ((1) * ρ 4 + ((-1) * ρ 6 + 0)))) := hF _ (List.mem_of_getElem? (i := 6) rfl)
  have f7 : (0 : Int) ≤ ((-2) + ((-1) * ρ 1 + ((-1) * ρ 4 + ((1) * ρ 6 + 0)))) := hF _ (List.mem_of_getElem? (i := 7) rfl)
  have f8 : (0 : Int) ≤ ((0) + ((1) * ρ 8 + 0)) := hF _ (List.mem_of_getElem? (i := 8) rfl)
  have f9 : (0 : Int) ≤ ((63) + ((-1) * ρ 8 + 0)) := hF _ (List.mem_of_getElem? (i := 9) rfl)
  have g0 : G (ρ 0).toNat = 14 := by
    have q := (hG _ (List.mem_of_getElem? (i := 0) rfl)).2
    rwa [show ev ρ (0, [(0, 1)]) = ρ 0 from ev_v] at q
  have g1 : G (ρ 2).toNat = 20 := by
    have q := (hG _ (List.mem_of_getElem? (i := 1) rfl)).2
    rwa [show ev ρ (0, [(2, 1)]) = ρ 2 from ev_v] at q
  have g2 : G (ρ 1).toNat = 13 := by
    have q := (hG _ (List.mem_of_getElem? (i := 2) rfl)).2
    rwa [show ev ρ (0, [(1, 1)]) = ρ 1 from ev_v] at q
  have g3 : G (ρ 5).toNat = 114 := by
    have q := (hG _ (List.mem_of_getElem? (i := 3) rfl)).2
    rwa [show ev ρ (0, [(5, 1)]) = ρ 5 from ev_v] at q
  have g4 : G (ρ 6).toNat = 19 := by
    have q := (hG _ (List.mem_of_getElem? (i := 4) rfl)).2
    rwa [show ev ρ (0, [(6, 1)]) = ρ 6 from ev_v] at q
  have h1 : (0 : Int) ≤ ρ 3 ∧ ρ 3 ≤ 8 := hf_rg hT (hH _ (List.mem_of_getElem? (i := 1) rfl)) ev_v g1 rfl rfl rfl ev_v
  have h2 : (0 : Int) ≤ ρ 4 ∧ ρ 4 ≤ 5 := hf_rg hT (hH _ (List.mem_of_getElem? (i := 2) rfl)) ev_v g2 rfl rfl rfl ev_v
  have b0 : (0 : Int) ≤ ((0) + ((1) * ρ 4 + 0)) := b_aA (hA _ (List.mem_of_getElem? (i := 0) rfl))
  have p0 : q377 G (ρ 6) (ρ 7) (rfv h) := c2 (P := (fun r c => q377 G r c (rfv h))) (show q377 G (((0) + ((1) * ρ 6 + 0))) (((0) + ((1) * ρ 7 + 0))) (rfv h) from hP _ (List.mem_of_getElem? (i := 0) rfl)) (by omega) (by omega)
  have p1 : q395 G (ρ 6) (ρ 8) (rfv h) := c2 (P := (fun r c => q395 G r c (rfv h))) (show q395 G (((0) + ((1) * ρ 6 + 0))) (((0) + ((1) * ρ 8 + 0))) (rfv h) from hP _ (List.mem_of_getElem? (i := 1) rfl)) (by omega) (by omega)
  have p2 : qNS (512 * ρ 3 + 64 * ρ 4 + 4096 * ρ 7 + ρ 8) (ρ 9) := c2 (P := qNS) (show qNS (((0) + ((512) * ρ 3 + ((64) * ρ 4 + ((4096) * ρ 7 + ((1) * ρ 8 + 0)))))) (((0) + ((1) * ρ 9 + 0))) from hP _ (List.mem_of_getElem? (i := 2) rfl)) (by omega) (by omega)
  have cT : 0 ≤ ρ 0 := by
    have q := (hG _ (List.mem_of_getElem? (i := 0) rfl)).1
    rwa [show ev ρ (0, [(0, 1)]) = ρ 0 from ev_v] at q
  have cS : 0 ≤ ρ 2 := by
    have q := (hG _ (List.mem_of_getElem? (i := 1) rfl)).1
    rwa [show ev ρ (0, [(2, 1)]) = ρ 2 from ev_v] at q
  have cM : 0 ≤ ρ 1 := by
    have q := (hG _ (List.mem_of_getElem? (i := 2) rfl)).1
    rwa [show ev ρ (0, [(1, 1)]) = ρ 1 from ev_v] at q
  have cA : 0 ≤ ρ 5 := by
    have q := (hG _ (List.mem_of_getElem? (i := 3) rfl)).1
    rwa [show ev ρ (0, [(5, 1)]) = ρ 5 from ev_v] at q
  have cs : 0 ≤ ρ 6 := by
    have q := (hG _ (List.mem_of_getElem? (i := 4) rfl)).1
    rwa [show ev ρ (0, [(6, 1)]) = ρ 6 from ev_v] at q
  have y0 : rfv h (ρ 0).toNat 2 = some (.ref (ρ 2).toNat) := ob_v hT (hH _ (List.mem_of_getElem? (i := 0) rfl)) ev_v g0 rfl ev_v
  have y1 : hasI (rfv h (ρ 2).toNat 12) (ρ 3) := ob_i hT (hH _ (List.mem_of_getElem? (i := 1) rfl)) ev_v g1 rfl ev_v
  have y2 : hasI (rfv h (ρ 1).toNat 6) (ρ 4) := ob_i hT (hH _ (List.mem_of_getElem? (i := 2) rfl)) ev_v g2 rfl ev_v
  have y3 : rfv h (ρ 1).toNat 7 = some (.ref (ρ 5).toNat) := ob_v hT (hH _ (List.mem_of_getElem? (i := 3) rfl)) ev_v g2 rfl ev_v
  have z0 : elv h (ρ 5).toNat (ρ 4).toNat = some (.ref (ρ 6).toNat) := ar_v (j := ρ 4) (hA _ (List.mem_of_getElem? (i := 0) rfl)) ev_v (show (ρ 4 : Int) = ((0) + ((1) * ρ 4 + 0)) by omega) ev_v
  obtain ⟨r1, r2⟩ := s_sbB (m := (ρ 3 - 1).toNat) (n := (ρ 4).toNat) (c := ρ 3) (j := ρ 4) (M := ρ 1) cS g1 (by omega) (by omega) (by omega) (by omega) (by omega) (by omega) (by omega) (by omega) p1 p0
  have rb := kNS (a := ρ 7) (m := (ρ 3 - 1).toNat) (s := (ρ 4).toNat) (v := (ρ 8).toNat) (by omega) (by omega) (by omega) (by omega) p2
  refine ⟨_, List.mem_cons_self, ρ, fun _ _ => rfl, fun q hq => absurd hq List.not_mem_nil, trivial, fun f hf => ?_, fun q hq => absurd hq List.not_mem_nil, fun q hq => absurd hq List.not_mem_nil, fun q hq => absurd hq List.not_mem_nil, fun q hq => ?_⟩
  · exact absurd hf List.not_mem_nil
  · simp only [List.mem_cons, List.not_mem_nil, or_false] at hq
    rcases hq with rfl | rfl
    · show qM G 12 (((0) + ((1) * ρ 1 + 0))) (((0) + ((1) * ρ 9 + 0))) (rfv h)
      refine c2 (P := (fun r c => qM G 12 r c (rfv h))) (r := ρ 1) (c := ρ 9) ?_ (by omega) (by omega)
      show qM G 12 (ρ 1) (ρ 9) (rfv h)
      exact (c2 (P := (fun r c => qM G 12 r c (rfv h))) (r1) (by omega) (by omega))
    · show qCp (((11) + ((1) * ρ 3 + ((128) * ρ 9 + 0)))) (((1) + ((1) * ρ 4 + 0)))
      refine c2 (P := qCp) (r := ρ 3 + 128 * ρ 9 + 11) (c := ρ 4 + 1) ?_ (by omega) (by omega)
      show qCp (ρ 3 + 128 * ρ 9 + 11) (ρ 4 + 1)
      exact oCp (V := ρ 9) (k := 12 + (ρ 3 - 1).toNat) (by omega) (by omega) (by rw [rb, Int.toNat_natCast, r2]; omega)
/-- scB -/
theorem lem_711_ok (hU : uqG G C) : lem_711.1.2.1 = [] ∧ lemOK (PRd G C D xs) G rgs lem_711 := by
  refine ⟨rfl, fun ρ h ha hT => ?_⟩
  obtain ⟨-, -, hF, hG, hH, hA, hP⟩ := ha
  have f0 : (0 : Int) ≤ ((-1) + ((1) * ρ 3 + 0)) := hF _ (List.mem_of_getElem? (i := 0) rfl)
  have f1 : (0 : Int) ≤ ((8) + ((-1) * ρ 3 + 0)) := hF _ (List.mem_of_getElem? (i := 1) rfl)
  have f2 : (0 : Int) ≤ ((-5) + ((-1) * ρ 1 + ((1) * ρ 2 + ((7) * ρ 3 + 0)))) := hF _ (List.mem_of_getElem? (i := 2) rfl)
  have f3 : (0 : Int) ≤ ((5) + ((1) * ρ 1 + ((-1) * ρ 2 + ((-7) * ρ 3 + 0)))) := hF _ (List.mem_of_getElem? (i := 3) rfl)
  have f4 : (0 : Int) ≤ ((0) + ((1) * ρ 4 + ((-1) * ρ 6 + 0))) := hF _ (List.mem_of_getElem? (i := 4) rfl)
  have f5 : (0 : Int) ≤ ((0) + ((-1) * ρ 4 + ((1) * ρ 6 + 0))) := hF _ (List.mem_of_getElem? (i := 5) rfl)
  have g0 : G (ρ 0).toNat = 14 := by
    have q := (hG _ (List.mem_of_getElem? (i := 0) rfl)).2
    rwa [show ev ρ (0, [(0, 1)]) = ρ 0 from ev_v] at q
  have g1 : G (ρ 2).toNat = 20 := by
    have q := (hG _ (List.mem_of_getElem? (i := 1) rfl)).2
    rwa [show ev ρ (0, [(2, 1)]) = ρ 2 from ev_v] at q
  have g2 : G (ρ 1).toNat = 13 := by
    have q := (hG _ (List.mem_of_getElem? (i := 2) rfl)).2
    rwa [show ev ρ (0, [(1, 1)]) = ρ 1 from ev_v] at q
  have h1 : (0 : Int) ≤ ρ 3 ∧ ρ 3 ≤ 8 := hf_rg hT (hH _ (List.mem_of_getElem? (i := 1) rfl)) ev_v g1 rfl rfl rfl ev_v
  have h2 : (0 : Int) ≤ ρ 4 ∧ ρ 4 ≤ 5 := hf_rg hT (hH _ (List.mem_of_getElem? (i := 2) rfl)) ev_v g2 rfl rfl rfl ev_v
  have p0 : qM G 12 (ρ 1) (ρ 5) (rfv h) := c2 (P := (fun r c => qM G 12 r c (rfv h))) (show qM G 12 (((0) + ((1) * ρ 1 + 0))) (((0) + ((1) * ρ 5 + 0))) (rfv h) from hP _ (List.mem_of_getElem? (i := 0) rfl)) (by omega) (by omega)
  have p1 : qCp (ρ 3 + 128 * ρ 5 + 11) (ρ 6) := c2 (P := qCp) (show qCp (((11) + ((1) * ρ 3 + ((128) * ρ 5 + 0)))) (((0) + ((1) * ρ 6 + 0))) from hP _ (List.mem_of_getElem? (i := 1) rfl)) (by omega) (by omega)
  have cT : 0 ≤ ρ 0 := by
    have q := (hG _ (List.mem_of_getElem? (i := 0) rfl)).1
    rwa [show ev ρ (0, [(0, 1)]) = ρ 0 from ev_v] at q
  have cS : 0 ≤ ρ 2 := by
    have q := (hG _ (List.mem_of_getElem? (i := 1) rfl)).1
    rwa [show ev ρ (0, [(2, 1)]) = ρ 2 from ev_v] at q
  have cM : 0 ≤ ρ 1 := by
    have q := (hG _ (List.mem_of_getElem? (i := 2) rfl)).1
    rwa [show ev ρ (0, [(1, 1)]) = ρ 1 from ev_v] at q
  have y0 : rfv h (ρ 0).toNat 2 = some (.ref (ρ 2).toNat) := ob_v hT (hH _ (List.mem_of_getElem? (i := 0) rfl)) ev_v g0 rfl ev_v
  have y1 : hasI (rfv h (ρ 2).toNat 12) (ρ 3) := ob_i hT (hH _ (List.mem_of_getElem? (i := 1) rfl)) ev_v g1 rfl ev_v
  have y2 : hasI (rfv h (ρ 1).toNat 6) (ρ 4) := ob_i hT (hH _ (List.mem_of_getElem? (i := 2) rfl)) ev_v g2 rfl ev_v
  refine ⟨_, List.mem_cons_self, ρ, fun _ _ => rfl, fun q hq => absurd hq List.not_mem_nil, trivial, fun f hf => ?_, fun q hq => absurd hq List.not_mem_nil, fun q hq => absurd hq List.not_mem_nil, fun q hq => absurd hq List.not_mem_nil, fun q hq => ?_⟩
  · exact absurd hf List.not_mem_nil
  · simp only [List.mem_cons, List.not_mem_nil, or_false] at hq
    subst hq
    show q361 G (((0) + ((1) * ρ 2 + 0))) (((0) + ((1) * ρ 5 + 0))) (rfv h)
    refine c2 (P := (fun r c => q361 G r c (rfv h))) (r := ρ 2) (c := ρ 5) ?_ (by omega) (by omega)
    show q361 G (ρ 2) (ρ 5) (rfv h)
    exact s_scB (c := 0) (m := (ρ 3 - 1).toNat) cS g1 (by omega) (by omega) (by have q := (kCp (V := ρ 5) (k := 12 + (ρ 3 - 1).toNat) (by omega) (by omega) p1); omega) y2 p0
/-- e453 -/
theorem lem_712_ok (hU : uqG G C) : lem_712.1.2.1 = [] ∧ lemOK (PRd G C D xs) G rgs lem_712 := by
  refine ⟨rfl, fun ρ h ha hT => ?_⟩
  obtain ⟨-, -, hF, hG, hH, hA, hP⟩ := ha
  refine ⟨_, List.mem_cons_self, ρ, fun _ _ => rfl, fun q hq => absurd hq List.not_mem_nil, trivial, fun f hf => ?_, fun q hq => absurd hq List.not_mem_nil, fun q hq => absurd hq List.not_mem_nil, fun q hq => absurd hq List.not_mem_nil, fun q hq => ?_⟩
  · exact absurd hf List.not_mem_nil
  · simp only [List.mem_cons, List.not_mem_nil, or_false] at hq
    subst hq
    show q453 (vw C h) (((0) + 0))
    refine c2 (P := (fun (_ : Int) c => q453 (vw C h) c)) (r := 0) (r' := 0) (c := (0 : Int)) ?_ rfl (by omega)
    show q453 (vw C h) ((0 : Int))
    exact fun k _ _ hh => absurd hh (by omega)
/-- z453 -/
theorem lem_713_ok (hU : uqG G C) : lem_713.1.2.1 = [] ∧ lemOK (PRd G C D xs) G rgs lem_713 := by
  refine ⟨rfl, fun ρ h ha hT => ?_⟩
  obtain ⟨-, -, hF, hG, hH, hA, hP⟩ := ha
  have f0 : (0 : Int) ≤ ((0) + ((1) * ρ 1 + 0)) := hF _ (List.mem_of_getElem? (i := 0) rfl)
  have f1 : (0 : Int) ≤ ((1776) + ((-1) * ρ 1 + 0)) := hF _ (List.mem_of_getElem? (i := 1) rfl)
  have f2 : (0 : Int) ≤ ((0) + ((1) * ρ 3 + 0)) := hF _ (List.mem_of_getElem? (i := 2) rfl)
  have f3 : (0 : Int) ≤ ((0) + ((-1) * ρ 3 + 0)) := hF _ (List.mem_of_getElem? (i := 3) rfl)
  have g0 : G (ρ 0).toNat = 22 := by
    have q := (hG _ (List.mem_of_getElem? (i := 0) rfl)).2
    rwa [show ev ρ (0, [(0, 1)]) = ρ 0 from ev_v] at q
  have g1 : G (ρ 2).toNat = 120 := by
    have q := (hG _ (List.mem_of_getElem? (i := 1) rfl)).2
    rwa [show ev ρ (0, [(2, 1)]) = ρ 2 from ev_v] at q
  have b0 : (0 : Int) ≤ ((0) + ((1) * ρ 1 + 0)) := b_aA (hA _ (List.mem_of_getElem? (i := 0) rfl))
  have a0 : vw C h 120 ((ρ 1).toNat) = ρ 3 := vw_aA hU (hA _ (List.mem_of_getElem? (i := 0) rfl)) ev_v g1 (by omega) (by omega) (i := (ρ 1).toNat) (show ((((ρ 1).toNat : Nat)) : Int) = ((0) + ((1) * ρ 1 + 0)) by omega) ev_v
  have p0 : q453 (vw C h) (ρ 1) := c2 (P := (fun (_ : Int) c => q453 (vw C h) c)) (r := 0) (r' := 0) (show q453 (vw C h) (((0) + ((1) * ρ 1 + 0))) from hP _ (List.mem_of_getElem? (i := 0) rfl)) rfl (by omega)
  refine ⟨_, List.mem_cons_self, ρ, fun _ _ => rfl, fun q hq => absurd hq List.not_mem_nil, trivial, fun f hf => ?_, fun q hq => absurd hq List.not_mem_nil, fun q hq => absurd hq List.not_mem_nil, fun q hq => absurd hq List.not_mem_nil, fun q hq => ?_⟩
  · exact absurd hf List.not_mem_nil
  · simp only [List.mem_cons, List.not_mem_nil, or_false] at hq
    subst hq
    show q453 (vw C h) (((1) + ((1) * ρ 1 + 0)))
    refine c2 (P := (fun (_ : Int) c => q453 (vw C h) c)) (r := 0) (r' := 0) (c := ρ 1 + 1) ?_ rfl (by omega)
    show q453 (vw C h) (ρ 1 + 1)
    exact (c2 (P := (fun (_ : Int) c => q453 (vw C h) c)) (r := 0) (r' := 0) (r_z453 (k := ρ 1) (by omega) (by omega) a0 p0) rfl (by omega))
/-- rz0 -/
theorem lem_714_ok (hU : uqG G C) : lem_714.1.2.1 = [] ∧ lemOK (PRd G C D xs) G rgs lem_714 := by
  refine ⟨rfl, fun ρ h ha hT => ?_⟩
  obtain ⟨-, -, hF, hG, hH, hA, hP⟩ := ha
  have p0 : P47 (vw C h) ((55) + 0) := hP _ (List.mem_of_getElem? (i := 0) rfl)
  have p1 : q453 (vw C h) ((1777 : Int)) := c2 (P := (fun (_ : Int) c => q453 (vw C h) c)) (r := 0) (r' := 0) (show q453 (vw C h) (((1777) + 0)) from hP _ (List.mem_of_getElem? (i := 1) rfl)) rfl (by omega)
  refine ⟨_, List.mem_cons_self, ρ, fun _ _ => rfl, fun q hq => absurd hq List.not_mem_nil, trivial, fun f hf => ?_, fun q hq => absurd hq List.not_mem_nil, fun q hq => absurd hq List.not_mem_nil, fun q hq => absurd hq List.not_mem_nil, fun q hq => ?_⟩
  · exact absurd hf List.not_mem_nil
  · simp only [List.mem_cons, List.not_mem_nil, or_false] at hq
    subst hq
    show qDr (vw C h) no_ no_ (((0) + 0))
    refine c2 (P := (fun (_ : Int) c => qDr (vw C h) no_ no_ c)) (r := 0) (r' := 0) (c := (0 : Int)) ?_ rfl (by omega)
    show qDr (vw C h) no_ no_ ((0 : Int))
    exact r_rz0 (fun i h1 h2 => p0 i (by omega) h2) p1
/-- rsA -/
theorem lem_715_ok (hU : uqG G C) : lem_715.1.2.1 = [] ∧ lemOK (PRd G C D xs) G rgs lem_715 := by
  refine ⟨rfl, fun ρ h ha hT => ?_⟩
  obtain ⟨-, -, hF, hG, hH, hA, hP⟩ := ha
  have p0 : qDr (vw C h) no_ no_ (ρ 0) := c2 (P := (fun (_ : Int) c => qDr (vw C h) no_ no_ c)) (r := 0) (r' := 0) (show qDr (vw C h) no_ no_ (((0) + ((1) * ρ 0 + 0))) from hP _ (List.mem_of_getElem? (i := 0) rfl)) rfl (by omega)
  refine ⟨_, List.mem_cons_self, ρ, fun _ _ => rfl, fun q hq => absurd hq List.not_mem_nil, trivial, fun f hf => ?_, fun q hq => absurd hq List.not_mem_nil, fun q hq => absurd hq List.not_mem_nil, fun q hq => absurd hq List.not_mem_nil, fun q hq => ?_⟩
  · exact absurd hf List.not_mem_nil
  · simp only [List.mem_cons, List.not_mem_nil, or_false] at hq
    subst hq
    show qDr (vw C h) (fun q => q = 1) no_ (((0) + ((1) * ρ 0 + 0)))
    refine c2 (P := (fun (_ : Int) c => qDr (vw C h) (fun q => q = 1) no_ c)) (r := 0) (r' := 0) (c := ρ 0) ?_ rfl (by omega)
    show qDr (vw C h) (fun q => q = 1) no_ (ρ 0)
    exact ⟨p0.1, nH_ex (fun _ _ _ _ hh => hh) p0.2.1, p0.2.2⟩
/-- rsB -/
theorem lem_716_ok (hU : uqG G C) : lem_716.1.2.1 = [] ∧ lemOK (PRd G C D xs) G rgs lem_716 := by
  refine ⟨rfl, fun ρ h ha hT => ?_⟩
  obtain ⟨-, -, hF, hG, hH, hA, hP⟩ := ha
  have f0 : (0 : Int) ≤ ((0) + ((1) * ρ 2 + 0)) := hF _ (List.mem_of_getElem? (i := 0) rfl)
  have f1 : (0 : Int) ≤ ((999) + ((-1) * ρ 2 + 0)) := hF _ (List.mem_of_getElem? (i := 1) rfl)
  have g0 : G (ρ 0).toNat = 22 := by
    have q := (hG _ (List.mem_of_getElem? (i := 0) rfl)).2
    rwa [show ev ρ (0, [(0, 1)]) = ρ 0 from ev_v] at q
  have g1 : G (ρ 1).toNat = 120 := by
    have q := (hG _ (List.mem_of_getElem? (i := 1) rfl)).2
    rwa [show ev ρ (0, [(1, 1)]) = ρ 1 from ev_v] at q
  have b0 : (0 : Int) ≤ ((1) + 0) := b_aA (hA _ (List.mem_of_getElem? (i := 0) rfl))
  have a0 : vw C h 120 (1) = ρ 2 := vw_aA hU (hA _ (List.mem_of_getElem? (i := 0) rfl)) ev_v g1 (by omega) (by omega) (i := 1) (show (((1 : Nat)) : Int) = ((1) + 0) by omega) ev_v
  have p0 : qDr (vw C h) (fun q => q = 1) no_ (ρ 3) := c2 (P := (fun (_ : Int) c => qDr (vw C h) (fun q => q = 1) no_ c)) (r := 0) (r' := 0) (show qDr (vw C h) (fun q => q = 1) no_ (((0) + ((1) * ρ 3 + 0))) from hP _ (List.mem_of_getElem? (i := 0) rfl)) rfl (by omega)
  have p1 : qSet (ρ 2 + 16777216 * ρ 3 + 131072) (ρ 4) := c2 (P := qSet) (show qSet (((131072) + ((1) * ρ 2 + ((16777216) * ρ 3 + 0)))) (((0) + ((1) * ρ 4 + 0))) from hP _ (List.mem_of_getElem? (i := 1) rfl)) (by omega) (by omega)
  have rb := kSet (V := ρ 3) (v := ρ 2) (k := 2) (by omega) (by decide) (by omega) (by omega) p1
  refine ⟨_, List.mem_cons_self, ρ, fun _ _ => rfl, fun q hq => absurd hq List.not_mem_nil, trivial, fun f hf => ?_, fun q hq => absurd hq List.not_mem_nil, fun q hq => absurd hq List.not_mem_nil, fun q hq => absurd hq List.not_mem_nil, fun q hq => ?_⟩
  · exact absurd hf List.not_mem_nil
  · simp only [List.mem_cons, List.not_mem_nil, or_false] at hq
    subst hq
    show qDr (vw C h) no_ no_ (((0) + ((1) * ρ 4 + 0)))
    refine c2 (P := (fun (_ : Int) c => qDr (vw C h) no_ no_ c)) (r := 0) (r' := 0) (c := ρ 4) ?_ rfl (by omega)
    show qDr (vw C h) no_ no_ (ρ 4)
    exact (c2 (P := (fun (_ : Int) c => qDr (vw C h) no_ no_ c)) (r := 0) (r' := 0) (r_drs (k := 2) (q := 1) (by decide) (nP (by omega)) rfl (by omega) (by omega) p0 a0) rfl (by omega))
/-- rlA -/
theorem lem_717_ok (hU : uqG G C) : lem_717.1.2.1 = [] ∧ lemOK (PRd G C D xs) G rgs lem_717 := by
  refine ⟨rfl, fun ρ h ha hT => ?_⟩
  obtain ⟨-, -, hF, hG, hH, hA, hP⟩ := ha
  have p0 : qDr (vw C h) no_ no_ (ρ 0) := c2 (P := (fun (_ : Int) c => qDr (vw C h) no_ no_ c)) (r := 0) (r' := 0) (show qDr (vw C h) no_ no_ (((0) + ((1) * ρ 0 + 0))) from hP _ (List.mem_of_getElem? (i := 0) rfl)) rfl (by omega)
  refine ⟨_, List.mem_cons_self, ρ, fun _ _ => rfl, fun q hq => absurd hq List.not_mem_nil, trivial, fun f hf => ?_, fun q hq => absurd hq List.not_mem_nil, fun q hq => absurd hq List.not_mem_nil, fun q hq => absurd hq List.not_mem_nil, fun q hq => ?_⟩
  · exact absurd hf List.not_mem_nil
  · simp only [List.mem_cons, List.not_mem_nil, or_false] at hq
    subst hq
    show qDr (vw C h) (fun q => q = 2) no_ (((0) + ((1) * ρ 0 + 0)))
    refine c2 (P := (fun (_ : Int) c => qDr (vw C h) (fun q => q = 2) no_ c)) (r := 0) (r' := 0) (c := ρ 0) ?_ rfl (by omega)
    show qDr (vw C h) (fun q => q = 2) no_ (ρ 0)
    exact ⟨p0.1, nH_ex (fun _ _ _ _ hh => hh) p0.2.1, p0.2.2⟩
/-- rlB -/
theorem lem_718_ok (hU : uqG G C) : lem_718.1.2.1 = [] ∧ lemOK (PRd G C D xs) G rgs lem_718 := by
  refine ⟨rfl, fun ρ h ha hT => ?_⟩
  obtain ⟨-, -, hF, hG, hH, hA, hP⟩ := ha
  have f0 : (0 : Int) ≤ ((0) + ((1) * ρ 2 + 0)) := hF _ (List.mem_of_getElem? (i := 0) rfl)
  have f1 : (0 : Int) ≤ ((999) + ((-1) * ρ 2 + 0)) := hF _ (List.mem_of_getElem? (i := 1) rfl)
  have g0 : G (ρ 0).toNat = 22 := by
    have q := (hG _ (List.mem_of_getElem? (i := 0) rfl)).2
    rwa [show ev ρ (0, [(0, 1)]) = ρ 0 from ev_v] at q
  have g1 : G (ρ 1).toNat = 120 := by
    have q := (hG _ (List.mem_of_getElem? (i := 1) rfl)).2
    rwa [show ev ρ (0, [(1, 1)]) = ρ 1 from ev_v] at q
  have b0 : (0 : Int) ≤ ((2) + 0) := b_aA (hA _ (List.mem_of_getElem? (i := 0) rfl))
  have a0 : vw C h 120 (2) = ρ 2 := vw_aA hU (hA _ (List.mem_of_getElem? (i := 0) rfl)) ev_v g1 (by omega) (by omega) (i := 2) (show (((2 : Nat)) : Int) = ((2) + 0) by omega) ev_v
  have p0 : qDr (vw C h) (fun q => q = 2) no_ (ρ 3) := c2 (P := (fun (_ : Int) c => qDr (vw C h) (fun q => q = 2) no_ c)) (r := 0) (r' := 0) (show qDr (vw C h) (fun q => q = 2) no_ (((0) + ((1) * ρ 3 + 0))) from hP _ (List.mem_of_getElem? (i := 0) rfl)) rfl (by omega)
  have p1 : qSet (ρ 2 + 16777216 * ρ 3 + 65536) (ρ 4) := c2 (P := qSet) (show qSet (((65536) + ((1) * ρ 2 + ((16777216) * ρ 3 + 0)))) (((0) + ((1) * ρ 4 + 0))) from hP _ (List.mem_of_getElem? (i := 1) rfl)) (by omega) (by omega)
  have rb := kSet (V := ρ 3) (v := ρ 2) (k := 1) (by omega) (by decide) (by omega) (by omega) p1
  refine ⟨_, List.mem_cons_self, ρ, fun _ _ => rfl, fun q hq => absurd hq List.not_mem_nil, trivial, fun f hf => ?_, fun q hq => absurd hq List.not_mem_nil, fun q hq => absurd hq List.not_mem_nil, fun q hq => absurd hq List.not_mem_nil, fun q hq => ?_⟩
  · exact absurd hf List.not_mem_nil
  · simp only [List.mem_cons, List.not_mem_nil, or_false] at hq
    subst hq
    show qDr (vw C h) no_ no_ (((0) + ((1) * ρ 4 + 0)))
    refine c2 (P := (fun (_ : Int) c => qDr (vw C h) no_ no_ c)) (r := 0) (r' := 0) (c := ρ 4) ?_ rfl (by omega)
    show qDr (vw C h) no_ no_ (ρ 4)
    exact (c2 (P := (fun (_ : Int) c => qDr (vw C h) no_ no_ c)) (r := 0) (r' := 0) (r_drs (k := 1) (q := 2) (by decide) (nP (by omega)) rfl (by omega) (by omega) p0 a0) rfl (by omega))
/-- rmA -/
theorem lem_719_ok (hU : uqG G C) : lem_719.1.2.1 = [] ∧ lemOK (PRd G C D xs) G rgs lem_719 := by
  refine ⟨rfl, fun ρ h ha hT => ?_⟩
  obtain ⟨-, -, hF, hG, hH, hA, hP⟩ := ha
  have f0 : (0 : Int) ≤ ((0) + ((1) * ρ 1 + 0)) := hF _ (List.mem_of_getElem? (i := 0) rfl)
  have f1 : (0 : Int) ≤ ((7) + ((-1) * ρ 1 + 0)) := hF _ (List.mem_of_getElem? (i := 1) rfl)
  have g0 : G (ρ 0).toNat = 22 := by
    have q := (hG _ (List.mem_of_getElem? (i := 0) rfl)).2
    rwa [show ev ρ (0, [(0, 1)]) = ρ 0 from ev_v] at q
  have g1 : G (ρ 2).toNat = 124 := by
    have q := (hG _ (List.mem_of_getElem? (i := 1) rfl)).2
    rwa [show ev ρ (0, [(2, 1)]) = ρ 2 from ev_v] at q
  have b0 : (0 : Int) ≤ ((7) + 0) := b_aA (hA _ (List.mem_of_getElem? (i := 0) rfl))
  have a0 : vw C h 124 (7) = ρ 1 := vw_aA hU (hA _ (List.mem_of_getElem? (i := 0) rfl)) ev_v g1 (by omega) (by omega) (i := 7) (show (((7 : Nat)) : Int) = ((7) + 0) by omega) ev_v
  have p0 : qDr (vw C h) no_ no_ (ρ 3) := c2 (P := (fun (_ : Int) c => qDr (vw C h) no_ no_ c)) (r := 0) (r' := 0) (show qDr (vw C h) no_ no_ (((0) + ((1) * ρ 3 + 0))) from hP _ (List.mem_of_getElem? (i := 0) rfl)) rfl (by omega)
  refine ⟨_, List.mem_cons_self, ρ, fun _ _ => rfl, fun q hq => absurd hq List.not_mem_nil, trivial, fun f hf => ?_, fun q hq => absurd hq List.not_mem_nil, fun q hq => absurd hq List.not_mem_nil, fun q hq => absurd hq List.not_mem_nil, fun q hq => ?_⟩
  · exact absurd hf List.not_mem_nil
  · simp only [List.mem_cons, List.not_mem_nil, or_false] at hq
    subst hq
    show 0 ≤ (((0) + ((1) * ρ 1 + 0))) ∧ qDr (vw C h) (fun q => (q : Int) = 41 + (((0) + ((1) * ρ 1 + 0))) ∨ (q : Int) = 49 + (((0) + ((1) * ρ 1 + 0)))) (fun q => q = 7) (((0) + ((1) * ρ 3 + 0)))
    refine c2 (P := (fun r c => 0 ≤ r ∧ qDr (vw C h) (fun q => (q : Int) = 41 + r ∨ (q : Int) = 49 + r) (fun q => q = 7) c)) (r := ρ 1) (c := ρ 3) ?_ (by omega) (by omega)
    show 0 ≤ (ρ 1) ∧ qDr (vw C h) (fun q => (q : Int) = 41 + (ρ 1) ∨ (q : Int) = 49 + (ρ 1)) (fun q => q = 7) (ρ 3)
    exact ⟨by omega, p0.1, nH_ex (fun _ _ _ _ hh => hh) p0.2.1, pH_ex (fun _ _ _ _ hh => hh) p0.2.2⟩
/-- rm0 -/
theorem lem_720_ok (hU : uqG G C) : lem_720.1.2.1 = [] ∧ lemOK (PRd G C D xs) G rgs lem_720 := by
  refine ⟨rfl, fun ρ h ha hT => ?_⟩
  obtain ⟨-, -, hF, hG, hH, hA, hP⟩ := ha
  have f0 : (0 : Int) ≤ ((0) + ((1) * ρ 1 + 0)) := hF _ (List.mem_of_getElem? (i := 0) rfl)
  have f1 : (0 : Int) ≤ ((7) + ((-1) * ρ 1 + 0)) := hF _ (List.mem_of_getElem? (i := 1) rfl)
  have f2 : (0 : Int) ≤ ((1) + ((1) * ρ 1 + ((-1) * ρ 6 + 0))) := hF _ (List.mem_of_getElem? (i := 2) rfl)
  have f3 : (0 : Int) ≤ ((-1) + ((-1) * ρ 1 + ((1) * ρ 6 + 0))) := hF _ (List.mem_of_getElem? (i := 3) rfl)
  have f4 : (0 : Int) ≤ ((1) + ((-1) * ρ 4 + 0)) := hF _ (List.mem_of_getElem? (i := 4) rfl)
  have f5 : (0 : Int) ≤ ((-1) + ((1) * ρ 4 + 0)) := hF _ (List.mem_of_getElem? (i := 5) rfl)
  have f6 : (0 : Int) ≤ ((0) + ((-1) * ρ 5 + 0)) := hF _ (List.mem_of_getElem? (i := 6) rfl)
  have f7 : (0 : Int) ≤ ((0) + ((1) * ρ 5 + 0)) := hF _ (List.mem_of_getElem? (i := 7) rfl)
  have g0 : G (ρ 0).toNat = 22 := by
    have q := (hG _ (List.mem_of_getElem? (i := 0) rfl)).2
    rwa [show ev ρ (0, [(0, 1)]) = ρ 0 from ev_v] at q
  have g1 : G (ρ 2).toNat = 120 := by
    have q := (hG _ (List.mem_of_getElem? (i := 1) rfl)).2
    rwa [show ev ρ (0, [(2, 1)]) = ρ 2 from ev_v] at q
  have g2 : G (ρ 3).toNat = 124 := by
    have q := (hG _ (List.mem_of_getElem? (i := 2) rfl)).2
    rwa [show ev ρ (0, [(3, 1)]) = ρ 3 from ev_v] at q
  have b0 : (0 : Int) ≤ ((41) + ((1) * ρ 1 + 0)) := b_aA (hA _ (List.mem_of_getElem? (i := 0) rfl))
  have b1 : (0 : Int) ≤ ((49) + ((1) * ρ 1 + 0)) := b_aA (hA _ (List.mem_of_getElem? (i := 1) rfl))
  have b2 : (0 : Int) ≤ ((7) + 0) := b_aA (hA _ (List.mem_of_getElem? (i := 2) rfl))
  have a0 : vw C h 120 (41 + (ρ 1).toNat) = ρ 4 := vw_aA hU (hA _ (List.mem_of_getElem? (i := 0) rfl)) ev_v g1 (by omega) (by omega) (i := 41 + (ρ 1).toNat) (show (((41 + (ρ 1).toNat : Nat)) : Int) = ((41) + ((1) * ρ 1 + 0)) by omega) ev_v
  have a1 : vw C h 120 (49 + (ρ 1).toNat) = ρ 5 := vw_aA hU (hA _ (List.mem_of_getElem? (i := 1) rfl)) ev_v g1 (by omega) (by omega) (i := 49 + (ρ 1).toNat) (show (((49 + (ρ 1).toNat : Nat)) : Int) = ((49) + ((1) * ρ 1 + 0)) by omega) ev_v
  have a2 : vw C h 124 (7) = ρ 6 := vw_aA hU (hA _ (List.mem_of_getElem? (i := 2) rfl)) ev_v g2 (by omega) (by omega) (i := 7) (show (((7 : Nat)) : Int) = ((7) + 0) by omega) ev_v
  have p0 : 0 ≤ (ρ 1) ∧ qDr (vw C h) (fun q => (q : Int) = 41 + (ρ 1) ∨ (q : Int) = 49 + (ρ 1)) (fun q => q = 7) (ρ 7) := c2 (P := (fun r c => 0 ≤ r ∧ qDr (vw C h) (fun q => (q : Int) = 41 + r ∨ (q : Int) = 49 + r) (fun q => q = 7) c)) (show 0 ≤ (((0) + ((1) * ρ 1 + 0))) ∧ qDr (vw C h) (fun q => (q : Int) = 41 + (((0) + ((1) * ρ 1 + 0))) ∨ (q : Int) = 49 + (((0) + ((1) * ρ 1 + 0)))) (fun q => q = 7) (((0) + ((1) * ρ 7 + 0))) from hP _ (List.mem_of_getElem? (i := 0) rfl)) (by omega) (by omega)
  have p1 : P190 (vw C h) (ρ 1) := c2 (P := (fun r (_ : Int) => P190 (vw C h) r)) (c := 0) (c' := 0) (show P190 (vw C h) (((0) + ((1) * ρ 1 + 0))) from hP _ (List.mem_of_getElem? (i := 1) rfl)) (by omega) rfl
  have p2 : qNM (ρ 1 + 16 * ρ 7) (ρ 8) := c2 (P := qNM) (show qNM (((0) + ((1) * ρ 1 + ((16) * ρ 7 + 0)))) (((0) + ((1) * ρ 8 + 0))) from hP _ (List.mem_of_getElem? (i := 2) rfl)) (by omega) (by omega)
  have rb := kNM (a := ρ 7) (m := (ρ 1).toNat) (by omega) (by omega) p2
  refine ⟨_, List.mem_cons_self, ρ, fun _ _ => rfl, fun q hq => absurd hq List.not_mem_nil, trivial, fun f hf => ?_, fun q hq => absurd hq List.not_mem_nil, fun q hq => absurd hq List.not_mem_nil, fun q hq => absurd hq List.not_mem_nil, fun q hq => ?_⟩
  · exact absurd hf List.not_mem_nil
  · simp only [List.mem_cons, List.not_mem_nil, or_false] at hq
    subst hq
    show qDr (vw C h) no_ no_ (((0) + ((1) * ρ 8 + 0)))
    refine c2 (P := (fun (_ : Int) c => qDr (vw C h) no_ no_ c)) (r := 0) (r' := 0) (c := ρ 8) ?_ rfl (by omega)
    show qDr (vw C h) no_ no_ (ρ 8)
    exact (c2 (P := (fun (_ : Int) c => qDr (vw C h) no_ no_ c)) (r := 0) (r' := 0) (r_rm0 (m := (ρ 1).toNat) (by omega) (by omega) (by omega) (by omega) a0 a1 a2 (by rw [toN (show (0 : Int) ≤ ρ 1 by omega)]; exact p0)) rfl (by omega))
/-- rm1 -/
theorem lem_721_ok (hU : uqG G C) : lem_721.1.2.1 = [] ∧ lemOK (PRd G C D xs) G rgs lem_721 := by
  refine ⟨rfl, fun ρ h ha hT => ?_⟩
  obtain ⟨-, -, hF, hG, hH, hA, hP⟩ := ha
  have f0 : (0 : Int) ≤ ((0) + ((1) * ρ 1 + 0)) := hF _ (List.mem_of_getElem? (i := 0) rfl)
  have f1 : (0 : Int) ≤ ((7) + ((-1) * ρ 1 + 0)) := hF _ (List.mem_of_getElem? (i := 1) rfl)
  have f2 : (0 : Int) ≤ ((1) + ((1) * ρ 1 + ((-1) * ρ 6 + 0))) := hF _ (List.mem_of_getElem? (i := 2) rfl)
  have f3 : (0 : Int) ≤ ((-1) + ((-1) * ρ 1 + ((1) * ρ 6 + 0))) := hF _ (List.mem_of_getElem? (i := 3) rfl)
  have f4 : (0 : Int) ≤ ((0) + ((1) * ρ 4 + 0)) := hF _ (List.mem_of_getElem? (i := 4) rfl)
  have f5 : (0 : Int) ≤ ((9999) + ((-1) * ρ 4 + 0)) := hF _ (List.mem_of_getElem? (i := 5) rfl)
  have f6 : (0 : Int) ≤ ((0) + ((1) * ρ 5 + 0)) := hF _ (List.mem_of_getElem? (i := 6) rfl)
  have f7 : (0 : Int) ≤ ((9999) + ((-1) * ρ 5 + 0)) := hF _ (List.mem_of_getElem? (i := 7) rfl)
  have g0 : G (ρ 0).toNat = 22 := by
    have q := (hG _ (List.mem_of_getElem? (i := 0) rfl)).2
    rwa [show ev ρ (0, [(0, 1)]) = ρ 0 from ev_v] at q
  have g1 : G (ρ 2).toNat = 120 := by
    have q := (hG _ (List.mem_of_getElem? (i := 1) rfl)).2
    rwa [show ev ρ (0, [(2, 1)]) = ρ 2 from ev_v] at q
  have g2 : G (ρ 3).toNat = 124 := by
    have q := (hG _ (List.mem_of_getElem? (i := 2) rfl)).2
    rwa [show ev ρ (0, [(3, 1)]) = ρ 3 from ev_v] at q
  have b0 : (0 : Int) ≤ ((41) + ((1) * ρ 1 + 0)) := b_aA (hA _ (List.mem_of_getElem? (i := 0) rfl))
  have b1 : (0 : Int) ≤ ((49) + ((1) * ρ 1 + 0)) := b_aA (hA _ (List.mem_of_getElem? (i := 1) rfl))
  have b2 : (0 : Int) ≤ ((7) + 0) := b_aA (hA _ (List.mem_of_getElem? (i := 2) rfl))
  have a0 : vw C h 120 (41 + (ρ 1).toNat) = ρ 4 := vw_aA hU (hA _ (List.mem_of_getElem? (i := 0) rfl)) ev_v g1 (by omega) (by omega) (i := 41 + (ρ 1).toNat) (show (((41 + (ρ 1).toNat : Nat)) : Int) = ((41) + ((1) * ρ 1 + 0)) by omega) ev_v
  have a1 : vw C h 120 (49 + (ρ 1).toNat) = ρ 5 := vw_aA hU (hA _ (List.mem_of_getElem? (i := 1) rfl)) ev_v g1 (by omega) (by omega) (i := 49 + (ρ 1).toNat) (show (((49 + (ρ 1).toNat : Nat)) : Int) = ((49) + ((1) * ρ 1 + 0)) by omega) ev_v
  have a2 : vw C h 124 (7) = ρ 6 := vw_aA hU (hA _ (List.mem_of_getElem? (i := 2) rfl)) ev_v g2 (by omega) (by omega) (i := 7) (show (((7 : Nat)) : Int) = ((7) + 0) by omega) ev_v
  have p0 : 0 ≤ (ρ 1) ∧ qDr (vw C h) (fun q => (q : Int) = 41 + (ρ 1) ∨ (q : Int) = 49 + (ρ 1)) (fun q => q = 7) (ρ 7) := c2 (P := (fun r c => 0 ≤ r ∧ qDr (vw C h) (fun q => (q : Int) = 41 + r ∨ (q : Int) = 49 + r) (fun q => q = 7) c)) (show 0 ≤ (((0) + ((1) * ρ 1 + 0))) ∧ qDr (vw C h) (fun q => (q : Int) = 41 + (((0) + ((1) * ρ 1 + 0))) ∨ (q : Int) = 49 + (((0) + ((1) * ρ 1 + 0)))) (fun q => q = 7) (((0) + ((1) * ρ 7 + 0))) from hP _ (List.mem_of_getElem? (i := 0) rfl)) (by omega) (by omega)
  have p1 : P190 (vw C h) (ρ 1) := c2 (P := (fun r (_ : Int) => P190 (vw C h) r)) (c := 0) (c' := 0) (show P190 (vw C h) (((0) + ((1) * ρ 1 + 0))) from hP _ (List.mem_of_getElem? (i := 1) rfl)) (by omega) rfl
  have p2 : qNM (ρ 1 + 16 * ρ 7) (ρ 8) := c2 (P := qNM) (show qNM (((0) + ((1) * ρ 1 + ((16) * ρ 7 + 0)))) (((0) + ((1) * ρ 8 + 0))) from hP _ (List.mem_of_getElem? (i := 2) rfl)) (by omega) (by omega)
  have p3 : qSet (65536 * ρ 1 + ρ 4 + 16777216 * ρ 8 + 1310720) (ρ 9) := c2 (P := qSet) (show qSet (((1310720) + ((65536) * ρ 1 + ((1) * ρ 4 + ((16777216) * ρ 8 + 0))))) (((0) + ((1) * ρ 9 + 0))) from hP _ (List.mem_of_getElem? (i := 3) rfl)) (by omega) (by omega)
  have p4 : qSet (65536 * ρ 1 + ρ 5 + 16777216 * ρ 9 + 1835008) (ρ 10) := c2 (P := qSet) (show qSet (((1835008) + ((65536) * ρ 1 + ((1) * ρ 5 + ((16777216) * ρ 9 + 0))))) (((0) + ((1) * ρ 10 + 0))) from hP _ (List.mem_of_getElem? (i := 4) rfl)) (by omega) (by omega)
  have rb1 := kNM (a := ρ 7) (m := (ρ 1).toNat) (by omega) (by omega) p2
  have rb2 := kSet (V := ρ 8) (v := ρ 4) (k := 20 + (ρ 1).toNat) (by omega) (by omega) (by omega) (by omega) p3
  have rb3 := kSet (V := ρ 9) (v := ρ 5) (k := 28 + (ρ 1).toNat) (by omega) (by omega) (by omega) (by omega) p4
  rw [rb1, Int.toNat_natCast] at rb2
  rw [rb2, Int.toNat_natCast] at rb3
  refine ⟨_, List.mem_cons_self, ρ, fun _ _ => rfl, fun q hq => absurd hq List.not_mem_nil, trivial, fun f hf => ?_, fun q hq => absurd hq List.not_mem_nil, fun q hq => absurd hq List.not_mem_nil, fun q hq => absurd hq List.not_mem_nil, fun q hq => ?_⟩
  · exact absurd hf List.not_mem_nil
  · simp only [List.mem_cons, List.not_mem_nil, or_false] at hq
    subst hq
    show qDr (vw C h) no_ no_ (((0) + ((1) * ρ 10 + 0)))
    refine c2 (P := (fun (_ : Int) c => qDr (vw C h) no_ no_ c)) (r := 0) (r' := 0) (c := ρ 10) ?_ rfl (by omega)
    show qDr (vw C h) no_ no_ (ρ 10)
    exact (c2 (P := (fun (_ : Int) c => qDr (vw C h) no_ no_ c)) (r := 0) (r' := 0) (r_rm1 (m := (ρ 1).toNat) (by omega) (by omega) (by omega) (by omega) (by omega) (by omega) a0 a1 a2 (by rw [toN (show (0 : Int) ≤ ρ 1 by omega)]; exact p0)) rfl (by omega))
/-- rtA -/
theorem lem_722_ok (hU : uqG G C) : lem_722.1.2.1 = [] ∧ lemOK (PRd G C D xs) G rgs lem_722 := by
  refine ⟨rfl, fun ρ h ha hT => ?_⟩
  obtain ⟨-, -, hF, hG, hH, hA, hP⟩ := ha
  have f0 : (0 : Int) ≤ ((0) + ((1) * ρ 1 + 0)) := hF _ (List.mem_of_getElem? (i := 0) rfl)
  have f1 : (0 : Int) ≤ ((7) + ((-1) * ρ 1 + 0)) := hF _ (List.mem_of_getElem? (i := 1) rfl)
  have f2 : (0 : Int) ≤ ((0) + ((1) * ρ 4 + 0)) := hF _ (List.mem_of_getElem? (i := 2) rfl)
  have f3 : (0 : Int) ≤ ((4) + ((-1) * ρ 4 + 0)) := hF _ (List.mem_of_getElem? (i := 3) rfl)
  have f4 : (0 : Int) ≤ ((0) + ((5) * ρ 1 + ((-1) * ρ 2 + ((1) * ρ 4 + 0)))) := hF _ (List.mem_of_getElem? (i := 4) rfl)
  have f5 : (0 : Int) ≤ ((0) + ((-5) * ρ 1 + ((1) * ρ 2 + ((-1) * ρ 4 + 0)))) := hF _ (List.mem_of_getElem? (i := 5) rfl)
  have f6 : (0 : Int) ≤ ((1) + ((1) * ρ 1 + ((-1) * ρ 5 + 0))) := hF _ (List.mem_of_getElem? (i := 6) rfl)
  have f7 : (0 : Int) ≤ ((-1) + ((-1) * ρ 1 + ((1) * ρ 5 + 0))) := hF _ (List.mem_of_getElem? (i := 7) rfl)
  have g0 : G (ρ 0).toNat = 22 := by
    have q := (hG _ (List.mem_of_getElem? (i := 0) rfl)).2
    rwa [show ev ρ (0, [(0, 1)]) = ρ 0 from ev_v] at q
  have g1 : G (ρ 3).toNat = 124 := by
    have q := (hG _ (List.mem_of_getElem? (i := 1) rfl)).2
    rwa [show ev ρ (0, [(3, 1)]) = ρ 3 from ev_v] at q
  have b0 : (0 : Int) ≤ ((24) + ((1) * ρ 1 + 0)) := b_aA (hA _ (List.mem_of_getElem? (i := 0) rfl))
  have b1 : (0 : Int) ≤ ((7) + 0) := b_aA (hA _ (List.mem_of_getElem? (i := 1) rfl))
  have a0 : vw C h 124 (24 + (ρ 1).toNat) = ρ 4 := vw_aA hU (hA _ (List.mem_of_getElem? (i := 0) rfl)) ev_v g1 (by omega) (by omega) (i := 24 + (ρ 1).toNat) (show (((24 + (ρ 1).toNat : Nat)) : Int) = ((24) + ((1) * ρ 1 + 0)) by omega) ev_v
  have a1 : vw C h 124 (7) = ρ 5 := vw_aA hU (hA _ (List.mem_of_getElem? (i := 1) rfl)) ev_v g1 (by omega) (by omega) (i := 7) (show (((7 : Nat)) : Int) = ((7) + 0) by omega) ev_v
  have p0 : qDr (vw C h) no_ no_ (ρ 6) := c2 (P := (fun (_ : Int) c => qDr (vw C h) no_ no_ c)) (r := 0) (r' := 0) (show qDr (vw C h) no_ no_ (((0) + ((1) * ρ 6 + 0))) from hP _ (List.mem_of_getElem? (i := 0) rfl)) rfl (by omega)
  refine ⟨_, List.mem_cons_self, ρ, fun _ _ => rfl, fun q hq => absurd hq List.not_mem_nil, trivial, fun f hf => ?_, fun q hq => absurd hq List.not_mem_nil, fun q hq => absurd hq List.not_mem_nil, fun q hq => absurd hq List.not_mem_nil, fun q hq => ?_⟩
  · exact absurd hf List.not_mem_nil
  · simp only [List.mem_cons, List.not_mem_nil, or_false] at hq
    subst hq
    show qDr (vw C h) (fun q => (q : Int) = 217 + (((0) + ((1) * ρ 2 + 0)))) no_ (((0) + ((1) * ρ 6 + 0)))
    refine c2 (P := (fun r c => qDr (vw C h) (fun q => (q : Int) = 217 + r) no_ c)) (r := ρ 2) (c := ρ 6) ?_ (by omega) (by omega)
    show qDr (vw C h) (fun q => (q : Int) = 217 + (ρ 2)) no_ (ρ 6)
    exact ⟨p0.1, nH_ex (fun _ _ _ _ hh => hh) p0.2.1, p0.2.2⟩
/-- rtB -/
theorem lem_723_ok (hU : uqG G C) : lem_723.1.2.1 = [] ∧ lemOK (PRd G C D xs) G rgs lem_723 := by
  refine ⟨rfl, fun ρ h ha hT => ?_⟩
  obtain ⟨-, -, hF, hG, hH, hA, hP⟩ := ha
  have f0 : (0 : Int) ≤ ((0) + ((1) * ρ 1 + 0)) := hF _ (List.mem_of_getElem? (i := 0) rfl)
  have f1 : (0 : Int) ≤ ((7) + ((-1) * ρ 1 + 0)) := hF _ (List.mem_of_getElem? (i := 1) rfl)
  have f2 : (0 : Int) ≤ ((0) + ((1) * ρ 6 + 0)) := hF _ (List.mem_of_getElem? (i := 2) rfl)
  have f3 : (0 : Int) ≤ ((4) + ((-1) * ρ 6 + 0)) := hF _ (List.mem_of_getElem? (i := 3) rfl)
  have f4 : (0 : Int) ≤ ((0) + ((5) * ρ 1 + ((-1) * ρ 2 + ((1) * ρ 6 + 0)))) := hF _ (List.mem_of_getElem? (i := 4) rfl)
  have f5 : (0 : Int) ≤ ((0) + ((-5) * ρ 1 + ((1) * ρ 2 + ((-1) * ρ 6 + 0)))) := hF _ (List.mem_of_getElem? (i := 5) rfl)
  have f6 : (0 : Int) ≤ ((0) + ((1) * ρ 5 + 0)) := hF _ (List.mem_of_getElem? (i := 6) rfl)
  have f7 : (0 : Int) ≤ ((63) + ((-1) * ρ 5 + 0)) := hF _ (List.mem_of_getElem? (i := 7) rfl)
  have g0 : G (ρ 0).toNat = 22 := by
    have q := (hG _ (List.mem_of_getElem? (i := 0) rfl)).2
    rwa [show ev ρ (0, [(0, 1)]) = ρ 0 from ev_v] at q
  have g1 : G (ρ 3).toNat = 120 := by
    have q := (hG _ (List.mem_of_getElem? (i := 1) rfl)).2
    rwa [show ev ρ (0, [(3, 1)]) = ρ 3 from ev_v] at q
  have g2 : G (ρ 4).toNat = 124 := by
    have q := (hG _ (List.mem_of_getElem? (i := 2) rfl)).2
    rwa [show ev ρ (0, [(4, 1)]) = ρ 4 from ev_v] at q
  have b0 : (0 : Int) ≤ ((217) + ((1) * ρ 2 + 0)) := b_aA (hA _ (List.mem_of_getElem? (i := 0) rfl))
  have b1 : (0 : Int) ≤ ((24) + ((1) * ρ 1 + 0)) := b_aA (hA _ (List.mem_of_getElem? (i := 1) rfl))
  have a0 : vw C h 120 (217 + (ρ 2).toNat) = ρ 5 := vw_aA hU (hA _ (List.mem_of_getElem? (i := 0) rfl)) ev_v g1 (by omega) (by omega) (i := 217 + (ρ 2).toNat) (show (((217 + (ρ 2).toNat : Nat)) : Int) = ((217) + ((1) * ρ 2 + 0)) by omega) ev_v
  have a1 : vw C h 124 (24 + (ρ 1).toNat) = ρ 6 := vw_aA hU (hA _ (List.mem_of_getElem? (i := 1) rfl)) ev_v g2 (by omega) (by omega) (i := 24 + (ρ 1).toNat) (show (((24 + (ρ 1).toNat : Nat)) : Int) = ((24) + ((1) * ρ 1 + 0)) by omega) ev_v
  have p0 : qDr (vw C h) (fun q => (q : Int) = 217 + (ρ 2)) no_ (ρ 7) := c2 (P := (fun r c => qDr (vw C h) (fun q => (q : Int) = 217 + r) no_ c)) (show qDr (vw C h) (fun q => (q : Int) = 217 + (((0) + ((1) * ρ 2 + 0)))) no_ (((0) + ((1) * ρ 7 + 0))) from hP _ (List.mem_of_getElem? (i := 0) rfl)) (by omega) (by omega)
  have p1 : qNS (512 * ρ 1 + ρ 5 + 64 * ρ 6 + 4096 * ρ 7 + 512) (ρ 8) := c2 (P := qNS) (show qNS (((512) + ((512) * ρ 1 + ((1) * ρ 5 + ((64) * ρ 6 + ((4096) * ρ 7 + 0)))))) (((0) + ((1) * ρ 8 + 0))) from hP _ (List.mem_of_getElem? (i := 1) rfl)) (by omega) (by omega)
  have rb := kNS (a := ρ 7) (m := (ρ 1).toNat) (s := (ρ 6).toNat) (v := (ρ 5).toNat) (by omega) (by omega) (by omega) (by omega) p1
  refine ⟨_, List.mem_cons_self, ρ, fun _ _ => rfl, fun q hq => absurd hq List.not_mem_nil, trivial, fun f hf => ?_, fun q hq => absurd hq List.not_mem_nil, fun q hq => absurd hq List.not_mem_nil, fun q hq => absurd hq List.not_mem_nil, fun q hq => ?_⟩
  · exact absurd hf List.not_mem_nil
  · simp only [List.mem_cons, List.not_mem_nil, or_false] at hq
    rcases hq with rfl | rfl
    · show qDr (vw C h) no_ (fun q => (q : Int) = 24 + (((0) + ((1) * ρ 1 + 0)))) (((0) + ((1) * ρ 8 + 0)))
      refine c2 (P := (fun r c => qDr (vw C h) no_ (fun q => (q : Int) = 24 + r) c)) (r := ρ 1) (c := ρ 8) ?_ (by omega) (by omega)
      show qDr (vw C h) no_ (fun q => (q : Int) = 24 + (ρ 1)) (ρ 8)
      exact (c2 (P := (fun r c => qDr (vw C h) no_ (fun q => (q : Int) = 24 + r) c)) (r_rtB (e := ρ 5) (m := (ρ 1).toNat) (s := (ρ 6).toNat) (by omega) (by omega) (by omega) (by omega) (Eq.trans (congrArg (vw C h 120) (show 217 + (5 * (ρ 1).toNat + (ρ 6).toNat) = 217 + (ρ 2).toNat by omega)) a0) (by rw [show (((5 * (ρ 1).toNat + (ρ 6).toNat : Nat)) : Int) = ρ 2 by omega]; exact p0)) (by omega) (by omega))
    · show qCp (((12) + ((1) * ρ 1 + ((128) * ρ 8 + 0)))) (((1) + ((1) * ρ 6 + 0)))
      refine c2 (P := qCp) (r := ρ 1 + 128 * ρ 8 + 12) (c := ρ 6 + 1) ?_ (by omega) (by omega)
      show qCp (ρ 1 + 128 * ρ 8 + 12) (ρ 6 + 1)
      exact oCp (V := ρ 8) (k := 12 + (ρ 1).toNat) (by omega) (by omega) (by rw [rb, Int.toNat_natCast, cp_newS (by omega) (by omega) (by omega), if_pos rfl]; omega)
/-- rtC -/
theorem lem_724_ok (hU : uqG G C) : lem_724.1.2.1 = [] ∧ lemOK (PRd G C D xs) G rgs lem_724 := by
  refine ⟨rfl, fun ρ h ha hT => ?_⟩
  obtain ⟨-, -, hF, hG, hH, hA, hP⟩ := ha
  have f0 : (0 : Int) ≤ ((0) + ((1) * ρ 1 + 0)) := hF _ (List.mem_of_getElem? (i := 0) rfl)
  have f1 : (0 : Int) ≤ ((7) + ((-1) * ρ 1 + 0)) := hF _ (List.mem_of_getElem? (i := 1) rfl)
  have f2 : (0 : Int) ≤ ((0) + ((1) * ρ 3 + ((-1) * ρ 5 + 0))) := hF _ (List.mem_of_getElem? (i := 2) rfl)
  have f3 : (0 : Int) ≤ ((0) + ((-1) * ρ 3 + ((1) * ρ 5 + 0))) := hF _ (List.mem_of_getElem? (i := 3) rfl)
  have g0 : G (ρ 0).toNat = 22 := by
    have q := (hG _ (List.mem_of_getElem? (i := 0) rfl)).2
    rwa [show ev ρ (0, [(0, 1)]) = ρ 0 from ev_v] at q
  have g1 : G (ρ 2).toNat = 124 := by
    have q := (hG _ (List.mem_of_getElem? (i := 1) rfl)).2
    rwa [show ev ρ (0, [(2, 1)]) = ρ 2 from ev_v] at q
  have b0 : (0 : Int) ≤ ((24) + ((1) * ρ 1 + 0)) := b_aA (hA _ (List.mem_of_getElem? (i := 0) rfl))
  have a0 : vw C h 124 (24 + (ρ 1).toNat) = ρ 3 := vw_aA hU (hA _ (List.mem_of_getElem? (i := 0) rfl)) ev_v g1 (by omega) (by omega) (i := 24 + (ρ 1).toNat) (show (((24 + (ρ 1).toNat : Nat)) : Int) = ((24) + ((1) * ρ 1 + 0)) by omega) ev_v
  have p0 : qDr (vw C h) no_ (fun q => (q : Int) = 24 + (ρ 1)) (ρ 4) := c2 (P := (fun r c => qDr (vw C h) no_ (fun q => (q : Int) = 24 + r) c)) (show qDr (vw C h) no_ (fun q => (q : Int) = 24 + (((0) + ((1) * ρ 1 + 0)))) (((0) + ((1) * ρ 4 + 0))) from hP _ (List.mem_of_getElem? (i := 0) rfl)) (by omega) (by omega)
  have p1 : qCp (ρ 1 + 128 * ρ 4 + 12) (ρ 5) := c2 (P := qCp) (show qCp (((12) + ((1) * ρ 1 + ((128) * ρ 4 + 0)))) (((0) + ((1) * ρ 5 + 0))) from hP _ (List.mem_of_getElem? (i := 1) rfl)) (by omega) (by omega)
  refine ⟨_, List.mem_cons_self, ρ, fun _ _ => rfl, fun q hq => absurd hq List.not_mem_nil, trivial, fun f hf => ?_, fun q hq => absurd hq List.not_mem_nil, fun q hq => absurd hq List.not_mem_nil, fun q hq => absurd hq List.not_mem_nil, fun q hq => ?_⟩
  · exact absurd hf List.not_mem_nil
  · simp only [List.mem_cons, List.not_mem_nil, or_false] at hq
    subst hq
    show qDr (vw C h) no_ no_ (((0) + ((1) * ρ 4 + 0)))
    refine c2 (P := (fun (_ : Int) c => qDr (vw C h) no_ no_ c)) (r := 0) (r' := 0) (c := ρ 4) ?_ rfl (by omega)
    show qDr (vw C h) no_ no_ (ρ 4)
    exact r_rtC (m := (ρ 1).toNat) (by omega) (by have q := (kCp (V := ρ 4) (k := 12 + (ρ 1).toNat) (by omega) (by omega) p1); omega) a0 (by rw [toN (show (0 : Int) ≤ ρ 1 by omega)]; exact p0)
/-- ld0 -/
theorem lem_725_ok (hU : uqG G C) : lem_725.1.2.1 = [] ∧ lemOK (PRd G C D xs) G rgs lem_725 := by
  refine ⟨rfl, fun ρ h ha hT => ?_⟩
  obtain ⟨-, -, hF, hG, hH, hA, hP⟩ := ha
  have p0 : qDr (vw C h) no_ no_ (ρ 0) := c2 (P := (fun (_ : Int) c => qDr (vw C h) no_ no_ c)) (r := 0) (r' := 0) (show qDr (vw C h) no_ no_ (((0) + ((1) * ρ 0 + 0))) from hP _ (List.mem_of_getElem? (i := 0) rfl)) rfl (by omega)
  refine ⟨_, List.mem_cons_self, ρ, fun _ _ => rfl, fun q hq => absurd hq List.not_mem_nil, trivial, fun f hf => ?_, fun q hq => absurd hq List.not_mem_nil, fun q hq => absurd hq List.not_mem_nil, fun q hq => absurd hq List.not_mem_nil, fun q hq => ?_⟩
  · exact absurd hf List.not_mem_nil
  · simp only [List.mem_cons, List.not_mem_nil, or_false] at hq
    subst hq
    show q415 (vw C h) (((0) + 0)) (((0) + ((1) * ρ 0 + 0)))
    refine c2 (P := (fun r c => q415 (vw C h) r c)) (r := (0 : Int)) (c := ρ 0) ?_ (by omega) (by omega)
    show q415 (vw C h) ((0 : Int)) (ρ 0)
    exact ⟨p0.1, fun k _ _ hx => (hx (show (0 : Int) ≤ ((ri k : Nat) : Int) by omega)).elim⟩
/-- ldS -/
theorem lem_726_ok (hU : uqG G C) : lem_726.1.2.1 = [] ∧ lemOK (PRd G C D xs) G rgs lem_726 := by
  refine ⟨rfl, fun ρ h ha hT => ?_⟩
  obtain ⟨-, -, hF, hG, hH, hA, hP⟩ := ha
  have f0 : (0 : Int) ≤ ((0) + ((-1) * ρ 4 + ((1) * ρ 5 + 0))) := hF _ (List.mem_of_getElem? (i := 0) rfl)
  have f1 : (0 : Int) ≤ ((0) + ((1) * ρ 4 + ((-1) * ρ 5 + 0))) := hF _ (List.mem_of_getElem? (i := 1) rfl)
  have f2 : (0 : Int) ≤ ((0) + ((1) * ρ 1 + 0)) := hF _ (List.mem_of_getElem? (i := 2) rfl)
  have f3 : (0 : Int) ≤ ((1776) + ((-1) * ρ 1 + 0)) := hF _ (List.mem_of_getElem? (i := 3) rfl)
  have g0 : G (ρ 0).toNat = 22 := by
    have q := (hG _ (List.mem_of_getElem? (i := 0) rfl)).2
    rwa [show ev ρ (0, [(0, 1)]) = ρ 0 from ev_v] at q
  have g1 : G (ρ 2).toNat = 118 := by
    have q := (hG _ (List.mem_of_getElem? (i := 1) rfl)).2
    rwa [show ev ρ (0, [(2, 1)]) = ρ 2 from ev_v] at q
  have g2 : G (ρ 3).toNat = 120 := by
    have q := (hG _ (List.mem_of_getElem? (i := 2) rfl)).2
    rwa [show ev ρ (0, [(3, 1)]) = ρ 3 from ev_v] at q
  have b0 : (0 : Int) ≤ ((0) + ((1) * ρ 1 + 0)) := b_aA (hA _ (List.mem_of_getElem? (i := 0) rfl))
  have b1 : (0 : Int) ≤ ((0) + ((1) * ρ 1 + 0)) := b_aA (hA _ (List.mem_of_getElem? (i := 1) rfl))
  have a0 : vw C h 118 ((ρ 1).toNat) = ρ 4 := vw_aA hU (hA _ (List.mem_of_getElem? (i := 0) rfl)) ev_v g1 (by omega) (by omega) (i := (ρ 1).toNat) (show ((((ρ 1).toNat : Nat)) : Int) = ((0) + ((1) * ρ 1 + 0)) by omega) ev_v
  have a1 : vw C h 120 ((ρ 1).toNat) = ρ 5 := vw_aA hU (hA _ (List.mem_of_getElem? (i := 1) rfl)) ev_v g2 (by omega) (by omega) (i := (ρ 1).toNat) (show ((((ρ 1).toNat : Nat)) : Int) = ((0) + ((1) * ρ 1 + 0)) by omega) ev_v
  have p0 : qDr (vw C h) no_ no_ (ρ 6) := c2 (P := (fun (_ : Int) c => qDr (vw C h) no_ no_ c)) (r := 0) (r' := 0) (show qDr (vw C h) no_ no_ (((0) + ((1) * ρ 6 + 0))) from hP _ (List.mem_of_getElem? (i := 0) rfl)) rfl (by omega)
  have p1 : q415 (vw C h) (ρ 1) (ρ 6) := c2 (P := (fun r c => q415 (vw C h) r c)) (show q415 (vw C h) (((0) + ((1) * ρ 1 + 0))) (((0) + ((1) * ρ 6 + 0))) from hP _ (List.mem_of_getElem? (i := 1) rfl)) (by omega) (by omega)
  refine ⟨_, List.mem_cons_self, ρ, fun _ _ => rfl, fun q hq => absurd hq List.not_mem_nil, trivial, fun f hf => ?_, fun q hq => absurd hq List.not_mem_nil, fun q hq => absurd hq List.not_mem_nil, fun q hq => absurd hq List.not_mem_nil, fun q hq => ?_⟩
  · exact absurd hf List.not_mem_nil
  · simp only [List.mem_cons, List.not_mem_nil, or_false] at hq
    subst hq
    show q415 (vw C h) (((1) + ((1) * ρ 1 + 0))) (((0) + ((1) * ρ 6 + 0)))
    refine c2 (P := (fun r c => q415 (vw C h) r c)) (r := ρ 1 + 1) (c := ρ 6) ?_ (by omega) (by omega)
    show q415 (vw C h) (ρ 1 + 1) (ρ 6)
    exact (c2 (P := (fun r c => q415 (vw C h) r c)) (r_ldS (k := ρ 1) (by omega) (by omega) a0 a1 p0 p1) (by omega) (by omega))
/-- ldN -/
theorem lem_727_ok (hU : uqG G C) : lem_727.1.2.1 = [] ∧ lemOK (PRd G C D xs) G rgs lem_727 := by
  refine ⟨rfl, fun ρ h ha hT => ?_⟩
  obtain ⟨-, -, hF, hG, hH, hA, hP⟩ := ha
  have p0 : q415 (vw C h) ((1777 : Int)) (ρ 0) := c2 (P := (fun r c => q415 (vw C h) r c)) (show q415 (vw C h) (((1777) + 0)) (((0) + ((1) * ρ 0 + 0))) from hP _ (List.mem_of_getElem? (i := 0) rfl)) (by omega) (by omega)
  refine ⟨_, List.mem_cons_self, ρ, fun _ _ => rfl, fun q hq => absurd hq List.not_mem_nil, trivial, fun f hf => ?_, fun q hq => absurd hq List.not_mem_nil, fun q hq => absurd hq List.not_mem_nil, fun q hq => absurd hq List.not_mem_nil, fun q hq => ?_⟩
  · exact absurd hf List.not_mem_nil
  · simp only [List.mem_cons, List.not_mem_nil, or_false] at hq
    subst hq
    show q416 (vw C h) (((0) + 0)) (((0) + ((1) * ρ 0 + 0)))
    refine c2 (P := (fun r c => q416 (vw C h) r c)) (r := (0 : Int)) (c := ρ 0) ?_ (by omega) (by omega)
    show q416 (vw C h) ((0 : Int)) (ρ 0)
    exact r_ldN p0
/-- ldP -/
theorem lem_728_ok (hU : uqG G C) : lem_728.1.2.1 = [] ∧ lemOK (PRd G C D xs) G rgs lem_728 := by
  refine ⟨rfl, fun ρ h ha hT => ?_⟩
  obtain ⟨-, -, hF, hG, hH, hA, hP⟩ := ha
  have f0 : (0 : Int) ≤ ((0) + ((-1) * ρ 4 + ((1) * ρ 5 + 0))) := hF _ (List.mem_of_getElem? (i := 0) rfl)
  have f1 : (0 : Int) ≤ ((0) + ((1) * ρ 4 + ((-1) * ρ 5 + 0))) := hF _ (List.mem_of_getElem? (i := 1) rfl)
  have f2 : (0 : Int) ≤ ((0) + ((1) * ρ 1 + 0)) := hF _ (List.mem_of_getElem? (i := 2) rfl)
  have f3 : (0 : Int) ≤ ((54) + ((-1) * ρ 1 + 0)) := hF _ (List.mem_of_getElem? (i := 3) rfl)
  have g0 : G (ρ 0).toNat = 22 := by
    have q := (hG _ (List.mem_of_getElem? (i := 0) rfl)).2
    rwa [show ev ρ (0, [(0, 1)]) = ρ 0 from ev_v] at q
  have g1 : G (ρ 2).toNat = 123 := by
    have q := (hG _ (List.mem_of_getElem? (i := 1) rfl)).2
    rwa [show ev ρ (0, [(2, 1)]) = ρ 2 from ev_v] at q
  have g2 : G (ρ 3).toNat = 124 := by
    have q := (hG _ (List.mem_of_getElem? (i := 2) rfl)).2
    rwa [show ev ρ (0, [(3, 1)]) = ρ 3 from ev_v] at q
  have b0 : (0 : Int) ≤ ((0) + ((1) * ρ 1 + 0)) := b_aA (hA _ (List.mem_of_getElem? (i := 0) rfl))
  have b1 : (0 : Int) ≤ ((0) + ((1) * ρ 1 + 0)) := b_aA (hA _ (List.mem_of_getElem? (i := 1) rfl))
  have a0 : vw C h 123 ((ρ 1).toNat) = ρ 4 := vw_aA hU (hA _ (List.mem_of_getElem? (i := 0) rfl)) ev_v g1 (by omega) (by omega) (i := (ρ 1).toNat) (show ((((ρ 1).toNat : Nat)) : Int) = ((0) + ((1) * ρ 1 + 0)) by omega) ev_v
  have a1 : vw C h 124 ((ρ 1).toNat) = ρ 5 := vw_aA hU (hA _ (List.mem_of_getElem? (i := 1) rfl)) ev_v g2 (by omega) (by omega) (i := (ρ 1).toNat) (show ((((ρ 1).toNat : Nat)) : Int) = ((0) + ((1) * ρ 1 + 0)) by omega) ev_v
  have p0 : qDr (vw C h) no_ no_ (ρ 6) := c2 (P := (fun (_ : Int) c => qDr (vw C h) no_ no_ c)) (r := 0) (r' := 0) (show qDr (vw C h) no_ no_ (((0) + ((1) * ρ 6 + 0))) from hP _ (List.mem_of_getElem? (i := 0) rfl)) rfl (by omega)
  have p1 : q416 (vw C h) (ρ 1) (ρ 6) := c2 (P := (fun r c => q416 (vw C h) r c)) (show q416 (vw C h) (((0) + ((1) * ρ 1 + 0))) (((0) + ((1) * ρ 6 + 0))) from hP _ (List.mem_of_getElem? (i := 1) rfl)) (by omega) (by omega)
  refine ⟨_, List.mem_cons_self, ρ, fun _ _ => rfl, fun q hq => absurd hq List.not_mem_nil, trivial, fun f hf => ?_, fun q hq => absurd hq List.not_mem_nil, fun q hq => absurd hq List.not_mem_nil, fun q hq => absurd hq List.not_mem_nil, fun q hq => ?_⟩
  · exact absurd hf List.not_mem_nil
  · simp only [List.mem_cons, List.not_mem_nil, or_false] at hq
    subst hq
    show q416 (vw C h) (((1) + ((1) * ρ 1 + 0))) (((0) + ((1) * ρ 6 + 0)))
    refine c2 (P := (fun r c => q416 (vw C h) r c)) (r := ρ 1 + 1) (c := ρ 6) ?_ (by omega) (by omega)
    show q416 (vw C h) (ρ 1 + 1) (ρ 6)
    exact (c2 (P := (fun r c => q416 (vw C h) r c)) (r_ldP (k := ρ 1) (by omega) (by omega) a0 a1 p0 p1) (by omega) (by omega))
/-- ldZ -/
theorem lem_729_ok (hU : uqG G C) : lem_729.1.2.1 = [] ∧ lemOK (PRd G C D xs) G rgs lem_729 := by
  refine ⟨rfl, fun ρ h ha hT => ?_⟩
  obtain ⟨-, -, hF, hG, hH, hA, hP⟩ := ha
  have p0 : q416 (vw C h) ((55 : Int)) (ρ 0) := c2 (P := (fun r c => q416 (vw C h) r c)) (show q416 (vw C h) (((55) + 0)) (((0) + ((1) * ρ 0 + 0))) from hP _ (List.mem_of_getElem? (i := 0) rfl)) (by omega) (by omega)
  refine ⟨_, List.mem_cons_self, ρ, fun _ _ => rfl, fun q hq => absurd hq List.not_mem_nil, trivial, fun f hf => ?_, fun q hq => absurd hq List.not_mem_nil, fun q hq => absurd hq List.not_mem_nil, fun q hq => absurd hq List.not_mem_nil, fun q hq => ?_⟩
  · exact absurd hf List.not_mem_nil
  · simp only [List.mem_cons, List.not_mem_nil, or_false] at hq
    rcases hq with rfl | rfl
    · show q396 (vw C h) (((0) + ((1) * ρ 0 + 0)))
      refine c2 (P := (fun (_ : Int) c => q396 (vw C h) c)) (r := 0) (r' := 0) (c := ρ 0) ?_ rfl (by omega)
      show q396 (vw C h) (ρ 0)
      exact r_ldZ p0
    · show q404 (vw C h) (((0) + 0)) (((0) + 0))
      refine c2 (P := (fun r c => q404 (vw C h) r c)) (r := (0 : Int)) (c := (0 : Int)) ?_ (by omega) (by omega)
      show q404 (vw C h) ((0 : Int)) ((0 : Int))
      exact r_404_0
/-- ldI0 -/
theorem lem_730_ok (hU : uqG G C) : lem_730.1.2.1 = [] ∧ lemOK (PRd G C D xs) G rgs lem_730 := by
  refine ⟨rfl, fun ρ h ha hT => ?_⟩
  obtain ⟨-, -, hF, hG, hH, hA, hP⟩ := ha
  have f0 : (0 : Int) ≤ ((0) + ((-1) * ρ 2 + 0)) := hF _ (List.mem_of_getElem? (i := 0) rfl)
  have f1 : (0 : Int) ≤ ((0) + ((1) * ρ 2 + 0)) := hF _ (List.mem_of_getElem? (i := 1) rfl)
  have g0 : G (ρ 0).toNat = 22 := by
    have q := (hG _ (List.mem_of_getElem? (i := 0) rfl)).2
    rwa [show ev ρ (0, [(0, 1)]) = ρ 0 from ev_v] at q
  have g1 : G (ρ 1).toNat = 135 := by
    have q := (hG _ (List.mem_of_getElem? (i := 1) rfl)).2
    rwa [show ev ρ (0, [(1, 1)]) = ρ 1 from ev_v] at q
  have b0 : (0 : Int) ≤ ((0) + 0) := b_aA (hA _ (List.mem_of_getElem? (i := 0) rfl))
  have a0 : vw C h 135 (0) = ρ 2 := vw_aA hU (hA _ (List.mem_of_getElem? (i := 0) rfl)) ev_v g1 (by omega) (by omega) (i := 0) (show (((0 : Nat)) : Int) = ((0) + 0) by omega) ev_v
  refine ⟨_, List.mem_cons_self, ρ, fun _ _ => rfl, fun q hq => absurd hq List.not_mem_nil, trivial, fun f hf => ?_, fun q hq => absurd hq List.not_mem_nil, fun q hq => absurd hq List.not_mem_nil, fun q hq => absurd hq List.not_mem_nil, fun q hq => ?_⟩
  · exact absurd hf List.not_mem_nil
  · simp only [List.mem_cons, List.not_mem_nil, or_false] at hq
    subst hq
    show q408 (vw C h) (((0) + 0)) (((0) + 0))
    refine c2 (P := (fun r c => q408 (vw C h) r c)) (r := (0 : Int)) (c := (0 : Int)) ?_ (by omega) (by omega)
    show q408 (vw C h) ((0 : Int)) ((0 : Int))
    exact r_i0 (p := 0) (by decide) (by decide) (show ρ 2 = 0 by omega) a0
/-- ldI1 -/
theorem lem_731_ok (hU : uqG G C) : lem_731.1.2.1 = [] ∧ lemOK (PRd G C D xs) G rgs lem_731 := by
  refine ⟨rfl, fun ρ h ha hT => ?_⟩
  obtain ⟨-, -, hF, hG, hH, hA, hP⟩ := ha
  have f0 : (0 : Int) ≤ ((0) + ((-1) * ρ 2 + 0)) := hF _ (List.mem_of_getElem? (i := 0) rfl)
  have f1 : (0 : Int) ≤ ((0) + ((1) * ρ 2 + 0)) := hF _ (List.mem_of_getElem? (i := 1) rfl)
  have g0 : G (ρ 0).toNat = 22 := by
    have q := (hG _ (List.mem_of_getElem? (i := 0) rfl)).2
    rwa [show ev ρ (0, [(0, 1)]) = ρ 0 from ev_v] at q
  have g1 : G (ρ 1).toNat = 135 := by
    have q := (hG _ (List.mem_of_getElem? (i := 1) rfl)).2
    rwa [show ev ρ (0, [(1, 1)]) = ρ 1 from ev_v] at q
  have b0 : (0 : Int) ≤ ((1) + 0) := b_aA (hA _ (List.mem_of_getElem? (i := 0) rfl))
  have a0 : vw C h 135 (1) = ρ 2 := vw_aA hU (hA _ (List.mem_of_getElem? (i := 0) rfl)) ev_v g1 (by omega) (by omega) (i := 1) (show (((1 : Nat)) : Int) = ((1) + 0) by omega) ev_v
  refine ⟨_, List.mem_cons_self, ρ, fun _ _ => rfl, fun q hq => absurd hq List.not_mem_nil, trivial, fun f hf => ?_, fun q hq => absurd hq List.not_mem_nil, fun q hq => absurd hq List.not_mem_nil, fun q hq => absurd hq List.not_mem_nil, fun q hq => ?_⟩
  · exact absurd hf List.not_mem_nil
  · simp only [List.mem_cons, List.not_mem_nil, or_false] at hq
    subst hq
    show q408 (vw C h) (((1) + 0)) (((0) + 0))
    refine c2 (P := (fun r c => q408 (vw C h) r c)) (r := (1 : Int)) (c := (0 : Int)) ?_ (by omega) (by omega)
    show q408 (vw C h) ((1 : Int)) ((0 : Int))
    exact r_i0 (p := 1) (by decide) (by decide) (show ρ 2 = 0 by omega) a0
/-- rsX -/
theorem lem_732_ok (hU : uqG G C) : lem_732.1.2.1 = [] ∧ lemOK (PRd G C D xs) G rgs lem_732 := by
  refine ⟨rfl, fun ρ h ha hT => ?_⟩
  obtain ⟨-, -, hF, hG, hH, hA, hP⟩ := ha
  have f0 : (0 : Int) ≤ ((0) + ((1) * ρ 0 + 0)) := hF _ (List.mem_of_getElem? (i := 0) rfl)
  have f1 : (0 : Int) ≤ ((1776) + ((-1) * ρ 0 + 0)) := hF _ (List.mem_of_getElem? (i := 1) rfl)
  have p0 : q396 (vw C h) (ρ 1) := c2 (P := (fun (_ : Int) c => q396 (vw C h) c)) (r := 0) (r' := 0) (show q396 (vw C h) (((0) + ((1) * ρ 1 + 0))) from hP _ (List.mem_of_getElem? (i := 0) rfl)) rfl (by omega)
  refine ⟨_, List.mem_cons_self, ρ, fun _ _ => rfl, fun q hq => absurd hq List.not_mem_nil, trivial, fun f hf => ?_, fun q hq => absurd hq List.not_mem_nil, fun q hq => absurd hq List.not_mem_nil, fun q hq => absurd hq List.not_mem_nil, fun q hq => ?_⟩
  · exact absurd hf List.not_mem_nil
  · simp only [List.mem_cons, List.not_mem_nil, or_false] at hq
    subst hq
    show qNB (vw C h) (fun q => (q : Int) = (((0) + ((1) * ρ 0 + 0)))) (((0) + ((1) * ρ 1 + 0)))
    refine c2 (P := (fun r c => qNB (vw C h) (fun q => (q : Int) = r) c)) (r := ρ 0) (c := ρ 1) ?_ (by omega) (by omega)
    show qNB (vw C h) (fun q => (q : Int) = (ρ 0)) (ρ 1)
    exact ⟨p0.1, nH_ex (fun _ _ _ _ hh => hh) p0.2.1, p0.2.2⟩
/-- rsL -/
theorem lem_733_ok (hU : uqG G C) : lem_733.1.2.1 = [] ∧ lemOK (PRd G C D xs) G rgs lem_733 := by
  refine ⟨rfl, fun ρ h ha hT => ?_⟩
  obtain ⟨-, -, hF, hG, hH, hA, hP⟩ := ha
  have f0 : (0 : Int) ≤ ((0) + ((1) * ρ 3 + 0)) := hF _ (List.mem_of_getElem? (i := 0) rfl)
  have f1 : (0 : Int) ≤ ((999) + ((-1) * ρ 3 + 0)) := hF _ (List.mem_of_getElem? (i := 1) rfl)
  have f2 : (0 : Int) ≤ ((2) + ((-1) * ρ 1 + 0)) := hF _ (List.mem_of_getElem? (i := 2) rfl)
  have f3 : (0 : Int) ≤ ((-2) + ((1) * ρ 1 + 0)) := hF _ (List.mem_of_getElem? (i := 3) rfl)
  have g0 : G (ρ 0).toNat = 22 := by
    have q := (hG _ (List.mem_of_getElem? (i := 0) rfl)).2
    rwa [show ev ρ (0, [(0, 1)]) = ρ 0 from ev_v] at q
  have g1 : G (ρ 2).toNat = 118 := by
    have q := (hG _ (List.mem_of_getElem? (i := 1) rfl)).2
    rwa [show ev ρ (0, [(2, 1)]) = ρ 2 from ev_v] at q
  have b0 : (0 : Int) ≤ ((0) + ((1) * ρ 1 + 0)) := b_aA (hA _ (List.mem_of_getElem? (i := 0) rfl))
  have a0 : vw C h 118 ((ρ 1).toNat) = ρ 3 := vw_aA hU (hA _ (List.mem_of_getElem? (i := 0) rfl)) ev_v g1 (by omega) (by omega) (i := (ρ 1).toNat) (show ((((ρ 1).toNat : Nat)) : Int) = ((0) + ((1) * ρ 1 + 0)) by omega) ev_v
  have p0 : qNB (vw C h) (fun q => (q : Int) = (ρ 1)) (ρ 4) := c2 (P := (fun r c => qNB (vw C h) (fun q => (q : Int) = r) c)) (show qNB (vw C h) (fun q => (q : Int) = (((0) + ((1) * ρ 1 + 0)))) (((0) + ((1) * ρ 4 + 0))) from hP _ (List.mem_of_getElem? (i := 0) rfl)) (by omega) (by omega)
  obtain ⟨σ, r1, r2a⟩ : ∃ σ : Va, (∀ i, i < 5 → σ i = ρ i) ∧ σ 5 = ((setC (ρ 4).toNat (1) (ρ 3).toNat : Nat) : Int) := ⟨fun i => if i = 5 then ((setC (ρ 4).toNat (1) (ρ 3).toNat : Nat) : Int) else ρ i, fun i hi => by dsimp only; rw [if_neg (by omega)], by dsimp only; rw [if_pos rfl]⟩
  have s0 := r1 0 (by omega)
  have s1 := r1 1 (by omega)
  have s2 := r1 2 (by omega)
  have s3 := r1 3 (by omega)
  have s4 := r1 4 (by omega)
  refine ⟨_, List.mem_cons_self, σ, r1, fun q hq => absurd hq List.not_mem_nil, trivial, fun f hf => ?_, fun q hq => absurd hq List.not_mem_nil, fun q hq => absurd hq List.not_mem_nil, fun q hq => absurd hq List.not_mem_nil, fun q hq => ?_⟩
  · exact absurd hf List.not_mem_nil
  · simp only [List.mem_cons, List.not_mem_nil, or_false] at hq
    rcases hq with rfl | rfl
    · show q396 (vw C h) (((0) + ((1) * σ 5 + 0)))
      refine c2 (P := (fun (_ : Int) c => q396 (vw C h) c)) (r := 0) (r' := 0) (c := ((setC (ρ 4).toNat (1) (ρ 3).toNat : Nat) : Int)) ?_ rfl (by omega)
      show q396 (vw C h) (((setC (ρ 4).toNat (1) (ρ 3).toNat : Nat) : Int))
      exact (c2 (P := (fun (_ : Int) c => q396 (vw C h) c)) (r := 0) (r' := 0) (r_set (v := ρ 3) (k := 1) (q := 2) (by omega) (nP (by omega)) rfl (by omega) (by omega) (by rw [show (((2 : Nat)) : Int) = ρ 1 by omega]; exact p0) (Eq.trans (congrArg (vw C h 118) (show 2 = (ρ 1).toNat by omega)) a0)) rfl (by omega))
    · show qSet (((65536) + ((1) * σ 3 + ((16777216) * σ 4 + 0)))) (((0) + ((1) * σ 5 + 0)))
      refine c2 (P := qSet) (r := ρ 3 + 16777216 * ρ 4 + 65536) (c := ((setC (ρ 4).toNat (1) (ρ 3).toNat : Nat) : Int)) ?_ (by omega) (by omega)
      show qSet (ρ 3 + 16777216 * ρ 4 + 65536) (((setC (ρ 4).toNat (1) (ρ 3).toNat : Nat) : Int))
      exact oSet (V := ρ 4) (v := ρ 3) (k := 1) (by omega) (by omega) (by omega) (by omega) rfl
/-- rsH -/
theorem lem_734_ok (hU : uqG G C) : lem_734.1.2.1 = [] ∧ lemOK (PRd G C D xs) G rgs lem_734 := by
  refine ⟨rfl, fun ρ h ha hT => ?_⟩
  obtain ⟨-, -, hF, hG, hH, hA, hP⟩ := ha
  have f0 : (0 : Int) ≤ ((0) + ((1) * ρ 3 + 0)) := hF _ (List.mem_of_getElem? (i := 0) rfl)
  have f1 : (0 : Int) ≤ ((999) + ((-1) * ρ 3 + 0)) := hF _ (List.mem_of_getElem? (i := 1) rfl)
  have f2 : (0 : Int) ≤ ((1) + ((-1) * ρ 1 + 0)) := hF _ (List.mem_of_getElem? (i := 2) rfl)
  have f3 : (0 : Int) ≤ ((-1) + ((1) * ρ 1 + 0)) := hF _ (List.mem_of_getElem? (i := 3) rfl)
  have g0 : G (ρ 0).toNat = 22 := by
    have q := (hG _ (List.mem_of_getElem? (i := 0) rfl)).2
    rwa [show ev ρ (0, [(0, 1)]) = ρ 0 from ev_v] at q
  have g1 : G (ρ 2).toNat = 118 := by
    have q := (hG _ (List.mem_of_getElem? (i := 1) rfl)).2
    rwa [show ev ρ (0, [(2, 1)]) = ρ 2 from ev_v] at q
  have b0 : (0 : Int) ≤ ((0) + ((1) * ρ 1 + 0)) := b_aA (hA _ (List.mem_of_getElem? (i := 0) rfl))
  have a0 : vw C h 118 ((ρ 1).toNat) = ρ 3 := vw_aA hU (hA _ (List.mem_of_getElem? (i := 0) rfl)) ev_v g1 (by omega) (by omega) (i := (ρ 1).toNat) (show ((((ρ 1).toNat : Nat)) : Int) = ((0) + ((1) * ρ 1 + 0)) by omega) ev_v
  have p0 : qNB (vw C h) (fun q => (q : Int) = (ρ 1)) (ρ 4) := c2 (P := (fun r c => qNB (vw C h) (fun q => (q : Int) = r) c)) (show qNB (vw C h) (fun q => (q : Int) = (((0) + ((1) * ρ 1 + 0)))) (((0) + ((1) * ρ 4 + 0))) from hP _ (List.mem_of_getElem? (i := 0) rfl)) (by omega) (by omega)
  obtain ⟨σ, r1, r2a⟩ : ∃ σ : Va, (∀ i, i < 5 → σ i = ρ i) ∧ σ 5 = ((setC (ρ 4).toNat (2) (ρ 3).toNat : Nat) : Int) := ⟨fun i => if i = 5 then ((setC (ρ 4).toNat (2) (ρ 3).toNat : Nat) : Int) else ρ i, fun i hi => by dsimp only; rw [if_neg (by omega)], by dsimp only; rw [if_pos rfl]⟩
  have s0 := r1 0 (by omega)
  have s1 := r1 1 (by omega)
  have s2 := r1 2 (by omega)
  have s3 := r1 3 (by omega)
  have s4 := r1 4 (by omega)
  refine ⟨_, List.mem_cons_self, σ, r1, fun q hq => absurd hq List.not_mem_nil, trivial, fun f hf => ?_, fun q hq => absurd hq List.not_mem_nil, fun q hq => absurd hq List.not_mem_nil, fun q hq => absurd hq List.not_mem_nil, fun q hq => ?_⟩
  · exact absurd hf List.not_mem_nil
  · simp only [List.mem_cons, List.not_mem_nil, or_false] at hq
    rcases hq with rfl | rfl
    · show q396 (vw C h) (((0) + ((1) * σ 5 + 0)))
      refine c2 (P := (fun (_ : Int) c => q396 (vw C h) c)) (r := 0) (r' := 0) (c := ((setC (ρ 4).toNat (2) (ρ 3).toNat : Nat) : Int)) ?_ rfl (by omega)
      show q396 (vw C h) (((setC (ρ 4).toNat (2) (ρ 3).toNat : Nat) : Int))
      exact (c2 (P := (fun (_ : Int) c => q396 (vw C h) c)) (r := 0) (r' := 0) (r_set (v := ρ 3) (k := 2) (q := 1) (by omega) (nP (by omega)) rfl (by omega) (by omega) (by rw [show (((1 : Nat)) : Int) = ρ 1 by omega]; exact p0) (Eq.trans (congrArg (vw C h 118) (show 1 = (ρ 1).toNat by omega)) a0)) rfl (by omega))
    · show qSet (((131072) + ((1) * σ 3 + ((16777216) * σ 4 + 0)))) (((0) + ((1) * σ 5 + 0)))
      refine c2 (P := qSet) (r := ρ 3 + 16777216 * ρ 4 + 131072) (c := ((setC (ρ 4).toNat (2) (ρ 3).toNat : Nat) : Int)) ?_ (by omega) (by omega)
      show qSet (ρ 3 + 16777216 * ρ 4 + 131072) (((setC (ρ 4).toNat (2) (ρ 3).toNat : Nat) : Int))
      exact oSet (V := ρ 4) (v := ρ 3) (k := 2) (by omega) (by omega) (by omega) (by omega) rfl
/-- rsF -/
theorem lem_735_ok (hU : uqG G C) : lem_735.1.2.1 = [] ∧ lemOK (PRd G C D xs) G rgs lem_735 := by
  refine ⟨rfl, fun ρ h ha hT => ?_⟩
  obtain ⟨-, -, hF, hG, hH, hA, hP⟩ := ha
  have f0 : (0 : Int) ≤ ((0) + ((1) * ρ 3 + 0)) := hF _ (List.mem_of_getElem? (i := 0) rfl)
  have f1 : (0 : Int) ≤ ((9999) + ((-1) * ρ 3 + 0)) := hF _ (List.mem_of_getElem? (i := 1) rfl)
  have f2 : (0 : Int) ≤ ((-9) + ((1) * ρ 1 + 0)) := hF _ (List.mem_of_getElem? (i := 2) rfl)
  have f3 : (0 : Int) ≤ ((16) + ((-1) * ρ 1 + 0)) := hF _ (List.mem_of_getElem? (i := 3) rfl)
  have g0 : G (ρ 0).toNat = 22 := by
    have q := (hG _ (List.mem_of_getElem? (i := 0) rfl)).2
    rwa [show ev ρ (0, [(0, 1)]) = ρ 0 from ev_v] at q
  have g1 : G (ρ 2).toNat = 118 := by
    have q := (hG _ (List.mem_of_getElem? (i := 1) rfl)).2
    rwa [show ev ρ (0, [(2, 1)]) = ρ 2 from ev_v] at q
  have b0 : (0 : Int) ≤ ((0) + ((1) * ρ 1 + 0)) := b_aA (hA _ (List.mem_of_getElem? (i := 0) rfl))
  have a0 : vw C h 118 ((ρ 1).toNat) = ρ 3 := vw_aA hU (hA _ (List.mem_of_getElem? (i := 0) rfl)) ev_v g1 (by omega) (by omega) (i := (ρ 1).toNat) (show ((((ρ 1).toNat : Nat)) : Int) = ((0) + ((1) * ρ 1 + 0)) by omega) ev_v
  have p0 : qNB (vw C h) (fun q => (q : Int) = (ρ 1)) (ρ 4) := c2 (P := (fun r c => qNB (vw C h) (fun q => (q : Int) = r) c)) (show qNB (vw C h) (fun q => (q : Int) = (((0) + ((1) * ρ 1 + 0)))) (((0) + ((1) * ρ 4 + 0))) from hP _ (List.mem_of_getElem? (i := 0) rfl)) (by omega) (by omega)
  obtain ⟨σ, r1, r2a⟩ : ∃ σ : Va, (∀ i, i < 5 → σ i = ρ i) ∧ σ 5 = ((setC (ρ 4).toNat (4 + ((ρ 1).toNat - 9)) (ρ 3).toNat : Nat) : Int) := ⟨fun i => if i = 5 then ((setC (ρ 4).toNat (4 + ((ρ 1).toNat - 9)) (ρ 3).toNat : Nat) : Int) else ρ i, fun i hi => by dsimp only; rw [if_neg (by omega)], by dsimp only; rw [if_pos rfl]⟩
  have s0 := r1 0 (by omega)
  have s1 := r1 1 (by omega)
  have s2 := r1 2 (by omega)
  have s3 := r1 3 (by omega)
  have s4 := r1 4 (by omega)
  refine ⟨_, List.mem_cons_self, σ, r1, fun q hq => absurd hq List.not_mem_nil, trivial, fun f hf => ?_, fun q hq => absurd hq List.not_mem_nil, fun q hq => absurd hq List.not_mem_nil, fun q hq => absurd hq List.not_mem_nil, fun q hq => ?_⟩
  · exact absurd hf List.not_mem_nil
  · simp only [List.mem_cons, List.not_mem_nil, or_false] at hq
    rcases hq with rfl | rfl
    · show q396 (vw C h) (((0) + ((1) * σ 5 + 0)))
      refine c2 (P := (fun (_ : Int) c => q396 (vw C h) c)) (r := 0) (r' := 0) (c := ((setC (ρ 4).toNat (4 + ((ρ 1).toNat - 9)) (ρ 3).toNat : Nat) : Int)) ?_ rfl (by omega)
      show q396 (vw C h) (((setC (ρ 4).toNat (4 + ((ρ 1).toNat - 9)) (ρ 3).toNat : Nat) : Int))
      exact (c2 (P := (fun (_ : Int) c => q396 (vw C h) c)) (r := 0) (r' := 0) (r_set (v := ρ 3) (k := 4 + ((ρ 1).toNat - 9)) (q := (ρ 1).toNat) (by omega) (nP (by omega)) (by rw [ri4 (by omega)]; omega) (by omega) (by omega) (by rw [show ((((ρ 1).toNat : Nat)) : Int) = ρ 1 by omega]; exact p0) (Eq.trans (congrArg (vw C h 118) (show (ρ 1).toNat = (ρ 1).toNat by omega)) a0)) rfl (by omega))
    · show qSet (((-327680) + ((65536) * σ 1 + ((1) * σ 3 + ((16777216) * σ 4 + 0))))) (((0) + ((1) * σ 5 + 0)))
      refine c2 (P := qSet) (r := 65536 * ρ 1 + ρ 3 + 16777216 * ρ 4 + (-327680)) (c := ((setC (ρ 4).toNat (4 + ((ρ 1).toNat - 9)) (ρ 3).toNat : Nat) : Int)) ?_ (by omega) (by omega)
      show qSet (65536 * ρ 1 + ρ 3 + 16777216 * ρ 4 + (-327680)) (((setC (ρ 4).toNat (4 + ((ρ 1).toNat - 9)) (ρ 3).toNat : Nat) : Int))
      exact oSet (V := ρ 4) (v := ρ 3) (k := 4 + ((ρ 1).toNat - 9)) (by omega) (by omega) (by omega) (by omega) rfl
/-- rsG -/
theorem lem_736_ok (hU : uqG G C) : lem_736.1.2.1 = [] ∧ lemOK (PRd G C D xs) G rgs lem_736 := by
  refine ⟨rfl, fun ρ h ha hT => ?_⟩
  obtain ⟨-, -, hF, hG, hH, hA, hP⟩ := ha
  have f0 : (0 : Int) ≤ ((0) + ((1) * ρ 3 + 0)) := hF _ (List.mem_of_getElem? (i := 0) rfl)
  have f1 : (0 : Int) ≤ ((9999) + ((-1) * ρ 3 + 0)) := hF _ (List.mem_of_getElem? (i := 1) rfl)
  have f2 : (0 : Int) ≤ ((-41) + ((1) * ρ 1 + 0)) := hF _ (List.mem_of_getElem? (i := 2) rfl)
  have f3 : (0 : Int) ≤ ((48) + ((-1) * ρ 1 + 0)) := hF _ (List.mem_of_getElem? (i := 3) rfl)
  have g0 : G (ρ 0).toNat = 22 := by
    have q := (hG _ (List.mem_of_getElem? (i := 0) rfl)).2
    rwa [show ev ρ (0, [(0, 1)]) = ρ 0 from ev_v] at q
  have g1 : G (ρ 2).toNat = 118 := by
    have q := (hG _ (List.mem_of_getElem? (i := 1) rfl)).2
    rwa [show ev ρ (0, [(2, 1)]) = ρ 2 from ev_v] at q
  have b0 : (0 : Int) ≤ ((0) + ((1) * ρ 1 + 0)) := b_aA (hA _ (List.mem_of_getElem? (i := 0) rfl))
  have a0 : vw C h 118 ((ρ 1).toNat) = ρ 3 := vw_aA hU (hA _ (List.mem_of_getElem? (i := 0) rfl)) ev_v g1 (by omega) (by omega) (i := (ρ 1).toNat) (show ((((ρ 1).toNat : Nat)) : Int) = ((0) + ((1) * ρ 1 + 0)) by omega) ev_v
  have p0 : qNB (vw C h) (fun q => (q : Int) = (ρ 1)) (ρ 4) := c2 (P := (fun r c => qNB (vw C h) (fun q => (q : Int) = r) c)) (show qNB (vw C h) (fun q => (q : Int) = (((0) + ((1) * ρ 1 + 0)))) (((0) + ((1) * ρ 4 + 0))) from hP _ (List.mem_of_getElem? (i := 0) rfl)) (by omega) (by omega)
  obtain ⟨σ, r1, r2a⟩ : ∃ σ : Va, (∀ i, i < 5 → σ i = ρ i) ∧ σ 5 = ((setC (ρ 4).toNat (20 + ((ρ 1).toNat - 41)) (ρ 3).toNat : Nat) : Int) := ⟨fun i => if i = 5 then ((setC (ρ 4).toNat (20 + ((ρ 1).toNat - 41)) (ρ 3).toNat : Nat) : Int) else ρ i, fun i hi => by dsimp only; rw [if_neg (by omega)], by dsimp only; rw [if_pos rfl]⟩
  have s0 := r1 0 (by omega)
  have s1 := r1 1 (by omega)
  have s2 := r1 2 (by omega)
  have s3 := r1 3 (by omega)
  have s4 := r1 4 (by omega)
  refine ⟨_, List.mem_cons_self, σ, r1, fun q hq => absurd hq List.not_mem_nil, trivial, fun f hf => ?_, fun q hq => absurd hq List.not_mem_nil, fun q hq => absurd hq List.not_mem_nil, fun q hq => absurd hq List.not_mem_nil, fun q hq => ?_⟩
  · exact absurd hf List.not_mem_nil
  · simp only [List.mem_cons, List.not_mem_nil, or_false] at hq
    rcases hq with rfl | rfl
    · show q396 (vw C h) (((0) + ((1) * σ 5 + 0)))
      refine c2 (P := (fun (_ : Int) c => q396 (vw C h) c)) (r := 0) (r' := 0) (c := ((setC (ρ 4).toNat (20 + ((ρ 1).toNat - 41)) (ρ 3).toNat : Nat) : Int)) ?_ rfl (by omega)
      show q396 (vw C h) (((setC (ρ 4).toNat (20 + ((ρ 1).toNat - 41)) (ρ 3).toNat : Nat) : Int))
      exact (c2 (P := (fun (_ : Int) c => q396 (vw C h) c)) (r := 0) (r' := 0) (r_set (v := ρ 3) (k := 20 + ((ρ 1).toNat - 41)) (q := (ρ 1).toNat) (by omega) (nP (by omega)) (by rw [ri20 (by omega)]; omega) (by omega) (by omega) (by rw [show ((((ρ 1).toNat : Nat)) : Int) = ρ 1 by omega]; exact p0) (Eq.trans (congrArg (vw C h 118) (show (ρ 1).toNat = (ρ 1).toNat by omega)) a0)) rfl (by omega))
    · show qSet (((-1376256) + ((65536) * σ 1 + ((1) * σ 3 + ((16777216) * σ 4 + 0))))) (((0) + ((1) * σ 5 + 0)))
      refine c2 (P := qSet) (r := 65536 * ρ 1 + ρ 3 + 16777216 * ρ 4 + (-1376256)) (c := ((setC (ρ 4).toNat (20 + ((ρ 1).toNat - 41)) (ρ 3).toNat : Nat) : Int)) ?_ (by omega) (by omega)
      show qSet (65536 * ρ 1 + ρ 3 + 16777216 * ρ 4 + (-1376256)) (((setC (ρ 4).toNat (20 + ((ρ 1).toNat - 41)) (ρ 3).toNat : Nat) : Int))
      exact oSet (V := ρ 4) (v := ρ 3) (k := 20 + ((ρ 1).toNat - 41)) (by omega) (by omega) (by omega) (by omega) rfl
/-- rsU -/
theorem lem_737_ok (hU : uqG G C) : lem_737.1.2.1 = [] ∧ lemOK (PRd G C D xs) G rgs lem_737 := by
  refine ⟨rfl, fun ρ h ha hT => ?_⟩
  obtain ⟨-, -, hF, hG, hH, hA, hP⟩ := ha
  have f0 : (0 : Int) ≤ ((0) + ((1) * ρ 3 + 0)) := hF _ (List.mem_of_getElem? (i := 0) rfl)
  have f1 : (0 : Int) ≤ ((9999) + ((-1) * ρ 3 + 0)) := hF _ (List.mem_of_getElem? (i := 1) rfl)
  have f2 : (0 : Int) ≤ ((-49) + ((1) * ρ 1 + 0)) := hF _ (List.mem_of_getElem? (i := 2) rfl)
  have f3 : (0 : Int) ≤ ((56) + ((-1) * ρ 1 + 0)) := hF _ (List.mem_of_getElem? (i := 3) rfl)
  have g0 : G (ρ 0).toNat = 22 := by
    have q := (hG _ (List.mem_of_getElem? (i := 0) rfl)).2
    rwa [show ev ρ (0, [(0, 1)]) = ρ 0 from ev_v] at q
  have g1 : G (ρ 2).toNat = 118 := by
    have q := (hG _ (List.mem_of_getElem? (i := 1) rfl)).2
    rwa [show ev ρ (0, [(2, 1)]) = ρ 2 from ev_v] at q
  have b0 : (0 : Int) ≤ ((0) + ((1) * ρ 1 + 0)) := b_aA (hA _ (List.mem_of_getElem? (i := 0) rfl))
  have a0 : vw C h 118 ((ρ 1).toNat) = ρ 3 := vw_aA hU (hA _ (List.mem_of_getElem? (i := 0) rfl)) ev_v g1 (by omega) (by omega) (i := (ρ 1).toNat) (show ((((ρ 1).toNat : Nat)) : Int) = ((0) + ((1) * ρ 1 + 0)) by omega) ev_v
  have p0 : qNB (vw C h) (fun q => (q : Int) = (ρ 1)) (ρ 4) := c2 (P := (fun r c => qNB (vw C h) (fun q => (q : Int) = r) c)) (show qNB (vw C h) (fun q => (q : Int) = (((0) + ((1) * ρ 1 + 0)))) (((0) + ((1) * ρ 4 + 0))) from hP _ (List.mem_of_getElem? (i := 0) rfl)) (by omega) (by omega)
  obtain ⟨σ, r1, r2a⟩ : ∃ σ : Va, (∀ i, i < 5 → σ i = ρ i) ∧ σ 5 = ((setC (ρ 4).toNat (28 + ((ρ 1).toNat - 49)) (ρ 3).toNat : Nat) : Int) := ⟨fun i => if i = 5 then ((setC (ρ 4).toNat (28 + ((ρ 1).toNat - 49)) (ρ 3).toNat : Nat) : Int) else ρ i, fun i hi => by dsimp only; rw [if_neg (by omega)], by dsimp only; rw [if_pos rfl]⟩
  have s0 := r1 0 (by omega)
  have s1 := r1 1 (by omega)
  have s2 := r1 2 (by omega)
  have s3 := r1 3 (by omega)
  have s4 := r1 4 (by omega)
  refine ⟨_, List.mem_cons_self, σ, r1, fun q hq => absurd hq List.not_mem_nil, trivial, fun f hf => ?_, fun q hq => absurd hq List.not_mem_nil, fun q hq => absurd hq List.not_mem_nil, fun q hq => absurd hq List.not_mem_nil, fun q hq => ?_⟩
  · exact absurd hf List.not_mem_nil
  · simp only [List.mem_cons, List.not_mem_nil, or_false] at hq
    rcases hq with rfl | rfl
    · show q396 (vw C h) (((0) + ((1) * σ 5 + 0)))
      refine c2 (P := (fun (_ : Int) c => q396 (vw C h) c)) (r := 0) (r' := 0) (c := ((setC (ρ 4).toNat (28 + ((ρ 1).toNat - 49)) (ρ 3).toNat : Nat) : Int)) ?_ rfl (by omega)
      show q396 (vw C h) (((setC (ρ 4).toNat (28 + ((ρ 1).toNat - 49)) (ρ 3).toNat : Nat) : Int))
      exact (c2 (P := (fun (_ : Int) c => q396 (vw C h) c)) (r := 0) (r' := 0) (r_set (v := ρ 3) (k := 28 + ((ρ 1).toNat - 49)) (q := (ρ 1).toNat) (by omega) (nP (by omega)) (by rw [ri28 (by omega)]; omega) (by omega) (by omega) (by rw [show ((((ρ 1).toNat : Nat)) : Int) = ρ 1 by omega]; exact p0) (Eq.trans (congrArg (vw C h 118) (show (ρ 1).toNat = (ρ 1).toNat by omega)) a0)) rfl (by omega))
    · show qSet (((-1376256) + ((65536) * σ 1 + ((1) * σ 3 + ((16777216) * σ 4 + 0))))) (((0) + ((1) * σ 5 + 0)))
      refine c2 (P := qSet) (r := 65536 * ρ 1 + ρ 3 + 16777216 * ρ 4 + (-1376256)) (c := ((setC (ρ 4).toNat (28 + ((ρ 1).toNat - 49)) (ρ 3).toNat : Nat) : Int)) ?_ (by omega) (by omega)
      show qSet (65536 * ρ 1 + ρ 3 + 16777216 * ρ 4 + (-1376256)) (((setC (ρ 4).toNat (28 + ((ρ 1).toNat - 49)) (ρ 3).toNat : Nat) : Int))
      exact oSet (V := ρ 4) (v := ρ 3) (k := 28 + ((ρ 1).toNat - 49)) (by omega) (by omega) (by omega) (by omega) rfl
/-- rsXg -/
theorem lem_738_ok (hU : uqG G C) : lem_738.1.2.1 = [] ∧ lemOK (PRd G C D xs) G rgs lem_738 := by
  refine ⟨rfl, fun ρ h ha hT => ?_⟩
  obtain ⟨-, -, hF, hG, hH, hA, hP⟩ := ha
  have f0 : (0 : Int) ≤ ((0) + ((1) * ρ 0 + 0)) := hF _ (List.mem_of_getElem? (i := 0) rfl)
  have f1 : (0 : Int) ≤ ((7) + ((-1) * ρ 0 + 0)) := hF _ (List.mem_of_getElem? (i := 1) rfl)
  have p0 : q396 (vw C h) (ρ 1) := c2 (P := (fun (_ : Int) c => q396 (vw C h) c)) (r := 0) (r' := 0) (show q396 (vw C h) (((0) + ((1) * ρ 1 + 0))) from hP _ (List.mem_of_getElem? (i := 0) rfl)) rfl (by omega)
  refine ⟨_, List.mem_cons_self, ρ, fun _ _ => rfl, fun q hq => absurd hq List.not_mem_nil, trivial, fun f hf => ?_, fun q hq => absurd hq List.not_mem_nil, fun q hq => absurd hq List.not_mem_nil, fun q hq => absurd hq List.not_mem_nil, fun q hq => ?_⟩
  · exact absurd hf List.not_mem_nil
  · simp only [List.mem_cons, List.not_mem_nil, or_false] at hq
    subst hq
    show qNB (vw C h) (fun q => (q : Int) = (((49) + ((1) * ρ 0 + 0)))) (((0) + ((1) * ρ 1 + 0)))
    refine c2 (P := (fun r c => qNB (vw C h) (fun q => (q : Int) = r) c)) (r := ρ 0 + 49) (c := ρ 1) ?_ (by omega) (by omega)
    show qNB (vw C h) (fun q => (q : Int) = (ρ 0 + 49)) (ρ 1)
    exact ⟨p0.1, nH_ex (fun _ _ _ _ hh => hh) p0.2.1, p0.2.2⟩
/-- rsUg -/
theorem lem_739_ok (hU : uqG G C) : lem_739.1.2.1 = [] ∧ lemOK (PRd G C D xs) G rgs lem_739 := by
  refine ⟨rfl, fun ρ h ha hT => ?_⟩
  obtain ⟨-, -, hF, hG, hH, hA, hP⟩ := ha
  have f0 : (0 : Int) ≤ ((0) + ((1) * ρ 3 + 0)) := hF _ (List.mem_of_getElem? (i := 0) rfl)
  have f1 : (0 : Int) ≤ ((9999) + ((-1) * ρ 3 + 0)) := hF _ (List.mem_of_getElem? (i := 1) rfl)
  have f2 : (0 : Int) ≤ ((0) + ((1) * ρ 1 + 0)) := hF _ (List.mem_of_getElem? (i := 2) rfl)
  have f3 : (0 : Int) ≤ ((7) + ((-1) * ρ 1 + 0)) := hF _ (List.mem_of_getElem? (i := 3) rfl)
  have g0 : G (ρ 0).toNat = 22 := by
    have q := (hG _ (List.mem_of_getElem? (i := 0) rfl)).2
    rwa [show ev ρ (0, [(0, 1)]) = ρ 0 from ev_v] at q
  have g1 : G (ρ 2).toNat = 118 := by
    have q := (hG _ (List.mem_of_getElem? (i := 1) rfl)).2
    rwa [show ev ρ (0, [(2, 1)]) = ρ 2 from ev_v] at q
  have b0 : (0 : Int) ≤ ((49) + ((1) * ρ 1 + 0)) := b_aA (hA _ (List.mem_of_getElem? (i := 0) rfl))
  have a0 : vw C h 118 (49 + (ρ 1).toNat) = ρ 3 := vw_aA hU (hA _ (List.mem_of_getElem? (i := 0) rfl)) ev_v g1 (by omega) (by omega) (i := 49 + (ρ 1).toNat) (show (((49 + (ρ 1).toNat : Nat)) : Int) = ((49) + ((1) * ρ 1 + 0)) by omega) ev_v
  have p0 : qNB (vw C h) (fun q => (q : Int) = (ρ 1 + 49)) (ρ 4) := c2 (P := (fun r c => qNB (vw C h) (fun q => (q : Int) = r) c)) (show qNB (vw C h) (fun q => (q : Int) = (((49) + ((1) * ρ 1 + 0)))) (((0) + ((1) * ρ 4 + 0))) from hP _ (List.mem_of_getElem? (i := 0) rfl)) (by omega) (by omega)
  obtain ⟨σ, r1, r2a⟩ : ∃ σ : Va, (∀ i, i < 5 → σ i = ρ i) ∧ σ 5 = ((setC (ρ 4).toNat (28 + (ρ 1).toNat) (ρ 3).toNat : Nat) : Int) := ⟨fun i => if i = 5 then ((setC (ρ 4).toNat (28 + (ρ 1).toNat) (ρ 3).toNat : Nat) : Int) else ρ i, fun i hi => by dsimp only; rw [if_neg (by omega)], by dsimp only; rw [if_pos rfl]⟩
  have s0 := r1 0 (by omega)
  have s1 := r1 1 (by omega)
  have s2 := r1 2 (by omega)
  have s3 := r1 3 (by omega)
  have s4 := r1 4 (by omega)
  refine ⟨_, List.mem_cons_self, σ, r1, fun q hq => absurd hq List.not_mem_nil, trivial, fun f hf => ?_, fun q hq => absurd hq List.not_mem_nil, fun q hq => absurd hq List.not_mem_nil, fun q hq => absurd hq List.not_mem_nil, fun q hq => ?_⟩
  · exact absurd hf List.not_mem_nil
  · simp only [List.mem_cons, List.not_mem_nil, or_false] at hq
    rcases hq with rfl | rfl
    · show q396 (vw C h) (((0) + ((1) * σ 5 + 0)))
      refine c2 (P := (fun (_ : Int) c => q396 (vw C h) c)) (r := 0) (r' := 0) (c := ((setC (ρ 4).toNat (28 + (ρ 1).toNat) (ρ 3).toNat : Nat) : Int)) ?_ rfl (by omega)
      show q396 (vw C h) (((setC (ρ 4).toNat (28 + (ρ 1).toNat) (ρ 3).toNat : Nat) : Int))
      exact (c2 (P := (fun (_ : Int) c => q396 (vw C h) c)) (r := 0) (r' := 0) (r_set (v := ρ 3) (k := 28 + (ρ 1).toNat) (q := 49 + (ρ 1).toNat) (by omega) (nP (by omega)) (ri28 (by omega)) (by omega) (by omega) (by rw [show (((49 + (ρ 1).toNat : Nat)) : Int) = ρ 1 + 49 by omega]; exact p0) (Eq.trans (congrArg (vw C h 118) (show 49 + (ρ 1).toNat = 49 + (ρ 1).toNat by omega)) a0)) rfl (by omega))
    · show qSet (((1835008) + ((65536) * σ 1 + ((1) * σ 3 + ((16777216) * σ 4 + 0))))) (((0) + ((1) * σ 5 + 0)))
      refine c2 (P := qSet) (r := 65536 * ρ 1 + ρ 3 + 16777216 * ρ 4 + 1835008) (c := ((setC (ρ 4).toNat (28 + (ρ 1).toNat) (ρ 3).toNat : Nat) : Int)) ?_ (by omega) (by omega)
      show qSet (65536 * ρ 1 + ρ 3 + 16777216 * ρ 4 + 1835008) (((setC (ρ 4).toNat (28 + (ρ 1).toNat) (ρ 3).toNat : Nat) : Int))
      exact oSet (V := ρ 4) (v := ρ 3) (k := 28 + (ρ 1).toNat) (by omega) (by omega) (by omega) (by omega) rfl
/-- kp0H -/
theorem lem_740_ok (hU : uqG G C) : lem_740.1.2.1 = [] ∧ lemOK (PRd G C D xs) G rgs lem_740 := by
  refine ⟨rfl, fun ρ h ha hT => ?_⟩
  obtain ⟨-, -, hF, hG, hH, hA, hP⟩ := ha
  have f0 : (0 : Int) ≤ ((0) + ((1) * ρ 0 + 0)) := hF _ (List.mem_of_getElem? (i := 0) rfl)
  have f1 : (0 : Int) ≤ ((5) + ((-1) * ρ 0 + 0)) := hF _ (List.mem_of_getElem? (i := 1) rfl)
  have p0 : q396 (vw C h) (ρ 1) := c2 (P := (fun (_ : Int) c => q396 (vw C h) c)) (r := 0) (r' := 0) (show q396 (vw C h) (((0) + ((1) * ρ 1 + 0))) from hP _ (List.mem_of_getElem? (i := 0) rfl)) rfl (by omega)
  refine ⟨_, List.mem_cons_self, ρ, fun _ _ => rfl, fun q hq => absurd hq List.not_mem_nil, trivial, fun f hf => ?_, fun q hq => absurd hq List.not_mem_nil, fun q hq => absurd hq List.not_mem_nil, fun q hq => absurd hq List.not_mem_nil, fun q hq => ?_⟩
  · exact absurd hf List.not_mem_nil
  · simp only [List.mem_cons, List.not_mem_nil, or_false] at hq
    subst hq
    show qKp (vw C h) 121 6 (((0) + ((1777) * ρ 0 + 0))) (((0) + ((1) * ρ 0 + ((16) * ρ 1 + 0))))
    refine c2 (P := (fun r c => qKp (vw C h) 121 6 r c)) (r := 1777 * ρ 0) (c := ρ 0 + 16 * ρ 1) ?_ (by omega) (by omega)
    show qKp (vw C h) 121 6 (1777 * ρ 0) (ρ 0 + 16 * ρ 1)
    exact (c2 (P := (fun r c => qKp (vw C h) 121 6 r c)) (r_kp0 (p := (ρ 0).toNat) (by omega) p0.1) (by omega) (by omega))
end LMT
