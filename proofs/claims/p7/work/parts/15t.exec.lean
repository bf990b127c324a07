/-! A method's code gone through in states of which part is known; loops by cuts with a measure. -/
section EXE
abbrev Cut : Type := Nat × sS × List (Nat × Nat) × LE × Nat × Nat
variable {PR : Nat → Int → Int → mH → Prop} {G : Nat → Nat} {gs : Nat → Option gS} {ρ : Va} {S : sS} {lv : mL} {st : List Value} {h h0 : mH} {np d nL pc len ns : Nat} {i : Instr} {lk : mK} {df : List (List Value)} {md : List (Nat × Nat)} {dp : dT}
def sxT (np d ns : Nat) (gs : Nat → Option gS) (dp : dT) (md : List (Nat × Nat)) (nL pc : Nat) (i : Instr) (len : Nat) (lk : mK) (S : sS) : Option (List (Nat × sS)) := match icl i with
  | 0 => (sxC i pc S).map fun q => [q]
  | 1 => match sxA2 np d i S with
    | some s => some [(pc + 1, s)]
    | none => match sxQ np d i S with
      | some s => some [(pc + 1, s)]
      | none => (sxA np d i S).map fun s => [(pc + 1, s)]
  | 2 => match i with
    | .getfield _ => match sxG np gs lk S with
      | some s => some [(pc + 3, s)]
      | none => (sxG2 np d gs lk S).map fun s => [(pc + 3, s)]
    | _ => (sxR np d gs i S).map fun s => [(pc + 1, s)]
  | 3 => sxB d i pc S
  | 4 => (sxS np d nL i pc S).map fun q => [q]
  | 5 => match i with
    | .putfield _ => (sxF d gs dp md lk S).map fun s => [(pc + 3, s)]
    | _ => (sxX d gs dp md i S).map fun s => [(pc + 1, s)]
  | 6 => match (match sxAb np d i lk S with
      | some s => some s
      | none => sxK np d ns i lk S) with
    | some s => some [(pc + lnI i len, s)]
    | none => match i with
      | .invokestatic _ => (match sxY d gs dp md lk S with
        | some s => some s
        | none => sxY2 d gs dp md lk S).map fun s => [(pc + 3, s)]
      | _ => none
  | _ => none
theorem sxT_ok {l : List (Nat × sS)} (hPR : PRk PR G gs dp) (hG : ∀ k, k < ns → G k = 300 + k) (hs : sxT np d ns gs dp md nL pc i len lk S = some l) (hT : TI G gs h) (ha : abs PR G ρ S lv st h) :
    ∃ q ∈ l, ∃ ρ' lv2 st2 h2, (∀ i, i < np → ρ' i = ρ i) ∧ stp none df nL pc i len lk lv st h = some (q.1, lv2, st2, h2, 0, 0) ∧ abs PR G ρ' q.2 lv2 st2 h2 ∧ TI G gs h2 ∧ fr G gs md h h2 := by
  have A : ∀ {q : Nat × sS}, StpA PR G np ρ df nL pc i len lk lv st h q → ∃ q' ∈ [q], ∃ ρ' lv2 st2 h2, (∀ i, i < np → ρ' i = ρ i) ∧ stp none df nL pc i len lk lv st h = some (q'.1, lv2, st2, h2, 0, 0) ∧ abs PR G ρ' q'.2 lv2 st2 h2 ∧ TI G gs h2 ∧ fr G gs md h h2 := fun {q} hq => by
    obtain ⟨lv2, st2, h1, ρ', h2, h3⟩ := hq
    exact ⟨q, List.mem_singleton.mpr rfl, ρ', lv2, st2, h, h2, h1, h3, hT, fr_rf⟩
  have Wr : ∀ {q : Nat × sS}, StpW PR G gs md ρ df nL pc i len lk lv st h q → ∃ q' ∈ [q], ∃ ρ' lv2 st2 h2, (∀ i, i < np → ρ' i = ρ i) ∧ stp none df nL pc i len lk lv st h = some (q'.1, lv2, st2, h2, 0, 0) ∧ abs PR G ρ' q'.2 lv2 st2 h2 ∧ TI G gs h2 ∧ fr G gs md h h2 := fun {q} hq => by
    obtain ⟨st2, h2, h1, h3, h4, h5⟩ := hq
    exact ⟨q, List.mem_singleton.mpr rfl, ρ, lv, st2, h2, fun _ _ => rfl, h1, h3, h4, h5⟩
  unfold sxT at hs
  split at hs
  · obtain ⟨q, hq, rfl⟩ := Option.map_eq_some_iff.mp hs
    exact A (sxC_ok hq ha)
  · split at hs
    next s hq => cases hs; exact A (sxA2_ok hPR hq ha)
    next =>
    split at hs
    next s hq => cases hs; exact A (sxQ_ok hPR hq ha)
    next =>
      obtain ⟨q, hq, rfl⟩ := Option.map_eq_some_iff.mp hs
      exact A (sxA_ok hq ha)
  · split at hs
    · split at hs
      next s hq => cases hs; exact A (sxG_ok hq hT ha)
      next => 
        obtain ⟨q, hq, rfl⟩ := Option.map_eq_some_iff.mp hs
        exact A (sxG2_ok hq hT ha)
    · obtain ⟨q, hq, rfl⟩ := Option.map_eq_some_iff.mp hs
      exact A (sxR_ok hq hT ha)
  · obtain ⟨q, hq, st2, h1, h2⟩ := sxB_ok (df := df) (nL := nL) (len := len) (lk := lk) hs ha
    exact ⟨q, hq, ρ, lv, st2, h, fun _ _ => rfl, h1, h2, hT, fr_rf⟩
  · obtain ⟨q, hq, rfl⟩ := Option.map_eq_some_iff.mp hs
    exact A (sxS_ok hq ha)
  · split at hs
    · obtain ⟨q, hq, rfl⟩ := Option.map_eq_some_iff.mp hs
      exact Wr (sxF_ok hPR hq hT ha)
    · obtain ⟨q, hq, rfl⟩ := Option.map_eq_some_iff.mp hs
      exact Wr (sxX_ok hPR hq hT ha)
  · split at hs
    next s hq =>
      cases hs
      split at hq
      next s2 hq2 => cases hq; exact A (sxAb_ok hPR hq2 ha)
      next => exact A (sxK_ok hG hq ha)
    next =>
      split at hs
      · obtain ⟨q, hq, rfl⟩ := Option.map_eq_some_iff.mp hs
        split at hq
        next s2 hq2 => cases hq; exact Wr (sxY_ok hPR hq2 hT ha)
        next => exact Wr (sxY2_ok hPR hq hT ha)
      · cases hs
  · cases hs
/-! a state brought to another's form -/
def srcE (S : sS) (q : Nat × Nat) : LE := if q.1 = 0 then (match lkL S.2.1 q.2 with
  | some v => v.2
  | none => cE 0) else match S.2.2.1 with
  | v :: _ => v.2
  | [] => cE 0
def fitL (n : Nat) (θ : List LE) (L PL : List (Nat × sV)) : Bool := PL.all fun q => match lkL L q.1 with
  | some u => mtV θ u q.2 && ltE n q.2.2
  | none => false
theorem fitL_ok {θ : List LE} {L PL : List (Nat × sV)} {n : Nat} (hf : fitL n θ L PL = true) (ha : aL ρ L lv) : aL (thE θ ρ) PL lv := by
  intro q hq
  have h1 := List.all_eq_true.mp hf q hq
  split at h1
  next u hu =>
    simp only [Bool.and_eq_true] at h1
    obtain ⟨w, g1, g2⟩ := aL_get ha hu
    exact ⟨w, g1, mtV_ok h1.1 h1.2 (fun _ _ => rfl) g2⟩
  next => cases h1
/-- the first unknowns stay what they are -/
def idT (npm : Nat) (θ : List LE) : Bool := (List.range npm).all fun i => eqE (θ.getD i (0, [])) (vE i)
theorem idT_ok {npm : Nat} {θ : List LE} (hi : idT npm θ = true) : ∀ i, i < npm → thE θ ρ i = ρ i := fun i hi2 => by
  unfold thE
  rw [eqE_ok (List.all_eq_true.mp hi i (List.mem_range.mpr hi2)), ev_v]
/-- θ and the state for a form P -/
def toP (np npm d : Nat) (gs : Nat → Option gS) (S : sS) (P : sS) (src : List (Nat × Nat)) : Option (sS × List LE) := match thH np gs P.2.2.2.2.2.1 S ((List.range npm).map vE ++ src.map (srcE S)) with
  | some (S1, θ1) => match thA np d gs P.2.2.2.2.2.2.1 S1 θ1 with
    | some (S2, θ2) => some (S2, thP d S2.2.2.2.1 S2.2.2.2.2.2.2.2 P.2.2.2.2.2.2.2 θ2)
    | none => none
  | none => none
theorem toP_ok {npm : Nat} {P S' : sS} {src : List (Nat × Nat)} {θ : List LE} (ht : toP np npm d gs S P src = some (S', θ)) (hT : TI G gs h) (ha : abs PR G ρ S lv st h) : Ext PR G np ρ S S' lv st h := by
  unfold toP at ht
  split at ht
  next S1 θ1 h1 =>
    split at ht
    next S2 θ2 h2 => cases ht; exact (thH_ok hT h1 ha).tr fun ρ' ha' => thA_ok hT h2 ha'
    next => cases ht
  next => cases ht
def atP (np npm d : Nat) (gs : Nat → Option gS) (S P : sS) (src : List (Nat × Nat)) (ms : List (Option LE × LE)) : Bool := match toP np npm d gs S P src with
  | some (S2, θ) => fits d S2 θ S2.2.2.1 P && (fitL P.1 θ S2.2.1 P.2.1 && (idT npm θ && ms.all fun q => match q.1 with
    | none => true
    | some m => ltE np m && (ltE P.1 q.2 && ent S2.2.2.2.1 d (subE (subE m (cE 1)) (sbE θ q.2)))))
  | none => false
theorem atP_ok {npm : Nat} {P : sS} {src : List (Nat × Nat)} {ms : List (Option LE × LE)} (hnp : npm ≤ np) (hat : atP np npm d gs S P src ms = true) (hT : TI G gs h) (ha : abs PR G ρ S lv st h) :
    ∃ ρ', (∀ i, i < npm → ρ' i = ρ i) ∧ abs PR G ρ' P lv st h ∧ ∀ q ∈ ms, ∀ m, q.1 = some m → ev ρ' q.2 < ev ρ m := by
  unfold atP at hat
  split at hat
  next S2 θ ht =>
    simp only [Bool.and_eq_true] at hat
    obtain ⟨f1, f2, f3, f4⟩ := hat
    obtain ⟨ρ1, g1, g2, g3, g4⟩ := toP_ok ht hT ha
    refine ⟨thE θ ρ1, fun i hi => (idT_ok f3 i hi).trans (g1 i (by omega)), fits_ok f1 (fitL_ok f2 g2.1) g2 g2.2.1, fun q hq m hm => ?_⟩
    have h1 := List.all_eq_true.mp f4 q hq
    rw [hm] at h1
    simp only [Bool.and_eq_true] at h1
    have h2 := ent_ok g2.2.2.1 _ _ h1.2.2
    rw [ev_sub, ev_sub, ev_c, ev_th (ρ' := thE θ ρ1) (fun _ _ => rfl) h1.2.1, ev_same g1 h1.1] at h2
    omega
  next => cases hat
/-- what an end instruction answers, by its form -/
def finS (d : Nat) (rt : Option FieldType) (i : Instr) (S : sS) : Bool := match i, S.2.2.1, rt with
  | .return_, [], none => true
  | .ireturn, [(0, _)], some .int => true
  | .ireturn, [(0, e)], some .boolean => ent S.2.2.2.1 d e && ent S.2.2.2.1 d (subE (cE 1) e)
  | .ireturn, [(0, e)], some .char => ent S.2.2.2.1 d e && ent S.2.2.2.1 d (subE (cE 65535) e)
  | .ireturn, [(0, e)], some .byte => ent S.2.2.2.1 d (addE e (cE 128)) && ent S.2.2.2.1 d (subE (cE 127) e)
  | .lreturn, [(3, _)], some .long => true
  | .freturn, [(4, _)], some .float => true
  | .areturn, [(1, _)], some (.object _) => true
  | .areturn, [(2, _)], some (.object _) => true
  | .areturn, [(1, _)], some (.array _) => true
  | _, _, _ => false
theorem nar_b {x : Int32} (h0 : 0 ≤ x.toInt) (h1 : x.toInt ≤ 1) : narrow .boolean (.int x) = .int x := by
  have hx : x = 0 ∨ x = 1 := by
    by_cases h : x.toInt = 0
    · exact Or.inl (Int32.toInt_inj.mp (by rw [h]; decide))
    · exact Or.inr (Int32.toInt_inj.mp (by rw [show x.toInt = 1 by omega]; decide))
  rcases hx with rfl | rfl <;> rfl
theorem nar_c {x : Int32} (h0 : 0 ≤ x.toInt) (h1 : x.toInt ≤ 65535) : narrow .char (.int x) = .int x := by
  have hx : x = nI x.toInt.toNat := Int32.toInt_inj.mp (by rw [nI_toInt (by omega)]; omega)
  rw [hx]
  exact (pk_charN (by omega)).1
theorem nar_y {x : Int32} (h0 : -128 ≤ x.toInt) (h1 : x.toInt ≤ 127) : narrow .byte (.int x) = .int x := by
  show Value.int x.toInt8.toInt32 = .int x
  refine congrArg Value.int (Int32.toInt_inj.mp ?_)
  rw [Int8.toInt_toInt32, Int32.toInt_toInt8]
  exact Int.bmod_eq_of_le (by omega) (by omega)
theorem finS_ok {rt : Option FieldType} (hf : finS d rt i S = true) (ha : abs PR G ρ S lv st h) : ∃ v, fin rt i st = some v ∧ v.toList = st := by
  have ha2 := ha.2.1
  unfold finS at hf
  split at hf
  next hst => rw [hst] at ha2; cases st with | nil => exact ⟨none, rfl, rfl⟩ | cons _ _ => exact ha2.elim
  next e hst =>
    rw [hst] at ha2
    obtain ⟨x, w, rfl, hx, hr⟩ := i_of ha2
    cases w with
    | nil => exact ⟨some (.int x), by show (if _ then _ else _) = _; rw [if_pos ⟨vp_nar_int x, rfl⟩], rfl⟩
    | cons _ _ => exact hr.elim
  next e hst =>
    rw [hst] at ha2
    obtain ⟨x, w, rfl, hx, hr⟩ := i_of ha2
    simp only [Bool.and_eq_true] at hf
    have h1 := ent_ok ha.2.2.1 _ _ hf.1
    have h2 := ent_ok ha.2.2.1 _ _ hf.2
    rw [ev_sub, ev_c] at h2
    cases w with
    | nil => exact ⟨some (.int x), by show (if _ then _ else _) = _; rw [if_pos ⟨nar_b (by omega) (by omega), rfl⟩], rfl⟩
    | cons _ _ => exact hr.elim
  next e hst =>
    rw [hst] at ha2
    obtain ⟨x, w, rfl, hx, hr⟩ := i_of ha2
    simp only [Bool.and_eq_true] at hf
    have h1 := ent_ok ha.2.2.1 _ _ hf.1
    have h2 := ent_ok ha.2.2.1 _ _ hf.2
    rw [ev_sub, ev_c] at h2
    cases w with
    | nil => exact ⟨some (.int x), by show (if _ then _ else _) = _; rw [if_pos ⟨nar_c (by omega) (by omega), rfl⟩], rfl⟩
    | cons _ _ => exact hr.elim
  next e hst =>
    rw [hst] at ha2
    obtain ⟨x, w, rfl, hx, hr⟩ := i_of ha2
    simp only [Bool.and_eq_true] at hf
    have h1 := ent_ok ha.2.2.1 _ _ hf.1
    have h2 := ent_ok ha.2.2.1 _ _ hf.2
    rw [ev_add, ev_c] at h1
    rw [ev_sub, ev_c] at h2
    cases w with
    | nil => exact ⟨some (.int x), by show (if _ then _ else _) = _; rw [if_pos ⟨nar_y (by omega) (by omega), rfl⟩], rfl⟩
    | cons _ _ => exact hr.elim
  next e hst =>
    rw [hst] at ha2
    obtain ⟨v, w, rfl, hv, hr⟩ := aS_cons ha2
    obtain ⟨x, rfl⟩ := dV3 rfl hv
    cases w with
    | nil => exact ⟨_, rfl, rfl⟩
    | cons _ _ => exact hr.elim
  next e hst =>
    rw [hst] at ha2
    obtain ⟨v, w, rfl, hv, hr⟩ := aS_cons ha2
    obtain ⟨x, rfl⟩ := dV4 rfl hv
    cases w with
    | nil => exact ⟨_, rfl, rfl⟩
    | cons _ _ => exact hr.elim
  next e C hst =>
    rw [hst] at ha2
    obtain ⟨v, w, rfl, hv, hr⟩ := aS_cons ha2
    obtain ⟨-, rfl⟩ := dV1 rfl hv
    cases w with
    | nil => exact ⟨_, rfl, rfl⟩
    | cons _ _ => exact hr.elim
  next e C hst =>
    rw [hst] at ha2
    obtain ⟨v, w, rfl, hv, hr⟩ := aS_cons ha2
    obtain rfl := dV2 rfl hv
    cases w with
    | nil => exact ⟨_, rfl, rfl⟩
    | cons _ _ => exact hr.elim
  next e C hst =>
    rw [hst] at ha2
    obtain ⟨v, w, rfl, hv, hr⟩ := aS_cons ha2
    obtain ⟨-, rfl⟩ := dV1 rfl hv
    cases w with
    | nil => exact ⟨_, rfl, rfl⟩
    | cons _ _ => exact hr.elim
  next => cases hf
/-! calls -/
def popS : Nat → List sV → Option (List sV × List sV)
  | 0, st => some ([], st)
  | n + 1, v :: st => match popS n st with
    | some (a, r) => some (a ++ [v], r)
    | none => none
  | _ + 1, [] => none
theorem popS_ok : ∀ {n : Nat} {l as r : List sV} {st : List Value}, popS n l = some (as, r) → aS ρ l st → (∃ pre, l = pre ++ r) ∧ ∃ asv w, popN n st = some (asv, w) ∧ ∀ ρ', aS ρ' l st → aS ρ' as asv ∧ aS ρ' r w
  | 0, l, as, r, st, hp, ha => by cases hp; exact ⟨⟨[], rfl⟩, [], st, rfl, fun ρ' h' => ⟨trivial, h'⟩⟩
  | n + 1, v :: l, as, r, st, hp, ha => by
    unfold popS at hp
    split at hp
    next a r' h1 =>
      cases hp
      obtain ⟨x, w, rfl, hx, hw⟩ := aS_cons ha
      obtain ⟨⟨pre, rfl⟩, asv, w', g1, g2⟩ := popS_ok h1 hw
      exact ⟨⟨v :: pre, rfl⟩, asv ++ [x], w', by unfold popN; rw [g1], fun ρ' h' => ⟨aS_app (b := [v]) (g2 ρ' h'.2).1 ⟨h'.1, trivial⟩, (g2 ρ' h'.2).2⟩⟩
    next => cases hp
  | n + 1, [], as, r, st, hp, _ => by cases hp
/-- a call: the arguments with the receiver, the stack below -/
def calS (mt : Nat → Option mM) (gs : Nat → Option gS) (i : Instr) (lk : mK) (S : sS) : Option (mM × List sV × List sV) := if lk.1 = 1 then match mt lk.2.1 with
    | none => none
    | some D => match popS (dna D) S.2.2.1 with
      | none => none
      | some (as, r) => match i with
        | .invokestatic _ => if catL r ≤ 8 then some (D, as, r) else none
        | .invokespecial _ => match r with
          | (1, x) :: r => if catL r ≤ 8 ∧ (lk.2.2.1 = 1 → (oG gs S x (dci D)).isSome = true) then some (D, (1, x) :: as, r) else none
          | _ => none
        | .invokevirtual _ => match r with
          | (1, x) :: r => if catL r ≤ 8 ∧ ((oG gs S x (dci D)).isSome = true ∨ (lk.2.2.1 = 7 ∧ sOK gs S x = true)) then some (D, (1, x) :: as, r) else none
          | _ => none
        | _ => none
  else none
theorem cal_nos {mt : Nat → Option mM} {D2 : mM} {as r : List sV} (hc : calS mt gs i lk S = some (D2, as, r)) : lk.1 = 1 ∧ mt lk.2.1 = some D2 ∧ stNo i lk ∧ (∀ rt st, fin rt i st = none) ∧ ∀ st, flo i st = none := by
  unfold calS at hc
  split at hc
  next hk =>
    have nk : ∀ {j : Instr}, (∀ pc lv st, actC j pc lv st = none) → (∀ pc st, actA j pc st = none) → (∀ st h, actR j lk st h = none) → (∀ pc st, actB j pc st = none) → (∀ nL pc lv st, actS nL j pc lv st = none) → (∀ st h, actW j lk st h = none) → (∀ st, actK j lk st = none) → (∀ sc st, actX sc j st = none) → (∀ df st h, actN df j lk st h = none) → stNo j lk := fun a b c d e f g h i => stp_no a b c d e f g h (Or.inr i)
    split at hc
    next => cases hc
    next D hD =>
    split at hc
    next => cases hc
    next as' r' hp =>
    split at hc
    next idx =>
      split at hc
      next => cases hc; exact ⟨hk, hD, nk (fun _ _ _ => rfl) (fun _ _ => rfl) (fun _ _ => rfl) (fun _ _ => rfl) (fun _ _ _ _ => rfl) (fun _ _ => actW_st (by omega)) (fun st => by unfold actK; split <;> simp_all) (fun sc _ => by cases sc <;> rfl) (fun _ _ _ => rfl), fun _ _ => rfl, fun _ => rfl⟩
      next => cases hc
    next idx =>
      split at hc
      next =>
        split at hc
        next => cases hc; exact ⟨hk, hD, nk (fun _ _ _ => rfl) (fun _ _ => rfl) (fun _ _ => rfl) (fun _ _ => rfl) (fun _ _ _ _ => rfl) (fun _ _ => rfl) (fun st => by unfold actK; split <;> simp_all) (fun sc _ => by cases sc <;> rfl) (fun _ _ _ => rfl), fun _ _ => rfl, fun _ => rfl⟩
        next => cases hc
      next => cases hc
    next idx =>
      split at hc
      next =>
        split at hc
        next => cases hc; exact ⟨hk, hD, nk (fun _ _ _ => rfl) (fun _ _ => rfl) (fun _ _ => rfl) (fun _ _ => rfl) (fun _ _ _ _ => rfl) (fun _ _ => rfl) (fun st => by unfold actK; split <;> simp_all) (fun sc _ => by cases sc <;> rfl) (fun _ _ _ => rfl), fun _ _ => rfl, fun _ => rfl⟩
        next => cases hc
      next => cases hc
    next => cases hc
  next => cases hc
theorem oG_some {x : LE} {ci : Nat} (hT : TI G gs h) (ho : (oG gs S x ci).isSome = true) (ha : abs PR G ρ S lv st h) : ∃ fs, h[(ev ρ x).toNat]? = some (.inr (ci, fs)) := by
  obtain ⟨q, hq⟩ := Option.isSome_iff_exists.mp ho
  obtain ⟨g, fs⟩ := q
  obtain ⟨-, -, hgs⟩ := oG_ok hq ha
  obtain ⟨vs, hx, -⟩ := TI_obj hT hgs
  exact ⟨vs, hx⟩
theorem sOK_ok {x : LE} (ho : sOK gs S x = true) (hT : TI G gs h) (ha : abs PR G ρ S lv st h) : ∃ f, h[(ev ρ x).toNat]? = some (.inl (999, 1, .inr (.inr (.inr (.inr f))))) := by
  unfold sOK at ho
  split at ho
  next g t n p sg hg =>
    simp only [Bool.and_eq_true, nbt] at ho
    obtain ⟨rfl, rfl⟩ := ho
    obtain ⟨-, -, hgs⟩ := aGg_ok hg ha
    obtain ⟨c, hx, hk, -⟩ := TI_arr hT hgs (aGg_ex hg ha)
    obtain ⟨f, rfl⟩ := kd7 (c := c) hk
    exact ⟨f, hx⟩
  next => cases ho
theorem calS_ok {mt : Nat → Option mM} {D2 : mM} {as r : List sV} (hc : calS mt gs i lk S = some (D2, as, r)) (hT : TI G gs h) (ha : abs PR G ρ S lv st h) : (∃ pre, S.2.2.1 = pre ++ r) ∧ ∃ asv w, cal mt i lk st h = some (D2, asv, w) ∧ ∀ ρ', aS ρ' S.2.2.1 st → aS ρ' as asv ∧ aS ρ' r w := by
  unfold calS at hc
  unfold cal
  split at hc
  next hk =>
    rw [if_pos hk]
    split at hc
    next => cases hc
    next D hD =>
    rw [hD]
    dsimp only
    split at hc
    next => cases hc
    next as' r' hp =>
    obtain ⟨⟨pre, hpre⟩, asv, w, g1, g4⟩ := popS_ok hp ha.2.1
    have g3 := (g4 ρ ha.2.1).2
    rw [g1]
    dsimp only
    split at hc
    next idx =>
      split at hc
      next h8 =>
        cases hc
        dsimp only
        rw [if_pos (by rw [catL_ok g3]; exact h8)]
        exact ⟨⟨pre, hpre⟩, asv, w, rfl, g4⟩
      next => cases hc
    next idx =>
      split at hc
      next x r2 =>
        split at hc
        next h8 =>
          cases hc
          obtain ⟨u, w2, rfl, hu, hr2⟩ := aS_cons g3
          obtain ⟨hx0, rfl⟩ := dV1 rfl hu
          refine ⟨⟨pre ++ [(1, x)], by rw [hpre]; simp⟩, .ref (ev ρ x).toNat :: asv, w2, ?_, fun ρ' h' => ⟨⟨(g4 ρ' h').2.1, (g4 ρ' h').1⟩, (g4 ρ' h').2.2⟩⟩
          dsimp only
          by_cases h1 : lk.2.2.1 = 1
          · obtain ⟨fs, hx⟩ := oG_some hT (h8.2 h1) ha
            rw [if_pos h1, hx]
            dsimp only
            rw [if_pos ⟨by rw [catL_ok hr2]; exact h8.1, rfl⟩]
          · rw [if_neg h1, if_pos (by rw [catL_ok hr2]; exact h8.1)]
        next => cases hc
      next => cases hc
    next idx =>
      split at hc
      next x r2 =>
        split at hc
        next h8 =>
          cases hc
          obtain ⟨u, w2, rfl, hu, hr2⟩ := aS_cons g3
          obtain ⟨hx0, rfl⟩ := dV1 rfl hu
          refine ⟨⟨pre ++ [(1, x)], by rw [hpre]; simp⟩, .ref (ev ρ x).toNat :: asv, w2, ?_, fun ρ' h' => ⟨⟨(g4 ρ' h').2.1, (g4 ρ' h').1⟩, (g4 ρ' h').2.2⟩⟩
          dsimp only
          rcases h8.2 with h9 | ⟨h7, h9⟩
          · obtain ⟨fs, hx⟩ := oG_some hT h9 ha
            rw [hx]
            dsimp only
            rw [if_pos ⟨by rw [catL_ok hr2]; exact h8.1, rfl⟩]
          · obtain ⟨f, hx⟩ := sOK_ok h9 hT ha
            rw [hx]
            dsimp only
            rw [if_pos ⟨by rw [catL_ok hr2]; exact h8.1, rfl, h7⟩]
        next => cases hc
      next => cases hc
    next => cases hc
  next => cases hc
end EXE
