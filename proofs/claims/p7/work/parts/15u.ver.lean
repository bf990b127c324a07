/-! A contract out of a method's code, decided. -/
section VER
variable {PR : Nat → Int → Int → mH → Prop} {G : Nat → Nat} {gs : Nat → Option gS} {dp : dT} {mt : Nat → Option mM} {df : List (List Value)}
def fndC : List Cut → Nat → List Cut
  | [], _ => []
  | q :: r, pc => cond (Nat.beq q.1 pc) (q :: fndC r pc) (fndC r pc)
theorem fndC_ok {pc : Nat} {q : Cut} : ∀ {l : List Cut}, q ∈ fndC l pc → q ∈ l ∧ q.1 = pc
  | [], h => absurd h List.not_mem_nil
  | p :: r, h => by
    unfold fndC at h
    cases hb : Nat.beq p.1 pc with
    | true =>
      rw [hb] at h
      rcases List.mem_cons.mp h with rfl | h
      · exact ⟨List.mem_cons_self, Nat.eq_of_beq_eq_true hb⟩
      · exact ⟨List.mem_cons_of_mem _ (fndC_ok h).1, (fndC_ok h).2⟩
    | false => rw [hb] at h; exact ⟨List.mem_cons_of_mem _ (fndC_ok h).1, (fndC_ok h).2⟩
def lkC : List (Nat × Nat) → Nat → List Nat
  | [], _ => []
  | q :: r, pc => cond (Nat.beq q.1 pc) (q.2 :: lkC r pc) (lkC r pc)
/-- where the unknown of an answer comes from -/
def retS (npm : Nat) (P : sS) : List (Nat × Nat) := match P.2.2.1 with
  | (_, e) :: _ => if eqE e (vE npm) = true then [(1, 0)] else []
  | [] => []
def noL (S : sS) : sS := (S.1, [], S.2.2)
def falE (f : LE) : Bool := match f.2 with
  | [] => decide (f.1 < 0)
  | _ :: _ => false
/-- a fact of one unknown that is against what was known before -/
def falN (F : List LE) (f : LE) : Bool := match f.2 with
  | [_] => ent F 1 (subE (cE (-1)) f)
  | _ => false
theorem falN_ok {ρ : Va} {F : List LE} {f : LE} (h : falN F f = true) (hF : aF ρ F) (hf : 0 ≤ ev ρ f) : False := by
  unfold falN at h
  split at h
  next =>
    have h1 := ent_ok hF _ _ h
    rw [ev_sub, ev_c] at h1
    omega
  next => cases h
def falP (S S' : sS) (n : Nat) : Bool := (S'.2.2.2.1.take n).any (falN S.2.2.2.1)
theorem falP_ok {ρ : Va} {S S' : sS} {n : Nat} (h : falP S S' n = true) (hS : aF ρ S.2.2.2.1) (ha : aF ρ S'.2.2.2.1) : False := by
  obtain ⟨f, hf, h1⟩ := List.any_eq_true.mp h
  exact falN_ok h1 hS (ha f (List.mem_of_mem_take hf))
/-- a fact that is none -/
def falS (S : sS) : Bool := S.2.2.2.1.any falE
theorem falS_ok {ρ : Va} {S : sS} (h : falS S = true) (ha : aF ρ S.2.2.2.1) : False := by
  obtain ⟨f, hf, h1⟩ := List.any_eq_true.mp h
  have h2 := ha f hf
  obtain ⟨c, r⟩ := f
  unfold falE at h1
  cases r with
  | nil =>
    have h1 := of_decide_eq_true h1
    have h3 : ev ρ (c, []) = c := ev_c
    dsimp only at h1
    omega
  | cons _ _ => cases h1
def beqH : List (Nat × Nat × Nat × Nat) → List (Nat × Nat × Nat × Nat) → Bool
  | [], [] => true
  | a :: r, b :: s => Nat.beq a.1 b.1 && (Nat.beq a.2.1 b.2.1 && (Nat.beq a.2.2.1 b.2.2.1 && (Nat.beq a.2.2.2 b.2.2.2 && beqH r s)))
  | _, _ => false
theorem beqH_ok : ∀ {a b : List (Nat × Nat × Nat × Nat)}, beqH a b = true → a = b
  | [], [], _ => rfl
  | a :: r, b :: s, h => by
    simp only [beqH, Bool.and_eq_true, nbt] at h
    obtain ⟨h1, h2, h3, h4, h5⟩ := h
    rw [beqH_ok h5, Prod.ext h1 (Prod.ext h2 (Prod.ext h3 h4))]
  | [], _ :: _, h => by cases h
  | _ :: _, [], h => by cases h
/-- the same method, maybe with another room -/
def smM (mt : Nat → Option mM) (y0 y : Nat) (D : mM) : Option mM := cond (Nat.beq y y0) (some D) (match mt y with
  | none => none
  | some D3 => if (decide (dy D3 = dy D) && (Nat.beq (dna D3) (dna D) && (Nat.beq (dci D3) (dci D) && (decide (drt D3 = drt D) && beqH (dhh D3) (dhh D))))) = true then some D3 else none)
theorem smM_ok {mt : Nat → Option mM} {y0 y : Nat} {D D3 : mM} (h : smM mt y0 y D = some D3) (hy : mt y0 = some D) : mt y = some D3 ∧ sameM D D3 := by
  unfold smM at h
  cases hb : Nat.beq y y0 with
  | true =>
    rw [hb] at h
    cases h
    rw [Nat.eq_of_beq_eq_true hb]
    exact ⟨hy, rfl, rfl, rfl, rfl, rfl⟩
  | false =>
    rw [hb] at h
    dsimp only [cond_false] at h
    split at h
    next => cases h
    next D4 h4 =>
      split at h
      next hc =>
        cases h
        simp only [Bool.and_eq_true, decide_eq_true_eq, nbt] at hc
        obtain ⟨c1, c2, c3, c4, c5⟩ := hc
        exact ⟨h4, c1, c2, c3, c4, beqH_ok c5⟩
      next => cases h
/-! facts put in between: a contract without a call -/
def lemOK (PR : Nat → Int → Int → mH → Prop) (G : Nat → Nat) (gs : Nat → Option gS) (c : Ctr) : Prop := ∀ (ρ : Va) (h : mH), abs PR G ρ c.1 [] [] h → TI G gs h → ∃ P, P ∈ c.2.1 ∧ ∃ ρ', (∀ i, i < c.1.1 → ρ' i = ρ i) ∧ abs PR G ρ' P [] [] h
def srcL (S : sS) (q : Nat × Nat) : LE := match q.1 with
  | 0 => (match lkL S.2.1 q.2 with
    | some v => v.2
    | none => cE ((q.2 : Int) - 1000))
  | 99 => (S.2.2.2.2.2.2.1.getD q.2 (cE 0, cE 0, 0, cE 0)).2.2.2
  | k + 1 => (S.2.2.1.getD k (0, cE 0)).2
def lm1 (np d : Nat) (gs : Nat → Option gS) (dp : dT) (c : Ctr) (src : List (Nat × Nat)) (S : sS) : List sS := match thH np gs c.1.2.2.2.2.2.1 S (src.map (srcL S)) with
  | none => [S]
  | some (S1, θ1) => match thA np d gs c.1.2.2.2.2.2.2.1 S1 θ1 with
    | none => [S]
    | some (S2, θ2) => match thP d S2.2.2.2.1 S2.2.2.2.2.2.2.2 c.1.2.2.2.2.2.2.2 θ2 with
     | θ => if (fits d S2 θ [] (noL c.1) && c.2.1.all fun P => aftC np S2 θ c P) = true then (c.2.1.map fun P => aftS d gs dp S2 θ c P S2.2.2.1).filter fun S => !(falS S) else [S]
theorem abs_noL {ρ : Va} {S : sS} {lv lv' : mL} {st : List Value} {h : mH} (ha : abs PR G ρ S lv st h) : abs PR G ρ (noL S) lv' st h := ⟨fun q hq => absurd hq List.not_mem_nil, ha.2⟩
theorem lm1_ok {np d : Nat} {c : Ctr} {src : List (Nat × Nat)} {S : sS} {ρ : Va} {lv : mL} {st : List Value} {h : mH} (hPR : PRk PR G gs dp) (hl : c.1.2.1 = [] ∧ lemOK PR G gs c) (hT : TI G gs h) (ha : abs PR G ρ S lv st h) : ∃ S2 ∈ lm1 np d gs dp c src S, ∃ ρ', (∀ i, i < np → ρ' i = ρ i) ∧ abs PR G ρ' S2 lv st h := by
  unfold lm1
  split
  next => exact ⟨S, List.mem_singleton.mpr rfl, ρ, fun _ _ => rfl, ha⟩
  next S1 θ1 h1 =>
  split
  next => exact ⟨S, List.mem_singleton.mpr rfl, ρ, fun _ _ => rfl, ha⟩
  next S2 θ2 h2 =>
  generalize thP d S2.2.2.2.1 S2.2.2.2.2.2.2.2 c.1.2.2.2.2.2.2.2 θ2 = θ
  dsimp only
  split
  next hc =>
    simp only [Bool.and_eq_true] at hc
    obtain ⟨f1, f2⟩ := hc
    obtain ⟨ρ1, a1, a2, a3, a4⟩ := (thH_ok hT h1 ha).tr (np := np) fun ρ' ha' => thA_ok hT h2 ha'
    have hpre := fits_ok (lv' := lv) f1 (fun q hq => absurd hq List.not_mem_nil) a2 (show aS ρ1 [] [] from trivial)
    obtain ⟨P, hP, ρ', b1, b2⟩ := hl.2 (thE θ ρ1) h ⟨by rw [hl.1]; exact fun q hq => absurd hq List.not_mem_nil, hpre.2⟩ hT
    obtain ⟨ρ2, d1, d2⟩ := aft_ok (d := d) (rest := S2.2.2.1) (w := st) hPR (List.all_eq_true.mp f2 P hP) a2 hT hT fr_rf b1 b2 ⟨[], rfl⟩ a2.2.1
    have hnf : falS (aftS d gs dp S2 θ c P S2.2.2.1) = false := by
      cases hb : falS (aftS d gs dp S2 θ c P S2.2.2.1) with
      | false => rfl
      | true => exact (falS_ok hb d2.2.2.1).elim
    exact ⟨_, List.mem_filter.mpr ⟨List.mem_map.mpr ⟨P, hP, rfl⟩, by rw [hnf]; rfl⟩, ρ2, fun i hi => (d1 i hi).trans (a1 i hi), d2⟩
  next => exact ⟨S, List.mem_singleton.mpr rfl, ρ, fun _ _ => rfl, ha⟩
def lmS (np d : Nat) (gs : Nat → Option gS) (dp : dT) (LL : Nat → Option Ctr) : List (Nat × Nat × List (Nat × Nat)) → Nat → List sS → List sS
  | [], _, l => l
  | q :: r, pc, l => lmS np d gs dp LL r pc (cond (Nat.beq q.1 pc) (match LL q.2.1 with
    | none => l
    | some c => l.flatMap (lm1 np d gs dp c q.2.2)) l)
theorem lmS_ok {np d : Nat} {LL : Nat → Option Ctr} {lv : mL} {st : List Value} {h : mH} (hPR : PRk PR G gs dp) (hLL : ∀ i c, LL i = some c → c.1.2.1 = [] ∧ lemOK PR G gs c) (hT : TI G gs h) {ρ : Va} : ∀ {ls : List (Nat × Nat × List (Nat × Nat))} {pc : Nat} {l : List sS}, (∃ S ∈ l, ∃ ρ', (∀ i, i < np → ρ' i = ρ i) ∧ abs PR G ρ' S lv st h) →
    ∃ S ∈ lmS np d gs dp LL ls pc l, ∃ ρ', (∀ i, i < np → ρ' i = ρ i) ∧ abs PR G ρ' S lv st h
  | [], pc, l, hl => hl
  | q :: r, pc, l, hl => by
    unfold lmS
    refine lmS_ok hPR hLL hT ?_
    cases hb : Nat.beq q.1 pc with
    | false => exact hl
    | true =>
      dsimp only [cond_true]
      split
      next => exact hl
      next c hc =>
        obtain ⟨S, hS, ρ1, g1, g2⟩ := hl
        obtain ⟨S2, h2, ρ2, g3, g4⟩ := lm1_ok (np := np) (d := d) (src := q.2.2) hPR (hLL _ _ hc) hT g2
        exact ⟨S2, List.mem_flatMap.mpr ⟨S, hS, h2⟩, ρ2, fun i hi => (g3 i hi).trans (g1 i hi), g4⟩
def ex (np npm d ns : Nat) (gs : Nat → Option gS) (dp : dT) (mt : Nat → Option mM) (D : mM) (c : Ctr) (CL : Nat → Option (Nat × Ctr)) (cs : List (Nat × Nat)) (LL : Nat → Option Ctr) (ls : List (Nat × Nat × List (Nat × Nat))) (cuts : List Cut) (mv : Option LE) (xa : Option Nat × (Nat → Option Nat) × (Nat × Nat) × Nat) : Nat → Bool → Nat → Nat → Nat → sS → Bool
  | 0, _, _, _, _, _ => false
  | f + 1, fst, pc, uc, us, S => match (cond fst [] (fndC cuts pc) : List Cut) with
    | q0 :: qs => (q0 :: qs).any fun q => (match mv with
        | none => Nat.ble uc q.2.2.2.2.1 && Nat.ble us q.2.2.2.2.2
        | some _ => Nat.ble uc (q.2.2.2.2.1 + xa.2.2.1.1) && Nat.ble us (q.2.2.2.2.2 + xa.2.2.1.2)) && atP np npm d gs S q.2.1 q.2.2.1 [(mv, q.2.2.2.1)]
    | [] => (lmS np d gs dp LL ls pc [S]).all fun S => match rowAtB (drw D) pc with
      | none => false
      | some (i, len, lk) => match wkI i S with
      | S => match sxT np d ns gs dp c.2.2.1 (dml D) pc i len lk S with
        | some l => l.all fun q => ex np npm d ns gs dp mt D c CL cs LL ls cuts mv xa f false q.1 uc us q.2
        | none => match (match xa.1 with
          | some x0 => sxX0 x0 np d i S
          | none => none) with
         | some S2 => ex np npm d ns gs dp mt D c CL cs LL ls cuts mv xa f false (pc + 1) uc us S2
         | none => match sxN gs dp c.2.2.1 xa.2.1 i lk S with
          | some (S2, k) => Nat.ble (uc + 1 + xa.2.2.1.1 * xa.2.2.2) (dkr D) && (Nat.ble (us + k + xa.2.2.1.2 * xa.2.2.2) (dnr D) && ex np npm d ns gs dp mt D c CL cs LL ls cuts mv xa f false (pc + lnI i len) (uc + 1) (us + k) S2)
          | none => match sxL i S with
          | some S2 => ex np npm d ns gs dp mt D c CL cs LL ls cuts mv xa f false (pc + 1) uc us S2
          | none => if finS d (drt D) i S = true then Nat.ble (uc + xa.2.2.1.1 * xa.2.2.2) (dkr D) && (Nat.ble (us + xa.2.2.1.2 * xa.2.2.2) (dnr D) && c.2.1.any fun P => atP np npm d gs (noL S) P (retS npm P) []) else
            match calS mt gs i lk S with
            | some (D0, as, r) => (lkC cs pc).any fun ci => match CL ci with
              | none => false
              | some (y, c2) => match smM mt lk.2.1 y D0 with
               | none => false
               | some D2 => (Nat.ble (uc + xa.2.2.1.1 * xa.2.2.2 + max (dkr D2) (dkx D2)) (max (dkr D) (dkx D)) && Nat.ble (us + xa.2.2.1.2 * xa.2.2.2 + max (dnr D2) (dnx D2)) (max (dnr D) (dnx D))) && (match thH np gs c2.1.2.2.2.2.2.1 S (as.map fun v => v.2) with
                | none => false
                | some (S1, θ1) => match thA np d gs c2.1.2.2.2.2.2.2.1 S1 θ1 with
                  | none => false
                  | some (S2, θ2) => match thP d S2.2.2.2.1 S2.2.2.2.2.2.2.2 c2.1.2.2.2.2.2.2.2 θ2 with
                   | θ => fits d S2 θ as (noL c2.1) && (c2.2.1.all (fun P => aftC np S2 θ c2 P) && (c2.2.2.1.all (fun z => mdI c.2.2.1 z.1 z.2) && (c2.2.1.all (fun P => (falS (aftS d gs dp S2 θ c2 P r) || falP S2 (aftS d gs dp S2 θ c2 P r) P.2.2.2.1.length) || ex np npm d ns gs dp mt D c CL cs LL ls cuts mv xa f false (pc + 3) (uc + dkr D2) (us + dnr D2) (aftS d gs dp S2 θ c2 P r)) &&
                    c2.2.2.2.all fun E => match hdl (dhh D) (dhx D) pc (E % 10) with
                      | some hp => ex np npm d ns gs dp mt D c CL cs LL ls cuts mv xa f false hp (uc + dkx D2) (us + dnx D2) (thrX d gs dp S2 θ c2 E)
                      | none => Nat.ble (uc + xa.2.2.1.1 * xa.2.2.2 + dkx D2) (dkx D) && (Nat.ble (us + xa.2.2.1.2 * xa.2.2.2 + dnx D2) (dnx D) && c.2.2.2.any fun z => exT npm d c.1.2.2.2.2.2.2.2 (thrX d gs dp S2 θ c2 E) z (E % 10))))))
            | none => isNew i && decide (lk.1 = 20 ∧ lk.2.1 ≤ 2 ∧ S.2.2.1 = [] ∧ dhh D = [] ∧ uc + xa.2.2.1.1 * xa.2.2.2 + 1 ≤ dkx D ∧ us + xa.2.2.1.2 * xa.2.2.2 + 6 ≤ dnx D) && c.2.2.2.any fun z => exT npm d c.1.2.2.2.2.2.2.2 S z lk.2.1
/-- what a call is asked can be asked more weakly -/
def cMono (call : mCall) : Prop := ∀ (y : Nat) (as : List Value) (h : mH) (P Q : mPost), (∀ e v h2, P e v h2 → Q e v h2) → call y as h P → call y as h Q
theorem run_mono {sc : mSc} {call : mCall} {D : mM} {d : Nat} (hm : cMono call) {P Q : mPost} (hPQ : ∀ e v h2, P e v h2 → Q e v h2) : ∀ (n pc : Nat) (lv : mL) (st : List Value) (h : mH) (uc us : Nat), run sc df mt call D d n pc lv st h uc us P → run sc df mt call D d n pc lv st h uc us Q
  | 0, _, _, _, _, _, _, hr => hr.elim
  | n + 1, pc, lv, st, h, uc, us, hr => by
    have ih := run_mono (sc := sc) (D := D) (d := d) hm hPQ n
    unfold run at hr ⊢
    split at hr
    · exact hr.elim
    next i len lk hrow =>
    split at hr
    next pc2 lv2 st2 h2 kc ks hs => exact ⟨hr.1, ih _ _ _ _ _ _ hr.2⟩
    next hs =>
    split at hr
    next v hf => exact ⟨hr.1, hr.2.1, hPQ _ _ _ hr.2.2⟩
    next hf =>
    split at hr
    next x r hl => exact fun z hz => ih _ _ _ _ _ _ (hr z hz)
    next x r hl => exact fun z hz => ih _ _ _ _ _ _ (hr z hz)
    next hl =>
    split at hr
    next D2 as r hc =>
      obtain ⟨y3, D3, g1, g2, hr⟩ := hr
      refine ⟨y3, D3, g1, g2, hr.1, hr.2.1, hm _ _ _ _ _ (fun e v h2 hp => ?_) hr.2.2⟩
      cases e with
      | none => exact ih _ _ _ _ _ _ hp
      | some E =>
        dsimp only at hp ⊢
        split at hp
        next hp2 hh => exact ih _ _ _ _ _ _ hp
        next hh => exact ⟨hp.1, hp.2.1, hPQ _ _ _ hp.2.2⟩
    next hc => exact ⟨hr.1, hr.2.1, hr.2.2.1, hr.2.2.2.1, hr.2.2.2.2.1, hr.2.2.2.2.2.1, hr.2.2.2.2.2.2.1, hPQ _ _ _ hr.2.2.2.2.2.2.2⟩
/-- with less room used it goes as well -/
theorem run_uc {sc : mSc} {call : mCall} {D : mM} {d : Nat} (hm : cMono call) {P : mPost} : ∀ (n pc : Nat) (lv : mL) (st : List Value) (h : mH) (uc us uc2 us2 : Nat), run sc df mt call D d n pc lv st h uc us P → uc2 ≤ uc → us2 ≤ us → run sc df mt call D d n pc lv st h uc2 us2 P
  | 0, _, _, _, _, _, _, _, _, hr, _, _ => hr.elim
  | n + 1, pc, lv, st, h, uc, us, uc2, us2, hr, h1, h2 => by
    have ih := run_uc (sc := sc) (D := D) (d := d) hm (P := P) n
    unfold run at hr ⊢
    split at hr
    · exact hr.elim
    next i len lk hrow =>
    split at hr
    next pc2 lv2 st2 h2 kc ks hs => exact ⟨hr.1.imp id fun h9 => ⟨by omega, by omega⟩, ih _ _ _ _ _ _ _ _ hr.2 (by omega) (by omega)⟩
    next hs =>
    split at hr
    next v hf => exact ⟨by omega, by omega, hr.2.2⟩
    next hf =>
    split at hr
    next x r hl => exact fun z hz => ih _ _ _ _ _ _ _ _ (hr z hz) h1 h2
    next x r hl => exact fun z hz => ih _ _ _ _ _ _ _ _ (hr z hz) h1 h2
    next hl =>
    split at hr
    next D2 as r hc =>
      obtain ⟨y3, D3, g1, g2, hr⟩ := hr
      refine ⟨y3, D3, g1, g2, by omega, by omega, hm _ _ _ _ _ (fun e v h2 hp => ?_) hr.2.2⟩
      cases e with
      | none => exact ih _ _ _ _ _ _ _ _ hp (by omega) (by omega)
      | some E =>
        dsimp only at hp ⊢
        split at hp
        next hp2 hh => exact ih _ _ _ _ _ _ _ _ hp (by omega) (by omega)
        next hh => exact ⟨by omega, by omega, hp.2.2⟩
    next hc => exact ⟨hr.1, hr.2.1, hr.2.2.1, hr.2.2.2.1, hr.2.2.2.2.1, by omega, by omega, hr.2.2.2.2.2.2.2⟩
set_option maxHeartbeats 2000000 in
theorem ex_ok {np npm d ns d0 F K : Nat} {xa : Option Nat × (Nat → Option Nat) × (Nat × Nat) × Nat} {sc : mSc} {D : mM} {c : Ctr} {CL : Nat → Option (Nat × Ctr)} {cs : List (Nat × Nat)} {LL : Nat → Option Ctr} {ls : List (Nat × Nat × List (Nat × Nat))} {cuts : List Cut} {mv : Option LE} {call : mCall} {ρm ρ0 : Va} {h0 : mH} (hPR : PRk PR G gs dp) (hG : ∀ k, k < ns → G k = 300 + k) (hnp : npm ≤ np) (hd : 5 ≤ d0) (hcL : ∀ P ∈ c.2.1, P.2.1 = []) (hLL : ∀ i c, LL i = some c → c.1.2.1 = [] ∧ lemOK PR G gs c)
    (hCL : ∀ ci y c2, CL ci = some (y, c2) → c2.1.2.1 = [] ∧ ctrOK PR G gs call y c2) (hnpm : npm = c.1.1) (hmono : cMono call) (hgN : ∀ x g, xa.2.1 x = some g → G x = g)
    (hsc : ∀ x0, xa.1 = some x0 → ∃ (n : Nat) (f : Nat → Int32) (z : Nat → Int64), sc = some (x0, n, f) ∧ h0[x0]? = some (.inl (999, 0, .inr (.inl z))) ∧ ρm 0 = n ∧ n < 2 ^ 31 ∧ 1 ≤ npm ∧ ∀ (j v : Int) (h : mH), PR 120 j v h ↔ v = (f j.toNat).toInt)
    (hcut : ∀ q ∈ cuts, ∀ ρ lv st h, abs PR G ρ q.2.1 lv st h → TI G gs h → fr G gs c.2.2.1 h0 h → (∀ i, i < npm → ρ i = ρm i) → ∀ M : Nat, ev ρ q.2.2.2.1 = M → M < K → ∀ n, F * (M + 1) ≤ n → run sc df mt call D d0 n q.1 lv st h (q.2.2.2.2.1 + xa.2.2.1.1 * (xa.2.2.2 - M)) (q.2.2.2.2.2 + xa.2.2.1.2 * (xa.2.2.2 - M)) (ctrP PR G gs c ρm h0))
    (hmu : ∀ q ∈ cuts, ∀ ρ lv st h, abs PR G ρ q.2.1 lv st h → 0 ≤ ev ρ q.2.2.2.1 ∧ ev ρ q.2.2.2.1 ≤ xa.2.2.2) (hK : match mv with | none => K = xa.2.2.2 + 1 | some m => ltE np m = true ∧ ev ρ0 m = K ∧ K ≤ xa.2.2.2) :
    ∀ (f : Nat) {fst : Bool} {pc uc us : Nat} {S : sS}, ex np npm d ns gs dp mt D c CL cs LL ls cuts mv xa f fst pc uc us S = true → ∀ (ρ : Va) (lv : mL) (st : List Value) (h : mH), (∀ i, i < np → ρ i = ρ0 i) → (∀ i, i < npm → ρ i = ρm i) → abs PR G ρ S lv st h → TI G gs h → fr G gs c.2.2.1 h0 h →
      ∀ n, f + F * K ≤ n → ∀ a b, a = uc + xa.2.2.1.1 * (xa.2.2.2 - K) → b = us + xa.2.2.1.2 * (xa.2.2.2 - K) → run sc df mt call D d0 n pc lv st h a b (ctrP PR G gs c ρm h0)
  | 0, _, _, _, _, _, hx => by cases hx
  | f + 1, fst, pc, uc, us, S, hx => by
    intro ρ lv st h hρ hρm ha hT hfr n hn a b hab hbb
    have hRA : xa.2.2.1.1 * (xa.2.2.2 - K) ≤ xa.2.2.1.1 * xa.2.2.2 := Nat.mul_le_mul_left _ (Nat.sub_le _ _)
    have hRB : xa.2.2.1.2 * (xa.2.2.2 - K) ≤ xa.2.2.1.2 * xa.2.2.2 := Nat.mul_le_mul_left _ (Nat.sub_le _ _)
    have ih := @ex_ok np npm d ns d0 F K xa sc D c CL cs LL ls cuts mv call ρm ρ0 h0 hPR hG hnp hd hcL hLL hCL hnpm hmono hgN hsc hcut hmu hK f
    unfold ex at hx
    split at hx
    next q0 qs hq =>
      have hq : fndC cuts pc = q0 :: qs := by
        cases fst with
        | true => cases hq
        | false => exact hq
      obtain ⟨q, hqm, hx⟩ := List.any_eq_true.mp hx
      rw [← hq] at hqm
      obtain ⟨hm, rfl⟩ := fndC_ok hqm
      simp only [Bool.and_eq_true] at hx
      obtain ⟨e1, e3⟩ := hx
      obtain ⟨ρ', g1, g2, g3⟩ := atP_ok hnp e3 hT ha
      have hb := hmu q hm ρ' lv st h g2
      have hlt : (ev ρ' q.2.2.2.1).toNat < K := by
        cases mv with
        | none => have hK : K = xa.2.2.2 + 1 := hK; omega
        | some m =>
          have hK : ltE np m = true ∧ ev ρ0 m = K ∧ K ≤ xa.2.2.2 := hK
          have h1 := g3 _ (List.mem_singleton.mpr rfl) m rfl
          dsimp only at h1
          rw [ev_same hρ hK.1, hK.2.1] at h1
          omega
      have hle : F * ((ev ρ' q.2.2.2.1).toNat + 1) ≤ F * K := Nat.mul_le_mul_left F hlt
      refine run_uc hmono _ _ _ _ _ _ _ _ _ (hcut q hm ρ' lv st h g2 hT hfr (fun i hi => (g1 i hi).trans (hρm i hi)) _ (by omega) hlt n (by omega)) ?_ ?_
      · rw [hab]
        cases mv with
        | none =>
          have hK : K = xa.2.2.2 + 1 := hK
          simp only [Bool.and_eq_true] at e1
          have e2 := Nat.le_of_ble_eq_true e1.1
          rw [show xa.2.2.2 - K = 0 by omega, Nat.mul_zero]
          exact Nat.le_trans e2 (Nat.le_add_right _ _)
        | some m =>
          have hK : ltE np m = true ∧ ev ρ0 m = K ∧ K ≤ xa.2.2.2 := hK
          simp only [Bool.and_eq_true] at e1
          have e2 := Nat.le_of_ble_eq_true e1.1
          have e4 : xa.2.2.1.1 * (xa.2.2.2 - K + 1) ≤ xa.2.2.1.1 * (xa.2.2.2 - (ev ρ' q.2.2.2.1).toNat) := Nat.mul_le_mul_left _ (by omega)
          rw [Nat.mul_add, Nat.mul_one] at e4
          omega
      · rw [hbb]
        cases mv with
        | none =>
          have hK : K = xa.2.2.2 + 1 := hK
          simp only [Bool.and_eq_true] at e1
          have e2 := Nat.le_of_ble_eq_true e1.2
          rw [show xa.2.2.2 - K = 0 by omega, Nat.mul_zero]
          exact Nat.le_trans e2 (Nat.le_add_right _ _)
        | some m =>
          have hK : ltE np m = true ∧ ev ρ0 m = K ∧ K ≤ xa.2.2.2 := hK
          simp only [Bool.and_eq_true] at e1
          have e2 := Nat.le_of_ble_eq_true e1.2
          have e4 : xa.2.2.1.2 * (xa.2.2.2 - K + 1) ≤ xa.2.2.1.2 * (xa.2.2.2 - (ev ρ' q.2.2.2.1).toNat) := Nat.mul_le_mul_left _ (by omega)
          rw [Nat.mul_add, Nat.mul_one] at e4
          omega
    next hq =>
    have hl0 := lmS_ok (np := np) (d := d) (ls := ls) (pc := pc) (ρ := ρ) hPR hLL hT ⟨S, List.mem_singleton.mpr rfl, ρ, fun _ _ => rfl, ha⟩
    obtain ⟨S, hS', ρ, r1, ha⟩ := hl0
    have hx := List.all_eq_true.mp hx S hS'
    have hρ : ∀ i, i < np → ρ i = ρ0 i := fun i hi => (r1 i hi).trans (hρ i hi)
    have hρm : ∀ i, i < npm → ρ i = ρm i := fun i hi => (r1 i (by omega)).trans (hρm i hi)
    obtain ⟨n, rfl⟩ : ∃ n2, n = n2 + 1 := ⟨n - 1, by omega⟩
    have hn : f + F * K ≤ n := by omega
    unfold run
    split at hx
    next => cases hx
    next i len lk hrow =>
    rw [rowAtB_eq] at hrow
    rw [hrow]
    dsimp only
    have ha := abs_wk (i := i) ha
    generalize wkI i S = S at hx ha
    dsimp only at hx
    split at hx
    next l hl =>
      obtain ⟨q, hq, ρ', lv2, st2, h2, g1, g2, g3, g4, g5⟩ := sxT_ok (df := df) hPR hG hl hT ha
      rw [stp_sc g2]
      dsimp only
      exact ⟨Or.inl rfl, ih (List.all_eq_true.mp hx q hq) ρ' lv2 st2 h2 (fun i hi => (g1 i hi).trans (hρ i hi)) (fun i hi => (g1 i (by omega)).trans (hρm i hi)) g3 g4 (fr_tr hfr g5) n hn _ _ hab hbb⟩
    next =>
    split at hx
    next S2 hl =>
      split at hl
      next x0 hx0 =>
        obtain ⟨n0, f0, z0, q1, q2, q3, q4, q5, q6⟩ := hsc x0 hx0
        obtain ⟨e', he'⟩ := fr_get hfr q2
        have hc0 := hfr.2 _ _ _ q2 he'
        obtain ⟨c', rfl, hk', -⟩ := hc0
        obtain ⟨z1, rfl⟩ := kd4 (c := c') hk'
        obtain ⟨st2, k1, ρ', k2, k3⟩ := sxX0_ok (df := df) (nL := dml D) (pc := pc) (len := len) (lk := lk) (f := f0) q6 hl he' ((hρm 0 (by omega)).trans q3) q4 ha
        rw [q1, k1]
        dsimp only
        rw [← q1]
        exact ⟨Or.inl rfl, ih hx ρ' lv st2 h (fun i hi => (k2 i hi).trans (hρ i hi)) (fun i hi => (k2 i (by omega)).trans (hρm i hi)) k3 hT hfr n hn _ _ hab hbb⟩
      next => cases hl
    next =>
    split at hx
    next S2 k hl =>
      simp only [Bool.and_eq_true] at hx
      obtain ⟨b1, b2, hx⟩ := hx
      have b1 := Nat.le_of_ble_eq_true b1
      have b2 := Nat.le_of_ble_eq_true b2
      obtain ⟨st2, h2, k1, k2, k3, k4⟩ := sxN_ok (df := df) (nL := dml D) (pc := pc) (len := len) hPR hgN hl hT ha
      have hN : ∃ at0, i = .newarray at0 := by
        unfold sxN at hl
        split at hl
        · exact ⟨_, rfl⟩
        · cases hl
      obtain ⟨at0, rfl⟩ := hN
      rw [stp_scN k1]
      dsimp only
      exact ⟨Or.inr ⟨by omega, by omega⟩, ih hx ρ lv st2 h2 hρ hρm k2 k3 (fr_tr hfr k4) n hn _ _ (by omega) (by omega)⟩
    next =>
    split at hx
    next S2 hl =>
      obtain ⟨n1, n2, n3⟩ := sxL_ok (lk := lk) hl ha
      rw [n1, n2]
      dsimp only
      rcases n3 with ⟨x, w, e1, e2⟩ | ⟨x, w, e1, e2⟩
      · rw [e1]
        exact fun z _ => ih hx ρ lv _ h hρ hρm (e2 z) hT hfr n hn _ _ hab hbb
      · rw [e1]
        exact fun z _ => ih hx ρ lv _ h hρ hρm (e2 z) hT hfr n hn _ _ hab hbb
    next =>
    split at hx
    next hfin =>
      obtain ⟨v, hv, hst⟩ := finS_ok hfin ha
      simp only [Bool.and_eq_true] at hx
      obtain ⟨b1, b2, b3⟩ := hx
      obtain ⟨P, hP, b3⟩ := List.any_eq_true.mp b3
      obtain ⟨ρ', g1, g2, -⟩ := atP_ok hnp b3 hT (abs_noL (lv' := lv) ha)
      rw [(fin_no (f := fun _ => 0) (lk := lk) hv).1, hv]
      dsimp only
      have b1 := Nat.le_of_ble_eq_true b1
      have b2 := Nat.le_of_ble_eq_true b2
      refine ⟨by omega, by omega, hT, hfr, P, hP, ρ', fun i hi => (g1 i (by omega)).trans (hρm i (by omega)), ?_⟩
      rw [hst]
      exact ⟨by rw [hcL P hP]; exact fun q hq => absurd hq List.not_mem_nil, g2.2⟩
    next =>
    split at hx
    next D0 as r hca =>
      obtain ⟨k1, k2, k3, k4, k5⟩ := cal_nos hca
      obtain ⟨hsub, asv, w, e1, e2⟩ := calS_ok hca hT ha
      rw [k3, k4, k5, e1]
      dsimp only
      obtain ⟨ci, -, hx⟩ := List.any_eq_true.mp hx
      split at hx
      next => cases hx
      next y c2 hcl =>
      split at hx
      next => cases hx
      next D2 hsm =>
      obtain ⟨m1, m2⟩ := smM_ok hsm k2
      simp only [Bool.and_eq_true] at hx
      obtain ⟨⟨r1, r2⟩, hx⟩ := hx
      have r1 := Nat.le_of_ble_eq_true r1
      have r2 := Nat.le_of_ble_eq_true r2
      refine ⟨y, D2, m1, m2, by omega, by omega, ?_⟩
      obtain ⟨hL0, hctr⟩ := hCL _ _ _ hcl
      split at hx
      next => cases hx
      next S1 θ1 h1 =>
      split at hx
      next => cases hx
      next S2 θ2 h2 =>
      generalize thP d S2.2.2.2.1 S2.2.2.2.2.2.2.2 c2.1.2.2.2.2.2.2.2 θ2 = θ at hx
      simp only [Bool.and_eq_true] at hx
      obtain ⟨f1, f2, f3, f4, f5⟩ := hx
      obtain ⟨ρ1, a1, a2, a3, a4⟩ := (thH_ok hT h1 ha).tr (np := np) fun ρ' ha' => thA_ok hT h2 ha'
      obtain ⟨g1, g2⟩ := e2 ρ1 (by rw [← a4]; exact a2.2.1)
      have hpre := fits_ok (lv' := lv) f1 (fun q hq => absurd hq List.not_mem_nil) a2 g1
      have hc := hctr (thE θ ρ1) asv h ⟨by rw [hL0]; exact fun q hq => absurd hq List.not_mem_nil, hpre.2⟩ hT
      refine hmono _ _ _ _ _ (fun e v h2 hp => ?_) hc
      obtain ⟨t1, t2, t3⟩ := hp
      have hfr2 : fr G gs c.2.2.1 h0 h2 := fr_tr hfr (fr_mono (fun z hz => mdI_ok (List.all_eq_true.mp f3 z hz)) t2)
      cases e with
      | none =>
        obtain ⟨P, hP, ρ', b1, b2⟩ := t3
        dsimp only
        obtain ⟨ρ2, d1, d2⟩ := aft_ok (rest := r) hPR (List.all_eq_true.mp f2 P hP) a2 hT t1 t2 b1 b2 (by rw [a4]; exact hsub) g2
        rcases (Bool.or_eq_true _ _).mp (List.all_eq_true.mp f4 P hP) with h9 | h9
        · rcases (Bool.or_eq_true _ _).mp h9 with h9 | h9
          · exact (falS_ok h9 d2.2.2.1).elim
          · refine (falP_ok h9 (fun f hf => d2.2.2.1 f ?_) d2.2.2.1).elim
            show f ∈ _ ++ S2.2.2.2.1
            exact List.mem_append_right _ hf
        exact ih h9 ρ2 lv _ h2 (fun i hi => ((d1 i hi).trans (a1 i hi)).trans (hρ i hi)) (fun i hi => ((d1 i (by omega)).trans (a1 i (by omega))).trans (hρm i hi)) d2 t1 hfr2 n hn _ _ (by omega) (by omega)
      | some E =>
        obtain ⟨zE, hE, rfl, hzF⟩ := t3
        have h5 := List.all_eq_true.mp f5 zE hE
        dsimp only
        split at h5
        next hp hh =>
          rw [hh]
          exact ih h5 ρ1 lv _ h2 (fun i hi => (a1 i hi).trans (hρ i hi)) (fun i hi => (a1 i (by omega)).trans (hρm i hi)) (thrX_ok hPR a2 hT t1 t2 hzF) t1 hfr2 n hn _ _ (by omega) (by omega)
        next hh =>
          rw [hh]
          simp only [Bool.and_eq_true] at h5
          have r3 := Nat.le_of_ble_eq_true h5.1
          have r4 := Nat.le_of_ble_eq_true h5.2.1
          obtain ⟨z, hz, hex⟩ := List.any_eq_true.mp h5.2.2
          exact ⟨by omega, by omega, t1, hfr2, z, hz, exT_ok hex (thrX_ok (k := 0) hPR a2 hT t1 t2 hzF) (fun i hi => (a1 i (by omega)).trans (hρm i hi))⟩
    next =>
      simp only [Bool.and_eq_true, decide_eq_true_eq] at hx
      obtain ⟨⟨hi, h20⟩, hex⟩ := hx
      cases i with
      | new idx =>
        obtain ⟨n1, n2, n3, n4⟩ := new_no (idx := idx) h20.1
        rw [n1, n2, n3, n4]
        dsimp only
        have hst : st = [] := by
          have h9 := ha.2.1
          rw [h20.2.2.1] at h9
          cases st with
          | nil => rfl
          | cons _ _ => exact h9.elim
        exact ⟨h20.1, h20.2.1, hst, h20.2.2.2.1, hd, by have := h20.2.2.2.2.1; omega, by have := h20.2.2.2.2.2; omega, hT, hfr, by
          obtain ⟨z, hz, hex⟩ := List.any_eq_true.mp hex
          exact ⟨z, hz, exT_ok hex ha hρm⟩⟩
      | _ => cases hi
theorem wpM_mono : ∀ (d : Nat), cMono (wpM df mt d)
  | 0 => fun y as h P Q hPQ hw => hw.elim
  | d + 1 => fun y as h P Q hPQ hw => by
    unfold wpM at hw ⊢
    split at hw
    · exact hw.elim
    · exact ⟨hw.1, run_mono (wpM_mono d) hPQ _ _ _ _ _ _ _ hw.2⟩
def argL : Nat → List sV → List (Nat × sV)
  | _, [] => []
  | i, s :: r => (i, s) :: argL (i + catS s) r
theorem gl_args {j : Nat} {v : Value} : ∀ {as : List Value} {i : Nat}, gl (lv_args i as) j = some v → i ≤ j
  | [], i, h => by cases h
  | u :: as, i, h => by
    unfold lv_args gl at h
    split at h
    next he => dsimp only at he; omega
    next => have h1 := gl_args (as := as) h; split at h1 <;> omega
theorem argL_ok {ρ : Va} : ∀ {l : List sV} {as : List Value} {i : Nat}, aS ρ l as → aL ρ (argL i l) (lv_args i as) ∧ ∀ q ∈ argL i l, i ≤ q.1
  | [], [], i, _ => ⟨fun q hq => absurd hq List.not_mem_nil, fun q hq => absurd hq List.not_mem_nil⟩
  | s :: r, v :: as, i, ha => by
    obtain ⟨h1, h2⟩ := argL_ok (i := i + catS s) ha.2
    have hcat := dV_cat ha.1
    have hpos : 1 ≤ catS s := by unfold catS; split <;> omega
    constructor
    · intro q hq
      rcases List.mem_cons.mp hq with rfl | hq
      · refine ⟨v, ?_, ha.1⟩
        unfold lv_args gl
        rw [if_pos rfl]
      · obtain ⟨w, g1, g2⟩ := h1 q hq
        refine ⟨w, ?_, g2⟩
        have := h2 q hq
        unfold lv_args gl
        rw [if_neg (by dsimp only; omega), hcat, show (if catS s = 2 then i + 2 else i + 1) = i + catS s by unfold catS; split <;> rfl]
        exact g1
    · intro q hq
      rcases List.mem_cons.mp hq with rfl | hq
      · exact Nat.le_refl _
      · have := h2 q hq; omega
  | [], _ :: _, _, ha => ha.elim
  | _ :: _, [], _, ha => ha.elim
def s0 (c : Ctr) : sS := (c.1.1, argL 0 c.1.2.2.1, [], c.1.2.2.2)
def emL (S : sS) : Bool := match S.2.1 with
  | [] => true
  | _ :: _ => false
theorem emL_ok {S : sS} (h : emL S = true) : S.2.1 = [] := by
  unfold emL at h
  split at h
  next h0 => exact h0
  next => cases h
def cutV (npm d ns F B : Nat) (gs : Nat → Option gS) (dp : dT) (mt : Nat → Option mM) (D : mM) (c : Ctr) (CL : Nat → Option (Nat × Ctr)) (cs : List (Nat × Nat)) (LL : Nat → Option Ctr) (ls : List (Nat × Nat × List (Nat × Nat))) (cuts : List Cut) (xe : Option Nat × (Nat → Option Nat) × (Nat × Nat)) (q : Cut) : Bool := Nat.ble npm q.2.1.1 && (ltE q.2.1.1 q.2.2.2.1 && (ent q.2.1.2.2.2.1 d q.2.2.2.1 && (ent q.2.1.2.2.2.1 d (subE (cE B) q.2.2.2.1) && ex q.2.1.1 npm d ns gs dp mt D c CL cs LL ls cuts (some q.2.2.2.1) (xe.1, xe.2.1, xe.2.2, B) F true q.1 q.2.2.2.2.1 q.2.2.2.2.2 q.2.1)))
def verC (d ns F B : Nat) (gs : Nat → Option gS) (dp : dT) (mt : Nat → Option mM) (D : mM) (c : Ctr) (CL : Nat → Option (Nat × Ctr)) (cs : List (Nat × Nat)) (LL : Nat → Option Ctr) (ls : List (Nat × Nat × List (Nat × Nat))) (cuts : List Cut) (xe : Option Nat × (Nat → Option Nat) × (Nat × Nat)) : Bool := c.2.1.all emL && (Nat.ble (catL c.1.2.2.1) (dml D) && (Nat.ble (F + F * (B + 1)) (2 ^ 40) && (ex c.1.1 c.1.1 d ns gs dp mt D c CL cs LL ls cuts none (xe.1, xe.2.1, xe.2.2, B) F false 0 0 0 (s0 c) && cuts.all (cutV c.1.1 d ns F B gs dp mt D c CL cs LL ls cuts xe))))
/-- the check in pieces: the start, each cut -/
theorem verC_join {d ns F B : Nat} {D : mM} {c : Ctr} {CL : Nat → Option (Nat × Ctr)} {cs : List (Nat × Nat)} {LL : Nat → Option Ctr} {ls : List (Nat × Nat × List (Nat × Nat))} {cuts : List Cut} {xe : Option Nat × (Nat → Option Nat) × (Nat × Nat)}
    (h1 : (c.2.1.all emL && (Nat.ble (catL c.1.2.2.1) (dml D) && (Nat.ble (F + F * (B + 1)) (2 ^ 40) && ex c.1.1 c.1.1 d ns gs dp mt D c CL cs LL ls cuts none (xe.1, xe.2.1, xe.2.2, B) F false 0 0 0 (s0 c)))) = true)
    (h2 : ∀ q ∈ cuts, cutV c.1.1 d ns F B gs dp mt D c CL cs LL ls cuts xe q = true) : verC d ns F B gs dp mt D c CL cs LL ls cuts xe = true := by
  simp only [Bool.and_eq_true] at h1
  obtain ⟨a1, a2, a3, a4⟩ := h1
  unfold verC
  rw [a1, a2, a3, a4, List.all_eq_true.mpr h2]
  rfl
set_option maxHeartbeats 1000000 in
/-- what a method's run comes to, with the script or without -/
theorem ver_run {d ns F B d0 : Nat} {D : mM} {c : Ctr} {CL : Nat → Option (Nat × Ctr)} {cs : List (Nat × Nat)} {LL : Nat → Option Ctr} {ls : List (Nat × Nat × List (Nat × Nat))} {cuts : List Cut} {xe : Option Nat × (Nat → Option Nat) × (Nat × Nat)} {sc : mSc} {call : mCall} (hmono : cMono call) (hPR : PRk PR G gs dp) (hG : ∀ k, k < ns → G k = 300 + k) (hd : 5 ≤ d0)
    (hLL : ∀ i c, LL i = some c → c.1.2.1 = [] ∧ lemOK PR G gs c) (hCL : ∀ ci y c2, CL ci = some (y, c2) → c2.1.2.1 = [] ∧ ctrOK PR G gs call y c2) (hgN : ∀ x g, xe.2.1 x = some g → G x = g) (hv : verC d ns F B gs dp mt D c CL cs LL ls cuts xe = true) {ρm : Va} {as : List Value} {h : mH}
    (hsc : ∀ x0, xe.1 = some x0 → ∃ (n : Nat) (f : Nat → Int32) (z : Nat → Int64), sc = some (x0, n, f) ∧ h[x0]? = some (.inl (999, 0, .inr (.inl z))) ∧ ρm 0 = n ∧ n < 2 ^ 31 ∧ 1 ≤ c.1.1 ∧ ∀ (j v : Int) (h : mH), PR 120 j v h ↔ v = (f j.toNat).toInt) (ha : abs PR G ρm c.1 [] as h) (hT : TI G gs h) : (as.map fun v => v.category).sum ≤ dml D ∧ run sc df mt call D d0 (2 ^ 40) 0 (lv_args 0 as) [] h 0 0 (ctrP PR G gs c ρm h) := by
  simp only [verC, Bool.and_eq_true] at hv
  obtain ⟨v1, v2, v3, v4, v5⟩ := hv
  refine ⟨by rw [catL_ok ha.2.1]; exact Nat.le_of_ble_eq_true v2, ?_⟩
  have hmu : ∀ q ∈ cuts, ∀ ρ lv st h, abs PR G ρ q.2.1 lv st h → 0 ≤ ev ρ q.2.2.2.1 ∧ ev ρ q.2.2.2.1 ≤ B := fun q hq ρ lv st h ha => by
    have h1 := List.all_eq_true.mp v5 q hq
    simp only [cutV, Bool.and_eq_true] at h1
    have h2 := ent_ok ha.2.2.1 _ _ h1.2.2.1
    have h3 := ent_ok ha.2.2.1 _ _ h1.2.2.2.1
    rw [ev_sub, ev_c] at h3
    exact ⟨h2, by omega⟩
  have good : ∀ (M : Nat), ∀ q ∈ cuts, ∀ ρ lv st h1, abs PR G ρ q.2.1 lv st h1 → TI G gs h1 → fr G gs c.2.2.1 h h1 → (∀ i, i < c.1.1 → ρ i = ρm i) → ev ρ q.2.2.2.1 = M → ∀ n, F * (M + 1) ≤ n → run sc df mt call D d0 n q.1 lv st h1 (q.2.2.2.2.1 + xe.2.2.1 * (B - M)) (q.2.2.2.2.2 + xe.2.2.2 * (B - M)) (ctrP PR G gs c ρm h) := by
    intro M
    induction M using Nat.strongRecOn with
    | _ M ihM =>
      intro q hq ρ lv st h1 ha1 hT1 hf1 hρ hM n hn
      have h2 := List.all_eq_true.mp v5 q hq
      simp only [cutV, Bool.and_eq_true] at h2
      obtain ⟨u1, u2, -, -, u5⟩ := h2
      have hMB := (hmu q hq ρ lv st h1 ha1).2
      exact ex_ok (np := q.2.1.1) (npm := c.1.1) (K := M) (mv := some q.2.2.2.1) (xa := (xe.1, xe.2.1, xe.2.2, B)) (ρ0 := ρ) (ρm := ρm) (h0 := h) hPR hG (Nat.le_of_ble_eq_true u1) hd (fun P hP => emL_ok (List.all_eq_true.mp v1 P hP)) hLL hCL rfl hmono hgN hsc
        (fun q' hq' ρ' lv' st' h' x1 x2 x3 x4 M' x5 x6 => ihM M' x6 q' hq' ρ' lv' st' h' x1 x2 x3 x4 x5) hmu ⟨u2, hM, by dsimp only; omega⟩ F u5 ρ lv st h1 (fun _ _ => rfl) hρ ha1 hT1 hf1 n (by rw [Nat.mul_add] at hn; omega) _ _ rfl rfl
  exact ex_ok (np := c.1.1) (npm := c.1.1) (K := B + 1) (mv := none) (xa := (xe.1, xe.2.1, xe.2.2, B)) (ρ0 := ρm) (ρm := ρm) (h0 := h) hPR hG (Nat.le_refl _) hd (fun P hP => emL_ok (List.all_eq_true.mp v1 P hP)) hLL hCL rfl hmono hgN hsc
    (fun q' hq' ρ' lv' st' h' x1 x2 x3 x4 M' x5 x6 => good M' q' hq' ρ' lv' st' h' x1 x2 x3 x4 x5) hmu rfl F v4 ρm _ [] h (fun _ _ => rfl) (fun _ _ => rfl) ⟨(argL_ok ha.2.1).1, trivial, ha.2.2⟩ hT fr_rf (2 ^ 40) (Nat.le_of_ble_eq_true v3) _ _ (by dsimp only; rw [show B - (B + 1) = 0 by omega, Nat.mul_zero]) (by dsimp only; rw [show B - (B + 1) = 0 by omega, Nat.mul_zero])
theorem ver_ok {d ns F B d0 y : Nat} {D : mM} {c : Ctr} {CL : Nat → Option (Nat × Ctr)} {cs : List (Nat × Nat)} {LL : Nat → Option Ctr} {ls : List (Nat × Nat × List (Nat × Nat))} {cuts : List Cut} {gN : Nat → Option Nat} {ra : Nat × Nat} (hPR : PRk PR G gs dp) (hG : ∀ k, k < ns → G k = 300 + k) (hd : 5 ≤ d0) (hy : mt y = some D)
    (hLL : ∀ i c, LL i = some c → c.1.2.1 = [] ∧ lemOK PR G gs c) (hCL : ∀ ci y c2, CL ci = some (y, c2) → c2.1.2.1 = [] ∧ ctrOK PR G gs (wpM df mt d0) y c2) (hgN : ∀ x g, gN x = some g → G x = g) (hv : verC d ns F B gs dp mt D c CL cs LL ls cuts (none, gN, ra) = true) : ctrOK PR G gs (wpM df mt (d0 + 1)) y c := by
  intro ρm as h ha hT
  unfold wpM
  rw [hy]
  exact ver_run (wpM_mono d0) hPR hG hd hLL hCL hgN hv (fun x0 hx0 => by cases hx0) ha hT
end VER
