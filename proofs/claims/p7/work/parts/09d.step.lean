/-! The step of a script not known is a step of every script that fits. -/
section STP
variable {f : Nat → Int32} {mt : Nat → Option mM} {df : List (List Value)} {pc nL len : Nat} {i : Instr} {lk : mK} {lv : mL} {st : List Value} {h : mH} {sc : mSc} {g : Nat → Option mE}
theorem exA {q : Nat × List Value} (hq : actA i pc st = some q) : ∀ lv st, actC i pc lv st = none := by
  unfold actA at hq
  split at hq <;> first | (cases hq; done) | (intro lv st; rfl)
theorem exR {q : List Value} (hq : actRg i lk st g = some q) : (∀ lv st, actC i pc lv st = none) ∧ ∀ st, actA i pc st = none := by
  unfold actRg at hq
  split at hq <;> first | (cases hq; done) | exact ⟨fun lv st => rfl, fun st => rfl⟩
theorem exB {q : Nat × List Value} (hq : actB i pc st = some q) : (∀ lv st, actC i pc lv st = none) ∧ (∀ st, actA i pc st = none) ∧ ∀ st, actR i lk st h = none := by
  unfold actB at hq
  split at hq <;> first | (cases hq; done) | exact ⟨fun lv st => rfl, fun st => rfl, fun st => rfl⟩
theorem exS {q : Nat × mL × List Value} (hq : actS nL i pc lv st = some q) : (∀ lv st, actC i pc lv st = none) ∧ (∀ st, actA i pc st = none) ∧ (∀ st, actR i lk st h = none) ∧ ∀ st, actB i pc st = none := by
  unfold actS at hq
  split at hq <;> first | (cases hq; done) | exact ⟨fun lv st => rfl, fun st => rfl, fun st => rfl, fun st => rfl⟩
theorem exW {q : List Value × Nat × mE} (hq : actWg i lk st g = some q) : (∀ lv st, actC i pc lv st = none) ∧ (∀ st, actA i pc st = none) ∧ (∀ st, actR i lk st h = none) ∧ (∀ st, actB i pc st = none) ∧ ∀ lv st, actS nL i pc lv st = none := by
  unfold actWg at hq
  split at hq <;> first | (cases hq; done) | exact ⟨fun lv st => rfl, fun st => rfl, fun st => rfl, fun st => rfl, fun lv st => rfl⟩
theorem actW_st {idx : Nat} {st : List Value} {h : mH} {lk : mK} (h16 : lk.1 ≠ 16) : actW (.invokestatic idx) lk st h = none := by
  unfold actW
  split <;> first
    | rfl
    | contradiction
    | (split <;> first
       | rfl
       | exact if_neg fun e => h16 e.1.1)
theorem exK {q : List Value} (hq : actK i lk st = some q) : (∀ lv st, actC i pc lv st = none) ∧ (∀ st, actA i pc st = none) ∧ (∀ st, actR i lk st h = none) ∧ (∀ st, actB i pc st = none) ∧ (∀ lv st, actS nL i pc lv st = none) ∧ ∀ st, actW i lk st h = none := by
  unfold actK at hq
  split at hq <;> first | (cases hq; done) | exact ⟨fun lv st => rfl, fun st => rfl, fun st => rfl, fun st => rfl, fun lv st => rfl, fun st => rfl⟩ | exact ⟨fun lv st => rfl, fun st => rfl, fun st => rfl, fun st => rfl, fun lv st => rfl, fun st => actW_st fun e => by simp [e] at hq⟩
theorem exN {n0 : Nat} {q : List Value × mE × Nat} (hq : actNg df i lk st n0 = some q) : (∀ lv st, actC i pc lv st = none) ∧ (∀ st, actA i pc st = none) ∧ (∀ st, actR i lk st h = none) ∧ (∀ st, actB i pc st = none) ∧ (∀ lv st, actS nL i pc lv st = none) ∧ (∀ st, actW i lk st h = none) ∧ (∀ st, actK i lk st = none) ∧ ∀ st, actX sc i st = none := by
  unfold actNg at hq
  split at hq <;> first | (cases hq; done) | exact ⟨fun lv st => rfl, fun st => rfl, fun st => rfl, fun st => rfl, fun lv st => rfl, fun st => rfl, fun st => rfl, fun st => by cases sc <;> rfl⟩
theorem wr_W {q : List Value × Nat × mE} (hq : actWg i lk st g = some q) : isWr i = true := by
  unfold actWg at hq
  split at hq <;> first | (cases hq; done) | rfl
theorem wr_N {n0 : Nat} {q : List Value × mE × Nat} (hq : actNg df i lk st n0 = some q) : isWr i = true := by
  unfold actNg at hq
  split at hq <;> first | (cases hq; done) | rfl
theorem gWr_of {j : jH} (h1 : isWr i = true) (h : gWr i j = true) : gCl j = true := by
  unfold gWr at h
  rw [h1] at h
  exact h
theorem stpj_sg {pc2 kc ks : Nat} {lv2 : mL} {st2 : List Value} {j j2 : jH} (hr : rD j h) (hs : stpj none df nL pc i len lk lv st j = some (pc2, lv2, st2, j2, kc, ks)) (hg : gPre i st = true) (hg2 : gTop i st2 = true) (hg3 : gWr i j2 = true) :
    ∃ h2, stp sc df nL pc i len lk (sgL f lv) (sgS f st) h = some (pc2, sgL f lv2, sgS f st2, h2, kc, ks) ∧ rD j2 h2 := by
  have hG : ∀ x e, gj j.2 x = some e → clean e = true → h[x]? = some e := fun x e => rD_get hr
  unfold stpj at hs
  unfold stp
  cases hC : actC i pc lv st with
  | some q => rw [hC] at hs; cases hs; rw [actC_sg hC]; exact ⟨h, rfl, hr⟩
  | none =>
  rw [hC] at hs
  dsimp only at hs
  cases hA : actA i pc st with
  | some q => rw [hA] at hs; cases hs; rw [exA hA, actA_sg hA]; exact ⟨h, rfl, hr⟩
  | none =>
  rw [hA] at hs
  dsimp only at hs
  cases hR : actRg i lk st (gj j.2) with
  | some q => rw [hR] at hs; cases hs; rw [(exR hR).1, (exR (pc := pc) hR).2, actR_sg hG hR hg2]; exact ⟨h, rfl, hr⟩
  | none =>
  rw [hR] at hs
  dsimp only at hs
  cases hB : actB i pc st with
  | some q => rw [hB] at hs; cases hs; have e := exB (lk := lk) (h := h) hB; rw [e.1, e.2.1, e.2.2, actB_sg hB]; exact ⟨h, rfl, hr⟩
  | none =>
  rw [hB] at hs
  dsimp only at hs
  cases hS : actS nL i pc lv st with
  | some q => rw [hS] at hs; cases hs; have e := exS (lk := lk) (h := h) hS; rw [e.1, e.2.1, e.2.2.1, e.2.2.2, actS_sg hS hg]; exact ⟨h, rfl, hr⟩
  | none =>
  rw [hS] at hs
  dsimp only at hs
  cases hW : actWg i lk st (gj j.2) with
  | some q =>
    rw [hW] at hs
    cases hs
    have e := exW (pc := pc) (nL := nL) (h := h) hW
    have hw := actW_sg (f := f) hG hW
    have hg3 := gWr_of (wr_W hW) hg3
    rw [gCl_jset] at hg3
    rw [e.1, e.2.1, e.2.2.1, e.2.2.2.1, e.2.2.2.2, hw]
    exact ⟨_, rfl, rD_set hr (actW_lt (q := (sgS f q.1, q.2)) hw) hg3⟩
  | none =>
  rw [hW] at hs
  dsimp only at hs
  cases hK : actK i lk st with
  | some q => rw [hK] at hs; cases hs; have e := exK (pc := pc) (nL := nL) (h := h) hK; rw [e.1, e.2.1, e.2.2.1, e.2.2.2.1, e.2.2.2.2.1, e.2.2.2.2.2, actK_sg hK]; exact ⟨h, rfl, hr⟩
  | none =>
  rw [hK] at hs
  dsimp only at hs
  rw [show actX none i st = none from rfl] at hs
  dsimp only at hs
  by_cases hk : lk.1 = 20
  · rw [if_pos hk] at hs; cases hs
  · rw [if_neg hk] at hs
    cases hN : actNg df i lk st j.1 with
    | some q =>
      rw [hN] at hs
      cases hs
      have hg3 := gWr_of (wr_N hN) hg3
      have e := exN (pc := pc) (nL := nL) (sc := sc) (h := h) hN
      rw [hr.1] at hN
      rw [e.1, e.2.1, e.2.2.1, e.2.2.2.1, e.2.2.2.2.1, e.2.2.2.2.2.1, e.2.2.2.2.2.2.1, e.2.2.2.2.2.2.2]
      dsimp only
      rw [if_neg hk, actN_sg hN]
      exact ⟨_, rfl, rD_push hr hg3⟩
    | none => rw [hN] at hs; cases hs
theorem exB2 {q : Nat × List Value} (hq : actB i pc st = some q) : ∀ st g, actRg i lk st g = none := by
  unfold actB at hq
  split at hq <;> first | (cases hq; done) | exact fun st g => rfl
theorem exS2 {q : Nat × mL × List Value} (hq : actS nL i pc lv st = some q) : ∀ st g, actRg i lk st g = none := by
  unfold actS at hq
  split at hq <;> first | (cases hq; done) | exact fun st g => rfl
theorem exW2 {q : List Value × Nat × mE} (hq : actWg i lk st g = some q) : ∀ st g, actRg i lk st g = none := by
  unfold actWg at hq
  split at hq <;> first | (cases hq; done) | exact fun st g => rfl
theorem exK2 {q : List Value} (hq : actK i lk st = some q) : (∀ st g, actRg i lk st g = none) ∧ ∀ st g, actWg i lk st g = none := by
  unfold actK at hq
  split at hq <;> first | (cases hq; done) | exact ⟨fun st g => rfl, fun st g => rfl⟩
theorem exN2 {n0 : Nat} {q : List Value × mE × Nat} (hq : actNg df i lk st n0 = some q) : (∀ st g, actRg i lk st g = none) ∧ ∀ st g, actWg i lk st g = none := by
  unfold actNg at hq
  split at hq <;> first | (cases hq; done) | exact ⟨fun st g => rfl, fun st g => rfl⟩
theorem preC {q : Nat × mL × List Value} (hq : actC i pc lv st = some q) : (∀ st, gPre i st = true) ∧ (∀ st, gTop i st = true) ∧ isWr i = false := by
  unfold actC at hq
  split at hq <;> first | (cases hq; done) | exact ⟨fun _ => rfl, fun _ => rfl, rfl⟩
theorem preA {q : Nat × List Value} (hq : actA i pc st = some q) : (∀ st, gPre i st = true) ∧ (∀ st, gTop i st = true) ∧ isWr i = false := by
  unfold actA at hq
  split at hq <;> first | (cases hq; done) | exact ⟨fun _ => rfl, fun _ => rfl, rfl⟩
theorem preR {q : List Value} (hq : actRg i lk st g = some q) : (∀ st, gPre i st = true) ∧ isWr i = false := by
  unfold actRg at hq
  split at hq <;> first | (cases hq; done) | exact ⟨fun _ => rfl, rfl⟩
theorem preB {q : Nat × List Value} (hq : actB i pc st = some q) : (∀ st, gPre i st = true) ∧ (∀ st, gTop i st = true) ∧ isWr i = false := by
  unfold actB at hq
  split at hq <;> first | (cases hq; done) | exact ⟨fun _ => rfl, fun _ => rfl, rfl⟩
theorem preS {q : Nat × mL × List Value} (hq : actS nL i pc lv st = some q) : (∀ st, gTop i st = true) ∧ isWr i = false := by
  unfold actS at hq
  split at hq <;> first | (cases hq; done) | exact ⟨fun _ => rfl, rfl⟩
theorem preW {q : List Value × Nat × mE} (hq : actWg i lk st g = some q) : (∀ st, gPre i st = true) ∧ ∀ st, gTop i st = true := by
  unfold actWg at hq
  split at hq <;> first | (cases hq; done) | exact ⟨fun _ => rfl, fun _ => rfl⟩
theorem preK {q : List Value} (hq : actK i lk st = some q) : (∀ st, gPre i st = true) ∧ (∀ st, gTop i st = true) ∧ isWr i = false := by
  unfold actK at hq
  split at hq <;> first | (cases hq; done) | exact ⟨fun _ => rfl, fun _ => rfl, rfl⟩
theorem preN {n0 : Nat} {q : List Value × mE × Nat} (hq : actNg df i lk st n0 = some q) : (∀ st, gPre i st = true) ∧ ∀ st, gTop i st = true := by
  unfold actNg at hq
  split at hq <;> first | (cases hq; done) | exact ⟨fun _ => rfl, fun _ => rfl⟩
theorem gWr_no {j : jH} (h : isWr i = false) : gWr i j = true := by
  unfold gWr
  rw [h]
  rfl
theorem cond_some {α : Type} {b : Bool} {x y : α} (h : cond b (some x) none = some y) : b = true ∧ x = y := by
  cases b with
  | true => exact ⟨rfl, Option.some.inj h⟩
  | false => cases h
/-- what a step by numbers comes to, the step itself comes to -/
def stqS (df : List (List Value)) (nL pc : Nat) (i : Instr) (len : Nat) (lk : mK) (lv : mL) (st : List Value) (j : jH) (q : Nat × mL × List Value × jH × Nat × Nat) : Prop :=
  stpj none df nL pc i len lk lv st j = some q ∧ gPre i st = true ∧ gTop i q.2.2.1 = true ∧ gWr i q.2.2.2.1 = true
theorem sjC {j : jH} {q : Nat × mL × List Value} (hC : actC i pc lv st = some q) : stpj none df nL pc i len lk lv st j = some (q.1, q.2.1, q.2.2, j, 0, 0) := by
  unfold stpj
  rw [hC]
theorem sjA {j : jH} {q : Nat × List Value} (hA : actA i pc st = some q) : stpj none df nL pc i len lk lv st j = some (q.1, lv, q.2, j, 0, 0) := by
  unfold stpj
  rw [exA hA, hA]
theorem sjR {j : jH} {q : List Value} (hR : actRg i lk st (gj j.2) = some q) : stpj none df nL pc i len lk lv st j = some (pc + lnI i len, lv, q, j, 0, 0) := by
  unfold stpj
  rw [(exR hR).1, (exR (pc := pc) hR).2, hR]
theorem sjB {j : jH} {q : Nat × List Value} (hB : actB i pc st = some q) : stpj none df nL pc i len lk lv st j = some (q.1, lv, q.2, j, 0, 0) := by
  have e := exB (lk := lk) (h := []) hB
  unfold stpj
  rw [e.1, e.2.1, exB2 hB, hB]
theorem sjS {j : jH} {q : Nat × mL × List Value} (hS : actS nL i pc lv st = some q) : stpj none df nL pc i len lk lv st j = some (q.1, q.2.1, q.2.2, j, 0, 0) := by
  have e := exS (lk := lk) (h := []) hS
  unfold stpj
  rw [e.1, e.2.1, exS2 hS, e.2.2.2, hS]
theorem sjW {j : jH} {q : List Value × Nat × mE} (hW : actWg i lk st (gj j.2) = some q) : stpj none df nL pc i len lk lv st j = some (pc + lnI i len, lv, q.1, (j.1, jset q.2.1 q.2.2 j.2), 0, 0) := by
  have e := exW (pc := pc) (nL := nL) (h := []) hW
  unfold stpj
  rw [e.1, e.2.1, exW2 hW, e.2.2.2.1, e.2.2.2.2, hW]
theorem sjK {j : jH} {q : List Value} (hK : actK i lk st = some q) : stpj none df nL pc i len lk lv st j = some (pc + lnI i len, lv, q, j, 0, 0) := by
  have e := exK (pc := pc) (nL := nL) (h := []) hK
  unfold stpj
  rw [e.1, e.2.1, (exK2 hK).1, e.2.2.2.1, e.2.2.2.2.1, (exK2 hK).2, hK]
theorem sjN {j : jH} {q : List Value × mE × Nat} (h20 : ¬ lk.1 = 20) (hN : actNg df i lk st j.1 = some q) : stpj none df nL pc i len lk lv st j = some (pc + lnI i len, lv, q.1, (j.1 + 1, (j.1, q.2.1) :: j.2), 1, q.2.2) := by
  have e := exN (pc := pc) (nL := nL) (sc := none) (h := []) hN
  unfold stpj
  rw [e.1, e.2.1, (exN2 hN).1, e.2.2.2.1, e.2.2.2.2.1, (exN2 hN).2, e.2.2.2.2.2.2.1, e.2.2.2.2.2.2.2]
  dsimp only
  rw [if_neg h20, hN]
theorem stpj2_ok {c : Nat} {j : jH} {q : Nat × mL × List Value × jH × Nat × Nat} (hq : stpj2 c df nL pc i len lk lv st j = some q) : stqS df nL pc i len lk lv st j q := by
  unfold stpj2 at hq
  split at hq
  · split at hq
    next q' hC => cases hq; exact ⟨sjC hC, (preC hC).1 _, (preC hC).2.1 _, gWr_no (preC hC).2.2⟩
    next => cases hq
  · split at hq
    next q' hA => cases hq; exact ⟨sjA hA, (preA hA).1 _, (preA hA).2.1 _, gWr_no (preA hA).2.2⟩
    next => cases hq
  · split at hq
    next q' hR =>
      obtain ⟨h1, rfl⟩ := cond_some hq
      exact ⟨sjR hR, (preR hR).1 _, h1, gWr_no (preR hR).2⟩
    next => cases hq
  · split at hq
    next q' hB => cases hq; exact ⟨sjB hB, (preB hB).1 _, (preB hB).2.1 _, gWr_no (preB hB).2.2⟩
    next => cases hq
  · split at hq
    next q' hS =>
      obtain ⟨h1, rfl⟩ := cond_some hq
      exact ⟨sjS hS, h1, (preS hS).1 _, gWr_no (preS hS).2⟩
    next => cases hq
  · split at hq
    next q' hW =>
      obtain ⟨h1, rfl⟩ := cond_some hq
      refine ⟨sjW hW, (preW hW).1 _, (preW hW).2 _, ?_⟩
      show (!isWr i || gCl (j.1, jset _ _ _)) = true
      rw [gCl_jset, h1, Bool.or_true]
    next => cases hq
  · split at hq
    next q' hK => cases hq; exact ⟨sjK hK, (preK hK).1 _, (preK hK).2.1 _, gWr_no (preK hK).2.2⟩
    next => cases hq
  · split at hq
    next => cases hq
    next h20 =>
    split at hq
    next q' hN =>
      obtain ⟨h1, rfl⟩ := cond_some hq
      refine ⟨sjN h20 hN, (preN hN).1 _, (preN hN).2 _, ?_⟩
      show (!isWr i || clean _) = true
      rw [h1, Bool.or_true]
    next => cases hq
  · cases hq
theorem fstp_ok {j : jH} {q : Nat × mL × List Value × jH × Nat × Nat} (hq : fstp (dec i) nL pc lk lv st j = some q) : stqS df nL pc i len lk lv st j q := by
  have C : ∀ {i : Instr} {pc2 : Nat} {lv2 : mL} {st2 : List Value}, actC i pc lv st = some (pc2, lv2, st2) → stqS df nL pc i len lk lv st j (pc2, lv2, st2, j, 0, 0) := fun hC => ⟨sjC hC, (preC hC).1 _, (preC hC).2.1 _, gWr_no (preC hC).2.2⟩
  unfold dec at hq
  split at hq
  next k =>
    have hq : (match gl lv k.val with | some (.ref x) => some (pc + 1, lv, Value.ref x :: st, j, 0, 0) | _ => none) = some q := hq
    split at hq
    next x hg => cases hq; exact C (by simp only [actC, hg])
    next => cases hq
  next k =>
    have hq : (match gl lv k.val with | some (.int x) => some (pc + 1, lv, Value.int x :: st, j, 0, 0) | _ => none) = some q := hq
    split at hq
    next x hg => cases hq; exact C (by simp only [actC, hg])
    next => cases hq
  next k =>
    have hq : (match gl lv k with | some (.int x) => some (pc + 2, lv, Value.int x :: st, j, 0, 0) | _ => none) = some q := hq
    split at hq
    next x hg => cases hq; exact C (by simp only [actC, hg])
    next => cases hq
  next n => cases hq; exact C rfl
  next n => cases hq; exact C rfl
  next idx =>
    have hq : (match (generalizing := false) st with
      | .ref x :: r => match (generalizing := false) gjB j.2 x with
        | some (.inr (ci, fs)) => cond (Nat.beq ci lk.2.1) (match (generalizing := false) fs[lk.2.2.1]? with
          | some v => cond (nTk v) (some (pc + 3, lv, v :: r, j, 0, 0)) none
          | none => none) none
        | _ => none
      | _ => none) = some q := hq
    split at hq
    next x r _ =>
      split at hq
      next ci fs hg =>
        cases hb : Nat.beq ci lk.2.1 with
        | false => rw [hb] at hq; cases hq
        | true =>
          rw [hb] at hq
          have hq : (match (generalizing := false) fs[lk.2.2.1]? with | some v => cond (nTk v) (some (pc + 3, lv, v :: r, j, 0, 0)) none | none => none) = some q := hq
          split at hq
          next v hv =>
            obtain ⟨h1, rfl⟩ := cond_some hq
            rw [gjB_eq] at hg
            have hR : actRg (.getfield idx) lk (.ref x :: r) (gj j.2) = some (v :: r) := by
              simp only [actRg, hg]
              rw [if_pos (Nat.eq_of_beq_eq_true hb), hv]
            exact ⟨sjR hR, rfl, h1, rfl⟩
          next => cases hq
      next => cases hq
    next => cases hq
  next k z =>
    have hq : (match gl lv k with | some (.int x) => cond (Nat.ble (k + 1) nL) (some (pc + 3, sto lv k (.int (x + Int32.ofInt z)), st, j, 0, 0)) none | _ => none) = some q := hq
    split at hq
    next x hg =>
      obtain ⟨h1, rfl⟩ := cond_some hq
      have h1 : k < nL := Nat.le_of_ble_eq_true h1
      have hS : actS nL (.iinc k z) pc lv st = some (pc + 3, sto lv k (.int (x + Int32.ofInt z)), st) := by
        simp only [actS, hg]
        rw [if_pos h1]
      exact ⟨sjS hS, rfl, rfl, rfl⟩
    next => cases hq
  next off =>
    have hq : (match tgt pc off with | some t => some (t, lv, st, j, 0, 0) | none => none) = some q := hq
    split at hq
    next t ht =>
      cases hq
      have hB : actB (.goto off) pc st = some (t, st) := by
        show (tgt pc off).map _ = _
        rw [ht]
        rfl
      exact ⟨sjB hB, rfl, rfl, rfl⟩
    next => cases hq
  next off =>
    have hq : (match (generalizing := false) st with
      | .int y :: .int x :: r => match (generalizing := false) tgt pc off with
        | some t => some (if y ≤ x then t else pc + 3, lv, r, j, 0, 0)
        | none => none
      | _ => none) = some q := hq
    split at hq
    next y x r _ =>
      split at hq
      next t ht =>
        cases hq
        have hB : actB (.if_icmp .ge off) pc (.int y :: .int x :: r) = some (if y ≤ x then t else pc + 3, r) := by
          show (tgt pc off).map _ = _
          rw [ht]
          rfl
        exact ⟨sjB hB, rfl, rfl, rfl⟩
      next => cases hq
    next => cases hq
  next =>
    have hq : (match (generalizing := false) st with
      | .int y :: .int k :: .ref x :: r => match (generalizing := false) gjB j.2 x with
        | some (.inl (t, n, .inl f)) => if t = 0 ∧ ¬ (k < 0 ∨ n ≤ k.toNatClampNeg) then some (pc + 1, lv, r, (j.1, jset x (.inl (0, n, .inl (upd f k.toNatClampNeg y))) j.2), 0, 0) else none
        | _ => none
      | _ => none) = some q := hq
    split at hq
    next y k x r _ =>
      split at hq
      next t n f hg =>
        split at hq
        next hc =>
          cases hq
          rw [gjB_eq] at hg
          have hW : actWg .iastore lk (.int y :: .int k :: .ref x :: r) (gj j.2) = some (r, x, .inl (0, n, .inl (upd f k.toNatClampNeg y))) := by
            simp only [actWg, hg]
            rw [if_pos hc]
          refine ⟨sjW hW, rfl, rfl, ?_⟩
          show (!isWr .iastore || gCl (j.1, jset _ _ _)) = true
          rw [gCl_jset]
          rfl
        next => cases hq
      next => cases hq
    next => cases hq
  next => cases hq
  next => cases hq
theorem stq_ok {j : jH} {q : Nat × mL × List Value × jH × Nat × Nat} (hq : stq df nL pc i len lk lv st j = some q) : stqS df nL pc i len lk lv st j q := by
  unfold stq at hq
  split at hq
  next q' h1 => cases hq; exact fstp_ok h1
  next => exact stpj2_ok hq
/-- no instruction of this kind makes a plain step -/
def stNo (i : Instr) (lk : mK) : Prop := ∀ (sc : mSc) (df : List (List Value)) (nL pc len : Nat) (lv : mL) (st : List Value) (h : mH), stp sc df nL pc i len lk lv st h = none
theorem stp_no (h1 : ∀ pc lv st, actC i pc lv st = none) (h2 : ∀ pc st, actA i pc st = none) (h3 : ∀ st h, actR i lk st h = none) (h4 : ∀ pc st, actB i pc st = none) (h5 : ∀ nL pc lv st, actS nL i pc lv st = none) (h6 : ∀ st h, actW i lk st h = none)
    (h7 : ∀ st, actK i lk st = none) (h8 : ∀ sc st, actX sc i st = none) (h9 : lk.1 = 20 ∨ ∀ df st h, actN df i lk st h = none) : stNo i lk := by
  intro sc df nL pc len lv st h
  unfold stp
  rw [h1, h2, h3, h4, h5, h6, h7, h8]
  dsimp only
  rcases h9 with h9 | h9
  · rw [if_pos h9]
  · split
    · rfl
    · rw [h9]
theorem fin_no {rt : Option FieldType} {v : Option Value} (hf : fin rt i st = some v) : stNo i lk ∧ fin rt i (sgS f st) = some v ∧ ∀ w, v = some w → nTk w = true := by
  unfold fin at hf
  split at hf <;> first
    | (cases hf; done)
    | (cases hf
       refine ⟨stp_no (fun _ _ _ => rfl) (fun _ _ => rfl) (fun _ _ => rfl) (fun _ _ => rfl) (fun _ _ _ _ => rfl) (fun _ _ => rfl) (fun _ => rfl) (fun sc _ => by cases sc <;> rfl) (Or.inr fun _ _ _ => rfl), rfl, fun w hw => by cases hw <;> rfl⟩)
    | (split at hf
       · rename_i hc
         cases hf
         refine ⟨stp_no (fun _ _ _ => rfl) (fun _ _ => rfl) (fun _ _ => rfl) (fun _ _ => rfl) (fun _ _ _ _ => rfl) (fun _ _ => rfl) (fun _ => rfl) (fun sc _ => by cases sc <;> rfl) (Or.inr fun _ _ _ => rfl), ?_, fun w hw => by cases hw <;> rfl⟩
         show (if _ then _ else _) = _
         rw [if_pos hc]
       · cases hf)
theorem cal_no (hG : ∀ x e, g x = some e → clean e = true → h[x]? = some e) {D2 : mM} {as r : List Value} (hc : calg mt i lk st g = some (D2, as, r)) : stNo i lk ∧ (∀ rt st, fin rt i st = none) ∧ (∀ st, flo i st = none) ∧ cal mt i lk (sgS f st) h = some (D2, sgS f as, sgS f r) := by
  unfold calg at hc
  split at hc
  next hk =>
    have hk9 : lk.1 ≠ 9 ∧ lk.1 ≠ 10 ∧ lk.1 ≠ 11 ∧ lk.1 ≠ 12 := by omega
    split at hc
    next => cases hc
    next D3 hm =>
    split at hc
    next => cases hc
    next as2 r2 hp =>
    have hp2 := popN_sg (f := f) hp
    split at hc
    next idx =>
      split at hc
      next h8 =>
        cases hc
        refine ⟨stp_no (fun _ _ _ => rfl) (fun _ _ => rfl) (fun _ _ => rfl) (fun _ _ => rfl) (fun _ _ _ _ => rfl) (fun _ _ => actW_st (by omega)) (fun st => ?_) (fun sc _ => by cases sc <;> rfl) (Or.inr fun _ _ _ => rfl), fun _ _ => rfl, fun _ => rfl, ?_⟩
        · unfold actK
          split <;> simp_all
        · unfold cal
          rw [if_pos hk, hm]
          dsimp only
          rw [hp2]
          dsimp only
          rw [cats_sg, if_pos h8]
      next => cases hc
    next idx =>
      split at hc
      next x r3 =>
       split at hc
       next h1 =>
        split at hc
        next ci fs he =>
          split at hc
          next h8 =>
            cases hc
            refine ⟨stp_no (fun _ _ _ => rfl) (fun _ _ => rfl) (fun _ _ => rfl) (fun _ _ => rfl) (fun _ _ _ _ => rfl) (fun _ _ => rfl) (fun st => ?_) (fun sc _ => by cases sc <;> rfl) (Or.inr fun _ _ _ => rfl), fun _ _ => rfl, fun _ => rfl, ?_⟩
            · unfold actK
              split <;> simp_all
            · unfold cal
              rw [if_pos hk, hm]
              dsimp only
              rw [hp2]
              have e : sgS f (.ref x :: r) = .ref x :: sgS f r := rfl
              rw [e]
              dsimp only
              rw [if_pos h1, hG _ _ he rfl]
              dsimp only
              rw [cats_sg, if_pos h8]
              rfl
          next => cases hc
        next => cases hc
       next h1 =>
        split at hc
        next h8 =>
          cases hc
          refine ⟨stp_no (fun _ _ _ => rfl) (fun _ _ => rfl) (fun _ _ => rfl) (fun _ _ => rfl) (fun _ _ _ _ => rfl) (fun _ _ => rfl) (fun st => ?_) (fun sc _ => by cases sc <;> rfl) (Or.inr fun _ _ _ => rfl), fun _ _ => rfl, fun _ => rfl, ?_⟩
          · unfold actK
            split <;> simp_all
          · unfold cal
            rw [if_pos hk, hm]
            dsimp only
            rw [hp2]
            show (if _ then _ else _) = _
            rw [if_neg h1, show ((List.map (sg f) r).map fun v => v.category) = r.map fun v => v.category from cats_sg, if_pos h8]
            rfl
        next => cases hc
      next => cases hc
    next idx =>
      split at hc
      next x r3 =>
        split at hc
        next ci fs he =>
          split at hc
          next h8 =>
            cases hc
            refine ⟨stp_no (fun _ _ _ => rfl) (fun _ _ => rfl) (fun _ _ => rfl) (fun _ _ => rfl) (fun _ _ _ _ => rfl) (fun _ _ => rfl) (fun st => ?_) (fun sc _ => by cases sc <;> rfl) (Or.inr fun _ _ _ => rfl), fun _ _ => rfl, fun _ => rfl, ?_⟩
            · unfold actK
              split <;> simp_all
            · unfold cal
              rw [if_pos hk, hm]
              dsimp only
              rw [hp2]
              have e : sgS f (.ref x :: r) = .ref x :: sgS f r := rfl
              rw [e]
              dsimp only
              rw [hG _ _ he rfl]
              dsimp only
              rw [cats_sg, if_pos h8]
              rfl
          next => cases hc
        next => cases hc
      next => cases hc
    next => cases hc
  next => cases hc
theorem new_no {idx : Nat} (hk : lk.1 = 20) : stNo (.new idx) lk ∧ (∀ rt st, fin rt (.new idx) st = none) ∧ (∀ st, flo (.new idx) st = none) ∧ ∀ mt st h, cal mt (.new idx) lk st h = none := by
  refine ⟨stp_no (fun _ _ _ => rfl) (fun _ _ => rfl) (fun _ _ => rfl) (fun _ _ => rfl) (fun _ _ _ _ => rfl) (fun _ _ => rfl) (fun st => ?_) (fun sc _ => by cases sc <;> rfl) (Or.inl hk), fun _ _ => rfl, fun _ => rfl, fun mt st h => ?_⟩
  · unfold actK
    split <;> simp_all
  · unfold cal
    rw [if_neg (by omega)]
def clJ (cl : Nat → List Value → jH → Option mRj) (call : mCall) : Prop := ∀ (f : Nat → Int32) y as j h e v j2, cl y as j = some (e, v, j2) → rD j h → ∀ Post : mPost, (∀ h2, rD j2 h2 → (∀ w, v = some w → nTk w = true) → Post e v h2) → call y (sgS f as) h Post
/-- what an evaluation came to, said of the run -/
def xJ (f : Nat → Int32) (sc : mSc) (df : List (List Value)) (mt : Nat → Option mM) (call : mCall) (D : mM) (d M : Nat) (x : mCj ⊕ mRj) (Post : mPost) : Prop := match x with
  | .inl (pc, lv, st, j, uc, us) => ∀ h, rD j h → ∀ m, M ≤ m → run sc df mt call D d m pc (sgL f lv) (sgS f st) h uc us Post
  | .inr (e, v, j) => ∀ h, rD j h → (∀ w, v = some w → nTk w = true) → Post e v h
variable {cl : Nat → List Value → jH → Option mRj} {call : mCall} {D : mM} {d : Nat} {Post : mPost}
theorem ret_sg {v : Option Value} {r : List Value} (hv : ∀ w, v = some w → nTk w = true) : sgS f (v.toList ++ r) = v.toList ++ sgS f r := by
  unfold sgS
  rw [List.map_append]
  cases v with
  | none => rfl
  | some w => show [sg f w] ++ _ = [w] ++ _; rw [sg_n (hv w rfl)]
theorem ej1_run (hc : clJ cl call) (hd : 5 ≤ d) {pc : Nat} {lv : mL} {st : List Value} {j : jH} {uc us : Nat} {x : mCj ⊕ mRj} (hj : ej1 df mt cl D (pc, lv, st, j, uc, us) = some x) {M : Nat}
    (hx : xJ f sc df mt call D d M x Post) {h : mH} (hr : rD j h) {n : Nat} (hn : M ≤ n) : run sc df mt call D d (n + 1) pc (sgL f lv) (sgS f st) h uc us Post := by
  have hG : ∀ x e, gj j.2 x = some e → clean e = true → h[x]? = some e := fun x e => rD_get hr
  unfold run
  unfold ej1 at hj
  dsimp only at hj
  split at hj
  · cases hj
  next i len lk hrow =>
  rw [rowAtB_eq] at hrow
  rw [hrow]
  dsimp only
  split at hj
  next pc2 lv2 st2 j2 kc ks hs =>
    obtain ⟨hk, rfl⟩ := cond_some hj
    obtain ⟨hs, g1, g2, g3⟩ := stq_ok hs
    obtain ⟨h2, hs2, hr2⟩ := stpj_sg (f := f) (sc := sc) hr hs g1 g2 g3
    rw [hs2]
    dsimp only
    simp only [Bool.or_eq_true, Bool.and_eq_true] at hk
    exact ⟨hk.imp Nat.eq_of_beq_eq_true fun z => ⟨Nat.le_of_ble_eq_true z.1, Nat.le_of_ble_eq_true z.2⟩, hx _ hr2 _ hn⟩
  next hs =>
  split at hj
  next v hf =>
    obtain ⟨f1, f2, f3⟩ := fin_no (f := f) (lk := lk) hf
    rw [f1, f2]
    dsimp only
    split at hj
    next hk => cases hj; exact ⟨hk.1, hk.2, hx _ hr f3⟩
    next => cases hj
  next hf =>
  split at hj
  next D2 as r hca =>
    obtain ⟨c1, c2, c3, c4⟩ := cal_no (f := f) hG hca
    rw [c1, c2, c3, c4]
    dsimp only
    split at hj
    next hk =>
      refine ⟨_, D2, (cal_spec c4).2.1, ⟨rfl, rfl, rfl, rfl, rfl⟩, hk.1, hk.2, ?_⟩
      split at hj
      next v j2 hcl =>
        cases hj
        exact hc f _ _ _ _ _ _ _ hcl hr _ (fun h2 hr2 hv => by
          have h9 := hx _ hr2 _ hn
          rw [ret_sg hv] at h9
          exact h9)
      next E w j2 hcl =>
        refine hc f _ _ _ _ _ _ _ hcl hr _ (fun h2 hr2 hv => ?_)
        dsimp only
        split at hj
        next hp hh2 => cases hj; rw [hh2]; exact hx _ hr2 _ hn
        next hh2 =>
          rw [hh2]
          dsimp only
          split at hj
          next hk2 => cases hj; exact ⟨hk2.1, hk2.2, hx _ hr2 (fun w hw => by cases hw)⟩
          next => cases hj
      next => cases hj
    next => cases hj
  next hca =>
    split at hj
    next hk =>
      cases hj
      cases i with
      | new idx =>
        obtain ⟨n1, n2, n3, n4⟩ := new_no (idx := idx) hk.2.1
        rw [n1, n2, n3, n4]
        dsimp only
        refine ⟨hk.2.1, hk.2.2.1, ?_, hk.2.2.2.2.1, hd, hk.2.2.2.2.2.1, hk.2.2.2.2.2.2, hx _ hr (fun w hw => by cases hw)⟩
        rw [hk.2.2.2.1]
        rfl
      | _ => exact absurd hk.1 (by simp [isNew])
    next => cases hj
theorem ejs_run (hc : clJ cl call) (hd : 5 ≤ d) {M : Nat} {x : mCj ⊕ mRj} (hx : xJ f sc df mt call D d M x Post) : ∀ {k : Nat} {q : mCj}, ejs df mt cl D k q = some x → xJ f sc df mt call D d (M + k) (.inl q) Post
  | 0, q, hj => by
    cases hj
    exact hx
  | k + 1, (pc, lv, st, j, uc, us), hj => by
    intro h hr m hm
    obtain ⟨m, rfl⟩ : ∃ m2, m = m2 + 1 := ⟨m - 1, by omega⟩
    unfold ejs at hj
    split at hj
    next q2 h1 => exact ej1_run hc hd h1 (M := M + k) (x := .inl q2) (ejs_run hc hd hx hj) hr (by omega)
    next r h1 => cases hj; exact ej1_run hc hd h1 (M := 0) (x := .inr r) hx hr (Nat.zero_le _)
    next => cases hj
theorem ejM_ok {F : Nat} (hf : F ≤ 2 ^ 40) : ∀ (k d : Nat), k + 5 ≤ d → clJ (ejM df mt F k) (wpM df mt d)
  | 0, d, hk => fun f y as j h e v j2 hc => by cases hc
  | k + 1, d, hk => fun f y as j h e v j2 hc hr Post hP => by
    obtain ⟨d, rfl⟩ : ∃ d2, d = d2 + 1 := ⟨d - 1, by omega⟩
    unfold ejM at hc
    unfold wpM
    split at hc
    · cases hc
    next D2 hm =>
    rw [hm]
    dsimp only
    split at hc
    next ha =>
      refine ⟨by rw [cats_sg]; exact ha, ?_⟩
      split at hc
      next r hr2 =>
        cases hc
        have h1 := ejs_run (f := f) (sc := none) (call := wpM df mt d) (d := d) (D := D2) (Post := Post) (ejM_ok hf k d (by omega)) (by omega) (M := 0) (x := .inr (e, v, j2)) hP hr2 h hr (2 ^ 40) (by omega)
        rw [← args_sg, show sgS f ([] : List Value) = [] from rfl] at h1
        exact h1
      next => cases hc
    next => cases hc
end STP
