/-! The same by evaluation with a journal for the cells: what was written, the newest first. -/
section JRN
abbrev jH : Type := Nat × List (Nat × mE)
def gj : List (Nat × mE) → Nat → Option mE
  | [], x => if x < 66 then some (.inl (999, 0, .inl fun _ => 0)) else none
  | p :: r, x => if p.1 = x then some p.2 else gj r x
/-- a write; right behind a write to the same cell it takes its place -/
def jset (x : Nat) (e : mE) : List (Nat × mE) → List (Nat × mE)
  | p :: r => if p.1 = x then (x, e) :: r else (x, e) :: p :: r
  | [] => [(x, e)]
def actRg (i : Instr) (lk : mK) (st : List Value) (g : Nat → Option mE) : Option (List Value) := match i, st with
  | .getfield _, .ref x :: r => match g x with
    | some (.inr (ci, fs)) => if ci = lk.2.1 then (match fs[lk.2.2.1]? with | some v => some (v :: r) | none => none) else none
    | _ => none
  | .iaload, .int j :: .ref x :: r => match g x with
    | some (.inl (t, n, .inl f)) => if t = 0 ∧ ¬ (j < 0 ∨ n ≤ j.toNatClampNeg) then some (.int (f j.toNatClampNeg) :: r) else none
    | _ => none
  | .laload, .int j :: .ref x :: r => match g x with
    | some (.inl (t, n, .inr (.inl f))) => if t = 4 ∧ ¬ (j < 0 ∨ n ≤ j.toNatClampNeg) then some (.long (f j.toNatClampNeg) :: r) else none
    | _ => none
  | .faload, .int j :: .ref x :: r => match g x with
    | some (.inl (t, n, .inr (.inr (.inl f)))) => if t = 5 ∧ ¬ (j < 0 ∨ n ≤ j.toNatClampNeg) then some (.float (f j.toNatClampNeg) :: r) else none
    | _ => none
  | .daload, .int j :: .ref x :: r => match g x with
    | some (.inl (t, n, .inr (.inr (.inr (.inl f))))) => if t = 6 ∧ ¬ (j < 0 ∨ n ≤ j.toNatClampNeg) then some (.double (f j.toNatClampNeg) :: r) else none
    | _ => none
  | .baload, .int j :: .ref x :: r => match g x with
    | some (.inl (t, n, .inl f)) => if (t = 1 ∨ t = 2) ∧ ¬ (j < 0 ∨ n ≤ j.toNatClampNeg) then some (.int (f j.toNatClampNeg) :: r) else none
    | _ => none
  | .aaload, .int j :: .ref x :: r => match g x with
    | some (.inl (t, n, .inr (.inr (.inr (.inr f))))) => if (7 ≤ t ∧ t < 900) ∧ ¬ (j < 0 ∨ n ≤ j.toNatClampNeg) then some (va_rf (f j.toNatClampNeg) :: r) else none
    | _ => none
  | .arraylength, .ref x :: r => match g x with
    | some (.inl (t, n, z)) => if t < 900 then some (.int (Int32.ofNat n) :: r) else none
    | _ => none
  | _, _ => none
def actWg (i : Instr) (lk : mK) (st : List Value) (g : Nat → Option mE) : Option (List Value × Nat × mE) := match i, st with
  | .putfield _, v :: .ref x :: r => match g x with
    | some (.inr (ci, fs)) => if ci = lk.2.1 ∧ lk.2.2.1 < fs.length ∧ okV lk.2.2.2 v = true then some (r, x, .inr (ci, fs.set lk.2.2.1 v)) else none
    | _ => none
  | .iastore, .int y :: .int j :: .ref x :: r => match g x with
    | some (.inl (t, n, .inl f)) => if t = 0 ∧ ¬ (j < 0 ∨ n ≤ j.toNatClampNeg) then some (r, x, .inl (0, n, .inl (upd f j.toNatClampNeg y))) else none
    | _ => none
  | .lastore, .long y :: .int j :: .ref x :: r => match g x with
    | some (.inl (t, n, .inr (.inl f))) => if t = 4 ∧ ¬ (j < 0 ∨ n ≤ j.toNatClampNeg) then some (r, x, .inl (4, n, .inr (.inl (vp_updL f j.toNatClampNeg y)))) else none
    | _ => none
  | .fastore, .float y :: .int j :: .ref x :: r => match g x with
    | some (.inl (t, n, .inr (.inr (.inl f)))) => if t = 5 ∧ ¬ (j < 0 ∨ n ≤ j.toNatClampNeg) then some (r, x, .inl (5, n, .inr (.inr (.inl (vf_upd f j.toNatClampNeg y))))) else none
    | _ => none
  | .dastore, .double y :: .int j :: .ref x :: r => match g x with
    | some (.inl (t, n, .inr (.inr (.inr (.inl f))))) => if t = 6 ∧ ¬ (j < 0 ∨ n ≤ j.toNatClampNeg) then some (r, x, .inl (6, n, .inr (.inr (.inr (.inl (vf_upd f j.toNatClampNeg y)))))) else none
    | _ => none
  | .bastore, .int y :: .int j :: .ref x :: r => match g x with
    | some (.inl (t, n, .inl f)) => if t = 1 ∧ ¬ (j < 0 ∨ n ≤ j.toNatClampNeg) then some (r, x, .inl (1, n, .inl (upd f j.toNatClampNeg (vp_nar .byte y)))) else if t = 2 ∧ ¬ (j < 0 ∨ n ≤ j.toNatClampNeg) then some (r, x, .inl (2, n, .inl (upd f j.toNatClampNeg (vp_nar .boolean y)))) else none
    | _ => none
  | .aastore, .ref v :: .int j :: .ref x :: r => match g x, g v with
    | some (.inl (t, n, .inr (.inr (.inr (.inr f))))), some (.inr (ci, _)) => if (t = ci + 8 ∧ t < 900) ∧ ¬ (j < 0 ∨ n ≤ j.toNatClampNeg) then some (r, x, .inl (t, n, .inr (.inr (.inr (.inr (va_up f j.toNatClampNeg (some v))))))) else none
    | some (.inl (t, n, .inr (.inr (.inr (.inr f))))), some (.inl (999, _)) => if (t = 7 ∧ v < lk.2.1) ∧ ¬ (j < 0 ∨ n ≤ j.toNatClampNeg) then some (r, x, .inl (t, n, .inr (.inr (.inr (.inr (va_up f j.toNatClampNeg (some v))))))) else none
    | _, _ => none
  | _, _ => none
def actNg (df : List (List Value)) (i : Instr) (lk : mK) (st : List Value) (n0 : Nat) : Option (List Value × mE × Nat) := match i, st with
  | .new _, r => match df[lk.2.1]? with
    | some fs => some (.ref n0 :: r, .inr (lk.2.1, fs), fs.length)
    | none => none
  | .newarray at0, .int n :: r => if ¬ n < 0 ∧ n.toNatClampNeg ≤ 65536 ∧ tgA at0 < 900 then some (.ref n0 :: r, .inl (tgA at0, n.toNatClampNeg, ctA at0), n.toNatClampNeg) else none
  | .anewarray _, .int n :: r => if ¬ n < 0 ∧ n.toNatClampNeg ≤ 65536 then some (.ref n0 :: r, .inl (lk.2.1, n.toNatClampNeg, .inr (.inr (.inr (.inr fun _ => none)))), n.toNatClampNeg) else none
  | _, _ => none
def calg (mt : Nat → Option mM) (i : Instr) (lk : mK) (st : List Value) (g : Nat → Option mE) : Option (mM × List Value × List Value) :=
  if lk.1 = 1 then match mt lk.2.1 with
    | none => none
    | some D => match popN (dna D) st with
      | none => none
      | some (as, r) => match i with
        | .invokestatic _ => if (r.map fun v => v.category).sum ≤ 8 then some (D, as, r) else none
        | .invokespecial _ => match r with
          | .ref x :: r => if (r.map fun v => v.category).sum ≤ 8 then some (D, .ref x :: as, r) else none
          | _ => none
        | .invokevirtual _ => match r with
          | .ref x :: r => match g x with
            | some (.inr (ci, _)) => if (r.map fun v => v.category).sum ≤ 8 ∧ ci = dci D then some (D, .ref x :: as, r) else none
            | _ => none
          | _ => none
        | _ => none
  else none
def stpj (sc : mSc) (df : List (List Value)) (nL : Nat) (pc : Nat) (i : Instr) (len : Nat) (lk : mK) (lv : mL) (st : List Value) (h : jH) : Option (Nat × mL × List Value × jH × Nat × Nat) :=
  match actC i pc lv st with
  | some q => some (q.1, q.2.1, q.2.2, h, 0, 0)
  | none => match actA i pc st with
    | some q => some (q.1, lv, q.2, h, 0, 0)
    | none => match actRg i lk st (gj h.2) with
      | some q => some (pc + lnI i len, lv, q, h, 0, 0)
      | none => match actB i pc st with
        | some q => some (q.1, lv, q.2, h, 0, 0)
        | none => match actS nL i pc lv st with
          | some q => some (q.1, q.2.1, q.2.2, h, 0, 0)
          | none => match actWg i lk st (gj h.2) with
            | some q => some (pc + lnI i len, lv, q.1, (h.1, jset q.2.1 q.2.2 h.2), 0, 0)
            | none => match actK i lk st with
              | some q => some (pc + lnI i len, lv, q, h, 0, 0)
              | none => match actX sc i st with
               | some q => some (pc + lnI i len, lv, q, h, 0, 0)
               | none => if lk.1 = 20 then none else match actNg df i lk st h.1 with
                | some q => some (pc + lnI i len, lv, q.1, (h.1 + 1, (h.1, q.2.1) :: h.2), 1, q.2.2)
                | none => none
abbrev mCj : Type := Nat × mL × List Value × jH × Nat × Nat
abbrev mRj : Type := Option Nat × Option Value × jH
def ej1 (sc : mSc) (df : List (List Value)) (mt : Nat → Option mM) (cl : Nat → List Value → jH → Option mRj) (D : mM) (q : mCj) : Option (mCj ⊕ mRj) := match q with
  | (pc, lv, st, h, uc, us) => match rowAt (drw D) pc with
    | none => none
    | some (i, len, lk) => match stpj sc df (dml D) pc i len lk lv st h with
      | some (pc2, lv2, st2, h2, kc, ks) => if kc = 0 ∨ (uc + kc ≤ dkr D ∧ us + ks ≤ dnr D) then some (.inl (pc2, lv2, st2, h2, uc + kc, us + ks)) else none
      | none => match fin (drt D) i st with
        | some v => if uc ≤ dkr D ∧ us ≤ dnr D then some (.inr (none, v, h)) else none
        | none => match flo i st with
         | some _ => none
         | none => match calg mt i lk st (gj h.2) with
          | some (D2, as, r) => if uc + max (dkr D2) (dkx D2) ≤ max (dkr D) (dkx D) ∧ us + max (dnr D2) (dnx D2) ≤ max (dnr D) (dnx D) then
            match cl lk.2.1 as h with
            | some (none, v, h2) => some (.inl (pc + 3, lv, v.toList ++ r, h2, uc + dkr D2, us + dnr D2))
            | some (some E, _, h2) => match hdl (dhh D) (dhx D) pc E with
              | some hp => some (.inl (hp, lv, [.retAddr 0], h2, uc + dkx D2, us + dnx D2))
              | none => if uc + dkx D2 ≤ dkx D ∧ us + dnx D2 ≤ dnx D then some (.inr (some E, none, h2)) else none
            | none => none else none
          | none => if lk.1 = 20 ∧ lk.2.1 ≤ 2 ∧ st = [] ∧ dhh D = [] ∧ uc + 1 ≤ dkx D ∧ us + 6 ≤ dnx D then some (.inr (some lk.2.1, none, h)) else none
def ejs (sc : mSc) (df : List (List Value)) (mt : Nat → Option mM) (cl : Nat → List Value → jH → Option mRj) (D : mM) : Nat → mCj → Option (mCj ⊕ mRj)
  | 0, q => some (.inl q)
  | n + 1, q => match ej1 sc df mt cl D q with
    | some (.inl q2) => ejs sc df mt cl D n q2
    | some (.inr r) => some (.inr r)
    | none => none
def ejM (df : List (List Value)) (mt : Nat → Option mM) (f : Nat) : Nat → Nat → List Value → jH → Option mRj
  | 0, _, _, _ => none
  | d + 1, y, as, h => match mt y with
    | none => none
    | some D => if (as.map fun v => v.category).sum ≤ dml D then
      match ejs none df mt (ejM df mt f d) D f (0, lv_args 0 as, [], h, 0, 0) with
      | some (.inr r) => some r
      | _ => none
      else none
variable {sc : mSc} {df : List (List Value)} {mt : Nat → Option mM} {cl : Nat → List Value → jH → Option mRj} {call : mCall} {D : mM} {d : Nat} {Post : mPost}
/-- a journal and the cells it stands for -/
def rJ (j : jH) (h : mH) : Prop := j.1 = h.length ∧ gj j.2 = fun x => h[x]?
theorem gj_jset {x y : Nat} {e : mE} : ∀ {l : List (Nat × mE)}, gj (jset x e l) y = if x = y then some e else gj l y
  | [] => rfl
  | p :: r => by
    unfold jset
    split
    next hp =>
      show (if x = y then some e else gj r y) = if x = y then some e else (if p.1 = y then some p.2 else gj r y)
      by_cases hxy : x = y
      · rw [if_pos hxy, if_pos hxy]
      · rw [if_neg hxy, if_neg hxy, if_neg (by rw [hp]; exact hxy)]
    next => rfl
theorem rJ_set {j : jH} {h : mH} {x : Nat} {e : mE} (hr : rJ j h) (hx : x < j.1) : rJ (j.1, jset x e j.2) (h.set x e) := by
  refine ⟨by rw [List.length_set]; exact hr.1, ?_⟩
  funext y
  have hx2 : x < h.length := by rw [← hr.1]; exact hx
  have h2 : gj j.2 y = h[y]? := congrFun hr.2 y
  rw [gj_jset]
  rw [List.getElem?_set]
  by_cases hxy : x = y
  · subst hxy
    rw [if_pos rfl, if_pos rfl, if_pos hx2]
  · rw [if_neg hxy, if_neg hxy, h2]
theorem rJ_push {j : jH} {h : mH} {e : mE} (hr : rJ j h) : rJ (j.1 + 1, (j.1, e) :: j.2) (h ++ [e]) := by
  refine ⟨by rw [List.length_append, ← hr.1]; rfl, ?_⟩
  funext y
  have h2 : gj j.2 y = h[y]? := congrFun hr.2 y
  show (if j.1 = y then some e else gj j.2 y) = (h ++ [e])[y]?
  by_cases hy : j.1 = y
  · rw [if_pos hy, ← hy, hr.1, List.getElem?_concat_length]
  · rw [if_neg hy, h2]
    by_cases hl : y < h.length
    · rw [List.getElem?_append_left hl]
    · rw [List.getElem?_eq_none (by omega), List.getElem?_eq_none (by rw [List.length_append]; show h.length + 1 ≤ y; have := hr.1; omega)]
theorem actW_lt {i : Instr} {lk : mK} {st : List Value} {h : mH} {q : List Value × Nat × mE} (hw : actW i lk st h = some q) : q.2.1 < h.length := by
  unfold actW at hw
  split at hw <;> (repeat' split at hw) <;> first | cases hw; done | (cases hw; exact (List.getElem?_eq_some_iff.mp (by assumption)).1)
theorem stpj_ok {sc : mSc} {df : List (List Value)} {nL pc len : Nat} {i : Instr} {lk : mK} {lv : mL} {st : List Value} {j : jH} {h : mH} (hr : rJ j h) :
    (∀ pc2 lv2 st2 j2 kc ks, stpj sc df nL pc i len lk lv st j = some (pc2, lv2, st2, j2, kc, ks) → ∃ h2, stp sc df nL pc i len lk lv st h = some (pc2, lv2, st2, h2, kc, ks) ∧ rJ j2 h2) ∧
    (stpj sc df nL pc i len lk lv st j = none → stp sc df nL pc i len lk lv st h = none) := by
  obtain ⟨n, l⟩ := j
  have e1 : ∀ i lk st, actRg i lk st (gj l) = actR i lk st h := fun i lk st => by rw [show gj l = fun x => h[x]? from hr.2]; rfl
  have e2 : ∀ i lk st, actWg i lk st (gj l) = actW i lk st h := fun i lk st => by rw [show gj l = fun x => h[x]? from hr.2]; rfl
  have e3 : ∀ i lk st, actNg df i lk st n = actN df i lk st h := fun i lk st => by rw [show n = h.length from hr.1]; rfl
  unfold stpj stp
  dsimp only
  simp only [e1, e2, e3]
  cases hC : actC i pc lv st with
  | some q => exact ⟨fun _ _ _ _ _ _ hs => by cases hs; exact ⟨h, rfl, hr⟩, fun hs => by cases hs⟩
  | none =>
  cases hA : actA i pc st with
  | some q => exact ⟨fun _ _ _ _ _ _ hs => by cases hs; exact ⟨h, rfl, hr⟩, fun hs => by cases hs⟩
  | none =>
  cases hR : actR i lk st h with
  | some q => exact ⟨fun _ _ _ _ _ _ hs => by cases hs; exact ⟨h, rfl, hr⟩, fun hs => by cases hs⟩
  | none =>
  cases hB : actB i pc st with
  | some q => exact ⟨fun _ _ _ _ _ _ hs => by cases hs; exact ⟨h, rfl, hr⟩, fun hs => by cases hs⟩
  | none =>
  cases hS : actS nL i pc lv st with
  | some q => exact ⟨fun _ _ _ _ _ _ hs => by cases hs; exact ⟨h, rfl, hr⟩, fun hs => by cases hs⟩
  | none =>
  cases hW : actW i lk st h with
  | some q => exact ⟨fun _ _ _ _ _ _ hs => by cases hs; exact ⟨_, rfl, rJ_set hr (by have := actW_lt hW; have h1 := hr.1; omega)⟩, fun hs => by cases hs⟩
  | none =>
  cases hK : actK i lk st with
  | some q => exact ⟨fun _ _ _ _ _ _ hs => by cases hs; exact ⟨h, rfl, hr⟩, fun hs => by cases hs⟩
  | none =>
  cases hX : actX sc i st with
  | some q => exact ⟨fun _ _ _ _ _ _ hs => by cases hs; exact ⟨h, rfl, hr⟩, fun hs => by cases hs⟩
  | none =>
  dsimp only
  by_cases hk : lk.1 = 20
  · rw [if_pos hk, if_pos hk]
    exact ⟨fun _ _ _ _ _ _ hs => (by cases hs), fun _ => rfl⟩
  · rw [if_neg hk, if_neg hk]
    cases hN : actN df i lk st h with
    | some q => exact ⟨fun _ _ _ _ _ _ hs => by cases hs; exact ⟨_, rfl, rJ_push hr⟩, fun hs => by cases hs⟩
    | none => exact ⟨fun _ _ _ _ _ _ hs => (by cases hs), fun _ => rfl⟩
def clJ (cl : Nat → List Value → jH → Option mRj) (call : mCall) : Prop := ∀ y as j h e v j2, cl y as j = some (e, v, j2) → rJ j h → ∀ Post : mPost, (∀ h2, rJ j2 h2 → Post e v h2) → call y as h Post
/-- what an evaluation by the journal came to, said of the run -/
def xJ (sc : mSc) (df : List (List Value)) (mt : Nat → Option mM) (call : mCall) (D : mM) (d M : Nat) (x : mCj ⊕ mRj) (Post : mPost) : Prop := match x with
  | .inl (pc, lv, st, j, uc, us) => ∀ h, rJ j h → ∀ m, M ≤ m → run sc df mt call D d m pc lv st h uc us Post
  | .inr (e, v, j) => ∀ h, rJ j h → Post e v h
theorem ej1_run (hc : clJ cl call) (hd : 5 ≤ d) {pc : Nat} {lv : mL} {st : List Value} {j : jH} {uc us : Nat} {x : mCj ⊕ mRj} (hj : ej1 sc df mt cl D (pc, lv, st, j, uc, us) = some x) {M : Nat}
    (hx : xJ sc df mt call D d M x Post) {h : mH} (hr : rJ j h) {n : Nat} (hn : M ≤ n) : run sc df mt call D d (n + 1) pc lv st h uc us Post := by
  unfold run
  unfold ej1 at hj
  dsimp only at hj
  have ec : ∀ i lk st, calg mt i lk st (gj j.2) = cal mt i lk st h := fun i lk st => by rw [show gj j.2 = fun x => h[x]? from hr.2]; rfl
  simp only [ec] at hj
  split at hj
  · cases hj
  next i len lk hrow =>
  rw [hrow]
  dsimp only
  obtain ⟨s1, s2⟩ := stpj_ok (sc := sc) (df := df) (nL := dml D) (pc := pc) (len := len) (i := i) (lk := lk) (lv := lv) (st := st) hr
  split at hj
  next pc2 lv2 st2 j2 kc ks hs =>
    obtain ⟨h2, hs2, hr2⟩ := s1 _ _ _ _ _ _ hs
    rw [hs2]
    dsimp only
    split at hj
    next hk => cases hj; exact ⟨hk, hx _ hr2 _ hn⟩
    next => cases hj
  next hs =>
  rw [s2 hs]
  dsimp only
  split at hj
  next v hf =>
    rw [hf]
    dsimp only
    split at hj
    next hk => cases hj; exact ⟨hk.1, hk.2, hx _ hr⟩
    next => cases hj
  next hf =>
  rw [hf]
  dsimp only
  split at hj
  · cases hj
  next hfl =>
  rw [hfl]
  dsimp only
  split at hj
  next D2 as r hca =>
    rw [hca]
    dsimp only
    split at hj
    next hk =>
      refine ⟨hk.1, hk.2, ?_⟩
      split at hj
      next v j2 hcl =>
        cases hj
        exact hc _ _ _ _ _ _ _ hcl hr _ (fun h2 hr2 => hx _ hr2 _ hn)
      next E w j2 hcl =>
        refine hc _ _ _ _ _ _ _ hcl hr _ (fun h2 hr2 => ?_)
        dsimp only
        split at hj
        next hp hh2 => cases hj; rw [hh2]; exact hx _ hr2 _ hn
        next hh2 =>
          rw [hh2]
          dsimp only
          split at hj
          next hk2 => cases hj; exact ⟨hk2.1, hk2.2, hx _ hr2⟩
          next => cases hj
      next => cases hj
    next => cases hj
  next hca =>
    rw [hca]
    dsimp only
    split at hj
    next hk => cases hj; exact ⟨hk.1, hk.2.1, hk.2.2.1, hk.2.2.2.1, hd, hk.2.2.2.2.1, hk.2.2.2.2.2, hx _ hr⟩
    next => cases hj
theorem ejs_run (hc : clJ cl call) (hd : 5 ≤ d) {M : Nat} {x : mCj ⊕ mRj} (hx : xJ sc df mt call D d M x Post) : ∀ {k : Nat} {q : mCj}, ejs sc df mt cl D k q = some x → xJ sc df mt call D d (M + k) (.inl q) Post
  | 0, q, hj => by
    cases hj
    exact hx
  | k + 1, (pc, lv, st, j, uc, us), hj => by
    intro h hr m hm
    obtain ⟨m, rfl⟩ : ∃ m2, m = m2 + 1 := ⟨m - 1, by omega⟩
    unfold ejs at hj
    split at hj
    next q2 h1 => exact ej1_run hc hd h1 (M := M + k) (x := .inl q2) (ejs_run hc hd hx hj) hr (by omega)
    next r h1 => cases hj; exact ej1_run hc hd h1 (M := 0) (x := .inr r) hx hr (Nat.zero_le _)
    next => cases hj
theorem ejM_ok {f : Nat} (hf : f ≤ 2 ^ 40) : ∀ (k d : Nat), k + 5 ≤ d → clJ (ejM df mt f k) (wpM df mt d)
  | 0, d, hk => fun y as j h e v j2 hc => by cases hc
  | k + 1, d, hk => fun y as j h e v j2 hc hr Post hP => by
    obtain ⟨d, rfl⟩ : ∃ d2, d = d2 + 1 := ⟨d - 1, by omega⟩
    unfold ejM at hc
    unfold wpM
    split at hc
    · cases hc
    next D2 hm =>
    rw [hm]
    dsimp only
    split at hc
    next ha =>
      refine ⟨ha, ?_⟩
      split at hc
      next r hr2 =>
        cases hc
        exact ejs_run (ejM_ok hf k d (by omega)) (by omega) (M := 0) (x := .inr (e, v, j2)) hP hr2 h hr _ (by omega)
      next => cases hc
    next => cases hc
end JRN
