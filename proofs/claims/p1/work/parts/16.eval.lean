/-! Running the small machine by evaluation: what comes out of it holds of run. -/
section EVL
abbrev mCf : Type := Nat × mL × List Value × mH × Nat × Nat
abbrev mRs : Type := Option Nat × Option Value × mH
def ev1 (sc : mSc) (df : List (List Value)) (mt : Nat → Option mM) (cl : Nat → List Value → mH → Option mRs) (D : mM) (q : mCf) : Option (mCf ⊕ mRs) := match q with
  | (pc, lv, st, h, uc, us) => match rowAt (drw D) pc with
    | none => none
    | some (i, len, lk) => match stp sc df (dml D) pc i len lk lv st h with
      | some (pc2, lv2, st2, h2, kc, ks) => if kc = 0 ∨ (uc + kc ≤ dkr D ∧ us + ks ≤ dnr D) then some (.inl (pc2, lv2, st2, h2, uc + kc, us + ks)) else none
      | none => match fin (drt D) i st with
        | some v => if uc ≤ dkr D ∧ us ≤ dnr D then some (.inr (none, v, h)) else none
        | none => match flo i st with
         | some _ => none
         | none => match cal mt i lk st h with
          | some (D2, as, r) => if uc + max (dkr D2) (dkx D2) ≤ max (dkr D) (dkx D) ∧ us + max (dnr D2) (dnx D2) ≤ max (dnr D) (dnx D) then
            match cl lk.2.1 as h with
            | some (none, v, h2) => some (.inl (pc + 3, lv, v.toList ++ r, h2, uc + dkr D2, us + dnr D2))
            | some (some E, _, h2) => match hdl (dhh D) (dhx D) pc E with
              | some hp => some (.inl (hp, lv, [.retAddr 0], h2, uc + dkx D2, us + dnx D2))
              | none => if uc + dkx D2 ≤ dkx D ∧ us + dnx D2 ≤ dnx D then some (.inr (some E, none, h2)) else none
            | none => none else none
          | none => if lk.1 = 20 ∧ lk.2.1 ≤ 2 ∧ st = [] ∧ dhh D = [] ∧ uc + 1 ≤ dkx D ∧ us + 6 ≤ dnx D then some (.inr (some lk.2.1, none, h)) else none
def evs (sc : mSc) (df : List (List Value)) (mt : Nat → Option mM) (cl : Nat → List Value → mH → Option mRs) (D : mM) : Nat → mCf → Option (mCf ⊕ mRs)
  | 0, q => some (.inl q)
  | n + 1, q => match ev1 sc df mt cl D q with
    | some (.inl q2) => evs sc df mt cl D n q2
    | some (.inr r) => some (.inr r)
    | none => none
def evM (df : List (List Value)) (mt : Nat → Option mM) (f : Nat) : Nat → Nat → List Value → mH → Option mRs
  | 0, _, _, _ => none
  | d + 1, y, as, h => match mt y with
    | none => none
    | some D => if (as.map fun v => v.category).sum ≤ dml D then
      match evs none df mt (evM df mt f d) D f (0, lv_args 0 as, [], h, 0, 0) with
      | some (.inr r) => some r
      | _ => none
      else none
variable {sc : mSc} {df : List (List Value)} {mt : Nat → Option mM} {cl : Nat → List Value → mH → Option mRs} {call : mCall} {D : mM} {d : Nat} {Post : mPost}
def runC (sc : mSc) (df : List (List Value)) (mt : Nat → Option mM) (call : mCall) (D : mM) (d n : Nat) (q : mCf) (Post : mPost) : Prop := run sc df mt call D d n q.1 q.2.1 q.2.2.1 q.2.2.2.1 q.2.2.2.2.1 q.2.2.2.2.2 Post
def clOk (cl : Nat → List Value → mH → Option mRs) (call : mCall) : Prop := ∀ y as h e v h2, cl y as h = some (e, v, h2) → ∀ Post : mPost, Post e v h2 → call y as h Post
theorem ev1_run (hc : clOk cl call) (hd : 5 ≤ d) {q : mCf} {x : mCf ⊕ mRs} (h : ev1 sc df mt cl D q = some x) {n : Nat}
    (hx : match x with | .inl q2 => runC sc df mt call D d n q2 Post | .inr r => Post r.1 r.2.1 r.2.2) : runC sc df mt call D d (n + 1) q Post := by
  obtain ⟨pc, lv, st, hh, uc, us⟩ := q
  unfold runC
  unfold run
  dsimp only
  unfold ev1 at h
  dsimp only at h
  split at h
  · cases h
  next i len lk hrow =>
  rw [hrow]
  dsimp only
  split at h
  next pc2 lv2 st2 h2 kc ks hs =>
    rw [hs]
    dsimp only
    split at h
    next hr => cases h; exact ⟨hr, hx⟩
    next => cases h
  next hs =>
  rw [hs]
  dsimp only
  split at h
  next v hf =>
    rw [hf]
    dsimp only
    split at h
    next hr => cases h; exact ⟨hr.1, hr.2, hx⟩
    next => cases h
  next hf =>
  rw [hf]
  dsimp only
  split at h
  · cases h
  next hfl =>
  rw [hfl]
  dsimp only
  split at h
  next D2 as r hca =>
    rw [hca]
    dsimp only
    split at h
    next hr =>
      refine ⟨hr.1, hr.2, ?_⟩
      split at h
      next v h2 hcl => cases h; exact hc _ _ _ _ _ _ hcl _ hx
      next E w h2 hcl =>
        refine hc _ _ _ _ _ _ hcl _ ?_
        dsimp only
        split at h
        next hp hh2 => cases h; rw [hh2]; exact hx
        next hh2 =>
          rw [hh2]
          dsimp only
          split at h
          next hr2 => cases h; exact ⟨hr2.1, hr2.2, hx⟩
          next => cases h
      next => cases h
    next => cases h
  next hca =>
    rw [hca]
    dsimp only
    split at h
    next hr => cases h; exact ⟨hr.1, hr.2.1, hr.2.2.1, hr.2.2.2.1, hd, hr.2.2.2.2.1, hr.2.2.2.2.2, hx⟩
    next => cases h
theorem evs_run (hc : clOk cl call) (hd : 5 ≤ d) : ∀ {k : Nat} {q : mCf} {x : mCf ⊕ mRs}, evs sc df mt cl D k q = some x → ∀ {M : Nat},
    (match x with | .inl q2 => ∀ m, M ≤ m → runC sc df mt call D d m q2 Post | .inr r => Post r.1 r.2.1 r.2.2) → ∀ m, M + k ≤ m → runC sc df mt call D d m q Post
  | 0, q, x, h, M, hx => by
    cases h
    exact hx
  | k + 1, q, x, h, M, hx => by
    intro m hm
    obtain ⟨m, rfl⟩ : ∃ m2, m = m2 + 1 := ⟨m - 1, by omega⟩
    unfold evs at h
    split at h
    next q2 h1 => exact ev1_run hc hd h1 (x := .inl q2) (evs_run hc hd h hx m (by omega))
    next r h1 => cases h; exact ev1_run hc hd h1 (x := .inr r) hx
    next => cases h
theorem evM_ok {f : Nat} (hf : f ≤ 2 ^ 40) : ∀ (k d : Nat), k + 5 ≤ d → clOk (evM df mt f k) (wpM df mt d)
  | 0, d, hk => fun y as h e v h2 hc => by cases hc
  | k + 1, d, hk => fun y as h e v h2 hc Post hP => by
    obtain ⟨d, rfl⟩ : ∃ d2, d = d2 + 1 := ⟨d - 1, by omega⟩
    unfold evM at hc
    unfold wpM
    split at hc
    · cases hc
    next D2 hm =>
    rw [hm]
    dsimp only
    split at hc
    next ha =>
      refine ⟨ha, ?_⟩
      split at hc
      next r hr =>
        cases hc
        exact evs_run (evM_ok hf k d (by omega)) (by omega) hr (M := 0) hP _ (by omega)
      next => cases hc
    next => cases hc
end EVL
