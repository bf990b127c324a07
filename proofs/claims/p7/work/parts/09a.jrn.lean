/-! Runs by evaluation, with a journal for the cells: what was written, the newest first; a number of a script that isn't known stands as .retAddr (1000 + its place). -/
section JRN
abbrev jH : Type := Nat × List (Nat × mE)
def gj : List (Nat × mE) → Nat → Option mE
  | [], x => (cstZ x).map fun z => .inl (999, z)
  | p :: r, x => if p.1 = x then some p.2 else gj r x
/-- a write; right behind a write to the same cell it takes its place -/
def jset (x : Nat) (e : mE) : List (Nat × mE) → List (Nat × mE)
  | p :: r => if p.1 = x then (x, e) :: r else (x, e) :: p :: r
  | [] => [(x, e)]
/-- a cell that stands for itself; one of tag 2000 and more is an array of which only kind and length are known -/
def clean (e : mE) : Bool := match e with
  | .inl (t, _) => decide (t < 2000)
  | .inr _ => true
def gCl (j : jH) : Bool := match j.2 with
  | p :: _ => clean p.2
  | [] => true
def nTk (v : Value) : Bool := match v with
  | .retAddr t => decide (t < 1000)
  | _ => true
/-- no number of the script is stored as an exception in hand; no field holds one -/
def gPre (i : Instr) (st : List Value) : Bool := match i, st with
  | .astore_n _, v :: _ => nTk v
  | .astore _, v :: _ => nTk v
  | _, _ => true
def gTop (i : Instr) (st : List Value) : Bool := match i, st with
  | .getfield _, v :: _ => nTk v
  | _, _ => true
def isWr (i : Instr) : Bool := match i with
  | .putfield _ | .iastore | .lastore | .fastore | .dastore | .bastore | .aastore | .new _ | .newarray _ | .anewarray _ => true
  | _ => false
/-- what a step writes stands for itself -/
def gWr (i : Instr) (j : jH) : Bool := !isWr i || gCl j
def isNew (i : Instr) : Bool := match i with
  | .new _ => true
  | _ => false
def actRg (i : Instr) (lk : mK) (st : List Value) (g : Nat → Option mE) : Option (List Value) := match i, st with
  | .getfield _, .ref x :: r => match g x with
    | some (.inr (ci, fs)) => if ci = lk.2.1 then (match fs[lk.2.2.1]? with | some v => some (v :: r) | none => none) else none
    | _ => none
  | .iaload, .int j :: .ref x :: r => match g x with
    | some (.inl (t, n, .inl f)) => if t = 0 ∧ ¬ (j < 0 ∨ n ≤ j.toNatClampNeg) then some (.int (f j.toNatClampNeg) :: r) else none
    | _ => none
  | .laload, .int j :: .ref x :: r => match g x with
    | some (.inl (t, n, .inr (.inl f))) => if t = 4 ∧ ¬ (j < 0 ∨ n ≤ j.toNatClampNeg) then some (.long (f j.toNatClampNeg) :: r) else none
    | _ => none
  | .faload, .int j :: .ref x :: r => match g x with
    | some (.inl (t, n, .inr (.inr (.inl f)))) => if t = 5 ∧ ¬ (j < 0 ∨ n ≤ j.toNatClampNeg) then some (.float (f j.toNatClampNeg) :: r) else none
    | _ => none
  | .daload, .int j :: .ref x :: r => match g x with
    | some (.inl (t, n, .inr (.inr (.inr (.inl f))))) => if t = 6 ∧ ¬ (j < 0 ∨ n ≤ j.toNatClampNeg) then some (.double (f j.toNatClampNeg) :: r) else none
    | _ => none
  | .baload, .int j :: .ref x :: r => match g x with
    | some (.inl (t, n, .inl f)) => if (t = 1 ∨ t = 2) ∧ ¬ (j < 0 ∨ n ≤ j.toNatClampNeg) then some (.int (f j.toNatClampNeg) :: r) else none
    | _ => none
  | .aaload, .int j :: .ref x :: r => match g x with
    | some (.inl (t, n, .inr (.inr (.inr (.inr f))))) => if (7 ≤ t ∧ t < 900) ∧ ¬ (j < 0 ∨ n ≤ j.toNatClampNeg) then some (va_rf (f j.toNatClampNeg) :: r) else none
    | _ => none
  | .arraylength, .ref x :: r => match g x with
    | some (.inl (t, n, z)) => if t < 900 then some (.int (Int32.ofNat n) :: r) else none
    | _ => none
  | _, _ => none
def actWg (i : Instr) (lk : mK) (st : List Value) (g : Nat → Option mE) : Option (List Value × Nat × mE) := match i, st with
  | .putfield _, v :: .ref x :: r => match g x with
    | some (.inr (ci, fs)) => if ci = lk.2.1 ∧ lk.2.2.1 < fs.length ∧ okV lk.2.2.2 v = true then some (r, x, .inr (ci, fs.set lk.2.2.1 v)) else none
    | _ => none
  | .iastore, .int y :: .int j :: .ref x :: r => match g x with
    | some (.inl (t, n, .inl f)) => if t = 0 ∧ ¬ (j < 0 ∨ n ≤ j.toNatClampNeg) then some (r, x, .inl (0, n, .inl (upd f j.toNatClampNeg y))) else none
    | _ => none
  | .lastore, .long y :: .int j :: .ref x :: r => match g x with
    | some (.inl (t, n, .inr (.inl f))) => if t = 4 ∧ ¬ (j < 0 ∨ n ≤ j.toNatClampNeg) then some (r, x, .inl (4, n, .inr (.inl (vp_updL f j.toNatClampNeg y)))) else none
    | _ => none
  | .fastore, .float y :: .int j :: .ref x :: r => match g x with
    | some (.inl (t, n, .inr (.inr (.inl f)))) => if t = 5 ∧ ¬ (j < 0 ∨ n ≤ j.toNatClampNeg) then some (r, x, .inl (5, n, .inr (.inr (.inl (vf_upd f j.toNatClampNeg y))))) else none
    | _ => none
  | .dastore, .double y :: .int j :: .ref x :: r => match g x with
    | some (.inl (t, n, .inr (.inr (.inr (.inl f))))) => if t = 6 ∧ ¬ (j < 0 ∨ n ≤ j.toNatClampNeg) then some (r, x, .inl (6, n, .inr (.inr (.inr (.inl (vf_upd f j.toNatClampNeg y)))))) else none
    | _ => none
  | .bastore, .int y :: .int j :: .ref x :: r => match g x with
    | some (.inl (t, n, .inl f)) => if t = 1 ∧ ¬ (j < 0 ∨ n ≤ j.toNatClampNeg) then some (r, x, .inl (1, n, .inl (upd f j.toNatClampNeg (vp_nar .byte y)))) else if t = 2 ∧ ¬ (j < 0 ∨ n ≤ j.toNatClampNeg) then some (r, x, .inl (2, n, .inl (upd f j.toNatClampNeg (vp_nar .boolean y)))) else none
    | _ => none
  | .aastore, .ref v :: .int j :: .ref x :: r => match g x, g v with
    | some (.inl (t, n, .inr (.inr (.inr (.inr f))))), some (.inr (ci, _)) => if (t = ci + 8 ∧ t < 900) ∧ ¬ (j < 0 ∨ n ≤ j.toNatClampNeg) then some (r, x, .inl (t, n, .inr (.inr (.inr (.inr (va_up f j.toNatClampNeg (some v))))))) else none
    | some (.inl (t, n, .inr (.inr (.inr (.inr f))))), some (.inl (999, _)) => if (t = 7 ∧ v < lk.2.1) ∧ ¬ (j < 0 ∨ n ≤ j.toNatClampNeg) then some (r, x, .inl (t, n, .inr (.inr (.inr (.inr (va_up f j.toNatClampNeg (some v))))))) else none
    | _, _ => none
  | _, _ => none
def actNg (df : List (List Value)) (i : Instr) (lk : mK) (st : List Value) (n0 : Nat) : Option (List Value × mE × Nat) := match i, st with
  | .new _, r => match df[lk.2.1]? with
    | some fs => some (.ref n0 :: r, .inr (lk.2.1, fs), fs.length)
    | none => none
  | .newarray at0, .int n :: r => if ¬ n < 0 ∧ n.toNatClampNeg ≤ 65536 ∧ tgA at0 < 900 then some (.ref n0 :: r, .inl (tgA at0, n.toNatClampNeg, ctA at0), n.toNatClampNeg) else none
  | .anewarray _, .int n :: r => if ¬ n < 0 ∧ n.toNatClampNeg ≤ 65536 ∧ lk.2.1 ≠ 999 then some (.ref n0 :: r, .inl (lk.2.1, n.toNatClampNeg, .inr (.inr (.inr (.inr fun _ => none)))), n.toNatClampNeg) else none
  | _, _ => none
def calg (mt : Nat → Option mM) (i : Instr) (lk : mK) (st : List Value) (g : Nat → Option mE) : Option (mM × List Value × List Value) :=
  if lk.1 = 1 then match mt lk.2.1 with
    | none => none
    | some D => match popN (dna D) st with
      | none => none
      | some (as, r) => match i with
        | .invokestatic _ => if (r.map fun v => v.category).sum ≤ 8 then some (D, as, r) else none
        | .invokespecial _ => match r with
          | .ref x :: r => if lk.2.2.1 = 1 then (match g x with
              | some (.inr (ci, _)) => if (r.map fun v => v.category).sum ≤ 8 ∧ ci = dci D then some (D, .ref x :: as, r) else none
              | _ => none)
            else if (r.map fun v => v.category).sum ≤ 8 then some (D, .ref x :: as, r) else none
          | _ => none
        | .invokevirtual _ => match r with
          | .ref x :: r => match g x with
            | some (.inr (ci, _)) => if (r.map fun v => v.category).sum ≤ 8 ∧ ci = dci D then some (D, .ref x :: as, r) else none
            | _ => none
          | _ => none
        | _ => none
  else none
def stpj (sc : mSc) (df : List (List Value)) (nL : Nat) (pc : Nat) (i : Instr) (len : Nat) (lk : mK) (lv : mL) (st : List Value) (h : jH) : Option (Nat × mL × List Value × jH × Nat × Nat) :=
  match actC i pc lv st with
  | some q => some (q.1, q.2.1, q.2.2, h, 0, 0)
  | none => match actA i pc st with
    | some q => some (q.1, lv, q.2, h, 0, 0)
    | none => match actRg i lk st (gj h.2) with
      | some q => some (pc + lnI i len, lv, q, h, 0, 0)
      | none => match actB i pc st with
        | some q => some (q.1, lv, q.2, h, 0, 0)
        | none => match actS nL i pc lv st with
          | some q => some (q.1, q.2.1, q.2.2, h, 0, 0)
          | none => match actWg i lk st (gj h.2) with
            | some q => some (pc + lnI i len, lv, q.1, (h.1, jset q.2.1 q.2.2 h.2), 0, 0)
            | none => match actK i lk st with
              | some q => some (pc + lnI i len, lv, q, h, 0, 0)
              | none => match actX sc i st with
               | some q => some (pc + lnI i len, lv, q, h, 0, 0)
               | none => if lk.1 = 20 then none else match actNg df i lk st h.1 with
                | some q => some (pc + lnI i len, lv, q.1, (h.1 + 1, (h.1, q.2.1) :: h.2), 1, q.2.2)
                | none => none
/-! the same by the instruction's number, so that one reading of it serves for all its runs -/
def rowAtB : List mR → Nat → Option (Instr × Nat × mK)
  | [], _ => none
  | r :: rs, pc => cond (Nat.beq r.1 pc) (some r.2) (rowAtB rs pc)
theorem nbeq_no {a b : Nat} (h : ¬ a = b) : Nat.beq a b = false := by
  cases hb : Nat.beq a b with
  | false => rfl
  | true => exact absurd (Nat.eq_of_beq_eq_true hb) h
theorem rowAtB_eq : ∀ (rs : List mR) (pc : Nat), rowAtB rs pc = rowAt rs pc
  | [], _ => rfl
  | r :: rs, pc => by
    unfold rowAtB rowAt
    by_cases h : r.1 = pc
    · rw [if_pos h, h, Nat.beq_refl]
      rfl
    · rw [if_neg h, nbeq_no h, rowAtB_eq rs pc]
      rfl
def gjB : List (Nat × mE) → Nat → Option mE
  | [], x => (cstZ x).map fun z => .inl (999, z)
  | p :: r, x => cond (Nat.beq p.1 x) (some p.2) (gjB r x)
theorem gjB_eq : ∀ (l : List (Nat × mE)) (x : Nat), gjB l x = gj l x
  | [], _ => rfl
  | p :: r, x => by
    unfold gjB gj
    by_cases h : p.1 = x
    · rw [if_pos h, h, Nat.beq_refl]
      rfl
    · rw [if_neg h, nbeq_no h, gjB_eq r x]
      rfl
def icl (i : Instr) : Nat := match i with
  | .iconst _ | .bipush _ | .sipush _ | .lconst _ | .fconst _ | .aconst_null | .iload_n _ | .iload _ | .lload_n _ | .lload _ | .fload_n _ | .fload _ | .dload_n _ | .dload _ | .aload_n _ | .aload _ => 0
  | .getfield _ | .iaload | .laload | .faload | .daload | .baload | .aaload | .arraylength => 2
  | .ifCond _ _ | .if_icmp _ _ | .goto _ | .ifnull _ | .ifnonnull _ | .tableswitch .. | .lookupswitch .. => 3
  | .istore_n _ | .istore _ | .lstore_n _ | .lstore _ | .fstore_n _ | .fstore _ | .dstore_n _ | .dstore _ | .astore_n _ | .astore _ | .iinc _ _ => 4
  | .putfield _ | .iastore | .lastore | .fastore | .dastore | .bastore | .aastore => 5
  | .ldc _ | .ldc_w _ | .getstatic _ | .invokestatic _ | .invokespecial _ => 6
  | .new _ | .newarray _ | .anewarray _ => 7
  | .invokevirtual _ | .return_ | .ireturn | .lreturn | .freturn | .areturn => 8
  | _ => 1
def dec (i : Instr) : Nat × Nat × Int := match i with
  | .aload_n k => (1, k.val, 0)
  | .iload_n k => (2, k.val, 0)
  | .iload k => (3, k, 0)
  | .iconst n => (4, 0, n)
  | .sipush n => (5, 0, n)
  | .getfield _ => (6, 0, 0)
  | .iinc k z => (7, k, z)
  | .goto off => (8, 0, off)
  | .if_icmp .ge off => (9, 0, off)
  | .iastore => (10, 0, 0)
  | .invokevirtual _ => (11, 0, 0)
  | _ => (0, 0, 0)
def fstp (c : Nat × Nat × Int) (nL pc : Nat) (lk : mK) (lv : mL) (st : List Value) (h : jH) : Option (Nat × mL × List Value × jH × Nat × Nat) :=
  cond (Nat.beq c.1 0) none (cond (Nat.beq c.1 1) (match gl lv c.2.1 with
    | some (.ref x) => some (pc + 1, lv, .ref x :: st, h, 0, 0)
    | _ => none)
  (cond (Nat.beq c.1 2) (match gl lv c.2.1 with
    | some (.int x) => some (pc + 1, lv, .int x :: st, h, 0, 0)
    | _ => none)
  (cond (Nat.beq c.1 3) (match gl lv c.2.1 with
    | some (.int x) => some (pc + 2, lv, .int x :: st, h, 0, 0)
    | _ => none)
  (cond (Nat.beq c.1 4) (some (pc + 1, lv, .int (Int32.ofInt c.2.2) :: st, h, 0, 0))
  (cond (Nat.beq c.1 5) (some (pc + 3, lv, .int (Int16.ofInt c.2.2).toInt32 :: st, h, 0, 0))
  (cond (Nat.beq c.1 6) (match st with
    | .ref x :: r => match gjB h.2 x with
      | some (.inr (ci, fs)) => cond (Nat.beq ci lk.2.1) (match fs[lk.2.2.1]? with
        | some v => cond (nTk v) (some (pc + 3, lv, v :: r, h, 0, 0)) none
        | none => none) none
      | _ => none
    | _ => none)
  (cond (Nat.beq c.1 7) (match gl lv c.2.1 with
    | some (.int x) => cond (Nat.ble (c.2.1 + 1) nL) (some (pc + 3, sto lv c.2.1 (.int (x + Int32.ofInt c.2.2)), st, h, 0, 0)) none
    | _ => none)
  (cond (Nat.beq c.1 8) (match tgt pc c.2.2 with
    | some t => some (t, lv, st, h, 0, 0)
    | none => none)
  (cond (Nat.beq c.1 9) (match st with
    | .int y :: .int x :: r => match tgt pc c.2.2 with
      | some t => some (if y ≤ x then t else pc + 3, lv, r, h, 0, 0)
      | none => none
    | _ => none)
  (cond (Nat.beq c.1 10) (match st with
    | .int y :: .int j :: .ref x :: r => match gjB h.2 x with
      | some (.inl (t, n, .inl f)) => if t = 0 ∧ ¬ (j < 0 ∨ n ≤ j.toNatClampNeg) then some (pc + 1, lv, r, (h.1, jset x (.inl (0, n, .inl (upd f j.toNatClampNeg y))) h.2), 0, 0) else none
      | _ => none
    | _ => none) none))))))))))
def stpj2 (c : Nat) (df : List (List Value)) (nL : Nat) (pc : Nat) (i : Instr) (len : Nat) (lk : mK) (lv : mL) (st : List Value) (h : jH) : Option (Nat × mL × List Value × jH × Nat × Nat) := match c with
  | 0 => match actC i pc lv st with
    | some q => some (q.1, q.2.1, q.2.2, h, 0, 0)
    | none => none
  | 1 => match actA i pc st with
    | some q => some (q.1, lv, q.2, h, 0, 0)
    | none => none
  | 2 => match actRg i lk st (gj h.2) with
    | some q => cond (gTop i q) (some (pc + lnI i len, lv, q, h, 0, 0)) none
    | none => none
  | 3 => match actB i pc st with
    | some q => some (q.1, lv, q.2, h, 0, 0)
    | none => none
  | 4 => match actS nL i pc lv st with
    | some q => cond (gPre i st) (some (q.1, q.2.1, q.2.2, h, 0, 0)) none
    | none => none
  | 5 => match actWg i lk st (gj h.2) with
    | some q => cond (clean q.2.2) (some (pc + lnI i len, lv, q.1, (h.1, jset q.2.1 q.2.2 h.2), 0, 0)) none
    | none => none
  | 6 => match actK i lk st with
    | some q => some (pc + lnI i len, lv, q, h, 0, 0)
    | none => none
  | 7 => if lk.1 = 20 then none else match actNg df i lk st h.1 with
    | some q => cond (clean q.2.1) (some (pc + lnI i len, lv, q.1, (h.1 + 1, (h.1, q.2.1) :: h.2), 1, q.2.2)) none
    | none => none
  | _ => none
def stq (df : List (List Value)) (nL : Nat) (pc : Nat) (i : Instr) (len : Nat) (lk : mK) (lv : mL) (st : List Value) (h : jH) : Option (Nat × mL × List Value × jH × Nat × Nat) := match fstp (dec i) nL pc lk lv st h with
  | some q => some q
  | none => stpj2 (icl i) df nL pc i len lk lv st h
abbrev mCj : Type := Nat × mL × List Value × jH × Nat × Nat
abbrev mRj : Type := Option Nat × Option Value × jH
def ej1 (df : List (List Value)) (mt : Nat → Option mM) (cl : Nat → List Value → jH → Option mRj) (D : mM) (q : mCj) : Option (mCj ⊕ mRj) := match q with
  | (pc, lv, st, h, uc, us) => match rowAtB (drw D) pc with
    | none => none
    | some (i, len, lk) => match stq df (dml D) pc i len lk lv st h with
      | some (pc2, lv2, st2, h2, kc, ks) => cond (Nat.beq kc 0 || (Nat.ble (uc + kc) (dkr D) && Nat.ble (us + ks) (dnr D))) (some (.inl (pc2, lv2, st2, h2, uc + kc, us + ks))) none
      | none => match fin (drt D) i st with
        | some v => if uc ≤ dkr D ∧ us ≤ dnr D then some (.inr (none, v, h)) else none
        | none => match calg mt i lk st (gj h.2) with
          | some (D2, as, r) => if uc + max (dkr D2) (dkx D2) ≤ max (dkr D) (dkx D) ∧ us + max (dnr D2) (dnx D2) ≤ max (dnr D) (dnx D) then
            match cl lk.2.1 as h with
            | some (none, v, h2) => some (.inl (pc + 3, lv, v.toList ++ r, h2, uc + dkr D2, us + dnr D2))
            | some (some E, _, h2) => match hdl (dhh D) (dhx D) pc E with
              | some hp => some (.inl (hp, lv, [.retAddr 0], h2, uc + dkx D2, us + dnx D2))
              | none => if uc + dkx D2 ≤ dkx D ∧ us + dnx D2 ≤ dnx D then some (.inr (some E, none, h2)) else none
            | none => none else none
          | none => if isNew i = true ∧ lk.1 = 20 ∧ lk.2.1 ≤ 2 ∧ st = [] ∧ dhh D = [] ∧ uc + 1 ≤ dkx D ∧ us + 6 ≤ dnx D then some (.inr (some lk.2.1, none, h)) else none
def ejs (df : List (List Value)) (mt : Nat → Option mM) (cl : Nat → List Value → jH → Option mRj) (D : mM) : Nat → mCj → Option (mCj ⊕ mRj)
  | 0, q => some (.inl q)
  | n + 1, q => match ej1 df mt cl D q with
    | some (.inl q2) => ejs df mt cl D n q2
    | some (.inr r) => some (.inr r)
    | none => none
def ejM (df : List (List Value)) (mt : Nat → Option mM) (f : Nat) : Nat → Nat → List Value → jH → Option mRj
  | 0, _, _, _ => none
  | d + 1, y, as, h => match mt y with
    | none => none
    | some D => if (as.map fun v => v.category).sum ≤ dml D then
      match ejs df mt (ejM df mt f d) D f (0, lv_args 0 as, [], h, 0, 0) with
      | some (.inr r) => some r
      | _ => none
      else none
/-- a journal and the cells it stands for -/
def rD (j : jH) (h : mH) : Prop := j.1 = h.length ∧ ∀ x, match gj j.2 x with
  | none => h[x]? = none
  | some e => if clean e = true then h[x]? = some e else ∃ t n z g, e = .inl (t + 2000, n, z) ∧ h[x]? = some (.inl (t, n, .inl g))
theorem rD_get {j : jH} {h : mH} (hr : rD j h) {x : Nat} {e : mE} (hx : gj j.2 x = some e) (hc : clean e = true) : h[x]? = some e := by
  have h1 := hr.2 x
  rw [hx] at h1
  dsimp only at h1
  rw [if_pos hc] at h1
  exact h1
theorem rD_dirty {j : jH} {h : mH} (hr : rD j h) {x : Nat} {e : mE} (hx : gj j.2 x = some e) (hc : ¬ clean e = true) : ∃ t n z g, e = .inl (t + 2000, n, z) ∧ h[x]? = some (.inl (t, n, .inl g)) := by
  have h1 := hr.2 x
  rw [hx] at h1
  dsimp only at h1
  rw [if_neg hc] at h1
  exact h1
theorem gj_jset {x y : Nat} {e : mE} : ∀ {l : List (Nat × mE)}, gj (jset x e l) y = if x = y then some e else gj l y
  | [] => rfl
  | p :: r => by
    show gj (if p.1 = x then (x, e) :: r else (x, e) :: p :: r) y = _
    split
    next hp =>
      show (if x = y then some e else gj r y) = if x = y then some e else (if p.1 = y then some p.2 else gj r y)
      by_cases hxy : x = y
      · rw [if_pos hxy, if_pos hxy]
      · rw [if_neg hxy, if_neg hxy, if_neg (by rw [hp]; exact hxy)]
    next => rfl
theorem gCl_jset {n x : Nat} {e : mE} : ∀ {l : List (Nat × mE)}, gCl (n, jset x e l) = clean e
  | [] => rfl
  | p :: r => by
    show gCl (n, if p.1 = x then (x, e) :: r else (x, e) :: p :: r) = _
    split <;> rfl
theorem rD_set' {j : jH} {h : mH} {x : Nat} {e e' : mE} (hr : rD j h) (hx : x < h.length) (he : if clean e = true then e' = e else ∃ t n z g, e = .inl (t + 2000, n, z) ∧ e' = .inl (t, n, .inl g)) : rD (j.1, jset x e j.2) (h.set x e') := by
  refine ⟨by rw [List.length_set]; exact hr.1, fun y => ?_⟩
  dsimp only
  rw [gj_jset]
  by_cases hxy : x = y
  · subst hxy
    rw [if_pos rfl]
    dsimp only
    rw [List.getElem?_set_self hx]
    split
    next hc => rw [if_pos hc] at he; rw [he]
    next hc =>
      rw [if_neg hc] at he
      obtain ⟨t, n, z, g, h1, h2⟩ := he
      exact ⟨t, n, z, g, h1, by rw [h2]⟩
  · rw [if_neg hxy, List.getElem?_set_ne hxy]
    exact hr.2 y
theorem rD_set {j : jH} {h : mH} {x : Nat} {e : mE} (hr : rD j h) (hx : x < h.length) (he : clean e = true) : rD (j.1, jset x e j.2) (h.set x e) := rD_set' hr hx (by rw [if_pos he])
theorem rD_push {j : jH} {h : mH} {e : mE} (hr : rD j h) (he : clean e = true) : rD (j.1 + 1, (j.1, e) :: j.2) (h ++ [e]) := by
  refine ⟨by rw [List.length_append, ← hr.1]; rfl, fun y => ?_⟩
  have h2 := hr.2 y
  show (match (if j.1 = y then some e else gj j.2 y) with | none => (h ++ [e])[y]? = none | some e1 => if clean e1 = true then (h ++ [e])[y]? = some e1 else ∃ t n z g, e1 = .inl (t + 2000, n, z) ∧ (h ++ [e])[y]? = some (.inl (t, n, .inl g)))
  by_cases hy : j.1 = y
  · rw [if_pos hy, ← hy, hr.1, List.getElem?_concat_length]
    dsimp only
    rw [if_pos he]
  · rw [if_neg hy]
    have hl : (h ++ [e])[y]? = h[y]? := by
      by_cases hl : y < h.length
      · rw [List.getElem?_append_left hl]
      · rw [List.getElem?_eq_none (by rw [List.length_append]; show h.length + 1 ≤ y; have := hr.1; omega), List.getElem?_eq_none (by omega)]
    rw [hl]
    exact h2
theorem actW_lt {i : Instr} {lk : mK} {st : List Value} {h : mH} {q : List Value × Nat × mE} (hw : actW i lk st h = some q) : q.2.1 < h.length := by
  unfold actW at hw
  split at hw <;> (repeat' split at hw) <;> first | cases hw; done | (cases hw; exact (List.getElem?_eq_some_iff.mp (by assumption)).1)
end JRN
