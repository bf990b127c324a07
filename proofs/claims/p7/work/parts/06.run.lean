section MR
abbrev mPost : Type := Option Nat → Option Value → mH → Prop
/-- a method: its name, code, locals, answer, handlers; arguments (without the receiver), its class's number, room of a return, room of a throw; its rows; the exceptions that its handlers take -/
abbrev mM : Type := MethodName × ByteArray × Nat × Option FieldType × List (Nat × Nat × Nat × Nat) × (Nat × Nat × Nat × Nat × Nat × Nat) × List mR × List Nat
def dy (D : mM) : MethodName := D.1
def dcc (D : mM) : ByteArray := D.2.1
def dml (D : mM) : Nat := D.2.2.1
def drt (D : mM) : Option FieldType := D.2.2.2.1
def dhh (D : mM) : List (Nat × Nat × Nat × Nat) := D.2.2.2.2.1
def dna (D : mM) : Nat := D.2.2.2.2.2.1.1
def dci (D : mM) : Nat := D.2.2.2.2.2.1.2.1
def dkr (D : mM) : Nat := D.2.2.2.2.2.1.2.2.1
def dnr (D : mM) : Nat := D.2.2.2.2.2.1.2.2.2.1
def dkx (D : mM) : Nat := D.2.2.2.2.2.1.2.2.2.2.1
def dnx (D : mM) : Nat := D.2.2.2.2.2.1.2.2.2.2.2
def drw (D : mM) : List mR := D.2.2.2.2.2.2.1
def dhx (D : mM) : List Nat := D.2.2.2.2.2.2.2
def dR (d : Nat) (D : mM) : Room := { frames := d, cells := max (dkr D) (dkx D), slots := max (dnr D) (dnx D), locals := 42 * d }
def eNm : Nat → String
  | 0 => "java/lang/IllegalStateException"
  | 1 => "java/lang/IndexOutOfBoundsException"
  | _ => "java/lang/IllegalArgumentException"
def eSup : List String := ["java/lang/RuntimeException", "java/lang/Exception"]
def rowAt : List mR → Nat → Option (Instr × Nat × mK)
  | [], _ => none
  | r :: rs, pc => if r.1 = pc then some r.2 else rowAt rs pc
theorem rowAt_mem {pc : Nat} {q : Instr × Nat × mK} : ∀ {rs : List mR}, rowAt rs pc = some q → (pc, q) ∈ rs
  | [], h => by cases h
  | r :: rs, h => by
    unfold rowAt at h
    split at h
    next e0 => cases h; rw [← e0]; exact List.mem_cons_self
    next => exact List.mem_cons_of_mem _ (rowAt_mem h)
/-- constants of the pool, and what the library's own small methods answer -/
def actK (i : Instr) (lk : mK) (st : List Value) : Option (List Value) := match i, st with
  | .ldc _, r => if lk.1 = 0 then some (.int (Int32.ofInt lk.2.2.2) :: r) else if lk.1 = 1 then some (.float (UInt32.ofNat lk.2.1) :: r) else if lk.1 = 2 then some (.ref lk.2.1 :: r) else none
  | .getstatic _, r => if lk.1 = 3 then some (.int 1 :: r) else if lk.1 = 4 then some (.ref lk.2.1 :: r) else if lk.1 = 5 then some (.retAddr 0 :: r) else none
  | .ldc_w _, r => if lk.1 = 0 then some (.int (Int32.ofInt lk.2.2.2) :: r) else if lk.1 = 2 then some (.ref lk.2.1 :: r) else none
  | .invokespecial _, .ref _ :: r => if lk.1 = 9 ∧ (r.map fun v => v.category).sum ≤ 8 then some r else none
  | .invokestatic _, .int y :: .int x :: r => if (r.map fun v => v.category).sum ≤ 8 then (if lk.1 = 10 then some (.int (if y < x then y else x) :: r) else if lk.1 = 11 then some (.int (if x < y then y else x) :: r) else if lk.1 = 12 then some (.int (if 0 ≤ y then y else 0 - y) :: .int x :: r) else none) else none
  | .invokestatic _, .int y :: r => if (r.map fun v => v.category).sum ≤ 8 ∧ lk.1 = 12 then some (.int (if 0 ≤ y then y else 0 - y) :: r) else none
  | _, _ => none
/-- reads of the law's own script, which is there but not in the world: its number, its length, what it holds -/
abbrev mSc : Type := Option (Nat × Nat × (Nat → Int32))
def actX (sc : mSc) (i : Instr) (st : List Value) : Option (List Value) := match sc, i, st with
  | some (x0, n, f), .iaload, .int j :: .ref x :: r => if x = x0 ∧ ¬ (j < 0 ∨ n ≤ j.toNatClampNeg) then some (.int (f j.toNatClampNeg) :: r) else none
  | some (x0, n, _), .arraylength, .ref x :: r => if x = x0 then some (.int (Int32.ofNat n) :: r) else none
  | _, _, _ => none
/-- a step that calls no method: where it goes on, the locals, the stack, the cells, how many cells and slots it makes -/
def stp (sc : mSc) (df : List (List Value)) (nL : Nat) (pc : Nat) (i : Instr) (len : Nat) (lk : mK) (lv : mL) (st : List Value) (h : mH) : Option (Nat × mL × List Value × mH × Nat × Nat) :=
  match actC i pc lv st with
  | some q => some (q.1, q.2.1, q.2.2, h, 0, 0)
  | none => match actA i pc st with
    | some q => some (q.1, lv, q.2, h, 0, 0)
    | none => match actR i lk st h with
      | some q => some (pc + lnI i len, lv, q, h, 0, 0)
      | none => match actB i pc st with
        | some q => some (q.1, lv, q.2, h, 0, 0)
        | none => match actS nL i pc lv st with
          | some q => some (q.1, q.2.1, q.2.2, h, 0, 0)
          | none => match actW i lk st h with
            | some q => some (pc + lnI i len, lv, q.1, h.set q.2.1 q.2.2, 0, 0)
            | none => match actK i lk st with
              | some q => some (pc + lnI i len, lv, q, h, 0, 0)
              | none => match actX sc i st with
               | some q => some (pc + lnI i len, lv, q, h, 0, 0)
               | none => if lk.1 = 20 then none else match actN df i lk st h with
                | some q => some (pc + lnI i len, lv, q.1, h ++ [q.2.1], 1, q.2.2)
                | none => none
def popN : Nat → List Value → Option (List Value × List Value)
  | 0, st => some ([], st)
  | n + 1, v :: st => match popN n st with
    | some (a, r) => some (a ++ [v], r)
    | none => none
  | _ + 1, [] => none
/-- float arithmetic: what it comes to, but for the bits of a NaN -/
def flo (i : Instr) (st : List Value) : Option ((UInt32 ⊕ UInt64) × List Value) := match i, st with
  | .fadd, .float y :: .float x :: r => some (.inl (FP.fadd x y), r)
  | .fsub, .float y :: .float x :: r => some (.inl (FP.fsub x y), r)
  | .fmul, .float y :: .float x :: r => some (.inl (FP.fmul x y), r)
  | .fdiv, .float y :: .float x :: r => some (.inl (FP.fdiv x y), r)
  | .f2d, .float x :: r => some (.inr (FP.f2d x), r)
  | _, _ => none
/-- the handler that takes an exception thrown at pc -/
def hdl : List (Nat × Nat × Nat × Nat) → List Nat → Nat → Nat → Option Nat
  | q :: hs, x :: xs, pc, E => if q.1 ≤ pc ∧ pc < q.2.1 ∧ x = E then some q.2.2.1 else hdl hs xs pc E
  | _, _, _, _ => none
/-- what an end instruction answers -/
def fin (rt : Option FieldType) (i : Instr) (st : List Value) : Option (Option Value) := match i, st, rt with
  | .return_, [], none => some none
  | .ireturn, [.int v], some ty => if narrow ty (.int v) = .int v ∧ ty.isReference = false then some (some (.int v)) else none
  | .lreturn, [.long v], some .long => some (some (.long v))
  | .freturn, [.float v], some .float => some (some (.float v))
  | .areturn, [.ref k], some (.object _) => some (some (.ref k))
  | .areturn, [.null], some (.object _) => some (some .null)
  | .areturn, [.ref k], some (.array _) => some (some (.ref k))
  | _, _, _ => none
/-- where a call goes: the method's number, its arguments with the receiver, the stack below -/
def cal (mt : Nat → Option mM) (i : Instr) (lk : mK) (st : List Value) (h : mH) : Option (mM × List Value × List Value) :=
  if lk.1 = 1 then match mt lk.2.1 with
    | none => none
    | some D => match popN (dna D) st with
      | none => none
      | some (as, r) => match i with
        | .invokestatic _ => if (r.map fun v => v.category).sum ≤ 8 then some (D, as, r) else none
        | .invokespecial _ => match r with
          | .ref x :: r => if lk.2.2.1 = 1 then (match h[x]? with
              | some (.inr (ci, _)) => if (r.map fun v => v.category).sum ≤ 8 ∧ ci = dci D then some (D, .ref x :: as, r) else none
              | _ => none)
            else if (r.map fun v => v.category).sum ≤ 8 then some (D, .ref x :: as, r) else none
          | _ => none
        | .invokevirtual _ => match r with
          | .ref x :: r => match h[x]? with
            | some (.inr (ci, _)) => if (r.map fun v => v.category).sum ≤ 8 ∧ ci = dci D then some (D, .ref x :: as, r) else none
            | some (.inl (t, _, .inr (.inr (.inr (.inr _))))) => if (r.map fun v => v.category).sum ≤ 8 ∧ t = 999 ∧ lk.2.2.1 = 7 then some (D, .ref x :: as, r) else none
            | _ => none
          | _ => none
        | _ => none
  else none
/-- the same method, with a room of its own -/
def sameM (D2 D3 : mM) : Prop := dy D3 = dy D2 ∧ dna D3 = dna D2 ∧ dci D3 = dci D2 ∧ drt D3 = drt D2 ∧ dhh D3 = dhh D2
abbrev mCall : Type := Nat → List Value → mH → mPost → Prop
def run (sc : mSc) (df : List (List Value)) (mt : Nat → Option mM) (call : mCall) (D : mM) (d : Nat) : Nat → Nat → mL → List Value → mH → Nat → Nat → mPost → Prop
  | 0, _, _, _, _, _, _, _ => False
  | n + 1, pc, lv, st, h, uc, us, Post => match rowAt (drw D) pc with
    | none => False
    | some (i, len, lk) => match stp sc df (dml D) pc i len lk lv st h with
      | some (pc2, lv2, st2, h2, kc, ks) => (kc = 0 ∨ (uc + kc ≤ dkr D ∧ us + ks ≤ dnr D)) ∧ run sc df mt call D d n pc2 lv2 st2 h2 (uc + kc) (us + ks) Post
      | none => match fin (drt D) i st with
        | some v => uc ≤ dkr D ∧ us ≤ dnr D ∧ Post none v h
        | none => match flo i st with
         | some (.inl x, r) => ∀ z : UInt32, alike32 z x = true → run sc df mt call D d n (pc + 1) lv (.float z :: r) h uc us Post
         | some (.inr x, r) => ∀ z : UInt64, alike64 z x = true → run sc df mt call D d n (pc + 1) lv (.double z :: r) h uc us Post
         | none => match cal mt i lk st h with
          | some (D0, as, r) => ∃ (y2 : Nat) (D2 : mM), mt y2 = some D2 ∧ sameM D0 D2 ∧ uc + max (dkr D2) (dkx D2) ≤ max (dkr D) (dkx D) ∧ us + max (dnr D2) (dnx D2) ≤ max (dnr D) (dnx D) ∧
            call y2 as h (fun ex v h2 => match ex with
              | none => run sc df mt call D d n (pc + 3) lv (v.toList ++ r) h2 (uc + dkr D2) (us + dnr D2) Post
              | some E => match hdl (dhh D) (dhx D) pc E with
                | some hp => run sc df mt call D d n hp lv [.retAddr 0] h2 (uc + dkx D2) (us + dnx D2) Post
                | none => uc + dkx D2 ≤ dkx D ∧ us + dnx D2 ≤ dnx D ∧ Post (some E) none h2)
          | none => lk.1 = 20 ∧ lk.2.1 ≤ 2 ∧ st = [] ∧ dhh D = [] ∧ 5 ≤ d ∧ uc + 1 ≤ dkx D ∧ us + 6 ≤ dnx D ∧ Post (some lk.2.1) none h
def wpM (df : List (List Value)) (mt : Nat → Option mM) : Nat → mCall
  | 0, _, _, _, _ => False
  | d + 1, y, as, h, Post => match mt y with
    | none => False
    | some D => (as.map fun v => v.category).sum ≤ dml D ∧ run none df mt (wpM df mt d) D d (2 ^ 40) 0 (lv_args 0 as) [] h 0 0 Post
end MR
