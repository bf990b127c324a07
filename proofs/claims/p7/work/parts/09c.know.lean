/-! What is known of the script's numbers, and what a step does with them. -/
section KNW
def kOK (f : Nat → Int32) (K : mKn) : Prop := ∀ q ∈ K, q.1 < 900 → if q.2.1 = true then q.2.2 ≤ (f q.1).toInt else (f q.1).toInt ≤ q.2.2
def ltT (K : mKn) (j : Nat) (c : Int) : Bool := K.any fun q => decide (q.1 = j) && (!q.2.1 && decide (q.2.2 < c))
def geT (K : mKn) (j : Nat) (c : Int) : Bool := K.any fun q => decide (q.1 = j) && (q.2.1 && decide (c ≤ q.2.2))
variable {f : Nat → Int32}
theorem ltT_ok {K : mKn} {j : Nat} {c : Int} (hj : j < 900) (hk : kOK f K) (h : ltT K j c = true) : (f j).toInt < c := by
  obtain ⟨q, hq, h2⟩ := List.any_eq_true.mp h
  simp only [Bool.and_eq_true, decide_eq_true_eq, Bool.not_eq_true'] at h2
  obtain ⟨e, e2, e3⟩ := h2
  have h3 := hk q hq (by omega)
  rw [if_neg (by rw [e2]; simp), e] at h3
  omega
theorem geT_ok {K : mKn} {j : Nat} {c : Int} (hj : j < 900) (hk : kOK f K) (h : geT K j c = true) : c ≤ (f j).toInt := by
  obtain ⟨q, hq, h2⟩ := List.any_eq_true.mp h
  simp only [Bool.and_eq_true, decide_eq_true_eq] at h2
  obtain ⟨e, e2, e3⟩ := h2
  have h3 := hk q hq (by omega)
  rw [if_pos e2, e] at h3
  omega
theorem kOK_lo {K : mKn} {j : Nat} {c : Int} (hk : kOK f K) (h : c ≤ (f j).toInt) : kOK f ((j, true, c) :: K) := by
  intro q hq hq9
  rcases List.mem_cons.mp hq with rfl | hq
  · rw [if_pos rfl]; exact h
  · exact hk q hq hq9
theorem kOK_hi {K : mKn} {j : Nat} {c : Int} (hk : kOK f K) (h : (f j).toInt ≤ c) : kOK f ((j, false, c) :: K) := by
  intro q hq hq9
  rcases List.mem_cons.mp hq with rfl | hq
  · rw [if_neg (by simp)]; exact h
  · exact hk q hq hq9
def altLt (K : mKn) (j : Nat) (c : Int) (T F : Nat) : List (Nat × mKn) := if ltT K j c = true then [(T, K)] else if geT K j c = true then [(F, K)] else [(T, (j, false, c - 1) :: K), (F, (j, true, c) :: K)]
def altEq (K : mKn) (j : Nat) (c : Int) (T F : Nat) : List (Nat × mKn) := if ltT K j c = true ∨ geT K j (c + 1) = true then [(F, K)] else [(F, (j, false, c - 1) :: K), (T, (j, true, c) :: (j, false, c) :: K), (F, (j, true, c + 1) :: K)]
theorem altLt_ok {K : mKn} {j : Nat} {c : Int} {T F : Nat} (hj : j < 900) (hk : kOK f K) : ∃ q ∈ altLt K j c T F, kOK f q.2 ∧ q.1 = if (f j).toInt < c then T else F := by
  unfold altLt
  split
  next h1 => exact ⟨_, List.mem_cons_self, hk, by rw [if_pos (ltT_ok hj hk h1)]⟩
  next =>
  split
  next h2 => exact ⟨_, List.mem_cons_self, hk, by have := geT_ok hj hk h2; rw [if_neg (by omega)]⟩
  next =>
  by_cases hc : (f j).toInt < c
  · exact ⟨_, List.mem_cons_self, kOK_hi hk (by omega), by rw [if_pos hc]⟩
  · exact ⟨_, List.mem_cons_of_mem _ List.mem_cons_self, kOK_lo hk (by omega), by rw [if_neg hc]⟩
theorem altEq_ok {K : mKn} {j : Nat} {c : Int} {T F : Nat} (hj : j < 900) (hk : kOK f K) : ∃ q ∈ altEq K j c T F, kOK f q.2 ∧ q.1 = if (f j).toInt = c then T else F := by
  unfold altEq
  split
  next h1 =>
    refine ⟨_, List.mem_cons_self, hk, ?_⟩
    rw [if_neg]
    rcases h1 with h1 | h1
    · have := ltT_ok hj hk h1; omega
    · have := geT_ok hj hk h1; omega
  next =>
  by_cases h1 : (f j).toInt < c
  · exact ⟨_, List.mem_cons_self, kOK_hi hk (by omega), by rw [if_neg (by omega)]⟩
  by_cases h2 : (f j).toInt = c
  · exact ⟨_, List.mem_cons_of_mem _ List.mem_cons_self, kOK_lo (kOK_hi hk (by omega)) (by omega), by rw [if_pos h2]⟩
  · exact ⟨_, List.mem_cons_of_mem _ (List.mem_cons_of_mem _ List.mem_cons_self), kOK_lo hk (by omega), by rw [if_neg h2]⟩
/-- a number of the script that what is known leaves one value, or two -/
def pinT (K : mKn) (j : Nat) : Option (List (Value × mKn)) := K.findSome? fun q => if q.1 = j ∧ q.2.1 = true then (if ltT K j (q.2.2 + 1) = true then some [(.int (Int32.ofInt q.2.2), K)] else if ltT K j (q.2.2 + 2) = true then some [(.int (Int32.ofInt q.2.2), (j, false, q.2.2) :: K), (.int (Int32.ofInt (q.2.2 + 1)), (j, true, q.2.2 + 1) :: K)] else none) else none
theorem ofI {x : Int32} {c : Int} (h : x.toInt = c) : Int32.ofInt c = x := by rw [← h]; exact Int32.ofInt_toInt x
theorem pinT_ok {K : mKn} {j : Nat} {l : List (Value × mKn)} (hj9 : j < 900) (hk : kOK f K) (h : pinT K j = some l) : ∃ q ∈ l, kOK f q.2 ∧ q.1 = .int (f j) := by
  obtain ⟨q, hq, h2⟩ := List.exists_of_findSome?_eq_some h
  split at h2
  next hj =>
    have h3 := hk q hq (by rw [hj.1]; exact hj9)
    rw [if_pos hj.2, hj.1] at h3
    split at h2
    next h4 =>
      cases h2
      have := ltT_ok hj9 hk h4
      exact ⟨_, List.mem_cons_self, hk, by rw [ofI (x := f j) (by omega)]⟩
    next =>
    split at h2
    next h4 =>
      cases h2
      have := ltT_ok hj9 hk h4
      by_cases h5 : (f j).toInt = q.2.2
      · exact ⟨_, List.mem_cons_self, kOK_hi hk (by omega), by rw [ofI (x := f j) (by omega)]⟩
      · exact ⟨_, List.mem_cons_of_mem _ List.mem_cons_self, kOK_lo hk (by omega), by rw [ofI (x := f j) (by omega)]⟩
    next => cases h2
  next => cases h2
def ldT (K : mKn) (v : Option Value) : Option (List (Value × mKn)) := match v with
  | some (.retAddr t) => if 1000 ≤ t ∧ t < 1900 then some (match pinT K (t - 1000) with | some l => l | none => [(.retAddr t, K)]) else if t = 1900 then some [(.retAddr t, K)] else none
  | _ => none
abbrev mAl : Type := List (Nat × mL × List Value × mKn)
def brT (t : Nat) (off : Int) (pc : Nat) (lv : mL) (r : List Value) (al : Nat → Nat → List (Nat × mKn)) : Option mAl := if 1000 ≤ t ∧ t < 1900 then (tgt pc off).map fun T => (al T (pc + 3)).map fun q => (q.1, lv, r, q.2) else none
def tkR (asc : mAs) (g : Nat → Option mE) (i : Instr) (pc : Nat) (lv : mL) (st : List Value) (K : mKn) : Option mAl := match i, st with
  | .iload_n k, r => (ldT K (gl lv k.val)).map fun l => l.map fun q => (pc + 1, lv, q.1 :: r, q.2)
  | .iload k, r => (ldT K (gl lv k)).map fun l => l.map fun q => (pc + 2, lv, q.1 :: r, q.2)
  | .iaload, .int j :: .ref x :: r => match asc, g x with
    | some (x0, n, sv, _), some (.inl (999, _)) => if x = x0 ∧ ¬ (j < 0 ∨ n ≤ j.toNatClampNeg) then some [(pc + 1, lv, sv j.toNatClampNeg :: r, K)] else none
    | _, _ => none
  | .arraylength, .ref x :: r => match asc, g x with
    | some (x0, n, _, _), some (.inl (999, _)) => if x = x0 then some [(pc + 1, lv, .int (Int32.ofNat n) :: r, K)] else none
    | _, _ => none
  | .iand, .int y :: .retAddr t :: r => match asc with
    | some (_, n, _, k) => if y = 63 ∧ t = 1000 ∧ 6 ≤ n then some [(pc + 1, lv, .int k :: r, K)] else none
    | none => none
  | .ifCond .lt off, .retAddr t :: r => brT t off pc lv r fun T F => altLt K (t - 1000) 0 T F
  | .ifCond .ge off, .retAddr t :: r => brT t off pc lv r fun T F => altLt K (t - 1000) 0 F T
  | .ifCond .gt off, .retAddr t :: r => brT t off pc lv r fun T F => altLt K (t - 1000) 1 F T
  | .ifCond .le off, .retAddr t :: r => brT t off pc lv r fun T F => altLt K (t - 1000) 1 T F
  | .ifCond .eq off, .retAddr t :: r => brT t off pc lv r fun T F => altEq K (t - 1000) 0 T F
  | .ifCond .ne off, .retAddr t :: r => brT t off pc lv r fun T F => altEq K (t - 1000) 0 F T
  | .if_icmp .lt off, .int y :: .retAddr t :: r => brT t off pc lv r fun T F => altLt K (t - 1000) y.toInt T F
  | .if_icmp .ge off, .int y :: .retAddr t :: r => brT t off pc lv r fun T F => altLt K (t - 1000) y.toInt F T
  | .if_icmp .gt off, .int y :: .retAddr t :: r => brT t off pc lv r fun T F => altLt K (t - 1000) (y.toInt + 1) F T
  | .if_icmp .le off, .int y :: .retAddr t :: r => brT t off pc lv r fun T F => altLt K (t - 1000) (y.toInt + 1) T F
  | .if_icmp .eq off, .int y :: .retAddr t :: r => brT t off pc lv r fun T F => altEq K (t - 1000) y.toInt T F
  | .if_icmp .ne off, .int y :: .retAddr t :: r => brT t off pc lv r fun T F => altEq K (t - 1000) y.toInt F T
  | .if_icmp .lt off, .retAddr t :: .int x :: r => brT t off pc lv r fun T F => altLt K (t - 1000) (x.toInt + 1) F T
  | .if_icmp .ge off, .retAddr t :: .int x :: r => brT t off pc lv r fun T F => altLt K (t - 1000) (x.toInt + 1) T F
  | .if_icmp .gt off, .retAddr t :: .int x :: r => brT t off pc lv r fun T F => altLt K (t - 1000) x.toInt T F
  | .if_icmp .le off, .retAddr t :: .int x :: r => brT t off pc lv r fun T F => altLt K (t - 1000) x.toInt F T
  | .if_icmp .eq off, .retAddr t :: .int x :: r => brT t off pc lv r fun T F => altEq K (t - 1000) x.toInt T F
  | .if_icmp .ne off, .retAddr t :: .int x :: r => brT t off pc lv r fun T F => altEq K (t - 1000) x.toInt F T
  | _, _ => none
/-- the number 900: reckoned out of others, nothing is known of it -/
def nS (v : Value) : Bool := match v with
  | .retAddr t => decide (t ≠ 1900)
  | _ => true
def tkA (i : Instr) (pc : Nat) (lv : mL) (st : List Value) : Option (Nat × List Value) := match i, st with
  | .ishr, .int _ :: .retAddr t :: r => if 1000 ≤ t ∧ r.all nS = true ∧ lv.all (fun q => nS q.2) = true then some (pc + 1, .retAddr 1900 :: r) else none
  | .iand, .int _ :: .retAddr t :: r => if 1000 ≤ t ∧ r.all nS = true ∧ lv.all (fun q => nS q.2) = true then some (pc + 1, .retAddr 1900 :: r) else none
  | .i2b, .retAddr t :: r => if 1000 ≤ t ∧ r.all nS = true ∧ lv.all (fun q => nS q.2) = true then some (pc + 1, .retAddr 1900 :: r) else none
  | _, _ => none
def tkW (i : Instr) (pc : Nat) (st : List Value) (j : jH) : Option (Nat × List Value × jH) := match i, st with
  | .bastore, .retAddr t :: .int k :: .ref x :: r => match gj j.2 x with
    | some (.inl (tg, n, .inl _)) => if 1000 ≤ t ∧ ¬ (k < 0 ∨ n ≤ k.toNatClampNeg) then (if tg = 1 ∨ tg = 2001 then some (pc + 1, r, (j.1, jset x (.inl (2001, n, .inl fun _ => 0)) j.2)) else if tg = 2 ∨ tg = 2002 then some (pc + 1, r, (j.1, jset x (.inl (2002, n, .inl fun _ => 0)) j.2)) else none) else none
    | _ => none
  | .iastore, .retAddr t :: .int k :: .ref x :: r => match gj j.2 x with
    | some (.inl (tg, n, .inl _)) => if 1000 ≤ t ∧ ¬ (k < 0 ∨ n ≤ k.toNatClampNeg) ∧ (tg = 0 ∨ tg = 2000) then some (pc + 1, r, (j.1, jset x (.inl (2000, n, .inl fun _ => 0)) j.2)) else none
    | _ => none
  | _, _ => none
/-- a script that isn't known, and one -/
def scR (f : Nat → Int32) (asc : mAs) (sc : mSc) : Prop := match asc, sc with
  | none, none => True
  | some (x0, n, sv, k), some (y0, n1, g) => x0 = y0 ∧ n = n1 ∧ (∀ j, j < n → sg f (sv j) = .int (g j) ∧ nS (sv j) = true) ∧ (6 ≤ n → f 0 &&& 63 = k)
  | _, _ => False
end KNW
