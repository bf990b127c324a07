/-! Constants, loads, stores. -/
section SXC
def lkL : List (Nat × sV) → Nat → Option sV
  | [], _ => none
  | q :: r, k => if q.1 = k then some q.2 else lkL r k
theorem lkL_mem {k : Nat} {s : sV} : ∀ {L : List (Nat × sV)}, lkL L k = some s → (k, s) ∈ L
  | [], h => by cases h
  | q :: r, h => by
    unfold lkL at h
    split at h
    next hq => cases h; rw [← hq]; exact List.mem_cons_self
    next => exact List.mem_cons_of_mem _ (lkL_mem h)
variable {PR : Nat → Int → Int → mH → Prop} {G : Nat → Nat} {ρ : Va} {S : sS} {lv : mL} {st : List Value} {h : mH} {np d nL pc len : Nat} {i : Instr} {lk : mK} {df : List (List Value)}
theorem aL_get {L : List (Nat × sV)} {k : Nat} {s : sV} (ha : aL ρ L lv) (hl : lkL L k = some s) : ∃ v, gl lv k = some v ∧ dV ρ s v := ha _ (lkL_mem hl)
/-- one number pushed that is known -/
def psh (S : sS) (v : sV) : sS := sSt S (v :: S.2.2.1)
theorem psh_ok {v : sV} {w : Value} (ha : abs PR G ρ S lv st h) (hv : dV ρ v w) : Abs PR G np ρ (psh S v) lv (w :: st) h := Abs.of (abs_st ha ⟨hv, ha.2.1⟩)
def ldK (S : sS) (k : Nat) (t : Nat) (pc : Nat) : Option (Nat × sS) := match lkL S.2.1 k with
  | some s => if s.1 = t then some (pc, psh S s) else none
  | none => none
def ldA (S : sS) (k : Nat) (pc : Nat) : Option (Nat × sS) := match lkL S.2.1 k with
  | some s => if s.1 = 1 ∨ s.1 = 2 then some (pc, psh S s) else none
  | none => none
def sxC (i : Instr) (pc : Nat) (S : sS) : Option (Nat × sS) := match i with
  | .iconst n => if -128 ≤ n ∧ n ≤ 127 then some (pc + 1, psh S (0, cE n)) else none
  | .bipush n => if -128 ≤ n ∧ n ≤ 127 then some (pc + 2, psh S (0, cE n)) else none
  | .sipush n => if -32768 ≤ n ∧ n ≤ 32767 then some (pc + 3, psh S (0, cE n)) else none
  | .lconst n => some (pc + 1, psh S (7, cE ((n : Nat) : Int)))
  | .fconst 0 => some (pc + 1, psh S (4, cE 0))
  | .fconst 1 => some (pc + 1, psh S (4, cE 0))
  | .fconst 2 => some (pc + 1, psh S (4, cE 0))
  | .aconst_null => some (pc + 1, psh S (2, cE 0))
  | .iload_n k => ldK S k.val 0 (pc + 1)
  | .iload k => ldK S k 0 (pc + 2)
  | .lload_n k => ldK S k.val 3 (pc + 1)
  | .lload k => ldK S k 3 (pc + 2)
  | .fload_n k => ldK S k.val 4 (pc + 1)
  | .fload k => ldK S k 4 (pc + 2)
  | .dload_n k => ldK S k.val 5 (pc + 1)
  | .dload k => ldK S k 5 (pc + 2)
  | .aload_n k => ldA S k.val (pc + 1)
  | .aload k => ldA S k (pc + 2)
  | _ => none
theorem ldK_spec {k t pc2 : Nat} {q0 : Nat × sS} (hl : ldK S k t pc2 = some q0) (ha : abs PR G ρ S lv st h) : ∃ s w, q0 = (pc2, psh S s) ∧ s.1 = t ∧ gl lv k = some w ∧ dV ρ s w := by
  unfold ldK at hl
  split at hl
  next s hs =>
    split at hl
    next ht =>
      cases hl
      obtain ⟨v, h1, h2⟩ := aL_get ha.1 hs
      exact ⟨s, v, rfl, ht, h1, h2⟩
    next => cases hl
  next => cases hl
theorem ldA_spec {k pc2 : Nat} {q0 : Nat × sS} (hl : ldA S k pc2 = some q0) (ha : abs PR G ρ S lv st h) : ∃ s w, q0 = (pc2, psh S s) ∧ (s.1 = 1 ∨ s.1 = 2) ∧ gl lv k = some w ∧ dV ρ s w := by
  unfold ldA at hl
  split at hl
  next s hs =>
    split at hl
    next ht =>
      cases hl
      obtain ⟨v, h1, h2⟩ := aL_get ha.1 hs
      exact ⟨s, v, rfl, ht, h1, h2⟩
    next => cases hl
  next => cases hl
theorem dV0 {s : sV} {w : Value} (ht : s.1 = 0) (hv : dV ρ s w) : ∃ x : Int32, w = .int x ∧ x.toInt = ev ρ s.2 := by unfold dV at hv; rw [ht] at hv; exact hv
theorem dV3 {s : sV} {w : Value} (ht : s.1 = 3) (hv : dV ρ s w) : ∃ x, w = .long x := by unfold dV at hv; rw [ht] at hv; exact hv
theorem dV7 {s : sV} {w : Value} (ht : s.1 = 7) (hv : dV ρ s w) : ∃ x : Int64, w = .long x ∧ x.toInt = ev ρ s.2 := by unfold dV at hv; rw [ht] at hv; exact hv
theorem dV4 {s : sV} {w : Value} (ht : s.1 = 4) (hv : dV ρ s w) : ∃ x, w = .float x := by unfold dV at hv; rw [ht] at hv; exact hv
theorem dV5 {s : sV} {w : Value} (ht : s.1 = 5) (hv : dV ρ s w) : ∃ x, w = .double x := by unfold dV at hv; rw [ht] at hv; exact hv
theorem dV1 {s : sV} {w : Value} (ht : s.1 = 1) (hv : dV ρ s w) : 0 ≤ ev ρ s.2 ∧ w = .ref (ev ρ s.2).toNat := by unfold dV at hv; rw [ht] at hv; exact hv
theorem dV2 {s : sV} {w : Value} (ht : s.1 = 2) (hv : dV ρ s w) : w = .null := by unfold dV at hv; rw [ht] at hv; exact hv
/-- a step that leaves the cells alone -/
def StpA (PR : Nat → Int → Int → mH → Prop) (G : Nat → Nat) (np : Nat) (ρ : Va) (df : List (List Value)) (nL pc : Nat) (i : Instr) (len : Nat) (lk : mK) (lv : mL) (st : List Value) (h : mH) (q : Nat × sS) : Prop :=
  ∃ lv2 st2, stp none df nL pc i len lk lv st h = some (q.1, lv2, st2, h, 0, 0) ∧ Abs PR G np ρ q.2 lv2 st2 h
theorem of_C {pc2 : Nat} {lv2 : mL} {st2 : List Value} (hC : actC i pc lv st = some (pc2, lv2, st2)) : stp none df nL pc i len lk lv st h = some (pc2, lv2, st2, h, 0, 0) := by
  unfold stp
  rw [hC]
set_option maxHeartbeats 4000000 in
theorem sxC_ok {q : Nat × sS} (hs : sxC i pc S = some q) (ha : abs PR G ρ S lv st h) : StpA PR G np ρ df nL pc i len lk lv st h q := by
  unfold sxC at hs
  split at hs
  next n =>
    split at hs
    next hn => cases hs; exact ⟨_, _, of_C rfl, psh_ok ha (dV_c (toI_ofI (by omega) (by omega)))⟩
    next => cases hs
  next n =>
    split at hs
    next hn => cases hs; exact ⟨_, _, of_C rfl, psh_ok ha (dV_c (toI_8 hn.1 hn.2))⟩
    next => cases hs
  next n =>
    split at hs
    next hn => cases hs; exact ⟨_, _, of_C rfl, psh_ok ha (dV_c (toI_16 hn.1 hn.2))⟩
    next => cases hs
  next n => cases hs; exact ⟨_, _, of_C rfl, psh_ok ha ⟨_, rfl, by rcases n with ⟨k, hk⟩; rcases (by omega : k = 0 ∨ k = 1) with rfl | rfl <;> rfl⟩⟩
  next => cases hs; exact ⟨_, _, of_C rfl, psh_ok ha ⟨_, rfl⟩⟩
  next => cases hs; exact ⟨_, _, of_C rfl, psh_ok ha ⟨_, rfl⟩⟩
  next => cases hs; exact ⟨_, _, of_C rfl, psh_ok ha ⟨_, rfl⟩⟩
  next => cases hs; exact ⟨_, _, of_C rfl, psh_ok ha rfl⟩
  next k =>
    obtain ⟨s, w, rfl, ht, hg, hv⟩ := ldK_spec hs ha
    obtain ⟨x, rfl, -⟩ := dV0 ht hv
    exact ⟨_, _, of_C (by simp only [actC, hg]), psh_ok ha hv⟩
  next k =>
    obtain ⟨s, w, rfl, ht, hg, hv⟩ := ldK_spec hs ha
    obtain ⟨x, rfl, -⟩ := dV0 ht hv
    exact ⟨_, _, of_C (by simp only [actC, hg]), psh_ok ha hv⟩
  next k =>
    obtain ⟨s, w, rfl, ht, hg, hv⟩ := ldK_spec hs ha
    obtain ⟨x, rfl⟩ := dV3 ht hv
    exact ⟨_, _, of_C (by simp only [actC, hg]), psh_ok ha hv⟩
  next k =>
    obtain ⟨s, w, rfl, ht, hg, hv⟩ := ldK_spec hs ha
    obtain ⟨x, rfl⟩ := dV3 ht hv
    exact ⟨_, _, of_C (by simp only [actC, hg]), psh_ok ha hv⟩
  next k =>
    obtain ⟨s, w, rfl, ht, hg, hv⟩ := ldK_spec hs ha
    obtain ⟨x, rfl⟩ := dV4 ht hv
    exact ⟨_, _, of_C (by simp only [actC, hg]), psh_ok ha hv⟩
  next k =>
    obtain ⟨s, w, rfl, ht, hg, hv⟩ := ldK_spec hs ha
    obtain ⟨x, rfl⟩ := dV4 ht hv
    exact ⟨_, _, of_C (by simp only [actC, hg]), psh_ok ha hv⟩
  next k =>
    obtain ⟨s, w, rfl, ht, hg, hv⟩ := ldK_spec hs ha
    obtain ⟨x, rfl⟩ := dV5 ht hv
    exact ⟨_, _, of_C (by simp only [actC, hg]), psh_ok ha hv⟩
  next k =>
    obtain ⟨s, w, rfl, ht, hg, hv⟩ := ldK_spec hs ha
    obtain ⟨x, rfl⟩ := dV5 ht hv
    exact ⟨_, _, of_C (by simp only [actC, hg]), psh_ok ha hv⟩
  next k =>
    obtain ⟨s, w, rfl, ht, hg, hv⟩ := ldA_spec hs ha
    rcases ht with ht | ht
    · obtain ⟨h0, rfl⟩ := dV1 ht hv
      exact ⟨_, _, of_C (by simp only [actC, hg]), psh_ok ha hv⟩
    · obtain rfl := dV2 ht hv
      exact ⟨_, _, of_C (by simp only [actC, hg]), psh_ok ha hv⟩
  next k =>
    obtain ⟨s, w, rfl, ht, hg, hv⟩ := ldA_spec hs ha
    rcases ht with ht | ht
    · obtain ⟨h0, rfl⟩ := dV1 ht hv
      exact ⟨_, _, of_C (by simp only [actC, hg]), psh_ok ha hv⟩
    · obtain rfl := dV2 ht hv
      exact ⟨_, _, of_C (by simp only [actC, hg]), psh_ok ha hv⟩
  next => cases hs
/-! stores -/
theorem gl_fl {f : Nat → Nat → Bool} {j : Nat} {w : Value} : ∀ {lv : mL}, gl lv j = some w → f j w.category = true → gl (lv.filter fun q => f q.1 q.2.category) j = some w
  | [], hg, _ => by cases hg
  | q :: r, hg, hf => by
    unfold gl at hg
    rw [List.filter_cons]
    split at hg
    next hq =>
      cases hg
      rw [if_pos (by rw [hq]; exact hf)]
      unfold gl
      rw [if_pos hq]
    next hq =>
      split
      next =>
        unfold gl
        rw [if_neg hq]
        exact gl_fl hg hf
      next => exact gl_fl hg hf
theorem gl_sto {i j : Nat} {v w : Value} (hj : j ≠ i) (hg : gl lv j = some w) (hc : j + 1 = i → w.category ≠ 2) : gl (sto lv i v) j = some w := by
  unfold sto gl
  rw [if_neg (fun e => hj e.symm)]
  refine gl_fl (f := fun a b => !(a == i) && !(a + 1 == i && b == 2)) hg ?_
  simp only [Bool.and_eq_true, Bool.not_eq_true', beq_eq_false_iff_ne, Bool.and_eq_false_iff]
  refine ⟨hj, ?_⟩
  by_cases h1 : j + 1 = i
  · exact Or.inr (hc h1)
  · exact Or.inl h1
theorem gl_sto2 {i j : Nat} {v w : Value} (hj : j ≠ i) (hj1 : j ≠ i + 1) (hg : gl lv j = some w) (hc : j + 1 = i → w.category ≠ 2) : gl (sto2 lv i v) j = some w := by
  unfold sto2 gl
  rw [if_neg (fun e => hj e.symm)]
  refine gl_fl (f := fun a b => !(a == i) && (!(a == i + 1) && !(a + 1 == i && b == 2))) hg ?_
  simp only [Bool.and_eq_true, Bool.not_eq_true', beq_eq_false_iff_ne, Bool.and_eq_false_iff]
  refine ⟨hj, hj1, ?_⟩
  by_cases h1 : j + 1 = i
  · exact Or.inr (hc h1)
  · exact Or.inl h1
/-- the locals left beside a store at i of so many words -/
def ovr (w i : Nat) (L : List (Nat × sV)) : List (Nat × sV) := L.filter fun q => !(Nat.beq q.1 i) && (!(w == 2 && Nat.beq q.1 (i + 1)) && !(Nat.beq (q.1 + 1) i && catS q.2 == 2))
theorem ovr_sto {v : Value} {i : Nat} {s : sV} {L : List (Nat × sV)} (ha : aL ρ L lv) (hv : dV ρ s v) : aL ρ ((i, s) :: ovr 1 i L) (sto lv i v) := by
  intro q hq
  rcases List.mem_cons.mp hq with rfl | hq
  · exact ⟨v, by unfold sto gl; rw [if_pos rfl], hv⟩
  · obtain ⟨hm, hf⟩ := List.mem_filter.mp hq
    obtain ⟨w, hg, hw⟩ := ha q hm
    simp only [Bool.and_eq_true, Bool.not_eq_true', Bool.and_eq_false_iff, beq_eq_false_iff_ne] at hf
    refine ⟨w, gl_sto (fun e => ?_) hg (fun e => ?_), hw⟩
    · rw [e, Nat.beq_refl] at hf; exact absurd hf.1 (by simp)
    · rw [dV_cat hw]
      rcases hf.2.2 with h1 | h1
      · rw [e, Nat.beq_refl] at h1; cases h1
      · exact h1
theorem ovr_sto2 {v : Value} {i : Nat} {s : sV} {L : List (Nat × sV)} (ha : aL ρ L lv) (hv : dV ρ s v) : aL ρ ((i, s) :: ovr 2 i L) (sto2 lv i v) := by
  intro q hq
  rcases List.mem_cons.mp hq with rfl | hq
  · exact ⟨v, by unfold sto2 gl; rw [if_pos rfl], hv⟩
  · obtain ⟨hm, hf⟩ := List.mem_filter.mp hq
    obtain ⟨w, hg, hw⟩ := ha q hm
    simp only [Bool.and_eq_true, Bool.not_eq_true', Bool.and_eq_false_iff, beq_eq_false_iff_ne] at hf
    refine ⟨w, gl_sto2 (fun e => ?_) (fun e => ?_) hg (fun e => ?_), hw⟩
    · rw [e, Nat.beq_refl] at hf; exact absurd hf.1 (by simp)
    · rcases hf.2.1 with h1 | h1
      · exact absurd h1 (by simp)
      · rw [e, Nat.beq_refl] at h1; cases h1
    · rw [dV_cat hw]
      rcases hf.2.2 with h1 | h1
      · rw [e, Nat.beq_refl] at h1; cases h1
      · exact h1
def stK (S : sS) (k pc : Nat) (s : sV) (r : List sV) : Nat × sS := (pc, sLo S ((k, s) :: ovr (catS s) k S.2.1) r)
/-- a number in a local that is not known any more -/
def stN (S : sS) (k pc : Nat) : Nat × sS := (pc, (S.1 + 1, (k, (0, vE S.1)) :: ovr 1 k S.2.1, S.2.2.1, i32 S.1 ++ S.2.2.2.1, S.2.2.2.2))
def sxS (np d nL : Nat) (i : Instr) (pc : Nat) (S : sS) : Option (Nat × sS) := match i, S.2.2.1 with
  | .istore_n k, (0, e) :: r => if k.val < nL then some (stK S k.val (pc + 1) (0, e) r) else none
  | .istore k, (0, e) :: r => if k < nL then some (stK S k (pc + 2) (0, e) r) else none
  | .fstore_n k, (4, e) :: r => if k.val < nL then some (stK S k.val (pc + 1) (4, e) r) else none
  | .fstore k, (4, e) :: r => if k < nL then some (stK S k (pc + 2) (4, e) r) else none
  | .lstore_n k, (3, e) :: r => if k.val + 1 < nL then some (stK S k.val (pc + 1) (3, e) r) else none
  | .lstore k, (3, e) :: r => if k + 1 < nL then some (stK S k (pc + 2) (3, e) r) else none
  | .dstore_n k, (5, e) :: r => if k.val + 1 < nL then some (stK S k.val (pc + 1) (5, e) r) else none
  | .dstore k, (5, e) :: r => if k + 1 < nL then some (stK S k (pc + 2) (5, e) r) else none
  | .astore_n k, (1, e) :: r => if k.val < nL then some (stK S k.val (pc + 1) (1, e) r) else none
  | .astore k, (1, e) :: r => if k < nL then some (stK S k (pc + 2) (1, e) r) else none
  | .astore_n k, (6, e) :: r => if k.val < nL then some (stK S k.val (pc + 1) (6, e) r) else none
  | .astore k, (6, e) :: r => if k < nL then some (stK S k (pc + 2) (6, e) r) else none
  | .iinc k z, r => if k < nL then (match lkL S.2.1 k with
    | some (0, e) => if -128 ≤ z ∧ z ≤ 127 ∧ inR d S.2.2.2.1 (addE e (cE z)) = true then some (stK S k (pc + 3) (0, addE e (cE z)) r) else if frs np S = true then some (stN S k (pc + 3)) else none
    | _ => none) else none
  | _, _ => none
theorem of_S {pc2 : Nat} {lv2 : mL} {st2 : List Value} (hi : (∀ lv st, actC i pc lv st = none) ∧ (∀ st, actA i pc st = none) ∧ (∀ st, actR i lk st h = none) ∧ ∀ st, actB i pc st = none) (hS : actS nL i pc lv st = some (pc2, lv2, st2)) : stp none df nL pc i len lk lv st h = some (pc2, lv2, st2, h, 0, 0) := by
  unfold stp
  rw [hi.1, hi.2.1, hi.2.2.1, hi.2.2.2, hS]
theorem aS_cons {s : sV} {r : List sV} (ha : aS ρ (s :: r) st) : ∃ v w, st = v :: w ∧ dV ρ s v ∧ aS ρ r w := by
  cases st with
  | nil => exact ha.elim
  | cons v w => exact ⟨v, w, rfl, ha.1, ha.2⟩
theorem abs_stK {k pc2 : Nat} {s : sV} {r : List sV} {v : Value} {w : List Value} (ha : abs PR G ρ S lv st h) (hv : dV ρ s v) (hr : aS ρ r w) (hc : catS s = 1) : Abs PR G np ρ (stK S k pc2 s r).2 (sto lv k v) w h := by
  refine Abs.of ⟨?_, hr, ha.2.2⟩
  show aL ρ ((k, s) :: ovr (catS s) k S.2.1) _
  rw [hc]
  exact ovr_sto ha.1 hv
theorem abs_stK2 {k pc2 : Nat} {s : sV} {r : List sV} {v : Value} {w : List Value} (ha : abs PR G ρ S lv st h) (hv : dV ρ s v) (hr : aS ρ r w) (hc : catS s = 2) : Abs PR G np ρ (stK S k pc2 s r).2 (sto2 lv k v) w h := by
  refine Abs.of ⟨?_, hr, ha.2.2⟩
  show aL ρ ((k, s) :: ovr (catS s) k S.2.1) _
  rw [hc]
  exact ovr_sto2 ha.1 hv
theorem toI_8i {x : Int32} {z : Int} (h1 : -128 ≤ z) (h2 : z ≤ 127) (h3 : -2147483648 ≤ x.toInt + z) (h4 : x.toInt + z ≤ 2147483647) : (x + Int32.ofInt z).toInt = x.toInt + z := by
  have e := toI_ofI (n := z) (by omega) (by omega)
  rw [toI_add (by rw [e]; exact h3) (by rw [e]; exact h4), e]
set_option maxHeartbeats 4000000 in
theorem sxS_ok {q : Nat × sS} (hs : sxS np d nL i pc S = some q) (ha : abs PR G ρ S lv st h) : StpA PR G np ρ df nL pc i len lk lv st h q := by
  unfold sxS at hs
  have ha2 := ha.2.1
  split at hs
  next k e r hst =>
    rw [hst] at ha2
    obtain ⟨v, w, rfl, hv, hr⟩ := aS_cons ha2
    obtain ⟨x, rfl, -⟩ := dV0 rfl hv
    split at hs
    next hk => cases hs; exact ⟨_, _, of_S ⟨fun _ _ => rfl, fun _ => rfl, fun _ => rfl, fun _ => rfl⟩ (by simp only [actS]; rw [if_pos hk]; rfl), abs_stK ha hv hr rfl⟩
    next => cases hs
  next k e r hst =>
    rw [hst] at ha2
    obtain ⟨v, w, rfl, hv, hr⟩ := aS_cons ha2
    obtain ⟨x, rfl, -⟩ := dV0 rfl hv
    split at hs
    next hk => cases hs; exact ⟨_, _, of_S ⟨fun _ _ => rfl, fun _ => rfl, fun _ => rfl, fun _ => rfl⟩ (by simp only [actS]; rw [if_pos hk]; rfl), abs_stK ha hv hr rfl⟩
    next => cases hs
  next k e r hst =>
    rw [hst] at ha2
    obtain ⟨v, w, rfl, hv, hr⟩ := aS_cons ha2
    obtain ⟨x, rfl⟩ := dV4 rfl hv
    split at hs
    next hk => cases hs; exact ⟨_, _, of_S ⟨fun _ _ => rfl, fun _ => rfl, fun _ => rfl, fun _ => rfl⟩ (by simp only [actS]; rw [if_pos hk]; rfl), abs_stK ha hv hr rfl⟩
    next => cases hs
  next k e r hst =>
    rw [hst] at ha2
    obtain ⟨v, w, rfl, hv, hr⟩ := aS_cons ha2
    obtain ⟨x, rfl⟩ := dV4 rfl hv
    split at hs
    next hk => cases hs; exact ⟨_, _, of_S ⟨fun _ _ => rfl, fun _ => rfl, fun _ => rfl, fun _ => rfl⟩ (by simp only [actS]; rw [if_pos hk]; rfl), abs_stK ha hv hr rfl⟩
    next => cases hs
  next k e r hst =>
    rw [hst] at ha2
    obtain ⟨v, w, rfl, hv, hr⟩ := aS_cons ha2
    obtain ⟨x, rfl⟩ := dV3 rfl hv
    split at hs
    next hk => cases hs; exact ⟨_, _, of_S ⟨fun _ _ => rfl, fun _ => rfl, fun _ => rfl, fun _ => rfl⟩ (by simp only [actS]; rw [if_pos hk]; rfl), abs_stK2 ha hv hr rfl⟩
    next => cases hs
  next k e r hst =>
    rw [hst] at ha2
    obtain ⟨v, w, rfl, hv, hr⟩ := aS_cons ha2
    obtain ⟨x, rfl⟩ := dV3 rfl hv
    split at hs
    next hk => cases hs; exact ⟨_, _, of_S ⟨fun _ _ => rfl, fun _ => rfl, fun _ => rfl, fun _ => rfl⟩ (by simp only [actS]; rw [if_pos hk]; rfl), abs_stK2 ha hv hr rfl⟩
    next => cases hs
  next k e r hst =>
    rw [hst] at ha2
    obtain ⟨v, w, rfl, hv, hr⟩ := aS_cons ha2
    obtain ⟨x, rfl⟩ := dV5 rfl hv
    split at hs
    next hk => cases hs; exact ⟨_, _, of_S ⟨fun _ _ => rfl, fun _ => rfl, fun _ => rfl, fun _ => rfl⟩ (by simp only [actS]; rw [if_pos hk]; rfl), abs_stK2 ha hv hr rfl⟩
    next => cases hs
  next k e r hst =>
    rw [hst] at ha2
    obtain ⟨v, w, rfl, hv, hr⟩ := aS_cons ha2
    obtain ⟨x, rfl⟩ := dV5 rfl hv
    split at hs
    next hk => cases hs; exact ⟨_, _, of_S ⟨fun _ _ => rfl, fun _ => rfl, fun _ => rfl, fun _ => rfl⟩ (by simp only [actS]; rw [if_pos hk]; rfl), abs_stK2 ha hv hr rfl⟩
    next => cases hs
  next k e r hst =>
    rw [hst] at ha2
    obtain ⟨v, w, rfl, hv, hr⟩ := aS_cons ha2
    obtain ⟨h0, rfl⟩ := dV1 rfl hv
    split at hs
    next hk => cases hs; exact ⟨_, _, of_S ⟨fun _ _ => rfl, fun _ => rfl, fun _ => rfl, fun _ => rfl⟩ (by simp only [actS]; rw [if_pos hk]; rfl), abs_stK ha hv hr rfl⟩
    next => cases hs
  next k e r hst =>
    rw [hst] at ha2
    obtain ⟨v, w, rfl, hv, hr⟩ := aS_cons ha2
    obtain ⟨h0, rfl⟩ := dV1 rfl hv
    split at hs
    next hk => cases hs; exact ⟨_, _, of_S ⟨fun _ _ => rfl, fun _ => rfl, fun _ => rfl, fun _ => rfl⟩ (by simp only [actS]; rw [if_pos hk]; rfl), abs_stK ha hv hr rfl⟩
    next => cases hs
  next k e r hst =>
    rw [hst] at ha2
    obtain ⟨v, w, rfl, hv, hr⟩ := aS_cons ha2
    obtain ⟨x, rfl⟩ := id (show ∃ k, v = .retAddr k from hv)
    split at hs
    next hk => cases hs; exact ⟨_, _, of_S ⟨fun _ _ => rfl, fun _ => rfl, fun _ => rfl, fun _ => rfl⟩ (by simp only [actS]; rw [if_pos hk]; rfl), abs_stK ha hv hr rfl⟩
    next => cases hs
  next k e r hst =>
    rw [hst] at ha2
    obtain ⟨v, w, rfl, hv, hr⟩ := aS_cons ha2
    obtain ⟨x, rfl⟩ := id (show ∃ k, v = .retAddr k from hv)
    split at hs
    next hk => cases hs; exact ⟨_, _, of_S ⟨fun _ _ => rfl, fun _ => rfl, fun _ => rfl, fun _ => rfl⟩ (by simp only [actS]; rw [if_pos hk]; rfl), abs_stK ha hv hr rfl⟩
    next => cases hs
  next k z =>
    split at hs
    next hk =>
      split at hs
      next e hl =>
        split at hs
        next hz =>
          cases hs
          obtain ⟨v, hg, hv⟩ := aL_get ha.1 hl
          obtain ⟨x, rfl, hx⟩ := dV0 rfl hv
          have hi := inR_ok ha.2.2.1 hz.2.2
          rw [ev_add, ev_c] at hi
          have hx : x.toInt = ev ρ e := hx
          refine ⟨_, _, of_S ⟨fun _ _ => rfl, fun _ => rfl, fun _ => rfl, fun _ => rfl⟩ (by simp only [actS, hg]; rw [if_pos hk]; rfl), abs_stK (s := (0, addE e (cE z))) ha ⟨_, rfl, ?_⟩ ha.2.1 rfl⟩
          show _ = ev ρ (addE e (cE z))
          rw [ev_add, ev_c, toI_8i hz.1 hz.2.1 (by omega) (by omega), hx]
        next =>
        split at hs
        next hf =>
          cases hs
          obtain ⟨v, hg, hv⟩ := aL_get ha.1 hl
          obtain ⟨x, rfl, -⟩ := dV0 rfl hv
          have h2 := abs_u (x := (x + Int32.ofInt z).toInt) (frs_ok hf).2 ha
          exact ⟨_, _, of_S ⟨fun _ _ => rfl, fun _ => rfl, fun _ => rfl, fun _ => rfl⟩ (by simp only [actS, hg]; rw [if_pos hk]; rfl), _, up_np hf, ovr_sto h2.1 dV_n, h2.2.1, aF_app (i32_ok (x := x + Int32.ofInt z) uV_n) h2.2.2.1, h2.2.2.2⟩
        next => cases hs
      next => cases hs
    next => cases hs
  next => cases hs
end SXC
