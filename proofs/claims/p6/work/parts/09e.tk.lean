/-! What tkR says of a number of the script holds of every script that fits. -/
section TKO
variable {f : Nat → Int32} {df : List (List Value)} {pc nL len : Nat} {i : Instr} {lk : mK} {lv : mL} {st : List Value} {h : mH} {sc : mSc} {K : mKn}
theorem z0 : (0 : Int32).toInt = 0 := by decide
theorem ifA {P Q : Prop} [Decidable P] [Decidable Q] {a b : Nat} (h : P ↔ Q) : (if P then a else b) = if Q then a else b := by
  by_cases hq : Q
  · rw [if_pos hq, if_pos (h.mpr hq)]
  · rw [if_neg hq, if_neg (fun p => hq (h.mp p))]
theorem ifS {P Q : Prop} [Decidable P] [Decidable Q] {a b : Nat} (h : Q ↔ ¬ P) : (if P then b else a) = if Q then a else b := by
  by_cases hp : P
  · rw [if_pos hp, if_neg (fun q => h.mp q hp)]
  · rw [if_neg hp, if_pos (h.mpr hp)]
theorem br_ok {P : Prop} [Decidable P] {t : Nat} {off : Int} {r : List Value} {A : Nat → Nat → List (Nat × mKn)} {al : mAl} (hal : brT t off pc lv r A = some al) (hA : t - 1000 < 900 → ∀ T, ∃ q ∈ A T (pc + 3), kOK f q.2 ∧ q.1 = if P then T else pc + 3)
    (hB : 1000 ≤ t → ∀ T, tgt pc off = some T → actB i pc (sgS f st) = some (if P then T else pc + 3, sgS f r)) (hi : (∀ lv st, actC i pc lv st = none) ∧ (∀ st, actA i pc st = none) ∧ ∀ st, actR i lk st h = none) :
    ∃ a ∈ al, kOK f a.2.2.2 ∧ stp sc df nL pc i len lk (sgL f lv) (sgS f st) h = some (a.1, sgL f a.2.1, sgS f a.2.2.1, h, 0, 0) := by
  unfold brT at hal
  split at hal
  next ht =>
    obtain ⟨T, hT, rfl⟩ := Option.map_eq_some_iff.mp hal
    obtain ⟨q, h1, h2, h3⟩ := hA (by omega) T
    refine ⟨(q.1, lv, r, q.2), List.mem_map.mpr ⟨q, h1, rfl⟩, h2, ?_⟩
    unfold stp
    rw [hi.1, hi.2.1, hi.2.2, hB ht.1 T hT]
    dsimp only
    rw [h3]
  next => cases hal
theorem ldT_ok {v : Option Value} {l : List (Value × mKn)} (hk : kOK f K) (hl : ldT K v = some l) : ∃ t q, v = some (.retAddr t) ∧ 1000 ≤ t ∧ q ∈ l ∧ kOK f q.2 ∧ sg f q.1 = .int (f (t - 1000)) := by
  unfold ldT at hl
  split at hl
  next t =>
    split at hl
    next ht =>
      cases hl
      cases hp : pinT K (t - 1000) with
      | some l =>
        obtain ⟨q, h1, h2, h3⟩ := pinT_ok (by omega) hk hp
        exact ⟨t, q, rfl, ht.1, h1, h2, by rw [h3]; rfl⟩
      | none => exact ⟨t, (.retAddr t, K), rfl, ht.1, List.mem_cons_self, hk, sg_t ht.1⟩
    next =>
    split at hl
    next ht => cases hl; exact ⟨t, (.retAddr t, K), rfl, by omega, List.mem_cons_self, hk, sg_t (by omega)⟩
    next => cases hl
  next => cases hl
theorem aR_no {x : Nat} {p : vp_A} {r : List Value} (hx : h[x]? = some (.inl (999, p))) : (∀ j, actR .iaload lk (.int j :: .ref x :: r) h = none) ∧ actR .arraylength lk (.ref x :: r) h = none := by
  obtain ⟨n, z⟩ := p
  constructor
  · intro j
    unfold actR
    dsimp only
    rw [hx]
    cases z with
    | inl g => dsimp only; rw [if_neg (by simp)]
    | inr z => rfl
  · unfold actR
    dsimp only
    rw [hx]
    dsimp only
    rw [if_neg (by simp)]
set_option maxHeartbeats 4000000 in
theorem tk_ok {asc : mAs} {g : Nat → Option mE} {al : mAl} (hs : scR f asc sc) (hk : kOK f K) (hg : ∀ x e, g x = some e → clean e = true → h[x]? = some e) (ht : tkR asc g i pc lv st K = some al) :
    ∃ a ∈ al, kOK f a.2.2.2 ∧ stp sc df nL pc i len lk (sgL f lv) (sgS f st) h = some (a.1, sgL f a.2.1, sgS f a.2.2.1, h, 0, 0) := by
  unfold tkR at ht
  split at ht
  next k =>
    obtain ⟨l, hl, rfl⟩ := Option.map_eq_some_iff.mp ht
    obtain ⟨t, q, e1, h0, hq, hk2, e2⟩ := ldT_ok hk hl
    refine ⟨(pc + 1, lv, q.1 :: st, q.2), List.mem_map.mpr ⟨q, hq, rfl⟩, hk2, ?_⟩
    have hC : actC (.iload_n k) pc (sgL f lv) (sgS f st) = some (pc + 1, sgL f lv, .int (f (t - 1000)) :: sgS f st) := by
      unfold actC
      dsimp only
      rw [gl_sg, e1]
      simp only [Option.map_some, sg_t h0]
    unfold stp
    rw [hC]
    show _ = some (pc + 1, sgL f lv, sg f q.1 :: sgS f st, h, 0, 0)
    rw [e2]
  next k =>
    obtain ⟨l, hl, rfl⟩ := Option.map_eq_some_iff.mp ht
    obtain ⟨t, q, e1, h0, hq, hk2, e2⟩ := ldT_ok hk hl
    refine ⟨(pc + 2, lv, q.1 :: st, q.2), List.mem_map.mpr ⟨q, hq, rfl⟩, hk2, ?_⟩
    have hC : actC (.iload k) pc (sgL f lv) (sgS f st) = some (pc + 2, sgL f lv, .int (f (t - 1000)) :: sgS f st) := by
      unfold actC
      dsimp only
      rw [gl_sg, e1]
      simp only [Option.map_some, sg_t h0]
    unfold stp
    rw [hC]
    show _ = some (pc + 2, sgL f lv, sg f q.1 :: sgS f st, h, 0, 0)
    rw [e2]
  next j x r =>
    split at ht
    next x0 n sv k0 p e =>
      split at ht
      next hc =>
        cases ht
        have e := hg _ _ e rfl
        cases sc with
        | none => exact hs.elim
        | some y =>
          obtain ⟨y0, n1, g1⟩ := y
          obtain ⟨rfl, rfl, h4, h5⟩ := hs
          refine ⟨_, List.mem_cons_self, hk, ?_⟩
          have hX : actX (some (x0, n, g1)) .iaload (.int j :: .ref x :: sgS f r) = some (.int (g1 j.toNatClampNeg) :: sgS f r) := by
            unfold actX
            dsimp only
            rw [if_pos hc]
          show stp _ df nL pc .iaload len lk (sgL f lv) (.int j :: .ref x :: sgS f r) h = some (pc + 1, sgL f lv, sg f (sv j.toNatClampNeg) :: sgS f r, h, 0, 0)
          rw [(h4 _ (by have := hc.2; omega)).1]
          unfold stp
          rw [(aR_no e).1 j, hX]
          rfl
      next => cases ht
    next => cases ht
  next x r =>
    split at ht
    next x0 n sv k0 p e =>
      split at ht
      next hc =>
        cases ht
        have e := hg _ _ e rfl
        cases sc with
        | none => exact hs.elim
        | some y =>
          obtain ⟨y0, n1, g1⟩ := y
          obtain ⟨rfl, rfl, h4, h5⟩ := hs
          refine ⟨_, List.mem_cons_self, hk, ?_⟩
          have hX : actX (some (x0, n, g1)) .arraylength (.ref x :: sgS f r) = some (.int (Int32.ofNat n) :: sgS f r) := by
            unfold actX
            dsimp only
            rw [if_pos hc]
          show stp _ df nL pc .arraylength len lk (sgL f lv) (.ref x :: sgS f r) h = some (pc + 1, sgL f lv, .int (Int32.ofNat n) :: sgS f r, h, 0, 0)
          unfold stp
          rw [(aR_no e).2, hX]
          rfl
      next => cases ht
    next => cases ht
  next y t r =>
    split at ht
    next x0 n sv k0 =>
      split at ht
      next hc =>
        cases ht
        cases sc with
        | none => exact hs.elim
        | some z =>
          obtain ⟨y0, n1, g1⟩ := z
          obtain ⟨rfl, rfl, h4, h5⟩ := hs
          obtain ⟨rfl, rfl, h6⟩ := hc
          refine ⟨_, List.mem_cons_self, hk, ?_⟩
          show stp _ df nL pc .iand len lk (sgL f lv) (.int 63 :: .int (f 0) :: sgS f r) h = some (pc + 1, sgL f lv, .int k0 :: sgS f r, h, 0, 0)
          rw [← h5 h6]
          rfl
      next => cases ht
    next => cases ht
  next off t r =>
    exact br_ok (P := f (t - 1000) < 0) ht (fun h9 T => by
      obtain ⟨q, h1, h2, h3⟩ := altLt_ok (f := f) (K := K) (j := t - 1000) (c := 0) (T := T) (F := pc + 3) h9 hk
      exact ⟨q, h1, h2, h3.trans (ifA (by (try simp only [Int32.lt_iff_toInt_lt, Int32.le_iff_toInt_le, ← Int32.toInt_inj, z0]) <;> omega))⟩) (fun h0 T hT => by
      show actB (.ifCond .lt off) pc (sg f (.retAddr t) :: sgS f r) = _
      rw [sg_t h0]
      show (tgt pc off).map _ = _
      rw [hT]
      rfl) ⟨fun lv st => rfl, fun st => rfl, fun st => rfl⟩
  next off t r =>
    exact br_ok (P := 0 ≤ f (t - 1000)) ht (fun h9 T => by
      obtain ⟨q, h1, h2, h3⟩ := altLt_ok (f := f) (K := K) (j := t - 1000) (c := 0) (T := pc + 3) (F := T) h9 hk
      exact ⟨q, h1, h2, h3.trans (ifS (by (try simp only [Int32.lt_iff_toInt_lt, Int32.le_iff_toInt_le, ← Int32.toInt_inj, z0]) <;> omega))⟩) (fun h0 T hT => by
      show actB (.ifCond .ge off) pc (sg f (.retAddr t) :: sgS f r) = _
      rw [sg_t h0]
      show (tgt pc off).map _ = _
      rw [hT]
      rfl) ⟨fun lv st => rfl, fun st => rfl, fun st => rfl⟩
  next off t r =>
    exact br_ok (P := 0 < f (t - 1000)) ht (fun h9 T => by
      obtain ⟨q, h1, h2, h3⟩ := altLt_ok (f := f) (K := K) (j := t - 1000) (c := 1) (T := pc + 3) (F := T) h9 hk
      exact ⟨q, h1, h2, h3.trans (ifS (by (try simp only [Int32.lt_iff_toInt_lt, Int32.le_iff_toInt_le, ← Int32.toInt_inj, z0]) <;> omega))⟩) (fun h0 T hT => by
      show actB (.ifCond .gt off) pc (sg f (.retAddr t) :: sgS f r) = _
      rw [sg_t h0]
      show (tgt pc off).map _ = _
      rw [hT]
      rfl) ⟨fun lv st => rfl, fun st => rfl, fun st => rfl⟩
  next off t r =>
    exact br_ok (P := f (t - 1000) ≤ 0) ht (fun h9 T => by
      obtain ⟨q, h1, h2, h3⟩ := altLt_ok (f := f) (K := K) (j := t - 1000) (c := 1) (T := T) (F := pc + 3) h9 hk
      exact ⟨q, h1, h2, h3.trans (ifA (by (try simp only [Int32.lt_iff_toInt_lt, Int32.le_iff_toInt_le, ← Int32.toInt_inj, z0]) <;> omega))⟩) (fun h0 T hT => by
      show actB (.ifCond .le off) pc (sg f (.retAddr t) :: sgS f r) = _
      rw [sg_t h0]
      show (tgt pc off).map _ = _
      rw [hT]
      rfl) ⟨fun lv st => rfl, fun st => rfl, fun st => rfl⟩
  next off t r =>
    exact br_ok (P := f (t - 1000) = 0) ht (fun h9 T => by
      obtain ⟨q, h1, h2, h3⟩ := altEq_ok (f := f) (K := K) (j := t - 1000) (c := 0) (T := T) (F := pc + 3) h9 hk
      exact ⟨q, h1, h2, h3.trans (ifA (by (try simp only [Int32.lt_iff_toInt_lt, Int32.le_iff_toInt_le, ← Int32.toInt_inj, z0]) <;> omega))⟩) (fun h0 T hT => by
      show actB (.ifCond .eq off) pc (sg f (.retAddr t) :: sgS f r) = _
      rw [sg_t h0]
      show (tgt pc off).map _ = _
      rw [hT]
      rfl) ⟨fun lv st => rfl, fun st => rfl, fun st => rfl⟩
  next off t r =>
    exact br_ok (P := ¬ f (t - 1000) = 0) ht (fun h9 T => by
      obtain ⟨q, h1, h2, h3⟩ := altEq_ok (f := f) (K := K) (j := t - 1000) (c := 0) (T := pc + 3) (F := T) h9 hk
      exact ⟨q, h1, h2, h3.trans (ifS (by (try simp only [Int32.lt_iff_toInt_lt, Int32.le_iff_toInt_le, ← Int32.toInt_inj, z0]) <;> omega))⟩) (fun h0 T hT => by
      show actB (.ifCond .ne off) pc (sg f (.retAddr t) :: sgS f r) = _
      rw [sg_t h0]
      show (tgt pc off).map _ = _
      rw [hT]
      rfl) ⟨fun lv st => rfl, fun st => rfl, fun st => rfl⟩
  next off y t r =>
    exact br_ok (P := f (t - 1000) < y) ht (fun h9 T => by
      obtain ⟨q, h1, h2, h3⟩ := altLt_ok (f := f) (K := K) (j := t - 1000) (c := y.toInt) (T := T) (F := pc + 3) h9 hk
      exact ⟨q, h1, h2, h3.trans (ifA (by (try simp only [Int32.lt_iff_toInt_lt, Int32.le_iff_toInt_le, ← Int32.toInt_inj, z0]) <;> omega))⟩) (fun h0 T hT => by
      show actB (.if_icmp .lt off) pc (.int y :: sg f (.retAddr t) :: sgS f r) = _
      rw [sg_t h0]
      show (tgt pc off).map _ = _
      rw [hT]
      rfl) ⟨fun lv st => rfl, fun st => rfl, fun st => rfl⟩
  next off y t r =>
    exact br_ok (P := y ≤ f (t - 1000)) ht (fun h9 T => by
      obtain ⟨q, h1, h2, h3⟩ := altLt_ok (f := f) (K := K) (j := t - 1000) (c := y.toInt) (T := pc + 3) (F := T) h9 hk
      exact ⟨q, h1, h2, h3.trans (ifS (by (try simp only [Int32.lt_iff_toInt_lt, Int32.le_iff_toInt_le, ← Int32.toInt_inj, z0]) <;> omega))⟩) (fun h0 T hT => by
      show actB (.if_icmp .ge off) pc (.int y :: sg f (.retAddr t) :: sgS f r) = _
      rw [sg_t h0]
      show (tgt pc off).map _ = _
      rw [hT]
      rfl) ⟨fun lv st => rfl, fun st => rfl, fun st => rfl⟩
  next off y t r =>
    exact br_ok (P := y < f (t - 1000)) ht (fun h9 T => by
      obtain ⟨q, h1, h2, h3⟩ := altLt_ok (f := f) (K := K) (j := t - 1000) (c := y.toInt + 1) (T := pc + 3) (F := T) h9 hk
      exact ⟨q, h1, h2, h3.trans (ifS (by (try simp only [Int32.lt_iff_toInt_lt, Int32.le_iff_toInt_le, ← Int32.toInt_inj, z0]) <;> omega))⟩) (fun h0 T hT => by
      show actB (.if_icmp .gt off) pc (.int y :: sg f (.retAddr t) :: sgS f r) = _
      rw [sg_t h0]
      show (tgt pc off).map _ = _
      rw [hT]
      rfl) ⟨fun lv st => rfl, fun st => rfl, fun st => rfl⟩
  next off y t r =>
    exact br_ok (P := f (t - 1000) ≤ y) ht (fun h9 T => by
      obtain ⟨q, h1, h2, h3⟩ := altLt_ok (f := f) (K := K) (j := t - 1000) (c := y.toInt + 1) (T := T) (F := pc + 3) h9 hk
      exact ⟨q, h1, h2, h3.trans (ifA (by (try simp only [Int32.lt_iff_toInt_lt, Int32.le_iff_toInt_le, ← Int32.toInt_inj, z0]) <;> omega))⟩) (fun h0 T hT => by
      show actB (.if_icmp .le off) pc (.int y :: sg f (.retAddr t) :: sgS f r) = _
      rw [sg_t h0]
      show (tgt pc off).map _ = _
      rw [hT]
      rfl) ⟨fun lv st => rfl, fun st => rfl, fun st => rfl⟩
  next off y t r =>
    exact br_ok (P := f (t - 1000) = y) ht (fun h9 T => by
      obtain ⟨q, h1, h2, h3⟩ := altEq_ok (f := f) (K := K) (j := t - 1000) (c := y.toInt) (T := T) (F := pc + 3) h9 hk
      exact ⟨q, h1, h2, h3.trans (ifA (by (try simp only [Int32.lt_iff_toInt_lt, Int32.le_iff_toInt_le, ← Int32.toInt_inj, z0]) <;> omega))⟩) (fun h0 T hT => by
      show actB (.if_icmp .eq off) pc (.int y :: sg f (.retAddr t) :: sgS f r) = _
      rw [sg_t h0]
      show (tgt pc off).map _ = _
      rw [hT]
      rfl) ⟨fun lv st => rfl, fun st => rfl, fun st => rfl⟩
  next off y t r =>
    exact br_ok (P := ¬ f (t - 1000) = y) ht (fun h9 T => by
      obtain ⟨q, h1, h2, h3⟩ := altEq_ok (f := f) (K := K) (j := t - 1000) (c := y.toInt) (T := pc + 3) (F := T) h9 hk
      exact ⟨q, h1, h2, h3.trans (ifS (by (try simp only [Int32.lt_iff_toInt_lt, Int32.le_iff_toInt_le, ← Int32.toInt_inj, z0]) <;> omega))⟩) (fun h0 T hT => by
      show actB (.if_icmp .ne off) pc (.int y :: sg f (.retAddr t) :: sgS f r) = _
      rw [sg_t h0]
      show (tgt pc off).map _ = _
      rw [hT]
      rfl) ⟨fun lv st => rfl, fun st => rfl, fun st => rfl⟩
  next off t x r =>
    exact br_ok (P := x < f (t - 1000)) ht (fun h9 T => by
      obtain ⟨q, h1, h2, h3⟩ := altLt_ok (f := f) (K := K) (j := t - 1000) (c := x.toInt + 1) (T := pc + 3) (F := T) h9 hk
      exact ⟨q, h1, h2, h3.trans (ifS (by (try simp only [Int32.lt_iff_toInt_lt, Int32.le_iff_toInt_le, ← Int32.toInt_inj, z0]) <;> omega))⟩) (fun h0 T hT => by
      show actB (.if_icmp .lt off) pc (sg f (.retAddr t) :: .int x :: sgS f r) = _
      rw [sg_t h0]
      show (tgt pc off).map _ = _
      rw [hT]
      rfl) ⟨fun lv st => rfl, fun st => rfl, fun st => rfl⟩
  next off t x r =>
    exact br_ok (P := f (t - 1000) ≤ x) ht (fun h9 T => by
      obtain ⟨q, h1, h2, h3⟩ := altLt_ok (f := f) (K := K) (j := t - 1000) (c := x.toInt + 1) (T := T) (F := pc + 3) h9 hk
      exact ⟨q, h1, h2, h3.trans (ifA (by (try simp only [Int32.lt_iff_toInt_lt, Int32.le_iff_toInt_le, ← Int32.toInt_inj, z0]) <;> omega))⟩) (fun h0 T hT => by
      show actB (.if_icmp .ge off) pc (sg f (.retAddr t) :: .int x :: sgS f r) = _
      rw [sg_t h0]
      show (tgt pc off).map _ = _
      rw [hT]
      rfl) ⟨fun lv st => rfl, fun st => rfl, fun st => rfl⟩
  next off t x r =>
    exact br_ok (P := f (t - 1000) < x) ht (fun h9 T => by
      obtain ⟨q, h1, h2, h3⟩ := altLt_ok (f := f) (K := K) (j := t - 1000) (c := x.toInt) (T := T) (F := pc + 3) h9 hk
      exact ⟨q, h1, h2, h3.trans (ifA (by (try simp only [Int32.lt_iff_toInt_lt, Int32.le_iff_toInt_le, ← Int32.toInt_inj, z0]) <;> omega))⟩) (fun h0 T hT => by
      show actB (.if_icmp .gt off) pc (sg f (.retAddr t) :: .int x :: sgS f r) = _
      rw [sg_t h0]
      show (tgt pc off).map _ = _
      rw [hT]
      rfl) ⟨fun lv st => rfl, fun st => rfl, fun st => rfl⟩
  next off t x r =>
    exact br_ok (P := x ≤ f (t - 1000)) ht (fun h9 T => by
      obtain ⟨q, h1, h2, h3⟩ := altLt_ok (f := f) (K := K) (j := t - 1000) (c := x.toInt) (T := pc + 3) (F := T) h9 hk
      exact ⟨q, h1, h2, h3.trans (ifS (by (try simp only [Int32.lt_iff_toInt_lt, Int32.le_iff_toInt_le, ← Int32.toInt_inj, z0]) <;> omega))⟩) (fun h0 T hT => by
      show actB (.if_icmp .le off) pc (sg f (.retAddr t) :: .int x :: sgS f r) = _
      rw [sg_t h0]
      show (tgt pc off).map _ = _
      rw [hT]
      rfl) ⟨fun lv st => rfl, fun st => rfl, fun st => rfl⟩
  next off t x r =>
    exact br_ok (P := x = f (t - 1000)) ht (fun h9 T => by
      obtain ⟨q, h1, h2, h3⟩ := altEq_ok (f := f) (K := K) (j := t - 1000) (c := x.toInt) (T := T) (F := pc + 3) h9 hk
      exact ⟨q, h1, h2, h3.trans (ifA (by (try simp only [Int32.lt_iff_toInt_lt, Int32.le_iff_toInt_le, ← Int32.toInt_inj, z0]) <;> omega))⟩) (fun h0 T hT => by
      show actB (.if_icmp .eq off) pc (sg f (.retAddr t) :: .int x :: sgS f r) = _
      rw [sg_t h0]
      show (tgt pc off).map _ = _
      rw [hT]
      rfl) ⟨fun lv st => rfl, fun st => rfl, fun st => rfl⟩
  next off t x r =>
    exact br_ok (P := ¬ x = f (t - 1000)) ht (fun h9 T => by
      obtain ⟨q, h1, h2, h3⟩ := altEq_ok (f := f) (K := K) (j := t - 1000) (c := x.toInt) (T := pc + 3) (F := T) h9 hk
      exact ⟨q, h1, h2, h3.trans (ifS (by (try simp only [Int32.lt_iff_toInt_lt, Int32.le_iff_toInt_le, ← Int32.toInt_inj, z0]) <;> omega))⟩) (fun h0 T hT => by
      show actB (.if_icmp .ne off) pc (sg f (.retAddr t) :: .int x :: sgS f r) = _
      rw [sg_t h0]
      show (tgt pc off).map _ = _
      rw [hT]
      rfl) ⟨fun lv st => rfl, fun st => rfl, fun st => rfl⟩
  next => cases ht
/-- f with another number at 900 -/
def fS (f : Nat → Int32) (z : Int32) : Nat → Int32 := fun j => if j = 900 then z else f j
theorem sg_fS {z : Int32} {v : Value} (hv : nS v = true) : sg (fS f z) v = sg f v := by
  cases v with
  | retAddr t =>
    simp only [nS, decide_eq_true_eq] at hv
    unfold sg
    dsimp only
    split
    · unfold fS
      rw [if_neg (by omega)]
    · rfl
  | _ => rfl
theorem sgS_fS {z : Int32} {r : List Value} (hr : r.all nS = true) : sgS (fS f z) r = sgS f r := List.map_congr_left fun v hv => sg_fS (List.all_eq_true.mp hr v hv)
theorem sgL_fS {z : Int32} {l : mL} (hl : l.all (fun q => nS q.2) = true) : sgL (fS f z) l = sgL f l := List.map_congr_left fun q hq => by rw [sg_fS (List.all_eq_true.mp hl q hq)]
theorem sg_1900 {z : Int32} : sg (fS f z) (.retAddr 1900) = .int z := by
  rw [sg_t (by omega)]
  rfl
theorem kOK_fS {z : Int32} : kOK (fS f z) K ↔ kOK f K := by
  unfold kOK
  constructor
  · intro h q hq h9
    have := h q hq h9
    rw [show fS f z q.1 = f q.1 from if_neg (by omega)] at this
    exact this
  · intro h q hq h9
    rw [show fS f z q.1 = f q.1 from if_neg (by omega)]
    exact h q hq h9
theorem scR_fS {asc : mAs} {z : Int32} (hs : scR f asc sc) : scR (fS f z) asc sc := by
  unfold scR at hs ⊢
  split
  · trivial
  next x0 n sv k y0 n1 g =>
    obtain ⟨h1, h2, h3, h4⟩ := hs
    exact ⟨h1, h2, fun j hj => ⟨by rw [sg_fS (h3 j hj).2]; exact (h3 j hj).1, (h3 j hj).2⟩, fun h6 => by
      have h7 := h4 h6
      unfold fS
      rw [if_neg (by omega)]
      exact h7⟩
  next h1 h2 =>
    split at hs
    · exact (h1 rfl rfl).elim
    · exact (h2 _ _ _ _ _ _ _ rfl rfl).elim
    · exact hs
theorem tkA_ok {q : Nat × List Value} (ht : tkA i pc lv st = some q) : ∃ z, stp sc df nL pc i len lk (sgL f lv) (sgS f st) h = some (q.1, sgL (fS f z) lv, sgS (fS f z) q.2, h, 0, 0) := by
  unfold tkA at ht
  split at ht
  next y t r =>
    split at ht
    next hc =>
      cases ht
      refine ⟨f (t - 1000) >>> (y &&& 31), ?_⟩
      rw [sgL_fS hc.2.2]
      show stp _ df nL pc .ishr len lk (sgL f lv) (.int y :: sg f (.retAddr t) :: sgS f r) h = some (pc + 1, sgL f lv, sg (fS f _) (.retAddr 1900) :: sgS (fS f _) r, h, 0, 0)
      rw [sgS_fS hc.2.1, sg_1900, sg_t hc.1]
      rfl
    next => cases ht
  next y t r =>
    split at ht
    next hc =>
      cases ht
      refine ⟨f (t - 1000) &&& y, ?_⟩
      rw [sgL_fS hc.2.2]
      show stp _ df nL pc .iand len lk (sgL f lv) (.int y :: sg f (.retAddr t) :: sgS f r) h = some (pc + 1, sgL f lv, sg (fS f _) (.retAddr 1900) :: sgS (fS f _) r, h, 0, 0)
      rw [sgS_fS hc.2.1, sg_1900, sg_t hc.1]
      rfl
    next => cases ht
  next t r =>
    split at ht
    next hc =>
      cases ht
      refine ⟨(f (t - 1000)).toInt8.toInt32, ?_⟩
      rw [sgL_fS hc.2.2]
      show stp _ df nL pc .i2b len lk (sgL f lv) (sg f (.retAddr t) :: sgS f r) h = some (pc + 1, sgL f lv, sg (fS f _) (.retAddr 1900) :: sgS (fS f _) r, h, 0, 0)
      rw [sgS_fS hc.2.1, sg_1900, sg_t hc.1]
      rfl
    next => cases ht
  next => cases ht
/-- an array of which kind and length are known, in both -/
theorem rD_arr {j : jH} {x tg n t : Nat} {g : Nat → Int32} (hr : rD j h) (hx : gj j.2 x = some (.inl (tg, n, .inl g))) (ht : tg = t ∨ tg = t + 2000) (h9 : t < 900) : ∃ g', h[x]? = some (.inl (t, n, .inl g')) := by
  rcases ht with rfl | rfl
  · exact ⟨g, rD_get hr hx (by simp only [clean, decide_eq_true_eq]; omega)⟩
  · obtain ⟨t', n', z', g', h1, h2⟩ := rD_dirty hr hx (by simp only [clean, decide_eq_true_eq]; omega)
    simp only [Sum.inl.injEq, Prod.mk.injEq] at h1
    obtain ⟨h3, rfl, h4⟩ := h1
    exact ⟨g', by rw [h2, show t' = t by omega]⟩
theorem rD_forget {j : jH} {x n t : Nat} {g g' : Nat → Int32} (hr : rD j h) (hx : h[x]? = some (.inl (t, n, .inl g'))) : rD (j.1, jset x (.inl (t + 2000, n, .inl fun _ => 0)) j.2) (h.set x (.inl (t, n, .inl g))) :=
  rD_set' hr (List.getElem?_eq_some_iff.mp hx).1 (by rw [if_neg (by simp only [clean, decide_eq_true_eq]; omega)]; exact ⟨t, n, _, g, rfl, rfl⟩)
theorem tkW_ok {j : jH} {q : Nat × List Value × jH} (hr : rD j h) (ht : tkW i pc st j = some q) : ∃ h2, stp sc df nL pc i len lk (sgL f lv) (sgS f st) h = some (q.1, sgL f lv, sgS f q.2.1, h2, 0, 0) ∧ rD q.2.2 h2 := by
  unfold tkW at ht
  split at ht
  next t k x r =>
    split at ht
    next tg n g hx =>
      split at ht
      next hc =>
        split at ht
        next ht1 =>
          cases ht
          obtain ⟨g', hg'⟩ := rD_arr (t := 1) hr hx (by omega) (by omega)
          have hW : actW .bastore lk (.int (f (t - 1000)) :: .int k :: .ref x :: sgS f r) h = some (sgS f r, x, .inl (1, n, .inl (upd g' k.toNatClampNeg (vp_nar .byte (f (t - 1000)))))) := by
            simp only [actW, hg']
            rw [if_pos ⟨trivial, hc.2⟩]
          show ∃ h2, stp _ df nL pc .bastore len lk (sgL f lv) (sg f (.retAddr t) :: .int k :: .ref x :: sgS f r) h = _ ∧ _
          rw [sg_t hc.1]
          unfold stp
          rw [hW]
          exact ⟨_, rfl, rD_forget hr hg'⟩
        next =>
        split at ht
        next ht1 =>
          cases ht
          obtain ⟨g', hg'⟩ := rD_arr (t := 2) hr hx (by omega) (by omega)
          have hW : actW .bastore lk (.int (f (t - 1000)) :: .int k :: .ref x :: sgS f r) h = some (sgS f r, x, .inl (2, n, .inl (upd g' k.toNatClampNeg (vp_nar .boolean (f (t - 1000)))))) := by
            simp only [actW, hg']
            rw [if_neg (by omega), if_pos ⟨trivial, hc.2⟩]
          show ∃ h2, stp _ df nL pc .bastore len lk (sgL f lv) (sg f (.retAddr t) :: .int k :: .ref x :: sgS f r) h = _ ∧ _
          rw [sg_t hc.1]
          unfold stp
          rw [hW]
          exact ⟨_, rfl, rD_forget hr hg'⟩
        next => cases ht
      next => cases ht
    next => cases ht
  next t k x r =>
    split at ht
    next tg n g hx =>
      split at ht
      next hc =>
        cases ht
        obtain ⟨g', hg'⟩ := rD_arr (t := 0) hr hx (by have := hc.2.2; omega) (by omega)
        have hW : actW .iastore lk (.int (f (t - 1000)) :: .int k :: .ref x :: sgS f r) h = some (sgS f r, x, .inl (0, n, .inl (upd g' k.toNatClampNeg (f (t - 1000))))) := by
          simp only [actW, hg']
          rw [if_pos ⟨trivial, hc.2.1⟩]
        show ∃ h2, stp _ df nL pc .iastore len lk (sgL f lv) (sg f (.retAddr t) :: .int k :: .ref x :: sgS f r) h = _ ∧ _
        rw [sg_t hc.1]
        unfold stp
        rw [hW]
        exact ⟨_, rfl, rD_forget hr hg'⟩
      next => cases ht
    next => cases ht
  next => cases ht
end TKO
