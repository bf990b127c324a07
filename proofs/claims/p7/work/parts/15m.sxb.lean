/-! Branches: every way that can't be ruled out. -/
section SXB
theorem ifA {P Q : Prop} [Decidable P] [Decidable Q] {a b : Nat} (h : P ↔ Q) : (if P then a else b) = if Q then a else b := by
  by_cases hq : Q
  · rw [if_pos hq, if_pos (h.mpr hq)]
  · rw [if_neg hq, if_neg (fun p => hq (h.mp p))]
theorem ifS {P Q : Prop} [Decidable P] [Decidable Q] {a b : Nat} (h : Q ↔ ¬ P) : (if P then b else a) = if Q then a else b := by
  by_cases hp : P
  · rw [if_pos hp, if_neg (fun q => h.mp q hp)]
  · rw [if_neg hp, if_pos (h.mpr hp)]
variable {PR : Nat → Int → Int → mH → Prop} {G : Nat → Nat} {ρ : Va} {S : sS} {lv : mL} {st : List Value} {h : mH} {np d nL pc len : Nat} {i : Instr} {lk : mK} {df : List (List Value)}
abbrev sAl : Type := List (List LE × Nat)
def ngE (f : LE) : LE := (-1 - f.1, mulT (-1) f.2)
theorem ev_ng {f : LE} : ev ρ (ngE f) = -1 - ev ρ f := by
  show -1 - f.1 + evT ρ (mulT (-1) f.2) = -1 - (f.1 + evT ρ f.2)
  rw [evT_mul]
  omega
/-- ways with what holds on each; those that contradict what is known are dropped -/
def brs (d : Nat) (S : sS) (r : List sV) (al : sAl) : List (Nat × sS) := (al.filter fun a => !(a.1.any fun f => ent S.2.2.2.1 d (ngE f))).map fun a => (a.2, sFa S a.1 r)
theorem brs_ok {r : List sV} {w : List Value} {al : sAl} {pc2 : Nat} (hex : ∃ a ∈ al, (∀ f ∈ a.1, 0 ≤ ev ρ f) ∧ a.2 = pc2) (ha : abs PR G ρ S lv st h) (hr : aS ρ r w) : ∃ q ∈ brs d S r al, q.1 = pc2 ∧ abs PR G ρ q.2 lv w h := by
  obtain ⟨a, h1, h2, h3⟩ := hex
  refine ⟨(a.2, sFa S a.1 r), List.mem_map.mpr ⟨a, List.mem_filter.mpr ⟨h1, ?_⟩, rfl⟩, h3, abs_fa ha h2 hr⟩
  cases hc : a.1.any fun f => ent S.2.2.2.1 d (ngE f) with
  | false => rfl
  | true =>
    obtain ⟨f, hf, hf2⟩ := List.any_eq_true.mp hc
    have h4 := ent_ok ha.2.2.1 _ _ hf2
    rw [ev_ng] at h4
    have h5 := h2 f hf
    omega
def mns (e : LE) : LE := mulE (-1) e
def dec1 (e : LE) : LE := (e.1 - 1, e.2)
theorem ev_mns {e : LE} : ev ρ (mns e) = -ev ρ e := by unfold mns; rw [ev_mul]; omega
theorem ev_dec {e : LE} : ev ρ (dec1 e) = ev ρ e - 1 := by show e.1 - 1 + evT ρ e.2 = e.1 + evT ρ e.2 - 1; omega
def alEq (e : LE) (T F : Nat) : sAl := [([e, mns e], T), ([dec1 e], F), ([dec1 (mns e)], F)]
def alLt (e : LE) (T F : Nat) : sAl := [([dec1 (mns e)], T), ([e], F)]
theorem alEq_ok {e : LE} {T F : Nat} : ∃ a ∈ alEq e T F, (∀ f ∈ a.1, 0 ≤ ev ρ f) ∧ a.2 = if ev ρ e = 0 then T else F := by
  by_cases h0 : ev ρ e = 0
  · refine ⟨_, List.mem_cons_self, fun f hf => ?_, by rw [if_pos h0]⟩
    simp only [List.mem_cons, List.not_mem_nil, or_false] at hf
    rcases hf with rfl | rfl
    · omega
    · rw [ev_mns]; omega
  · by_cases h1 : 0 < ev ρ e
    · refine ⟨_, List.mem_cons_of_mem _ List.mem_cons_self, fun f hf => ?_, by rw [if_neg h0]⟩
      obtain rfl := List.mem_singleton.mp hf
      rw [ev_dec]; omega
    · refine ⟨_, List.mem_cons_of_mem _ (List.mem_cons_of_mem _ List.mem_cons_self), fun f hf => ?_, by rw [if_neg h0]⟩
      obtain rfl := List.mem_singleton.mp hf
      rw [ev_dec, ev_mns]; omega
theorem alLt_ok {e : LE} {T F : Nat} : ∃ a ∈ alLt e T F, (∀ f ∈ a.1, 0 ≤ ev ρ f) ∧ a.2 = if ev ρ e < 0 then T else F := by
  by_cases h0 : ev ρ e < 0
  · refine ⟨_, List.mem_cons_self, fun f hf => ?_, by rw [if_pos h0]⟩
    obtain rfl := List.mem_singleton.mp hf
    rw [ev_dec, ev_mns]; omega
  · refine ⟨_, List.mem_cons_of_mem _ List.mem_cons_self, fun f hf => ?_, by rw [if_neg h0]⟩
    obtain rfl := List.mem_singleton.mp hf
    omega
/-- the offsets of a table, each with the number that takes it -/
def swA (pc : Nat) (e : LE) : Int → List Int → Option sAl
  | _, [] => some []
  | k, o :: os => match tgt pc o, swA pc e (k + 1) os with
    | some t, some l => some (([subE e (cE k), subE (cE k) e], t) :: l)
    | _, _ => none
theorem swA_ok {e : LE} {o : Int} : ∀ {os : List Int} {k : Int} {l : sAl} {j : Nat}, swA pc e k os = some l → os[j]? = some o → ev ρ e = k + j → ∃ t, tgt pc o = some t ∧ ∃ a ∈ l, (∀ f ∈ a.1, 0 ≤ ev ρ f) ∧ a.2 = t
  | [], k, l, j, _, hj, _ => by simp at hj
  | o' :: os, k, l, j, hs, hj, he => by
    unfold swA at hs
    split at hs
    next t' l' h1 h2 =>
      cases hs
      cases j with
      | zero =>
        cases hj
        refine ⟨t', h1, _, List.mem_cons_self, fun f hf => ?_, rfl⟩
        simp only [List.mem_cons, List.not_mem_nil, or_false] at hf
        rcases hf with rfl | rfl
        · rw [ev_sub, ev_c]; omega
        · rw [ev_sub, ev_c]; omega
      | succ j =>
        obtain ⟨t, g0, a, g1, g2⟩ := swA_ok (k := k + 1) (j := j) h2 hj (by rw [he]; omega)
        exact ⟨t, g0, a, List.mem_cons_of_mem _ g1, g2⟩
    next => cases hs
def lkA (pc : Nat) (e : LE) : List (Int × Int) → Option sAl
  | [] => some []
  | q :: r => match tgt pc q.2, lkA pc e r with
    | some t, some l => some (([subE e (cE q.1), subE (cE q.1) e], t) :: l)
    | _, _ => none
theorem lkA_ok {e : LE} {d0 x : Int} {T : Nat} (hT : tgt pc d0 = some T) (he : ev ρ e = x) : ∀ {ps : List (Int × Int)} {l : sAl}, lkA pc e ps = some l → ∃ t, tgt pc (Op.lookupswitch.offset ps d0 x) = some t ∧ ∃ a ∈ (([], T) :: l : sAl), (∀ f ∈ a.1, 0 ≤ ev ρ f) ∧ a.2 = t
  | [], l, _ => ⟨T, hT, _, List.mem_cons_self, fun f hf => absurd hf List.not_mem_nil, rfl⟩
  | (a, o) :: r, l, hs => by
    unfold lkA at hs
    split at hs
    next t' l' h1 h2 =>
      cases hs
      rw [Op.lookupswitch.offset_cons]
      by_cases hax : a = x
      · rw [if_pos hax]
        refine ⟨t', h1, _, List.mem_cons_of_mem _ List.mem_cons_self, fun f hf => ?_, rfl⟩
        simp only [List.mem_cons, List.not_mem_nil, or_false] at hf
        rcases hf with rfl | rfl
        · rw [ev_sub, ev_c]; omega
        · rw [ev_sub, ev_c]; omega
      · rw [if_neg hax]
        obtain ⟨t, g0, b, g1, g2⟩ := lkA_ok hT he h2
        refine ⟨t, g0, b, ?_, g2⟩
        rcases List.mem_cons.mp g1 with g1 | g1
        · rw [g1]; exact List.mem_cons_self
        · exact List.mem_cons_of_mem _ (List.mem_cons_of_mem _ g1)
    next => cases hs
def sxB (d : Nat) (i : Instr) (pc : Nat) (S : sS) : Option (List (Nat × sS)) := match i, S.2.2.1 with
  | .ifCond .eq off, (0, x) :: r => (tgt pc off).map fun T => brs d S r (alEq x T (pc + 3))
  | .ifCond .ne off, (0, x) :: r => (tgt pc off).map fun T => brs d S r (alEq x (pc + 3) T)
  | .ifCond .lt off, (0, x) :: r => (tgt pc off).map fun T => brs d S r (alLt x T (pc + 3))
  | .ifCond .ge off, (0, x) :: r => (tgt pc off).map fun T => brs d S r (alLt x (pc + 3) T)
  | .ifCond .gt off, (0, x) :: r => (tgt pc off).map fun T => brs d S r (alLt (mns x) T (pc + 3))
  | .ifCond .le off, (0, x) :: r => (tgt pc off).map fun T => brs d S r (alLt (mns x) (pc + 3) T)
  | .if_icmp .eq off, (0, y) :: (0, x) :: r => (tgt pc off).map fun T => brs d S r (alEq (subE x y) T (pc + 3))
  | .if_icmp .ne off, (0, y) :: (0, x) :: r => (tgt pc off).map fun T => brs d S r (alEq (subE x y) (pc + 3) T)
  | .if_icmp .lt off, (0, y) :: (0, x) :: r => (tgt pc off).map fun T => brs d S r (alLt (subE x y) T (pc + 3))
  | .if_icmp .ge off, (0, y) :: (0, x) :: r => (tgt pc off).map fun T => brs d S r (alLt (subE x y) (pc + 3) T)
  | .if_icmp .gt off, (0, y) :: (0, x) :: r => (tgt pc off).map fun T => brs d S r (alLt (subE y x) T (pc + 3))
  | .if_icmp .le off, (0, y) :: (0, x) :: r => (tgt pc off).map fun T => brs d S r (alLt (subE y x) (pc + 3) T)
  | .goto off, _ => (tgt pc off).map fun T => [(T, S)]
  | .ifnull off, (2, _) :: r => (tgt pc off).map fun T => [(T, sSt S r)]
  | .ifnull _, (1, _) :: r => some [(pc + 3, sSt S r)]
  | .ifnonnull _, (2, _) :: _ => none
  | .ifnonnull off, (1, _) :: r => (tgt pc off).map fun T => [(T, sSt S r)]
  | .tableswitch df0 lo hi offs, (0, x) :: r => if offs.size = (hi - lo + 1).toNat then (match tgt pc df0, swA pc x lo offs.toList with
    | some T, some l => some (brs d S r (([dec1 (subE (cE lo) x)], T) :: ([dec1 (subE x (cE hi))], T) :: l))
    | _, _ => none) else none
  | .lookupswitch df0 ps, (0, x) :: r => if (ps.toList.zip (ps.toList.drop 1)).all (fun (a, next) => a.1 < next.1) = true then (match tgt pc df0, lkA pc x ps.toList with
    | some T, some l => some (brs d S r (([], T) :: l))
    | _, _ => none) else none
  | _, _ => none
def BrA (PR : Nat → Int → Int → mH → Prop) (G : Nat → Nat) (ρ : Va) (df : List (List Value)) (nL pc : Nat) (i : Instr) (len : Nat) (lk : mK) (lv : mL) (st : List Value) (h : mH) (l : List (Nat × sS)) : Prop :=
  ∃ q ∈ l, ∃ st2, stp none df nL pc i len lk lv st h = some (q.1, lv, st2, h, 0, 0) ∧ abs PR G ρ q.2 lv st2 h
theorem of_B {pc2 : Nat} {st2 : List Value} (hi : (∀ lv st, actC i pc lv st = none) ∧ (∀ st, actA i pc st = none) ∧ ∀ st, actR i lk st h = none) (hB : actB i pc st = some (pc2, st2)) : stp none df nL pc i len lk lv st h = some (pc2, lv, st2, h, 0, 0) := by
  unfold stp
  rw [hi.1, hi.2.1, hi.2.2, hB]
theorem BrA_of {l : List (Nat × sS)} {pc2 : Nat} {w : List Value} (hi : (∀ lv st, actC i pc lv st = none) ∧ (∀ st, actA i pc st = none) ∧ ∀ st, actR i lk st h = none) (hB : actB i pc st = some (pc2, w)) (hq : ∃ q ∈ l, q.1 = pc2 ∧ abs PR G ρ q.2 lv w h) : BrA PR G ρ df nL pc i len lk lv st h l := by
  obtain ⟨q, h1, rfl, h3⟩ := hq
  exact ⟨q, h1, w, of_B hi hB, h3⟩
theorem i_of {a : LE} {r : List sV} (ha : aS ρ ((0, a) :: r) st) : ∃ (x : Int32) (w : List Value), st = .int x :: w ∧ x.toInt = ev ρ a ∧ aS ρ r w := by
  obtain ⟨v, w, rfl, h1, h2⟩ := aS_cons ha
  obtain ⟨x, rfl, hx⟩ := dV0 rfl h1
  exact ⟨x, w, rfl, hx, h2⟩
theorem z00 : (0 : Int32).toInt = 0 := by decide
set_option maxHeartbeats 8000000 in
theorem sxB_ok {l : List (Nat × sS)} (hs : sxB d i pc S = some l) (ha : abs PR G ρ S lv st h) : BrA PR G ρ df nL pc i len lk lv st h l := by
  have ha2 := ha.2.1
  have no1 : ∀ {c : ClassFile.Cond} {off : Int}, (∀ lv st, actC (.ifCond c off) pc lv st = none) ∧ (∀ st, actA (.ifCond c off) pc st = none) ∧ ∀ st, actR (.ifCond c off) lk st h = none := ⟨fun _ _ => rfl, fun _ => rfl, fun _ => rfl⟩
  have no2 : ∀ {c : ClassFile.Cond} {off : Int}, (∀ lv st, actC (.if_icmp c off) pc lv st = none) ∧ (∀ st, actA (.if_icmp c off) pc st = none) ∧ ∀ st, actR (.if_icmp c off) lk st h = none := ⟨fun _ _ => rfl, fun _ => rfl, fun _ => rfl⟩
  unfold sxB at hs
  split at hs
  next off x r hst =>
    rw [hst] at ha2
    obtain ⟨T, hT, rfl⟩ := Option.map_eq_some_iff.mp hs
    obtain ⟨v, w, rfl, hv, hr⟩ := i_of ha2
    refine BrA_of no1 (pc2 := if v = 0 then T else pc + 3) (w := w) (by show (tgt pc off).map _ = _; rw [hT]; rfl) (brs_ok ?_ ha hr)
    obtain ⟨a, h1, h2, h3⟩ := alEq_ok (ρ := ρ) (e := x) (T := T) (F := pc + 3)
    exact ⟨a, h1, h2, h3.trans (ifA (by simp only [← Int32.toInt_inj, z00]; omega))⟩
  next off x r hst =>
    rw [hst] at ha2
    obtain ⟨T, hT, rfl⟩ := Option.map_eq_some_iff.mp hs
    obtain ⟨v, w, rfl, hv, hr⟩ := i_of ha2
    refine BrA_of no1 (pc2 := if ¬ v = 0 then T else pc + 3) (w := w) (by show (tgt pc off).map _ = _; rw [hT]; rfl) (brs_ok ?_ ha hr)
    obtain ⟨a, h1, h2, h3⟩ := alEq_ok (ρ := ρ) (e := x) (T := pc + 3) (F := T)
    exact ⟨a, h1, h2, h3.trans (ifS (by simp only [← Int32.toInt_inj, z00]; omega))⟩
  next off x r hst =>
    rw [hst] at ha2
    obtain ⟨T, hT, rfl⟩ := Option.map_eq_some_iff.mp hs
    obtain ⟨v, w, rfl, hv, hr⟩ := i_of ha2
    refine BrA_of no1 (pc2 := if v < 0 then T else pc + 3) (w := w) (by show (tgt pc off).map _ = _; rw [hT]; rfl) (brs_ok ?_ ha hr)
    obtain ⟨a, h1, h2, h3⟩ := alLt_ok (ρ := ρ) (e := x) (T := T) (F := pc + 3)
    exact ⟨a, h1, h2, h3.trans (ifA (by simp only [Int32.lt_iff_toInt_lt, z00]; omega))⟩
  next off x r hst =>
    rw [hst] at ha2
    obtain ⟨T, hT, rfl⟩ := Option.map_eq_some_iff.mp hs
    obtain ⟨v, w, rfl, hv, hr⟩ := i_of ha2
    refine BrA_of no1 (pc2 := if 0 ≤ v then T else pc + 3) (w := w) (by show (tgt pc off).map _ = _; rw [hT]; rfl) (brs_ok ?_ ha hr)
    obtain ⟨a, h1, h2, h3⟩ := alLt_ok (ρ := ρ) (e := x) (T := pc + 3) (F := T)
    exact ⟨a, h1, h2, h3.trans (ifS (by simp only [Int32.le_iff_toInt_le, z00]; omega))⟩
  next off x r hst =>
    rw [hst] at ha2
    obtain ⟨T, hT, rfl⟩ := Option.map_eq_some_iff.mp hs
    obtain ⟨v, w, rfl, hv, hr⟩ := i_of ha2
    refine BrA_of no1 (pc2 := if 0 < v then T else pc + 3) (w := w) (by show (tgt pc off).map _ = _; rw [hT]; rfl) (brs_ok ?_ ha hr)
    obtain ⟨a, h1, h2, h3⟩ := alLt_ok (ρ := ρ) (e := mns x) (T := T) (F := pc + 3)
    exact ⟨a, h1, h2, h3.trans (ifA (by simp only [Int32.lt_iff_toInt_lt, z00, ev_mns]; omega))⟩
  next off x r hst =>
    rw [hst] at ha2
    obtain ⟨T, hT, rfl⟩ := Option.map_eq_some_iff.mp hs
    obtain ⟨v, w, rfl, hv, hr⟩ := i_of ha2
    refine BrA_of no1 (pc2 := if v ≤ 0 then T else pc + 3) (w := w) (by show (tgt pc off).map _ = _; rw [hT]; rfl) (brs_ok ?_ ha hr)
    obtain ⟨a, h1, h2, h3⟩ := alLt_ok (ρ := ρ) (e := mns x) (T := pc + 3) (F := T)
    exact ⟨a, h1, h2, h3.trans (ifS (by simp only [Int32.le_iff_toInt_le, z00, ev_mns]; omega))⟩
  next off y x r hst =>
    rw [hst] at ha2
    obtain ⟨T, hT, rfl⟩ := Option.map_eq_some_iff.mp hs
    obtain ⟨a, b, w, rfl, hx, hy, hr⟩ := ii_of ha2
    refine BrA_of no2 (pc2 := if a = b then T else pc + 3) (w := w) (by show (tgt pc off).map _ = _; rw [hT]; rfl) (brs_ok ?_ ha hr)
    obtain ⟨q, h1, h2, h3⟩ := alEq_ok (ρ := ρ) (e := subE x y) (T := T) (F := pc + 3)
    exact ⟨q, h1, h2, h3.trans (ifA (by simp only [← Int32.toInt_inj, ev_sub]; omega))⟩
  next off y x r hst =>
    rw [hst] at ha2
    obtain ⟨T, hT, rfl⟩ := Option.map_eq_some_iff.mp hs
    obtain ⟨a, b, w, rfl, hx, hy, hr⟩ := ii_of ha2
    refine BrA_of no2 (pc2 := if ¬ a = b then T else pc + 3) (w := w) (by show (tgt pc off).map _ = _; rw [hT]; rfl) (brs_ok ?_ ha hr)
    obtain ⟨q, h1, h2, h3⟩ := alEq_ok (ρ := ρ) (e := subE x y) (T := pc + 3) (F := T)
    exact ⟨q, h1, h2, h3.trans (ifS (by simp only [← Int32.toInt_inj, ev_sub]; omega))⟩
  next off y x r hst =>
    rw [hst] at ha2
    obtain ⟨T, hT, rfl⟩ := Option.map_eq_some_iff.mp hs
    obtain ⟨a, b, w, rfl, hx, hy, hr⟩ := ii_of ha2
    refine BrA_of no2 (pc2 := if a < b then T else pc + 3) (w := w) (by show (tgt pc off).map _ = _; rw [hT]; rfl) (brs_ok ?_ ha hr)
    obtain ⟨q, h1, h2, h3⟩ := alLt_ok (ρ := ρ) (e := subE x y) (T := T) (F := pc + 3)
    exact ⟨q, h1, h2, h3.trans (ifA (by simp only [Int32.lt_iff_toInt_lt, ev_sub]; omega))⟩
  next off y x r hst =>
    rw [hst] at ha2
    obtain ⟨T, hT, rfl⟩ := Option.map_eq_some_iff.mp hs
    obtain ⟨a, b, w, rfl, hx, hy, hr⟩ := ii_of ha2
    refine BrA_of no2 (pc2 := if b ≤ a then T else pc + 3) (w := w) (by show (tgt pc off).map _ = _; rw [hT]; rfl) (brs_ok ?_ ha hr)
    obtain ⟨q, h1, h2, h3⟩ := alLt_ok (ρ := ρ) (e := subE x y) (T := pc + 3) (F := T)
    exact ⟨q, h1, h2, h3.trans (ifS (by simp only [Int32.le_iff_toInt_le, ev_sub]; omega))⟩
  next off y x r hst =>
    rw [hst] at ha2
    obtain ⟨T, hT, rfl⟩ := Option.map_eq_some_iff.mp hs
    obtain ⟨a, b, w, rfl, hx, hy, hr⟩ := ii_of ha2
    refine BrA_of no2 (pc2 := if b < a then T else pc + 3) (w := w) (by show (tgt pc off).map _ = _; rw [hT]; rfl) (brs_ok ?_ ha hr)
    obtain ⟨q, h1, h2, h3⟩ := alLt_ok (ρ := ρ) (e := subE y x) (T := T) (F := pc + 3)
    exact ⟨q, h1, h2, h3.trans (ifA (by simp only [Int32.lt_iff_toInt_lt, ev_sub]; omega))⟩
  next off y x r hst =>
    rw [hst] at ha2
    obtain ⟨T, hT, rfl⟩ := Option.map_eq_some_iff.mp hs
    obtain ⟨a, b, w, rfl, hx, hy, hr⟩ := ii_of ha2
    refine BrA_of no2 (pc2 := if a ≤ b then T else pc + 3) (w := w) (by show (tgt pc off).map _ = _; rw [hT]; rfl) (brs_ok ?_ ha hr)
    obtain ⟨q, h1, h2, h3⟩ := alLt_ok (ρ := ρ) (e := subE y x) (T := pc + 3) (F := T)
    exact ⟨q, h1, h2, h3.trans (ifS (by simp only [Int32.le_iff_toInt_le, ev_sub]; omega))⟩
  next off =>
    obtain ⟨T, hT, rfl⟩ := Option.map_eq_some_iff.mp hs
    exact BrA_of ⟨fun _ _ => rfl, fun _ => rfl, fun _ => rfl⟩ (by show (tgt pc off).map _ = _; rw [hT]; rfl) ⟨_, List.mem_singleton.mpr rfl, rfl, ha⟩
  next off e r hst =>
    rw [hst] at ha2
    obtain ⟨T, hT, rfl⟩ := Option.map_eq_some_iff.mp hs
    obtain ⟨v, w, rfl, hv, hr⟩ := aS_cons ha2
    obtain rfl := dV2 rfl hv
    exact BrA_of ⟨fun _ _ => rfl, fun _ => rfl, fun _ => rfl⟩ (by show (tgt pc off).map _ = _; rw [hT]; rfl) ⟨_, List.mem_singleton.mpr rfl, rfl, abs_st ha hr⟩
  next off e r hst =>
    rw [hst] at ha2
    cases hs
    obtain ⟨v, w, rfl, hv, hr⟩ := aS_cons ha2
    obtain ⟨-, rfl⟩ := dV1 rfl hv
    exact BrA_of ⟨fun _ _ => rfl, fun _ => rfl, fun _ => rfl⟩ rfl ⟨_, List.mem_singleton.mpr rfl, rfl, abs_st ha hr⟩
  next => cases hs
  next off e r hst =>
    rw [hst] at ha2
    obtain ⟨T, hT, rfl⟩ := Option.map_eq_some_iff.mp hs
    obtain ⟨v, w, rfl, hv, hr⟩ := aS_cons ha2
    obtain ⟨-, rfl⟩ := dV1 rfl hv
    exact BrA_of ⟨fun _ _ => rfl, fun _ => rfl, fun _ => rfl⟩ (by show (tgt pc off).map _ = _; rw [hT]; rfl) ⟨_, List.mem_singleton.mpr rfl, rfl, abs_st ha hr⟩
  next df0 lo hi offs x r hst =>
    rw [hst] at ha2
    obtain ⟨v, w, rfl, hv, hr⟩ := i_of ha2
    split at hs
    next hsz =>
      split at hs
      next T l hT hl =>
        cases hs
        by_cases h1 : v.toInt < lo
        · refine BrA_of ⟨fun _ _ => rfl, fun _ => rfl, fun _ => rfl⟩ (pc2 := T) (w := w) (by simp only [actB]; rw [if_pos (Or.inl h1), hT]; rfl) (brs_ok ⟨_, List.mem_cons_self, fun f hf => ?_, rfl⟩ ha hr)
          obtain rfl := List.mem_singleton.mp hf
          rw [ev_dec, ev_sub, ev_c]; omega
        by_cases h2 : hi < v.toInt
        · refine BrA_of ⟨fun _ _ => rfl, fun _ => rfl, fun _ => rfl⟩ (pc2 := T) (w := w) (by simp only [actB]; rw [if_pos (Or.inr h2), hT]; rfl) (brs_ok ⟨_, List.mem_cons_of_mem _ List.mem_cons_self, fun f hf => ?_, rfl⟩ ha hr)
          obtain rfl := List.mem_singleton.mp hf
          rw [ev_dec, ev_sub, ev_c]; omega
        obtain ⟨o, ho⟩ : ∃ o, offs[(v.toInt - lo).toNat]? = some o := ⟨_, Array.getElem?_eq_getElem (by omega)⟩
        obtain ⟨t, ht, a, g1, g2⟩ := swA_ok (ρ := ρ) (j := (v.toInt - lo).toNat) hl (by rw [Array.getElem?_toList]; exact ho) (by omega)
        exact BrA_of ⟨fun _ _ => rfl, fun _ => rfl, fun _ => rfl⟩ (pc2 := t) (w := w) (by simp only [actB]; rw [if_neg (by omega), ho]; dsimp only; rw [ht]; rfl) (brs_ok ⟨a, List.mem_cons_of_mem _ (List.mem_cons_of_mem _ g1), g2⟩ ha hr)
      next => cases hs
    next => cases hs
  next df0 ps x r hst =>
    rw [hst] at ha2
    obtain ⟨v, w, rfl, hv, hr⟩ := i_of ha2
    split at hs
    next hsz =>
      split at hs
      next T l hT hl =>
        cases hs
        obtain ⟨t, ht, a, g1, g2⟩ := lkA_ok (ρ := ρ) (x := v.toInt) hT hv.symm hl
        exact BrA_of ⟨fun _ _ => rfl, fun _ => rfl, fun _ => rfl⟩ (pc2 := t) (w := w) (by simp only [actB]; rw [if_pos hsz, ht]; rfl) (brs_ok ⟨a, g1, g2⟩ ha hr)
      next => cases hs
    next => cases hs
  next => cases hs
end SXB
