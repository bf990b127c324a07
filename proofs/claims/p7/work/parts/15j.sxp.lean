/-! Steps without cells: numbers, locals, branches. -/
section SXP
theorem bm {z : Int} (h1 : -2147483648 ≤ z) (h2 : z ≤ 2147483647) : z.bmod (2 ^ 32) = z := by
  have e : (2 ^ 32 : Nat) = 4294967296 := by decide
  rw [e, Int.bmod_def]
  split <;> omega
theorem i32lo (x : Int32) : -2147483648 ≤ x.toInt := Int32.le_toInt x
theorem i32hi (x : Int32) : x.toInt ≤ 2147483647 := by have := Int32.toInt_lt x; omega
def i32 (n : Nat) : List LE := [(2147483648, [(n, 1)]), (2147483647, [(n, -1)])]
def rng (n : Nat) (lo hi : Int) : List LE := [(-lo, [(n, 1)]), (hi, [(n, -1)])]
theorem rng_ok {ρ : Va} {n : Nat} {lo hi : Int} (h1 : lo ≤ ρ n) (h2 : ρ n ≤ hi) : ∀ f ∈ rng n lo hi, 0 ≤ ev ρ f := by
  intro f hf
  simp only [rng, List.mem_cons, List.not_mem_nil, or_false] at hf
  rcases hf with rfl | rfl
  · show 0 ≤ -lo + (1 * ρ n + 0); omega
  · show 0 ≤ hi + (-1 * ρ n + 0); omega
theorem i32_ok {ρ : Va} {n : Nat} {x : Int32} (h : ρ n = x.toInt) : ∀ f ∈ i32 n, 0 ≤ ev ρ f := by
  have e : i32 n = rng n (-2147483648) 2147483647 := rfl
  rw [e]
  exact rng_ok (ρ := ρ) (n := n) (by rw [h]; exact i32lo x) (by rw [h]; exact i32hi x)
def inR (d : Nat) (F : List LE) (e : LE) : Bool := ent F d (addE e (cE 2147483648)) && ent F d (subE (cE 2147483647) e)
theorem inR_ok {ρ : Va} {d : Nat} {F : List LE} {e : LE} (hF : aF ρ F) (h : inR d F e = true) : -2147483648 ≤ ev ρ e ∧ ev ρ e ≤ 2147483647 := by
  simp only [inR, Bool.and_eq_true] at h
  have h1 := ent_ok hF _ _ h.1
  have h2 := ent_ok hF _ _ h.2
  rw [ev_add, ev_c] at h1
  rw [ev_sub, ev_c] at h2
  omega
def frs (np : Nat) (S : sS) : Bool := decide (np ≤ S.1) && !occS S.1 S
def sSt (S : sS) (st : List sV) : sS := (S.1, S.2.1, st, S.2.2.2)
def sLo (S : sS) (L : List (Nat × sV)) (st : List sV) : sS := (S.1, L, st, S.2.2.2)
/-- one more unknown, facts of it, the stack -/
def sNw (S : sS) (fs : List LE) (st : List sV) : sS := (S.1 + 1, S.2.1, st, fs ++ S.2.2.2.1, S.2.2.2.2)
def sFa (S : sS) (fs : List LE) (st : List sV) : sS := (S.1, S.2.1, st, fs ++ S.2.2.2.1, S.2.2.2.2)
variable {PR : Nat → Int → Int → mH → Prop} {G : Nat → Nat} {ρ : Va} {S : sS} {lv : mL} {st : List Value} {h : mH} {np d : Nat}
theorem aF_app {fs F : List LE} (h1 : ∀ f ∈ fs, 0 ≤ ev ρ f) (h2 : aF ρ F) : aF ρ (fs ++ F) := fun f hf => (List.mem_append.mp hf).elim (h1 f) (h2 f)
theorem abs_st {st' : List sV} {w : List Value} (ha : abs PR G ρ S lv st h) (hs : aS ρ st' w) : abs PR G ρ (sSt S st') lv w h := ⟨ha.1, hs, ha.2.2⟩
theorem abs_fa {st' : List sV} {w : List Value} {fs : List LE} (ha : abs PR G ρ S lv st h) (hf : ∀ f ∈ fs, 0 ≤ ev ρ f) (hs : aS ρ st' w) : abs PR G ρ (sFa S fs st') lv w h := ⟨ha.1, hs, aF_app hf ha.2.2.1, ha.2.2.2⟩
theorem frs_ok (hf : frs np S = true) : np ≤ S.1 ∧ occS S.1 S = false := by
  simp only [frs, Bool.and_eq_true, decide_eq_true_eq, Bool.not_eq_true'] at hf
  exact hf
theorem abs_nw {st' : List sV} {w : List Value} {fs : List LE} {x : Int} (hf : frs np S = true) (ha : abs PR G ρ S lv st h) (h1 : ∀ f ∈ fs, 0 ≤ ev (uV ρ S.1 x) f) (hs : aS (uV ρ S.1 x) st' w) : abs PR G (uV ρ S.1 x) (sNw S fs st') lv w h := by
  have h2 := abs_u (x := x) (frs_ok hf).2 ha
  exact ⟨h2.1, hs, aF_app h1 h2.2.2.1, h2.2.2.2⟩
theorem up_np {x : Int} (hf : frs np S = true) : ∀ i, i < np → uV ρ S.1 x i = ρ i := fun i hi => uV_o (by have := (frs_ok hf).1; omega)
/-- the tail of the stack, with one more unknown -/
theorem aS_tl {x : Int} {st' : List sV} {w : List Value} (hf : frs np S = true) (hsub : ∃ pre, S.2.2.1 = pre ++ st') (ha : aS ρ st' w) : aS (uV ρ S.1 x) st' w := by
  have ho := (frs_ok hf).2
  unfold occS at ho
  simp only [Bool.or_eq_false_iff] at ho
  refine aS_u ?_ ha
  obtain ⟨pre, hp⟩ := hsub
  have h2 := ho.2.1
  rw [hp, List.any_append, Bool.or_eq_false_iff] at h2
  exact h2.2
def ev1 (x : Int) : Int := x
/-- a number that is e where e is in range, else unknown -/
def arI (np d : Nat) (S : sS) (e : LE) (r : List sV) : Option sS := if inR d S.2.2.2.1 e = true then some (sSt S ((0, e) :: r)) else if frs np S = true then some (sNw S (i32 S.1) ((0, vE S.1) :: r)) else none
def unI (np : Nat) (S : sS) (r : List sV) : Option sS := if frs np S = true then some (sNw S (i32 S.1) ((0, vE S.1) :: r)) else none
def unR (np : Nat) (S : sS) (lo hi : Int) (r : List sV) : Option sS := if frs np S = true then some (sNw S (rng S.1 lo hi) ((0, vE S.1) :: r)) else none
/-- a state that fits what the machine comes to, of unknowns that are the old ones below np -/
def Abs (PR : Nat → Int → Int → mH → Prop) (G : Nat → Nat) (np : Nat) (ρ : Va) (S : sS) (lv : mL) (st : List Value) (h : mH) : Prop := ∃ ρ', (∀ i, i < np → ρ' i = ρ i) ∧ abs PR G ρ' S lv st h
theorem Abs.of (ha : abs PR G ρ S lv st h) : Abs PR G np ρ S lv st h := ⟨ρ, fun _ _ => rfl, ha⟩
theorem dV_n {x : Int32} : dV (uV ρ S.1 x.toInt) (0, vE S.1) (.int x) := ⟨x, rfl, by show x.toInt = ev _ (vE S.1); rw [ev_v, uV_n]⟩
theorem unI_ok {S2 : sS} {r : List sV} {w : List Value} {x : Int32} (hs : unI np S r = some S2) (hsub : ∃ pre, S.2.2.1 = pre ++ r) (ha : abs PR G ρ S lv st h) (hr : aS ρ r w) : Abs PR G np ρ S2 lv (.int x :: w) h := by
  unfold unI at hs
  split at hs
  next hf =>
    cases hs
    exact ⟨_, up_np hf, abs_nw (x := x.toInt) hf ha (i32_ok (x := x) uV_n) ⟨dV_n, aS_tl hf hsub hr⟩⟩
  next => cases hs
theorem unR_ok {S2 : sS} {r : List sV} {w : List Value} {x : Int32} {lo hi : Int} (hs : unR np S lo hi r = some S2) (h1 : lo ≤ x.toInt) (h2 : x.toInt ≤ hi) (hsub : ∃ pre, S.2.2.1 = pre ++ r) (ha : abs PR G ρ S lv st h) (hr : aS ρ r w) : Abs PR G np ρ S2 lv (.int x :: w) h := by
  unfold unR at hs
  split at hs
  next hf =>
    cases hs
    exact ⟨_, up_np hf, abs_nw (x := x.toInt) hf ha (rng_ok (by rw [uV_n]; exact h1) (by rw [uV_n]; exact h2)) ⟨dV_n, aS_tl hf hsub hr⟩⟩
  next => cases hs
theorem arI_ok {S2 : sS} {e : LE} {r : List sV} {w : List Value} {x : Int32} (hs : arI np d S e r = some S2) (hx : -2147483648 ≤ ev ρ e → ev ρ e ≤ 2147483647 → x.toInt = ev ρ e) (hsub : ∃ pre, S.2.2.1 = pre ++ r) (ha : abs PR G ρ S lv st h) (hr : aS ρ r w) : Abs PR G np ρ S2 lv (.int x :: w) h := by
  unfold arI at hs
  split at hs
  next hi =>
    cases hs
    have h1 := inR_ok ha.2.2.1 hi
    exact Abs.of (abs_st ha ⟨⟨x, rfl, hx h1.1 h1.2⟩, hr⟩)
  next => exact unI_ok hs hsub ha hr
/-- a value that stands in no unknown -/
theorem dV_c {c : Int} {x : Int32} (h : x.toInt = c) : dV ρ (0, cE c) (.int x) := ⟨x, rfl, by rw [h]; exact ev_c.symm⟩
theorem toI_ofI {n : Int} (h1 : -2147483648 ≤ n) (h2 : n ≤ 2147483647) : (Int32.ofInt n).toInt = n := by
  rw [Int32.toInt_ofInt]
  exact bm h1 h2
theorem toI_8 {n : Int} (h1 : -128 ≤ n) (h2 : n ≤ 127) : (Int8.ofInt n).toInt32.toInt = n := by
  rw [Int8.toInt_toInt32, Int8.toInt_ofInt]
  have e : Int8.size = 256 := rfl
  rw [e, Int.bmod_def]
  split <;> omega
theorem toI_16 {n : Int} (h1 : -32768 ≤ n) (h2 : n ≤ 32767) : (Int16.ofInt n).toInt32.toInt = n := by
  rw [Int16.toInt_toInt32, Int16.toInt_ofInt]
  have e : Int16.size = 65536 := rfl
  rw [e, Int.bmod_def]
  split <;> omega
theorem toI_add {x y : Int32} (h1 : -2147483648 ≤ x.toInt + y.toInt) (h2 : x.toInt + y.toInt ≤ 2147483647) : (x + y).toInt = x.toInt + y.toInt := by rw [Int32.toInt_add]; exact bm h1 h2
theorem toI_sub {x y : Int32} (h1 : -2147483648 ≤ x.toInt - y.toInt) (h2 : x.toInt - y.toInt ≤ 2147483647) : (x - y).toInt = x.toInt - y.toInt := by rw [Int32.toInt_sub]; exact bm h1 h2
theorem toI_mul {x y : Int32} (h1 : -2147483648 ≤ x.toInt * y.toInt) (h2 : x.toInt * y.toInt ≤ 2147483647) : (x * y).toInt = x.toInt * y.toInt := by rw [Int32.toInt_mul]; exact bm h1 h2
theorem toI_neg {x : Int32} (h1 : -2147483648 ≤ -x.toInt) (h2 : -x.toInt ≤ 2147483647) : (-x).toInt = -x.toInt := by rw [Int32.toInt_neg]; exact bm h1 h2
theorem toI_div {x y : Int32} (hx : 0 ≤ x.toInt) (hy : 0 < y.toInt) : (x / y).toInt = x.toInt / y.toInt := by
  rw [Int32.toInt_div, Int.tdiv_eq_ediv_of_nonneg hx]
  have h1 : 0 ≤ x.toInt / y.toInt := Int.ediv_nonneg hx (by omega)
  have h2 : x.toInt / y.toInt ≤ x.toInt := Int.ediv_le_self _ hx
  exact bm (by omega) (by have := i32hi x; omega)
theorem toI_rem {x y : Int32} (hx : 0 ≤ x.toInt) (hy : 0 < y.toInt) : (x - x / y * y).toInt = x.toInt % y.toInt := by
  have h0 := toI_div hx hy
  have h1 : 0 ≤ x.toInt / y.toInt := Int.ediv_nonneg hx (by omega)
  have h2 : x.toInt / y.toInt * y.toInt ≤ x.toInt := Int.ediv_mul_le _ (by omega)
  have h3 : 0 ≤ x.toInt / y.toInt * y.toInt := Int.mul_nonneg h1 (by omega)
  have hx2 := i32hi x
  have h4 : (x / y * y).toInt = x.toInt / y.toInt * y.toInt := by rw [toI_mul (by rw [h0]; omega) (by rw [h0]; omega), h0]
  rw [toI_sub (by rw [h4]; omega) (by rw [h4]; omega), h4]
  have h5 := Int.emod_def x.toInt y.toInt
  rw [Int.mul_comm] at h5
  omega
theorem toI_i2c (x : Int32) : 0 ≤ (x.toUInt32 % 65536).toInt32.toInt ∧ (x.toUInt32 % 65536).toInt32.toInt ≤ 65535 := by
  have h1 : (x.toUInt32 % 65536).toNat < 65536 := by
    rw [UInt32.toNat_mod]
    exact Nat.mod_lt _ (by decide)
  have h2 : (x.toUInt32 % 65536).toInt32.toInt = ((x.toUInt32 % 65536).toNat : Int) := by
    show ((x.toUInt32 % 65536).toBitVec).toInt = _
    rw [BitVec.toInt_eq_toNat_of_lt (by show 2 * (x.toUInt32 % 65536).toNat < 2 ^ 32; omega)]
    rfl
  omega
theorem toI_and {x y : Int32} (hy : 0 ≤ y.toInt) : 0 ≤ (x &&& y).toInt ∧ (x &&& y).toInt ≤ y.toInt := by
  have e1 : y.toInt = (y.toBitVec.toNat : Int) := by
    have h1 : y.toInt = y.toBitVec.toInt := rfl
    rw [h1] at hy ⊢
    rw [BitVec.toInt_eq_toNat_cond] at hy ⊢
    split at hy
    · rename_i hc; rw [if_pos hc]
    · have := y.toBitVec.isLt; omega
  have h2 : (x.toBitVec &&& y.toBitVec).toNat ≤ y.toBitVec.toNat := by rw [BitVec.toNat_and]; exact Nat.and_le_right
  have hlt : y.toBitVec.toNat < 2147483648 := by have := i32hi y; omega
  have e2 : (x &&& y).toInt = ((x.toBitVec &&& y.toBitVec).toNat : Int) := by
    show (x.toBitVec &&& y.toBitVec).toInt = _
    rw [BitVec.toInt_eq_toNat_of_lt (by omega)]
  omega
theorem toI_i2b (x : Int32) : -128 ≤ x.toInt8.toInt32.toInt ∧ x.toInt8.toInt32.toInt ≤ 127 := by
  rw [Int8.toInt_toInt32]
  have h1 := Int8.le_toInt x.toInt8
  have h2 := Int8.toInt_lt x.toInt8
  omega
end SXP
