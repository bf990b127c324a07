section TX
/-! the text, cut into tokens -/
def tAt (B : Nat → Int) (n i : Nat) : Int := if i < n then B i else -1
def isBl (v : Int) : Bool := decide (v = 32)
def isLt (v : Int) : Bool := decide (97 ≤ v) && decide (v ≤ 122)
def isDg (v : Int) : Bool := decide (48 ≤ v) && decide (v ≤ 57)
def isSg (v : Int) : Bool := decide (v = 59) || (decide (v = 40) || (decide (v = 41) || (decide (v = 60) || (decide (v = 62) || decide (v = 61)))))
/-- on while p holds -/
def tWh (B : Nat → Int) (n : Nat) (p : Int → Bool) : Nat → Nat → Nat
  | 0, i => i
  | f + 1, i => if p (tAt B n i) = true then tWh B n p f (i + 1) else i
/-- where a run ends -/
def tRn (p : Int → Bool) (B : Nat → Int) (n i : Nat) : Nat := tWh B n p n i
/-- kinds: 0 end, 1 word, 2 number, 3 sign, 4 bad -/
def tKd (B : Nat → Int) (n s : Nat) : Nat :=
  if n ≤ s then 0 else if isLt (B s) = true then (if tRn isLt B n s - s ≤ 9 then 1 else 4)
  else if isDg (B s) = true then (if tRn isDg B n s - s ≤ 5 then 2 else 4) else if isSg (B s) = true then 3 else 4
def tEn (B : Nat → Int) (n s : Nat) : Nat :=
  if n ≤ s then s else if isLt (B s) = true then tRn isLt B n s else if isDg (B s) = true then tRn isDg B n s else s + 1
def tVl (B : Nat → Int) (s : Nat) : Nat → Int
  | 0 => 0
  | k + 1 => 10 * tVl B s k + (B (s + k) - 48)
/-- the number that the token is -/
def tNm (B : Nat → Int) (n s : Nat) : Int := tVl B s (tEn B n s - s)
def tIsB (B : Nat → Int) (n s : Nat) (w : List Int) : Bool := Nat.beq (tKd B n s) 1 && (Nat.beq (tEn B n s) (s + w.length) && (List.range w.length).all fun j => decide (B (s + j) = w.getD j 0))
def tSgB (B : Nat → Int) (n s : Nat) (v : Int) : Bool := Nat.beq (tKd B n s) 3 && decide (B s = v)
/-- the next token's start -/
def tNx (B : Nat → Int) (n s : Nat) : Nat := tRn isBl B n (tEn B n s)
theorem tWh_fuel {B : Nat → Int} {n : Nat} {p : Int → Bool} (hp : p (-1) = false) : ∀ {f i : Nat}, n ≤ f + i → ∀ g, tWh B n p (f + g) i = tWh B n p f i := by
  intro f
  induction f with
  | zero =>
    intro i hi g
    cases g with
    | zero => rfl
    | succ g =>
      have h1 : tAt B n i = -1 := by unfold tAt; rw [if_neg (by omega)]
      simp only [tWh, h1, hp]
      rfl
  | succ f ih =>
    intro i hi g
    rw [show f + 1 + g = (f + g) + 1 by omega]
    simp only [tWh]
    split
    · exact ih (by omega) g
    · rfl
/-- one step on -/
theorem tWh_step {B : Nat → Int} {n : Nat} {p : Int → Bool} (hp : p (-1) = false) {i : Nat} (h : p (tAt B n i) = true) : tWh B n p n i = tWh B n p n (i + 1) := by
  have h1 := tWh_fuel (B := B) (n := n) hp (f := n) (i := i) (by omega) 1
  rw [← h1]
  simp only [tWh, h, if_true]
theorem tWh_stop {B : Nat → Int} {n : Nat} {p : Int → Bool} (hp : p (-1) = false) {i : Nat} (h : p (tAt B n i) = false) : tWh B n p n i = i := by
  have h1 := tWh_fuel (B := B) (n := n) hp (f := n) (i := i) (by omega) 1
  rw [← h1]
  simp only [tWh, h]
  rfl
theorem tWh_ge {B : Nat → Int} {n : Nat} {p : Int → Bool} : ∀ {f i : Nat}, i ≤ tWh B n p f i := by
  intro f
  induction f with
  | zero => intro i; exact Nat.le_refl i
  | succ f ih =>
    intro i
    simp only [tWh]
    split
    · exact Nat.le_trans (Nat.le_succ i) ih
    · exact Nat.le_refl i
theorem tWh_le {B : Nat → Int} {n : Nat} {p : Int → Bool} (hp : p (-1) = false) : ∀ {f i : Nat}, i ≤ n → tWh B n p f i ≤ n := by
  intro f
  induction f with
  | zero => intro i hi; exact hi
  | succ f ih =>
    intro i hi
    simp only [tWh]
    split
    next h =>
      have : i < n := by
        refine Nat.lt_of_not_le fun h2 => ?_
        have h1 : tAt B n i = -1 := by unfold tAt; rw [if_neg (by omega)]
        rw [h1, hp] at h
        cases h
      exact ih (by omega)
    next => exact hi
def wds : List (List Int) := [[102, 108, 101, 101, 116], [115, 104, 105, 102, 116], [108, 111, 97, 100], [118, 105, 115, 105, 116], [97, 108, 112, 104, 97], [108, 101, 118, 101, 108], [104, 111, 114, 105, 122, 111, 110], [112, 114, 111, 100, 117, 99, 116], [109, 97, 99, 104, 105, 110, 101], [115, 108, 111, 116], [114, 117, 108, 101], [103, 97, 112], [101, 118, 101, 114, 121], [110, 111, 116], [97, 110, 100], [111, 114], [100, 97, 121, 115], [99, 97, 115, 104], [119, 101, 101, 107, 100, 97, 121], [118, 105, 115, 105, 116, 115], [101, 109, 112, 116, 121]]
def wd (w : Nat) : List Int := wds.getD w []
/-! the parse, step by step: point, token's start, depth, what is around, the counts in one number (products + 8 machines + 128 slots of the last + 1024 rules + 8192 bound) -/
abbrev pS : Type := Nat × Nat × Nat × Nat × Nat
def eR (code s : Nat) : pS ⊕ Int := .inr (4096 * code + s : Int)
/-- a number is wanted; a word -/
def sqN (B : Nat → Int) (n s : Nat) (lo hi : Int) (go : Nat → Nat → pS) : pS ⊕ Int :=
  if tKd B n s ≠ 2 then eR 1 s else if tNm B n s < lo ∨ hi < tNm B n s then eR 2 s else .inl (go (tNx B n s) (tNm B n s).toNat)
def sqW (B : Nat → Int) (n s : Nat) (w : List Int) (go : Nat → pS) : pS ⊕ Int := if tIsB B n s w = true then .inl (go (tNx B n s)) else eR 1 s
def sp15 (B : Nat → Int) (n s d K R : Nat) : pS ⊕ Int := if tSgB B n s 59 = true then .inl (16, tNx B n s, d, K, R) else if tKd B n s ≠ 0 then eR 1 s else if R / 8 % 16 = 0 then eR 5 s else .inr (-1 - (R : Int))
def sp16 (B : Nat → Int) (n s d K R : Nat) : pS ⊕ Int :=
  if tIsB B n s (wd 7) = true then (if 6 ≤ R % 8 then eR 4 s else .inl (17, tNx B n s, d, K, R))
  else if tIsB B n s (wd 8) = true then (if 8 ≤ R / 8 % 16 then eR 4 s else .inl (20, tNx B n s, d, K, R))
  else if tIsB B n s (wd 9) = true then (if R / 8 % 16 = 0 then eR 3 s else if 5 ≤ R / 128 % 8 then eR 4 s else .inl (25, tNx B n s, d, K, R))
  else if tIsB B n s (wd 10) = true then (if 4 ≤ R / 1024 % 8 then eR 4 s else .inl (40, tNx B n s, 0, 0, R))
  else eR 1 s
def sp22 (B : Nat → Int) (n s d K R : Nat) : pS ⊕ Int := if tIsB B n s (wd 11) = true then .inl (23, tNx B n s, d, K, R) else .inl (15, s, d, K, R)
def sp29 (B : Nat → Int) (n s d K R : Nat) : pS ⊕ Int := if tIsB B n s (wd 12) = true then .inl (30, tNx B n s, d, K, R) else .inl (15, s, d, K, R + 128)
/-- days, cash, weekday, visits, empty -/
def tIv (B : Nat → Int) (n s : Nat) : Bool := tIsB B n s (wd 16) || (tIsB B n s (wd 17) || (tIsB B n s (wd 18) || (tIsB B n s (wd 19) || tIsB B n s (wd 20))))
def sp40 (B : Nat → Int) (n s d K R : Nat) : pS ⊕ Int :=
  if tIsB B n s (wd 13) = true then (if 10 ≤ d then eR 6 s else .inl (40, tNx B n s, d + 1, 2 * K, R))
  else if tSgB B n s 40 = true then (if 10 ≤ d then eR 6 s else .inl (40, tNx B n s, d + 1, 2 * K + 1, R))
  else if tIv B n s = true then (if 10 ≤ d then eR 6 s else .inl (41, tNx B n s, d, K, R))
  else eR 1 s
def tCm (B : Nat → Int) (n s : Nat) : Bool := tSgB B n s 60 || (tSgB B n s 62 || tSgB B n s 61)
def sp41 (B : Nat → Int) (n s d K R : Nat) : pS ⊕ Int := if tCm B n s = true then .inl (42, tNx B n s, d, K, R) else eR 1 s
def tAo (B : Nat → Int) (n s : Nat) : Bool := tIsB B n s (wd 14) || tIsB B n s (wd 15)
def sp43 (B : Nat → Int) (n s d K R : Nat) : pS ⊕ Int :=
  if 0 < d ∧ K % 2 = 0 then .inl (43, s, d - 1, K / 2, R)
  else if tAo B n s = true then .inl (40, tNx B n s, d, K, R)
  else if d = 0 then .inl (15, s, 0, 0, R + 1024)
  else if tSgB B n s 41 = true then .inl (43, tNx B n s, d - 1, K / 2, R) else eR 1 s
def sqP (B : Nat → Int) (n k s d K R : Nat) : pS ⊕ Int := match k with
  | 0 => sqW B n s (wd 0) fun s => (1, s, d, K, R)
  | 1 => sqN B n s 0 99 fun s _ => (2, s, d, K, R)
  | 2 => sqN B n s 0 99 fun s _ => (3, s, d, K, R)
  | 3 => sqW B n s (wd 1) fun s => (4, s, d, K, R)
  | 4 => sqN B n s 1 999 fun s _ => (5, s, d, K, R)
  | 5 => sqW B n s (wd 2) fun s => (6, s, d, K, R)
  | 6 => sqN B n s 0 9999 fun s _ => (7, s, d, K, R)
  | 7 => sqW B n s (wd 3) fun s => (8, s, d, K, R)
  | 8 => sqN B n s 0 99 fun s _ => (9, s, d, K, R)
  | 9 => sqW B n s (wd 4) fun s => (10, s, d, K, R)
  | 10 => sqN B n s 0 100 fun s _ => (11, s, d, K, R)
  | 11 => sqW B n s (wd 5) fun s => (12, s, d, K, R)
  | 12 => sqN B n s 0 100 fun s _ => (13, s, d, K, R)
  | 13 => sqW B n s (wd 6) fun s => (14, s, d, K, R)
  | 14 => sqN B n s 1 30 fun s _ => (15, s, d, K, R)
  | 15 => sp15 B n s d K R
  | 16 => sp16 B n s d K R
  | 17 => sqN B n s 1 999 fun s _ => (18, s, d, K, R)
  | 18 => sqN B n s 0 999 fun s _ => (19, s, d, K, R)
  | 19 => sqN B n s 0 999 fun s _ => (15, s, d, K, R + 1)
  | 20 => sqN B n s 0 99 fun s _ => (21, s, d, K, R)
  | 21 => sqN B n s 0 99 fun s _ => (22, s, d, K, R + 8 - 128 * (R / 128 % 8))
  | 22 => sp22 B n s d K R
  | 23 => sqN B n s 0 9999 fun s v => (24, s, d, K, R % 8192 + 8192 * v)
  | 24 => sqN B n s ((R / 8192 : Nat) : Int) 9999 fun s _ => (15, s, d, K, R % 8192)
  | 25 => sqN B n s 0 (((R % 8 : Nat) : Int) - 1) fun s _ => (26, s, d, K, R)
  | 26 => sqN B n s 1 99 fun s v => (27, s, d, K, R % 8192 + 8192 * v)
  | 27 => sqN B n s 0 ((R / 8192 : Nat) : Int) fun s _ => (28, s, d, K, R % 8192)
  | 28 => sqN B n s 0 2000 fun s _ => (29, s, d, K, R)
  | 29 => sp29 B n s d K R
  | 30 => sqN B n s 1 30 fun s _ => (15, s, d, K, R + 128)
  | 40 => sp40 B n s d K R
  | 41 => sp41 B n s d K R
  | 42 => sqN B n s 0 9999 fun s _ => (43, s, d, K, R)
  | 43 => sp43 B n s d K R
  | _ => .inr 0
def sqp (B : Nat → Int) (n : Nat) (σ : pS) : pS ⊕ Int := sqP B n σ.1 σ.2.1 σ.2.2.1 σ.2.2.2.1 σ.2.2.2.2
/-- how the record changes at a step -/
def sqAc (B : Nat → Int) (n k s R a : Nat) : Nat := match k with
  | 4 => setC a 2 (tNm B n s).toNat
  | 12 => setC a 1 (tNm B n s).toNat
  | 16 => if tIsB B n s (wd 8) = true then newM a (R / 8 % 16) else a
  | 23 => setC a (19 + R / 8 % 16) (tNm B n s).toNat
  | 24 => setC a (27 + R / 8 % 16) (tNm B n s).toNat
  | 29 => if tIsB B n s (wd 12) = true then a else newS a (R / 8 % 16 - 1) (R / 128 % 8) 1
  | 30 => newS a (R / 8 % 16 - 1) (R / 128 % 8) (tNm B n s).toNat
  | _ => a
def sqA (B : Nat → Int) (n : Nat) (σ : pS) (a : Nat) : Nat := sqAc B n σ.1 σ.2.1 σ.2.2.2.2 a
def rIt (B : Nat → Int) (n : Nat) : Nat → pS → Nat → Option (pS × Nat)
  | 0, σ, a => some (σ, a)
  | f + 1, σ, a => match sqp B n σ with
    | .inl σ' => rIt B n f σ' (sqA B n σ a)
    | .inr _ => none
variable {B : Nat → Int} {n : Nat}
theorem rIt_snoc {σ σ' : pS} {a : Nat} (h2 : sqp B n σ = .inl σ') : ∀ {f : Nat} {σ0 : pS} {a0 : Nat}, rIt B n f σ0 a0 = some (σ, a) → rIt B n (f + 1) σ0 a0 = some (σ', sqA B n σ a)
  | 0, σ0, a0, h => by
    cases h
    simp only [rIt, h2]
  | f + 1, σ0, a0, h => by
    have h : (match sqp B n σ0 with | .inl σ' => rIt B n f σ' (sqA B n σ0 a0) | .inr _ => none) = some (σ, a) := h
    show (match sqp B n σ0 with | .inl σ' => rIt B n (f + 1) σ' (sqA B n σ0 a0) | .inr _ => none) = some (σ', sqA B n σ a)
    split at h
    next σ1 he => exact rIt_snoc h2 h
    next => cases h
theorem rIt_det {v1 v2 : Int} : ∀ {f1 f2 : Nat} {σ0 σ1 σ2 : pS} {a0 a1 a2 : Nat}, rIt B n f1 σ0 a0 = some (σ1, a1) → rIt B n f2 σ0 a0 = some (σ2, a2) → sqp B n σ1 = .inr v1 → sqp B n σ2 = .inr v2 → v1 = v2 ∧ a1 = a2
  | 0, 0, _, _, _, _, _, _, a, b, c, d => by cases a; cases b; rw [c] at d; cases d; exact ⟨rfl, rfl⟩
  | 0, f2 + 1, σ0, _, _, _, _, _, a, b, c, d => by
    cases a
    simp only [rIt, c, reduceCtorEq] at b
  | f1 + 1, 0, σ0, _, _, _, _, _, a, b, c, d => by
    cases b
    simp only [rIt, d, reduceCtorEq] at a
  | f1 + 1, f2 + 1, σ0, σ1, σ2, a0, a1, a2, a, b, c, d => by
    have a : (match sqp B n σ0 with | .inl σ' => rIt B n f1 σ' (sqA B n σ0 a0) | .inr _ => none) = some (σ1, a1) := a
    have b : (match sqp B n σ0 with | .inl σ' => rIt B n f2 σ' (sqA B n σ0 a0) | .inr _ => none) = some (σ2, a2) := b
    split at a
    next σ' he =>
      rw [he] at b
      exact rIt_det a b c d
    next => cases a
/-- a state that the parse comes to, with its record -/
def Rch (B : Nat → Int) (n : Nat) (σ : pS) (a : Nat) : Prop := ∃ f, rIt B n f (0, tRn isBl B n 0, 0, 0, 0) 0 = some (σ, a)
def outB (B : Nat → Int) (n : Nat) (v : Int) : Prop := ∃ σ a, Rch B n σ a ∧ sqp B n σ = .inr v
/-- the record that the text ends with -/
def endA (B : Nat → Int) (n a : Nat) : Prop := ∃ σ v, Rch B n σ a ∧ sqp B n σ = .inr v ∧ v < 0
theorem Rch.go {σ σ' : pS} {a a' : Nat} (h : Rch B n σ a) (hs : sqp B n σ = .inl σ') (ha : sqA B n σ a = a' := by rfl) : Rch B n σ' a' := by
  obtain ⟨f, h⟩ := h
  exact ⟨f + 1, by rw [← ha]; exact rIt_snoc hs h⟩
theorem outB_det {v1 v2 : Int} (h1 : outB B n v1) (h2 : outB B n v2) : v1 = v2 := by
  obtain ⟨σ1, a1, ⟨f1, c1⟩, b1⟩ := h1
  obtain ⟨σ2, a2, ⟨f2, c2⟩, b2⟩ := h2
  exact (rIt_det c1 c2 b1 b2).1
theorem endA_det {a1 a2 : Nat} (h1 : endA B n a1) (h2 : endA B n a2) : a1 = a2 := by
  obtain ⟨σ1, v1, ⟨f1, c1⟩, b1, -⟩ := h1
  obtain ⟨σ2, v2, ⟨f2, c2⟩, b2, -⟩ := h2
  exact (rIt_det c1 c2 b1 b2).2
theorem nt {b : Bool} (h : b = false) : ¬ b = true := by rw [h]; decide
theorem eR_c {c s : Nat} {v : Int} (h : v = 4096 * c + s) : eR c s = .inr v := by unfold eR; rw [h]
theorem stW_y {s : Nat} {w : List Int} {go : Nat → pS} (h : tIsB B n s w = true) : sqW B n s w go = .inl (go (tNx B n s)) := by unfold sqW; rw [if_pos h]
theorem stW_n {s : Nat} {w : List Int} {go : Nat → pS} (h : tIsB B n s w = false) : sqW B n s w go = .inr (4096 + s) := by
  unfold sqW
  rw [if_neg (nt h)]
  exact eR_c (by omega)
theorem stN_y {s : Nat} {lo hi : Int} {go : Nat → Nat → pS} (h : tKd B n s = 2) (hl : lo ≤ tNm B n s) (hh : tNm B n s ≤ hi) : sqN B n s lo hi go = .inl (go (tNx B n s) (tNm B n s).toNat) := by
  unfold sqN
  rw [if_neg (fun q => q h), if_neg (by omega)]
theorem stN_k {s : Nat} {lo hi : Int} {go : Nat → Nat → pS} (h : tKd B n s ≠ 2) : sqN B n s lo hi go = .inr (4096 + s) := by
  unfold sqN
  rw [if_pos h]
  exact eR_c (by omega)
theorem stN_o {s : Nat} {lo hi : Int} {go : Nat → Nat → pS} (h : tKd B n s = 2) (hb : tNm B n s < lo ∨ hi < tNm B n s) : sqN B n s lo hi go = .inr (8192 + s) := by
  unfold sqN
  rw [if_neg (fun q => q h), if_pos hb]
  exact eR_c (by omega)
theorem is_el {s : Nat} {w : List Int} : tIsB B n s w = true ↔ tKd B n s = 1 ∧ tEn B n s = s + w.length ∧ ∀ j, j < w.length → B (s + j) = w.getD j 0 := by
  unfold tIsB
  simp only [Bool.and_eq_true, List.all_eq_true, List.mem_range, decide_eq_true_eq]
  exact ⟨fun ⟨a, b, c⟩ => ⟨Nat.eq_of_beq_eq_true a, Nat.eq_of_beq_eq_true b, c⟩, fun ⟨a, b, c⟩ => ⟨by rw [a]; rfl, by rw [b]; exact Nat.beq_refl _, c⟩⟩
theorem sg_el {s : Nat} {v : Int} : tSgB B n s v = true ↔ tKd B n s = 3 ∧ B s = v := by
  unfold tSgB
  simp only [Bool.and_eq_true, decide_eq_true_eq]
  exact ⟨fun ⟨a, b⟩ => ⟨Nat.eq_of_beq_eq_true a, b⟩, fun ⟨a, b⟩ => ⟨by rw [a]; rfl, b⟩⟩
theorem ff {b : Bool} (h : b = true → False) : b = false := by cases b with | false => rfl | true => exact (h rfl).elim
theorem li_eq : ∀ {a b : List Int}, a.length = b.length → (∀ j, j < a.length → a.getD j 0 = b.getD j 0) → a = b
  | [], [], _, _ => rfl
  | x :: a, y :: b, hl, hg => by
    have h0 : x = y := hg 0 (Nat.zero_lt_succ _)
    have h1 : a = b := li_eq (Nat.succ.inj hl) fun j hj => hg (j + 1) (Nat.succ_lt_succ hj)
    rw [h0, h1]
  | [], _ :: _, hl, _ => by cases hl
  | _ :: _, [], hl, _ => by cases hl
theorem wd_no {s : Nat} {a b : List Int} (ha : tIsB B n s a = true) (h : a ≠ b) : tIsB B n s b = false := ff fun hb => by
  obtain ⟨-, a2, a3⟩ := is_el.mp ha
  obtain ⟨-, b2, b3⟩ := is_el.mp hb
  have hl : a.length = b.length := by omega
  exact h (li_eq hl fun j hj => (a3 j hj).symm.trans (b3 j (by omega)))
theorem sg_wd {s : Nat} {v : Int} {w : List Int} (h : tSgB B n s v = true) : tIsB B n s w = false := ff fun hb => by
  have h1 := (sg_el.mp h).1
  have h2 := (is_el.mp hb).1
  omega
theorem wd_sg {s : Nat} {v : Int} {w : List Int} (h : tIsB B n s w = true) : tSgB B n s v = false := ff fun hb => by
  have h1 := (sg_el.mp hb).1
  have h2 := (is_el.mp h).1
  omega
theorem iv_kd {s : Nat} (h : tIv B n s = true) : tKd B n s = 1 ∧ tIsB B n s (wd 13) = false := by
  unfold tIv at h
  simp only [Bool.or_eq_true] at h
  rcases h with h | h | h | h | h <;> exact ⟨(is_el.mp h).1, wd_no h (by decide)⟩
theorem ao_kd {s : Nat} (h : tAo B n s = true) : tKd B n s = 1 := by
  unfold tAo at h
  simp only [Bool.or_eq_true] at h
  rcases h with h | h <;> exact (is_el.mp h).1
theorem cm_kd {s : Nat} (h : tCm B n s = true) : tKd B n s = 3 := by
  unfold tCm at h
  simp only [Bool.or_eq_true] at h
  rcases h with h | h | h <;> exact (sg_el.mp h).1
section GO
variable {s d K R ac : Nat}
theorem sw_0 (h : Rch B n (0, s, d, K, R) ac) (hw : tIsB B n s (wd 0) = true) : Rch B n (1, tNx B n s, d, K, R) ac := h.go (show sqW B n s (wd 0) (fun s => (1, s, d, K, R)) = _ from stW_y hw)
theorem fw_0 (h : Rch B n (0, s, d, K, R) ac) (hw : tIsB B n s (wd 0) = false) : outB B n (4096 + s) := ⟨_, _, h, show sqW B n s (wd 0) (fun s => (1, s, d, K, R)) = _ from stW_n hw⟩
theorem sn_1 (h : Rch B n (1, s, d, K, R) ac) (hk : tKd B n s = 2) (hl : 0 ≤ tNm B n s) (hh : tNm B n s ≤ 99) : Rch B n (2, tNx B n s, d, K, R) ac := h.go (show sqN B n s 0 99 (fun s _ => (2, s, d, K, R)) = _ from stN_y hk hl hh)
theorem fn_1 (h : Rch B n (1, s, d, K, R) ac) : (tKd B n s ≠ 2 → outB B n (4096 + s)) ∧ (tKd B n s = 2 → tNm B n s < 0 ∨ 99 < tNm B n s → outB B n (8192 + s)) := ⟨fun a => ⟨_, _, h, show sqN B n s 0 99 (fun s _ => (2, s, d, K, R)) = _ from stN_k a⟩, fun a b => ⟨_, _, h, show sqN B n s 0 99 (fun s _ => (2, s, d, K, R)) = _ from stN_o a b⟩⟩
theorem sn_2 (h : Rch B n (2, s, d, K, R) ac) (hk : tKd B n s = 2) (hl : 0 ≤ tNm B n s) (hh : tNm B n s ≤ 99) : Rch B n (3, tNx B n s, d, K, R) ac := h.go (show sqN B n s 0 99 (fun s _ => (3, s, d, K, R)) = _ from stN_y hk hl hh)
theorem fn_2 (h : Rch B n (2, s, d, K, R) ac) : (tKd B n s ≠ 2 → outB B n (4096 + s)) ∧ (tKd B n s = 2 → tNm B n s < 0 ∨ 99 < tNm B n s → outB B n (8192 + s)) := ⟨fun a => ⟨_, _, h, show sqN B n s 0 99 (fun s _ => (3, s, d, K, R)) = _ from stN_k a⟩, fun a b => ⟨_, _, h, show sqN B n s 0 99 (fun s _ => (3, s, d, K, R)) = _ from stN_o a b⟩⟩
theorem sw_3 (h : Rch B n (3, s, d, K, R) ac) (hw : tIsB B n s (wd 1) = true) : Rch B n (4, tNx B n s, d, K, R) ac := h.go (show sqW B n s (wd 1) (fun s => (4, s, d, K, R)) = _ from stW_y hw)
theorem fw_3 (h : Rch B n (3, s, d, K, R) ac) (hw : tIsB B n s (wd 1) = false) : outB B n (4096 + s) := ⟨_, _, h, show sqW B n s (wd 1) (fun s => (4, s, d, K, R)) = _ from stW_n hw⟩
theorem sn_4 (h : Rch B n (4, s, d, K, R) ac) (hk : tKd B n s = 2) (hl : 1 ≤ tNm B n s) (hh : tNm B n s ≤ 999) : Rch B n (5, tNx B n s, d, K, R) (setC ac 2 (tNm B n s).toNat) := h.go (show sqN B n s 1 999 (fun s _ => (5, s, d, K, R)) = _ from stN_y hk hl hh)
theorem fn_4 (h : Rch B n (4, s, d, K, R) ac) : (tKd B n s ≠ 2 → outB B n (4096 + s)) ∧ (tKd B n s = 2 → tNm B n s < 1 ∨ 999 < tNm B n s → outB B n (8192 + s)) := ⟨fun a => ⟨_, _, h, show sqN B n s 1 999 (fun s _ => (5, s, d, K, R)) = _ from stN_k a⟩, fun a b => ⟨_, _, h, show sqN B n s 1 999 (fun s _ => (5, s, d, K, R)) = _ from stN_o a b⟩⟩
theorem sw_5 (h : Rch B n (5, s, d, K, R) ac) (hw : tIsB B n s (wd 2) = true) : Rch B n (6, tNx B n s, d, K, R) ac := h.go (show sqW B n s (wd 2) (fun s => (6, s, d, K, R)) = _ from stW_y hw)
theorem fw_5 (h : Rch B n (5, s, d, K, R) ac) (hw : tIsB B n s (wd 2) = false) : outB B n (4096 + s) := ⟨_, _, h, show sqW B n s (wd 2) (fun s => (6, s, d, K, R)) = _ from stW_n hw⟩
theorem sn_6 (h : Rch B n (6, s, d, K, R) ac) (hk : tKd B n s = 2) (hl : 0 ≤ tNm B n s) (hh : tNm B n s ≤ 9999) : Rch B n (7, tNx B n s, d, K, R) ac := h.go (show sqN B n s 0 9999 (fun s _ => (7, s, d, K, R)) = _ from stN_y hk hl hh)
theorem fn_6 (h : Rch B n (6, s, d, K, R) ac) : (tKd B n s ≠ 2 → outB B n (4096 + s)) ∧ (tKd B n s = 2 → tNm B n s < 0 ∨ 9999 < tNm B n s → outB B n (8192 + s)) := ⟨fun a => ⟨_, _, h, show sqN B n s 0 9999 (fun s _ => (7, s, d, K, R)) = _ from stN_k a⟩, fun a b => ⟨_, _, h, show sqN B n s 0 9999 (fun s _ => (7, s, d, K, R)) = _ from stN_o a b⟩⟩
theorem sw_7 (h : Rch B n (7, s, d, K, R) ac) (hw : tIsB B n s (wd 3) = true) : Rch B n (8, tNx B n s, d, K, R) ac := h.go (show sqW B n s (wd 3) (fun s => (8, s, d, K, R)) = _ from stW_y hw)
theorem fw_7 (h : Rch B n (7, s, d, K, R) ac) (hw : tIsB B n s (wd 3) = false) : outB B n (4096 + s) := ⟨_, _, h, show sqW B n s (wd 3) (fun s => (8, s, d, K, R)) = _ from stW_n hw⟩
theorem sn_8 (h : Rch B n (8, s, d, K, R) ac) (hk : tKd B n s = 2) (hl : 0 ≤ tNm B n s) (hh : tNm B n s ≤ 99) : Rch B n (9, tNx B n s, d, K, R) ac := h.go (show sqN B n s 0 99 (fun s _ => (9, s, d, K, R)) = _ from stN_y hk hl hh)
theorem fn_8 (h : Rch B n (8, s, d, K, R) ac) : (tKd B n s ≠ 2 → outB B n (4096 + s)) ∧ (tKd B n s = 2 → tNm B n s < 0 ∨ 99 < tNm B n s → outB B n (8192 + s)) := ⟨fun a => ⟨_, _, h, show sqN B n s 0 99 (fun s _ => (9, s, d, K, R)) = _ from stN_k a⟩, fun a b => ⟨_, _, h, show sqN B n s 0 99 (fun s _ => (9, s, d, K, R)) = _ from stN_o a b⟩⟩
theorem sw_9 (h : Rch B n (9, s, d, K, R) ac) (hw : tIsB B n s (wd 4) = true) : Rch B n (10, tNx B n s, d, K, R) ac := h.go (show sqW B n s (wd 4) (fun s => (10, s, d, K, R)) = _ from stW_y hw)
theorem fw_9 (h : Rch B n (9, s, d, K, R) ac) (hw : tIsB B n s (wd 4) = false) : outB B n (4096 + s) := ⟨_, _, h, show sqW B n s (wd 4) (fun s => (10, s, d, K, R)) = _ from stW_n hw⟩
theorem sn_10 (h : Rch B n (10, s, d, K, R) ac) (hk : tKd B n s = 2) (hl : 0 ≤ tNm B n s) (hh : tNm B n s ≤ 100) : Rch B n (11, tNx B n s, d, K, R) ac := h.go (show sqN B n s 0 100 (fun s _ => (11, s, d, K, R)) = _ from stN_y hk hl hh)
theorem fn_10 (h : Rch B n (10, s, d, K, R) ac) : (tKd B n s ≠ 2 → outB B n (4096 + s)) ∧ (tKd B n s = 2 → tNm B n s < 0 ∨ 100 < tNm B n s → outB B n (8192 + s)) := ⟨fun a => ⟨_, _, h, show sqN B n s 0 100 (fun s _ => (11, s, d, K, R)) = _ from stN_k a⟩, fun a b => ⟨_, _, h, show sqN B n s 0 100 (fun s _ => (11, s, d, K, R)) = _ from stN_o a b⟩⟩
theorem sw_11 (h : Rch B n (11, s, d, K, R) ac) (hw : tIsB B n s (wd 5) = true) : Rch B n (12, tNx B n s, d, K, R) ac := h.go (show sqW B n s (wd 5) (fun s => (12, s, d, K, R)) = _ from stW_y hw)
theorem fw_11 (h : Rch B n (11, s, d, K, R) ac) (hw : tIsB B n s (wd 5) = false) : outB B n (4096 + s) := ⟨_, _, h, show sqW B n s (wd 5) (fun s => (12, s, d, K, R)) = _ from stW_n hw⟩
theorem sn_12 (h : Rch B n (12, s, d, K, R) ac) (hk : tKd B n s = 2) (hl : 0 ≤ tNm B n s) (hh : tNm B n s ≤ 100) : Rch B n (13, tNx B n s, d, K, R) (setC ac 1 (tNm B n s).toNat) := h.go (show sqN B n s 0 100 (fun s _ => (13, s, d, K, R)) = _ from stN_y hk hl hh)
theorem fn_12 (h : Rch B n (12, s, d, K, R) ac) : (tKd B n s ≠ 2 → outB B n (4096 + s)) ∧ (tKd B n s = 2 → tNm B n s < 0 ∨ 100 < tNm B n s → outB B n (8192 + s)) := ⟨fun a => ⟨_, _, h, show sqN B n s 0 100 (fun s _ => (13, s, d, K, R)) = _ from stN_k a⟩, fun a b => ⟨_, _, h, show sqN B n s 0 100 (fun s _ => (13, s, d, K, R)) = _ from stN_o a b⟩⟩
theorem sw_13 (h : Rch B n (13, s, d, K, R) ac) (hw : tIsB B n s (wd 6) = true) : Rch B n (14, tNx B n s, d, K, R) ac := h.go (show sqW B n s (wd 6) (fun s => (14, s, d, K, R)) = _ from stW_y hw)
theorem fw_13 (h : Rch B n (13, s, d, K, R) ac) (hw : tIsB B n s (wd 6) = false) : outB B n (4096 + s) := ⟨_, _, h, show sqW B n s (wd 6) (fun s => (14, s, d, K, R)) = _ from stW_n hw⟩
theorem sn_14 (h : Rch B n (14, s, d, K, R) ac) (hk : tKd B n s = 2) (hl : 1 ≤ tNm B n s) (hh : tNm B n s ≤ 30) : Rch B n (15, tNx B n s, d, K, R) ac := h.go (show sqN B n s 1 30 (fun s _ => (15, s, d, K, R)) = _ from stN_y hk hl hh)
theorem fn_14 (h : Rch B n (14, s, d, K, R) ac) : (tKd B n s ≠ 2 → outB B n (4096 + s)) ∧ (tKd B n s = 2 → tNm B n s < 1 ∨ 30 < tNm B n s → outB B n (8192 + s)) := ⟨fun a => ⟨_, _, h, show sqN B n s 1 30 (fun s _ => (15, s, d, K, R)) = _ from stN_k a⟩, fun a b => ⟨_, _, h, show sqN B n s 1 30 (fun s _ => (15, s, d, K, R)) = _ from stN_o a b⟩⟩
theorem sn_17 (h : Rch B n (17, s, d, K, R) ac) (hk : tKd B n s = 2) (hl : 1 ≤ tNm B n s) (hh : tNm B n s ≤ 999) : Rch B n (18, tNx B n s, d, K, R) ac := h.go (show sqN B n s 1 999 (fun s _ => (18, s, d, K, R)) = _ from stN_y hk hl hh)
theorem fn_17 (h : Rch B n (17, s, d, K, R) ac) : (tKd B n s ≠ 2 → outB B n (4096 + s)) ∧ (tKd B n s = 2 → tNm B n s < 1 ∨ 999 < tNm B n s → outB B n (8192 + s)) := ⟨fun a => ⟨_, _, h, show sqN B n s 1 999 (fun s _ => (18, s, d, K, R)) = _ from stN_k a⟩, fun a b => ⟨_, _, h, show sqN B n s 1 999 (fun s _ => (18, s, d, K, R)) = _ from stN_o a b⟩⟩
theorem sn_18 (h : Rch B n (18, s, d, K, R) ac) (hk : tKd B n s = 2) (hl : 0 ≤ tNm B n s) (hh : tNm B n s ≤ 999) : Rch B n (19, tNx B n s, d, K, R) ac := h.go (show sqN B n s 0 999 (fun s _ => (19, s, d, K, R)) = _ from stN_y hk hl hh)
theorem fn_18 (h : Rch B n (18, s, d, K, R) ac) : (tKd B n s ≠ 2 → outB B n (4096 + s)) ∧ (tKd B n s = 2 → tNm B n s < 0 ∨ 999 < tNm B n s → outB B n (8192 + s)) := ⟨fun a => ⟨_, _, h, show sqN B n s 0 999 (fun s _ => (19, s, d, K, R)) = _ from stN_k a⟩, fun a b => ⟨_, _, h, show sqN B n s 0 999 (fun s _ => (19, s, d, K, R)) = _ from stN_o a b⟩⟩
theorem sn_19 (h : Rch B n (19, s, d, K, R) ac) (hk : tKd B n s = 2) (hl : 0 ≤ tNm B n s) (hh : tNm B n s ≤ 999) : Rch B n (15, tNx B n s, d, K, R + 1) ac := h.go (show sqN B n s 0 999 (fun s _ => (15, s, d, K, R + 1)) = _ from stN_y hk hl hh)
theorem fn_19 (h : Rch B n (19, s, d, K, R) ac) : (tKd B n s ≠ 2 → outB B n (4096 + s)) ∧ (tKd B n s = 2 → tNm B n s < 0 ∨ 999 < tNm B n s → outB B n (8192 + s)) := ⟨fun a => ⟨_, _, h, show sqN B n s 0 999 (fun s _ => (15, s, d, K, R + 1)) = _ from stN_k a⟩, fun a b => ⟨_, _, h, show sqN B n s 0 999 (fun s _ => (15, s, d, K, R + 1)) = _ from stN_o a b⟩⟩
theorem sn_20 (h : Rch B n (20, s, d, K, R) ac) (hk : tKd B n s = 2) (hl : 0 ≤ tNm B n s) (hh : tNm B n s ≤ 99) : Rch B n (21, tNx B n s, d, K, R) ac := h.go (show sqN B n s 0 99 (fun s _ => (21, s, d, K, R)) = _ from stN_y hk hl hh)
theorem fn_20 (h : Rch B n (20, s, d, K, R) ac) : (tKd B n s ≠ 2 → outB B n (4096 + s)) ∧ (tKd B n s = 2 → tNm B n s < 0 ∨ 99 < tNm B n s → outB B n (8192 + s)) := ⟨fun a => ⟨_, _, h, show sqN B n s 0 99 (fun s _ => (21, s, d, K, R)) = _ from stN_k a⟩, fun a b => ⟨_, _, h, show sqN B n s 0 99 (fun s _ => (21, s, d, K, R)) = _ from stN_o a b⟩⟩
theorem sn_21 (h : Rch B n (21, s, d, K, R) ac) (hk : tKd B n s = 2) (hl : 0 ≤ tNm B n s) (hh : tNm B n s ≤ 99) : Rch B n (22, tNx B n s, d, K, R + 8 - 128 * (R / 128 % 8)) ac := h.go (show sqN B n s 0 99 (fun s _ => (22, s, d, K, R + 8 - 128 * (R / 128 % 8))) = _ from stN_y hk hl hh)
theorem fn_21 (h : Rch B n (21, s, d, K, R) ac) : (tKd B n s ≠ 2 → outB B n (4096 + s)) ∧ (tKd B n s = 2 → tNm B n s < 0 ∨ 99 < tNm B n s → outB B n (8192 + s)) := ⟨fun a => ⟨_, _, h, show sqN B n s 0 99 (fun s _ => (22, s, d, K, R + 8 - 128 * (R / 128 % 8))) = _ from stN_k a⟩, fun a b => ⟨_, _, h, show sqN B n s 0 99 (fun s _ => (22, s, d, K, R + 8 - 128 * (R / 128 % 8))) = _ from stN_o a b⟩⟩
theorem sn_23 (h : Rch B n (23, s, d, K, R) ac) (hk : tKd B n s = 2) (hl : 0 ≤ tNm B n s) (hh : tNm B n s ≤ 9999) : Rch B n (24, tNx B n s, d, K, R % 8192 + 8192 * (tNm B n s).toNat) (setC ac (19 + R / 8 % 16) (tNm B n s).toNat) := h.go (show sqN B n s 0 9999 (fun s v => (24, s, d, K, R % 8192 + 8192 * v)) = _ from stN_y hk hl hh)
theorem fn_23 (h : Rch B n (23, s, d, K, R) ac) : (tKd B n s ≠ 2 → outB B n (4096 + s)) ∧ (tKd B n s = 2 → tNm B n s < 0 ∨ 9999 < tNm B n s → outB B n (8192 + s)) := ⟨fun a => ⟨_, _, h, show sqN B n s 0 9999 (fun s v => (24, s, d, K, R % 8192 + 8192 * v)) = _ from stN_k a⟩, fun a b => ⟨_, _, h, show sqN B n s 0 9999 (fun s v => (24, s, d, K, R % 8192 + 8192 * v)) = _ from stN_o a b⟩⟩
theorem sn_24 (h : Rch B n (24, s, d, K, R) ac) (hk : tKd B n s = 2) (hl : ((R / 8192 : Nat) : Int) ≤ tNm B n s) (hh : tNm B n s ≤ 9999) : Rch B n (15, tNx B n s, d, K, R % 8192) (setC ac (27 + R / 8 % 16) (tNm B n s).toNat) := h.go (show sqN B n s ((R / 8192 : Nat) : Int) 9999 (fun s _ => (15, s, d, K, R % 8192)) = _ from stN_y hk hl hh)
theorem fn_24 (h : Rch B n (24, s, d, K, R) ac) : (tKd B n s ≠ 2 → outB B n (4096 + s)) ∧ (tKd B n s = 2 → tNm B n s < ((R / 8192 : Nat) : Int) ∨ 9999 < tNm B n s → outB B n (8192 + s)) := ⟨fun a => ⟨_, _, h, show sqN B n s ((R / 8192 : Nat) : Int) 9999 (fun s _ => (15, s, d, K, R % 8192)) = _ from stN_k a⟩, fun a b => ⟨_, _, h, show sqN B n s ((R / 8192 : Nat) : Int) 9999 (fun s _ => (15, s, d, K, R % 8192)) = _ from stN_o a b⟩⟩
theorem sn_25 (h : Rch B n (25, s, d, K, R) ac) (hk : tKd B n s = 2) (hl : 0 ≤ tNm B n s) (hh : tNm B n s ≤ (((R % 8 : Nat) : Int) - 1)) : Rch B n (26, tNx B n s, d, K, R) ac := h.go (show sqN B n s 0 (((R % 8 : Nat) : Int) - 1) (fun s _ => (26, s, d, K, R)) = _ from stN_y hk hl hh)
theorem fn_25 (h : Rch B n (25, s, d, K, R) ac) : (tKd B n s ≠ 2 → outB B n (4096 + s)) ∧ (tKd B n s = 2 → tNm B n s < 0 ∨ (((R % 8 : Nat) : Int) - 1) < tNm B n s → outB B n (8192 + s)) := ⟨fun a => ⟨_, _, h, show sqN B n s 0 (((R % 8 : Nat) : Int) - 1) (fun s _ => (26, s, d, K, R)) = _ from stN_k a⟩, fun a b => ⟨_, _, h, show sqN B n s 0 (((R % 8 : Nat) : Int) - 1) (fun s _ => (26, s, d, K, R)) = _ from stN_o a b⟩⟩
theorem sn_26 (h : Rch B n (26, s, d, K, R) ac) (hk : tKd B n s = 2) (hl : 1 ≤ tNm B n s) (hh : tNm B n s ≤ 99) : Rch B n (27, tNx B n s, d, K, R % 8192 + 8192 * (tNm B n s).toNat) ac := h.go (show sqN B n s 1 99 (fun s v => (27, s, d, K, R % 8192 + 8192 * v)) = _ from stN_y hk hl hh)
theorem fn_26 (h : Rch B n (26, s, d, K, R) ac) : (tKd B n s ≠ 2 → outB B n (4096 + s)) ∧ (tKd B n s = 2 → tNm B n s < 1 ∨ 99 < tNm B n s → outB B n (8192 + s)) := ⟨fun a => ⟨_, _, h, show sqN B n s 1 99 (fun s v => (27, s, d, K, R % 8192 + 8192 * v)) = _ from stN_k a⟩, fun a b => ⟨_, _, h, show sqN B n s 1 99 (fun s v => (27, s, d, K, R % 8192 + 8192 * v)) = _ from stN_o a b⟩⟩
theorem sn_27 (h : Rch B n (27, s, d, K, R) ac) (hk : tKd B n s = 2) (hl : 0 ≤ tNm B n s) (hh : tNm B n s ≤ ((R / 8192 : Nat) : Int)) : Rch B n (28, tNx B n s, d, K, R % 8192) ac := h.go (show sqN B n s 0 ((R / 8192 : Nat) : Int) (fun s _ => (28, s, d, K, R % 8192)) = _ from stN_y hk hl hh)
theorem fn_27 (h : Rch B n (27, s, d, K, R) ac) : (tKd B n s ≠ 2 → outB B n (4096 + s)) ∧ (tKd B n s = 2 → tNm B n s < 0 ∨ ((R / 8192 : Nat) : Int) < tNm B n s → outB B n (8192 + s)) := ⟨fun a => ⟨_, _, h, show sqN B n s 0 ((R / 8192 : Nat) : Int) (fun s _ => (28, s, d, K, R % 8192)) = _ from stN_k a⟩, fun a b => ⟨_, _, h, show sqN B n s 0 ((R / 8192 : Nat) : Int) (fun s _ => (28, s, d, K, R % 8192)) = _ from stN_o a b⟩⟩
theorem sn_28 (h : Rch B n (28, s, d, K, R) ac) (hk : tKd B n s = 2) (hl : 0 ≤ tNm B n s) (hh : tNm B n s ≤ 2000) : Rch B n (29, tNx B n s, d, K, R) ac := h.go (show sqN B n s 0 2000 (fun s _ => (29, s, d, K, R)) = _ from stN_y hk hl hh)
theorem fn_28 (h : Rch B n (28, s, d, K, R) ac) : (tKd B n s ≠ 2 → outB B n (4096 + s)) ∧ (tKd B n s = 2 → tNm B n s < 0 ∨ 2000 < tNm B n s → outB B n (8192 + s)) := ⟨fun a => ⟨_, _, h, show sqN B n s 0 2000 (fun s _ => (29, s, d, K, R)) = _ from stN_k a⟩, fun a b => ⟨_, _, h, show sqN B n s 0 2000 (fun s _ => (29, s, d, K, R)) = _ from stN_o a b⟩⟩
theorem sn_30 (h : Rch B n (30, s, d, K, R) ac) (hk : tKd B n s = 2) (hl : 1 ≤ tNm B n s) (hh : tNm B n s ≤ 30) : Rch B n (15, tNx B n s, d, K, R + 128) (newS ac (R / 8 % 16 - 1) (R / 128 % 8) (tNm B n s).toNat) := h.go (show sqN B n s 1 30 (fun s _ => (15, s, d, K, R + 128)) = _ from stN_y hk hl hh)
theorem fn_30 (h : Rch B n (30, s, d, K, R) ac) : (tKd B n s ≠ 2 → outB B n (4096 + s)) ∧ (tKd B n s = 2 → tNm B n s < 1 ∨ 30 < tNm B n s → outB B n (8192 + s)) := ⟨fun a => ⟨_, _, h, show sqN B n s 1 30 (fun s _ => (15, s, d, K, R + 128)) = _ from stN_k a⟩, fun a b => ⟨_, _, h, show sqN B n s 1 30 (fun s _ => (15, s, d, K, R + 128)) = _ from stN_o a b⟩⟩
theorem sn_42 (h : Rch B n (42, s, d, K, R) ac) (hk : tKd B n s = 2) (hl : 0 ≤ tNm B n s) (hh : tNm B n s ≤ 9999) : Rch B n (43, tNx B n s, d, K, R) ac := h.go (show sqN B n s 0 9999 (fun s _ => (43, s, d, K, R)) = _ from stN_y hk hl hh)
theorem fn_42 (h : Rch B n (42, s, d, K, R) ac) : (tKd B n s ≠ 2 → outB B n (4096 + s)) ∧ (tKd B n s = 2 → tNm B n s < 0 ∨ 9999 < tNm B n s → outB B n (8192 + s)) := ⟨fun a => ⟨_, _, h, show sqN B n s 0 9999 (fun s _ => (43, s, d, K, R)) = _ from stN_k a⟩, fun a b => ⟨_, _, h, show sqN B n s 0 9999 (fun s _ => (43, s, d, K, R)) = _ from stN_o a b⟩⟩
theorem g_semi (h : Rch B n (15, s, d, K, R) ac) (a : tSgB B n s 59 = true) : Rch B n (16, tNx B n s, d, K, R) ac := h.go (by
  show sp15 B n s d K R = _
  unfold sp15
  rw [if_pos a])
theorem o_end (h : Rch B n (15, s, d, K, R) ac) (a : tSgB B n s 59 = false) (b : tKd B n s ≠ 0) : outB B n (4096 + s) := ⟨_, _, h, by
  show sp15 B n s d K R = _
  unfold sp15
  rw [if_neg (nt a), if_pos b]
  exact eR_c (by omega)⟩
theorem o_end5 (h : Rch B n (15, s, d, K, R) ac) (a : tSgB B n s 59 = false) (b : tKd B n s = 0) (c : R / 8 % 16 = 0) : outB B n (20480 + s) := ⟨_, _, h, by
  show sp15 B n s d K R = _
  unfold sp15
  rw [if_neg (nt a), if_neg (fun q => q b), if_pos c]
  exact eR_c (by omega)⟩
theorem o_ok (h : Rch B n (15, s, d, K, R) ac) (a : tSgB B n s 59 = false) (b : tKd B n s = 0) (c : R / 8 % 16 ≠ 0) : outB B n (-1 - (R : Int)) := ⟨_, _, h, by
  show sp15 B n s d K R = _
  unfold sp15
  rw [if_neg (nt a), if_neg (fun q => q b), if_neg c]⟩
theorem g_17 (h : Rch B n (16, s, d, K, R) ac) (a : tIsB B n s (wd 7) = true) (b : R % 8 ≤ 5) : Rch B n (17, tNx B n s, d, K, R) ac := h.go (by
  show sp16 B n s d K R = _
  unfold sp16
  rw [if_pos a, if_neg (by omega)]) (if_neg (nt (wd_no a (by decide))))
theorem o_17 (h : Rch B n (16, s, d, K, R) ac) (a : tIsB B n s (wd 7) = true) (b : 6 ≤ R % 8) : outB B n (16384 + s) := ⟨_, _, h, by
  show sp16 B n s d K R = _
  unfold sp16
  rw [if_pos a, if_pos b]
  exact eR_c (by omega)⟩
theorem g_20 (h : Rch B n (16, s, d, K, R) ac) (a : tIsB B n s (wd 8) = true) (b : R / 8 % 16 ≤ 7) : Rch B n (20, tNx B n s, d, K, R) (newM ac (R / 8 % 16)) := h.go (by
  show sp16 B n s d K R = _
  unfold sp16
  rw [if_neg (nt (wd_no a (by decide))), if_pos a, if_neg (by omega)]) (if_pos a)
theorem o_20 (h : Rch B n (16, s, d, K, R) ac) (a : tIsB B n s (wd 8) = true) (b : 8 ≤ R / 8 % 16) : outB B n (16384 + s) := ⟨_, _, h, by
  show sp16 B n s d K R = _
  unfold sp16
  rw [if_neg (nt (wd_no a (by decide))), if_pos a, if_pos b]
  exact eR_c (by omega)⟩
theorem g_25 (h : Rch B n (16, s, d, K, R) ac) (a : tIsB B n s (wd 9) = true) (b : R / 8 % 16 ≠ 0) (c : R / 128 % 8 ≤ 4) : Rch B n (25, tNx B n s, d, K, R) ac := h.go (by
  show sp16 B n s d K R = _
  unfold sp16
  rw [if_neg (nt (wd_no a (by decide))), if_neg (nt (wd_no a (by decide))), if_pos a, if_neg b, if_neg (by omega)]) (if_neg (nt (wd_no a (by decide))))
theorem o_25n (h : Rch B n (16, s, d, K, R) ac) (a : tIsB B n s (wd 9) = true) (b : R / 8 % 16 = 0) : outB B n (12288 + s) := ⟨_, _, h, by
  show sp16 B n s d K R = _
  unfold sp16
  rw [if_neg (nt (wd_no a (by decide))), if_neg (nt (wd_no a (by decide))), if_pos a, if_pos b]
  exact eR_c (by omega)⟩
theorem o_25 (h : Rch B n (16, s, d, K, R) ac) (a : tIsB B n s (wd 9) = true) (b : R / 8 % 16 ≠ 0) (c : 5 ≤ R / 128 % 8) : outB B n (16384 + s) := ⟨_, _, h, by
  show sp16 B n s d K R = _
  unfold sp16
  rw [if_neg (nt (wd_no a (by decide))), if_neg (nt (wd_no a (by decide))), if_pos a, if_neg b, if_pos c]
  exact eR_c (by omega)⟩
theorem g_40 (h : Rch B n (16, s, d, K, R) ac) (a : tIsB B n s (wd 10) = true) (b : R / 1024 % 8 ≤ 3) : Rch B n (40, tNx B n s, 0, 0, R) ac := h.go (by
  show sp16 B n s d K R = _
  unfold sp16
  rw [if_neg (nt (wd_no a (by decide))), if_neg (nt (wd_no a (by decide))), if_neg (nt (wd_no a (by decide))), if_pos a, if_neg (by omega)]) (if_neg (nt (wd_no a (by decide))))
theorem o_40 (h : Rch B n (16, s, d, K, R) ac) (a : tIsB B n s (wd 10) = true) (b : 4 ≤ R / 1024 % 8) : outB B n (16384 + s) := ⟨_, _, h, by
  show sp16 B n s d K R = _
  unfold sp16
  rw [if_neg (nt (wd_no a (by decide))), if_neg (nt (wd_no a (by decide))), if_neg (nt (wd_no a (by decide))), if_pos a, if_pos b]
  exact eR_c (by omega)⟩
theorem o_16 (h : Rch B n (16, s, d, K, R) ac) (a : tIsB B n s (wd 7) = false) (b : tIsB B n s (wd 8) = false) (c : tIsB B n s (wd 9) = false) (e : tIsB B n s (wd 10) = false) : outB B n (4096 + s) := ⟨_, _, h, by
  show sp16 B n s d K R = _
  unfold sp16
  rw [if_neg (nt a), if_neg (nt b), if_neg (nt c), if_neg (nt e)]
  exact eR_c (by omega)⟩
theorem g_23 (h : Rch B n (22, s, d, K, R) ac) (a : tIsB B n s (wd 11) = true) : Rch B n (23, tNx B n s, d, K, R) ac := h.go (by
  show sp22 B n s d K R = _
  unfold sp22
  rw [if_pos a])
theorem g_22 (h : Rch B n (22, s, d, K, R) ac) (a : tIsB B n s (wd 11) = false) : Rch B n (15, s, d, K, R) ac := h.go (by
  show sp22 B n s d K R = _
  unfold sp22
  rw [if_neg (nt a)])
theorem g_30 (h : Rch B n (29, s, d, K, R) ac) (a : tIsB B n s (wd 12) = true) : Rch B n (30, tNx B n s, d, K, R) ac := h.go (by
  show sp29 B n s d K R = _
  unfold sp29
  rw [if_pos a]) (if_pos a)
theorem g_29 (h : Rch B n (29, s, d, K, R) ac) (a : tIsB B n s (wd 12) = false) : Rch B n (15, s, d, K, R + 128) (newS ac (R / 8 % 16 - 1) (R / 128 % 8) 1) := h.go (by
  show sp29 B n s d K R = _
  unfold sp29
  rw [if_neg (nt a)]) (if_neg (nt a))
theorem g_unN (h : Rch B n (40, s, d, K, R) ac) (a : tIsB B n s (wd 13) = true) (b : d ≤ 9) : Rch B n (40, tNx B n s, d + 1, 2 * K, R) ac := h.go (by
  show sp40 B n s d K R = _
  unfold sp40
  rw [if_pos a, if_neg (by omega)])
theorem o_unN (h : Rch B n (40, s, d, K, R) ac) (a : tIsB B n s (wd 13) = true) (b : 10 ≤ d) : outB B n (24576 + s) := ⟨_, _, h, by
  show sp40 B n s d K R = _
  unfold sp40
  rw [if_pos a, if_pos b]
  exact eR_c (by omega)⟩
theorem g_unP (h : Rch B n (40, s, d, K, R) ac) (a : tSgB B n s 40 = true) (b : d ≤ 9) : Rch B n (40, tNx B n s, d + 1, 2 * K + 1, R) ac := h.go (by
  show sp40 B n s d K R = _
  unfold sp40
  rw [if_neg (nt (sg_wd a)), if_pos a, if_neg (by omega)])
theorem o_unP (h : Rch B n (40, s, d, K, R) ac) (a : tSgB B n s 40 = true) (b : 10 ≤ d) : outB B n (24576 + s) := ⟨_, _, h, by
  show sp40 B n s d K R = _
  unfold sp40
  rw [if_neg (nt (sg_wd a)), if_pos a, if_pos b]
  exact eR_c (by omega)⟩
theorem iv_sg {v : Int} (h : tIv B n s = true) : tSgB B n s v = false := ff fun hb => by
  have h1 := (sg_el.mp hb).1
  have h2 := (iv_kd h).1
  omega
theorem g_unV (h : Rch B n (40, s, d, K, R) ac) (a : tIv B n s = true) (b : d ≤ 9) : Rch B n (41, tNx B n s, d, K, R) ac := h.go (by
  show sp40 B n s d K R = _
  unfold sp40
  rw [if_neg (nt (iv_kd a).2), if_neg (nt (iv_sg a)), if_pos a, if_neg (by omega)])
theorem o_unV (h : Rch B n (40, s, d, K, R) ac) (a : tIv B n s = true) (b : 10 ≤ d) : outB B n (24576 + s) := ⟨_, _, h, by
  show sp40 B n s d K R = _
  unfold sp40
  rw [if_neg (nt (iv_kd a).2), if_neg (nt (iv_sg a)), if_pos a, if_pos b]
  exact eR_c (by omega)⟩
theorem o_un (h : Rch B n (40, s, d, K, R) ac) (a : tIsB B n s (wd 13) = false) (b : tSgB B n s 40 = false) (c : tIv B n s = false) : outB B n (4096 + s) := ⟨_, _, h, by
  show sp40 B n s d K R = _
  unfold sp40
  rw [if_neg (nt a), if_neg (nt b), if_neg (nt c)]
  exact eR_c (by omega)⟩
theorem g_cm (h : Rch B n (41, s, d, K, R) ac) (a : tCm B n s = true) : Rch B n (42, tNx B n s, d, K, R) ac := h.go (by
  show sp41 B n s d K R = _
  unfold sp41
  rw [if_pos a])
theorem o_cm (h : Rch B n (41, s, d, K, R) ac) (a : tCm B n s = false) : outB B n (4096 + s) := ⟨_, _, h, by
  show sp41 B n s d K R = _
  unfold sp41
  rw [if_neg (nt a)]
  exact eR_c (by omega)⟩
theorem g_afN (h : Rch B n (43, s, d, K, R) ac) (a : 0 < d) (b : K % 2 = 0) : Rch B n (43, s, d - 1, K / 2, R) ac := h.go (by
  show sp43 B n s d K R = _
  unfold sp43
  rw [if_pos ⟨a, b⟩])
theorem g_afP (h : Rch B n (43, s, d, K, R) ac) (a : 0 < d) (b : K % 2 = 1) (c : tAo B n s = false) (e : tSgB B n s 41 = true) : Rch B n (43, tNx B n s, d - 1, K / 2, R) ac := h.go (by
  show sp43 B n s d K R = _
  unfold sp43
  rw [if_neg (by omega), if_neg (nt c), if_neg (by omega), if_pos e])
theorem o_afX (h : Rch B n (43, s, d, K, R) ac) (a : 0 < d) (b : K % 2 = 1) (c : tAo B n s = false) (e : tSgB B n s 41 = false) : outB B n (4096 + s) := ⟨_, _, h, by
  show sp43 B n s d K R = _
  unfold sp43
  rw [if_neg (by omega), if_neg (nt c), if_neg (by omega), if_neg (nt e)]
  exact eR_c (by omega)⟩
theorem g_ao (h : Rch B n (43, s, d, K, R) ac) (a : d = 0 ∨ K % 2 = 1) (b : tAo B n s = true) : Rch B n (40, tNx B n s, d, K, R) ac := h.go (by
  show sp43 B n s d K R = _
  unfold sp43
  rw [if_neg (by omega), if_pos b])
theorem g_rl (h : Rch B n (43, s, d, K, R) ac) (a : d = 0) (b : tAo B n s = false) : Rch B n (15, s, 0, 0, R + 1024) ac := h.go (by
  show sp43 B n s d K R = _
  unfold sp43
  rw [if_neg (by omega), if_neg (nt b), if_pos a])
theorem o_okA (h : Rch B n (15, s, d, K, R) ac) (a : tSgB B n s 59 = false) (b : tKd B n s = 0) (c : R / 8 % 16 ≠ 0) : endA B n ac := ⟨_, -1 - (R : Int), h, by
  show sp15 B n s d K R = _
  unfold sp15
  rw [if_neg (nt a), if_neg (fun q => q b), if_neg c], by omega⟩
end GO
end TX
