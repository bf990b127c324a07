/-! Linear expressions over numbered unknowns, and what follows from lists of them that are not negative. -/
section LIN
abbrev LE : Type := Int × List (Nat × Int)
abbrev Va : Type := Nat → Int
def evT (ρ : Va) : List (Nat × Int) → Int
  | [] => 0
  | q :: r => q.2 * ρ q.1 + evT ρ r
def ev (ρ : Va) (e : LE) : Int := e.1 + evT ρ e.2
def insT (q : Nat × Int) : List (Nat × Int) → List (Nat × Int)
  | [] => [q]
  | p :: r => if q.1 = p.1 then (if q.2 + p.2 = 0 then r else (q.1, q.2 + p.2) :: r) else if q.1 < p.1 then q :: p :: r else p :: insT q r
def addT : List (Nat × Int) → List (Nat × Int) → List (Nat × Int)
  | [], b => b
  | q :: r, b => insT q (addT r b)
def addE (a b : LE) : LE := (a.1 + b.1, addT a.2 b.2)
def mulT (k : Int) : List (Nat × Int) → List (Nat × Int)
  | [] => []
  | q :: r => (q.1, k * q.2) :: mulT k r
def mulE (k : Int) (a : LE) : LE := if k = 0 then (0, []) else (k * a.1, mulT k a.2)
def subE (a b : LE) : LE := addE a (mulE (-1) b)
def cE (c : Int) : LE := (c, [])
def vE (v : Nat) : LE := (0, [(v, 1)])
theorem evT_ins {ρ : Va} {q : Nat × Int} : ∀ {l : List (Nat × Int)}, evT ρ (insT q l) = q.2 * ρ q.1 + evT ρ l
  | [] => rfl
  | p :: r => by
    unfold insT
    split
    next h =>
      split
      next h0 =>
        show evT ρ r = q.2 * ρ q.1 + (p.2 * ρ p.1 + evT ρ r)
        rw [← h, ← Int.add_assoc, ← Int.add_mul, h0]
        omega
      next =>
        show (q.2 + p.2) * ρ q.1 + evT ρ r = q.2 * ρ q.1 + (p.2 * ρ p.1 + evT ρ r)
        rw [← h, Int.add_mul]
        omega
    next =>
      split
      next => rfl
      next =>
        show p.2 * ρ p.1 + evT ρ (insT q r) = q.2 * ρ q.1 + (p.2 * ρ p.1 + evT ρ r)
        rw [evT_ins]
        omega
theorem evT_add {ρ : Va} : ∀ {a b : List (Nat × Int)}, evT ρ (addT a b) = evT ρ a + evT ρ b
  | [], b => by show evT ρ b = 0 + evT ρ b; omega
  | q :: r, b => by
    show evT ρ (insT q (addT r b)) = q.2 * ρ q.1 + evT ρ r + evT ρ b
    rw [evT_ins, evT_add]
    omega
theorem evT_mul {ρ : Va} {k : Int} : ∀ {a : List (Nat × Int)}, evT ρ (mulT k a) = k * evT ρ a
  | [] => by show (0 : Int) = k * 0; omega
  | q :: r => by
    show k * q.2 * ρ q.1 + evT ρ (mulT k r) = k * (q.2 * ρ q.1 + evT ρ r)
    rw [evT_mul, Int.mul_add, Int.mul_assoc]
theorem ev_add {ρ : Va} {a b : LE} : ev ρ (addE a b) = ev ρ a + ev ρ b := by
  show a.1 + b.1 + evT ρ (addT a.2 b.2) = a.1 + evT ρ a.2 + (b.1 + evT ρ b.2)
  rw [evT_add]
  omega
theorem ev_mul {ρ : Va} {k : Int} {a : LE} : ev ρ (mulE k a) = k * ev ρ a := by
  unfold mulE
  split
  next h => rw [h]; show (0 : Int) + 0 = 0 * _; omega
  next =>
    show k * a.1 + evT ρ (mulT k a.2) = k * (a.1 + evT ρ a.2)
    rw [evT_mul, Int.mul_add]
theorem ev_sub {ρ : Va} {a b : LE} : ev ρ (subE a b) = ev ρ a - ev ρ b := by
  show ev ρ (addE a (mulE (-1) b)) = _
  rw [ev_add, ev_mul]
  omega
theorem ev_c {ρ : Va} {c : Int} : ev ρ (cE c) = c := by show c + 0 = c; omega
theorem ev_v {ρ : Va} {v : Nat} : ev ρ (vE v) = ρ v := by show 0 + (1 * ρ v + 0) = ρ v; omega
def addC (k : Int) (e : LE) : LE := (k + e.1, e.2)
theorem ev_addC {ρ : Va} {k : Int} {e : LE} : ev ρ (addC k e) = k + ev ρ e := by show k + e.1 + evT ρ e.2 = k + (e.1 + evT ρ e.2); omega
def coef (v : Nat) : List (Nat × Int) → Int
  | [] => 0
  | q :: r => if q.1 = v then q.2 else coef v r
/-- does g ≥ 0 follow from F: one unknown after the other is taken out -/
def ent0 (F : List LE) : Nat → LE → Bool
  | 0, g => match g.2 with
    | [] => decide (0 ≤ g.1)
    | _ :: _ => false
  | d + 1, g => match g.2 with
    | [] => decide (0 ≤ g.1)
    | q :: _ => F.any fun f => if q.2 = 0 then false else if 0 < q.2 then (if 0 < coef q.1 f.2 then ent0 F d (addC (coef q.1 f.2 - 1) (subE (mulE (coef q.1 f.2) g) (mulE q.2 f))) else false)
        else if coef q.1 f.2 < 0 then ent0 F d (addC (-(coef q.1 f.2) - 1) (subE (mulE (-(coef q.1 f.2)) g) (mulE (-q.2) f))) else false
def aF (ρ : Va) (F : List LE) : Prop := ∀ f ∈ F, 0 ≤ ev ρ f
theorem nn_of {a b k c : Int} (hc : 0 < c) (hk : 0 ≤ k) (hb : 0 ≤ b) (h : 0 ≤ c - 1 + (c * a - k * b)) : 0 ≤ a := by
  have h1 : 0 ≤ k * b := Int.mul_nonneg hk hb
  by_cases h3 : 0 ≤ a
  · exact h3
  · have h4 : c * a ≤ c * (-1) := Int.mul_le_mul_of_nonneg_left (by omega) (by omega)
    omega
theorem ent0_ok {ρ : Va} {F : List LE} (hF : aF ρ F) : ∀ (d : Nat) (g : LE), ent0 F d g = true → 0 ≤ ev ρ g
  | 0, (c, []), h => by
    have h : decide (0 ≤ c) = true := h
    have h := of_decide_eq_true h
    show 0 ≤ c + 0
    omega
  | 0, (c, q :: r), h => by cases h
  | d + 1, (c, []), h => by
    have h : decide (0 ≤ c) = true := h
    have h := of_decide_eq_true h
    show 0 ≤ c + 0
    omega
  | d + 1, (c, q :: r), h => by
    have h : (F.any fun f => if q.2 = 0 then false else if 0 < q.2 then (if 0 < coef q.1 f.2 then ent0 F d (addC (coef q.1 f.2 - 1) (subE (mulE (coef q.1 f.2) (c, q :: r)) (mulE q.2 f))) else false)
        else if coef q.1 f.2 < 0 then ent0 F d (addC (-(coef q.1 f.2) - 1) (subE (mulE (-(coef q.1 f.2)) (c, q :: r)) (mulE (-q.2) f))) else false) = true := h
    obtain ⟨f, hf, h2⟩ := List.any_eq_true.mp h
    have hf0 := hF f hf
    split at h2
    · cases h2
    next h0 =>
    split at h2
    next hp =>
      split at h2
      next hq =>
        have h3 := ent0_ok hF d _ h2
        rw [ev_addC, ev_sub, ev_mul, ev_mul] at h3
        exact nn_of hq (by omega) hf0 h3
      next => cases h2
    next hp =>
      split at h2
      next hq =>
        have h3 := ent0_ok hF d _ h2
        rw [ev_addC, ev_sub, ev_mul, ev_mul] at h3
        exact nn_of (by omega) (by omega) hf0 h3
      next => cases h2
/-- the short ways first -/
def ent (F : List LE) : Nat → LE → Bool
  | 0, g => ent0 F 0 g
  | d + 1, g => ent F d g || (match g.2 with
    | [] => false
    | _ :: _ => ent0 F (d + 1) g)
theorem ent_ok {ρ : Va} {F : List LE} (hF : aF ρ F) : ∀ (d : Nat) (g : LE), ent F d g = true → 0 ≤ ev ρ g
  | 0, g, h => ent0_ok hF 0 g h
  | d + 1, g, h => by
    unfold ent at h
    rcases (Bool.or_eq_true _ _).mp h with h1 | h1
    · exact ent_ok hF d g h1
    · split at h1
      · cases h1
      · exact ent0_ok hF _ g h1
/-- does the unknown occur -/
def occT (n : Nat) (l : List (Nat × Int)) : Bool := l.any fun q => q.1 == n
def occE (n : Nat) (e : LE) : Bool := occT n e.2
def uV (ρ : Va) (n : Nat) (x : Int) : Va := fun i => if i = n then x else ρ i
theorem uV_n {ρ : Va} {n : Nat} {x : Int} : uV ρ n x n = x := if_pos rfl
theorem uV_o {ρ : Va} {n i : Nat} {x : Int} (h : i ≠ n) : uV ρ n x i = ρ i := if_neg h
theorem evT_u {ρ : Va} {n : Nat} {x : Int} : ∀ {l : List (Nat × Int)}, occT n l = false → evT (uV ρ n x) l = evT ρ l
  | [], _ => rfl
  | q :: r, h => by
    simp only [occT, List.any_cons, Bool.or_eq_false_iff, beq_eq_false_iff_ne] at h
    show q.2 * uV ρ n x q.1 + evT (uV ρ n x) r = q.2 * ρ q.1 + evT ρ r
    rw [uV_o h.1, evT_u h.2]
theorem ev_u {ρ : Va} {n : Nat} {x : Int} {e : LE} (h : occE n e = false) : ev (uV ρ n x) e = ev ρ e := by
  show e.1 + evT (uV ρ n x) e.2 = e.1 + evT ρ e.2
  rw [evT_u h]
/-- the unknowns put in -/
def sbT (θ : List LE) : List (Nat × Int) → LE
  | [] => (0, [])
  | q :: r => addE (mulE q.2 (θ.getD q.1 (0, []))) (sbT θ r)
def sbE (θ : List LE) (e : LE) : LE := addE (cE e.1) (sbT θ e.2)
theorem ev_sbT {ρ : Va} {θ : List LE} : ∀ {l : List (Nat × Int)}, ev ρ (sbT θ l) = evT (fun i => ev ρ (θ.getD i (0, []))) l
  | [] => by show (0 : Int) + 0 = 0; omega
  | q :: r => by
    show ev ρ (addE _ _) = _ * _ + _
    rw [ev_add, ev_mul, ev_sbT]
theorem ev_sb {ρ : Va} {θ : List LE} {e : LE} : ev ρ (sbE θ e) = ev (fun i => ev ρ (θ.getD i (0, []))) e := by
  show ev ρ (addE _ _) = e.1 + _
  rw [ev_add, ev_c, ev_sbT]
end LIN
