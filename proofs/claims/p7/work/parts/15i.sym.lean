/-! States of which only part is known: unknowns stand for numbers and cells; what holds of every cell by its group. -/
section SYM
abbrev sV : Type := Nat × LE
abbrev kS : Type := Nat × Int × Int
/-- kinds of cells: objects (class, fields); arrays (kind, length, period, segments: end, what they hold) -/
abbrev gS : Type := (Nat × List kS) ⊕ (Nat × Nat × Nat × List (Nat × kS))
/-- next unknown; locals; stack; what is not negative; groups of cells; fields known; elements known; further facts -/
abbrev sS : Type := Nat × List (Nat × sV) × List sV × List LE × List (LE × Nat) × List (LE × Nat × sV) × List (LE × LE × sV) × List (Nat × LE × LE)
/-- what a further fact hangs on: groups, fields or segments; for arrays: at what indices a write leaves it (lists of expressions over the fact's two numbers and the index, all not negative) -/
abbrev dT : Type := Nat → List (Nat × Nat × List (List LE))
abbrev mC : Type := (Nat → Int32) ⊕ (Nat → Int64) ⊕ (Nat → UInt32) ⊕ (Nat → UInt64) ⊕ (Nat → Option Nat)
def eqT : List (Nat × Int) → List (Nat × Int) → Bool
  | [], [] => true
  | p :: r, q :: s => Nat.beq p.1 q.1 && (decide (p.2 = q.2) && eqT r s)
  | _, _ => false
def eqE (a b : LE) : Bool := decide (a.1 = b.1) && eqT a.2 b.2
theorem eqT_ok : ∀ {a b : List (Nat × Int)}, eqT a b = true → a = b
  | [], [], _ => rfl
  | p :: r, q :: s, h => by
    simp only [eqT, Bool.and_eq_true, decide_eq_true_eq] at h
    have h1 : p.1 = q.1 := Nat.eq_of_beq_eq_true h.1
    rw [eqT_ok h.2.2, Prod.ext h1 h.2.1]
  | [], _ :: _, h => by cases h
  | _ :: _, [], h => by cases h
theorem eqE_ok {a b : LE} (h : eqE a b = true) : a = b := by
  simp only [eqE, Bool.and_eq_true, decide_eq_true_eq] at h
  exact Prod.ext h.1 (eqT_ok h.2)
def eqV (a b : sV) : Bool := Nat.beq a.1 b.1 && eqE a.2 b.2
theorem eqV_ok {a b : sV} (h : eqV a b = true) : a = b := by
  simp only [eqV, Bool.and_eq_true] at h
  exact Prod.ext (Nat.eq_of_beq_eq_true h.1) (eqE_ok h.2)
/-- 0 a number, 1 a cell, 2 null, 3 a long, 4 a float, 5 a double, 7 a long that is known, else an exception in hand -/
def dV (ρ : Va) (s : sV) (v : Value) : Prop := match s.1 with
  | 0 => ∃ x : Int32, v = .int x ∧ x.toInt = ev ρ s.2
  | 1 => 0 ≤ ev ρ s.2 ∧ v = .ref (ev ρ s.2).toNat
  | 2 => v = .null
  | 3 => ∃ x, v = .long x
  | 4 => ∃ x, v = .float x
  | 5 => ∃ x, v = .double x
  | 7 => ∃ x : Int64, v = .long x ∧ x.toInt = ev ρ s.2
  | _ => ∃ k, v = .retAddr k
def catS (s : sV) : Nat := if s.1 = 3 ∨ s.1 = 5 ∨ s.1 = 7 then 2 else 1
theorem dV_cat {ρ : Va} {s : sV} {v : Value} (h : dV ρ s v) : v.category = catS s := by
  obtain ⟨t, e⟩ := s
  unfold dV at h
  match t, h with
  | 0, h => obtain ⟨x, rfl, -⟩ := h; rfl
  | 1, h => rw [h.2]; rfl
  | 2, h => have h : v = .null := h; rw [h]; rfl
  | 3, h => obtain ⟨x, rfl⟩ := h; rfl
  | 4, h => obtain ⟨x, rfl⟩ := h; rfl
  | 5, h => obtain ⟨x, rfl⟩ := h; rfl
  | 6, h => obtain ⟨k, rfl⟩ := h; rfl
  | 7, h => obtain ⟨x, rfl, -⟩ := h; rfl
  | n + 8, h =>
    obtain ⟨k, rfl⟩ := h
    show 1 = _
    unfold catS
    rw [if_neg (by dsimp only; omega)]
theorem dV_u {ρ : Va} {n : Nat} {x : Int} {s : sV} {v : Value} (ho : occE n s.2 = false) (h : dV ρ s v) : dV (uV ρ n x) s v := by
  obtain ⟨t, e⟩ := s
  unfold dV at h ⊢
  dsimp only at h ho ⊢
  rw [ev_u ho]
  exact h
def aS (ρ : Va) : List sV → List Value → Prop
  | [], [] => True
  | s :: r, v :: w => dV ρ s v ∧ aS ρ r w
  | _, _ => False
def aL (ρ : Va) (L : List (Nat × sV)) (lv : mL) : Prop := ∀ q ∈ L, ∃ v, gl lv q.1 = some v ∧ dV ρ q.2 v
def elV (c : mC) (i : Nat) : Value := match c with
  | .inl f => .int (f i)
  | .inr (.inl f) => .long (f i)
  | .inr (.inr (.inl f)) => .float (f i)
  | .inr (.inr (.inr (.inl f))) => .double (f i)
  | .inr (.inr (.inr (.inr f))) => va_rf (f i)
def kdC (c : mC) : Nat := match c with
  | .inl _ => 0
  | .inr (.inl _) => 4
  | .inr (.inr (.inl _)) => 5
  | .inr (.inr (.inr (.inl _))) => 6
  | .inr (.inr (.inr (.inr _))) => 7
def kdT (t : Nat) : Nat := if t < 4 then 0 else if t < 7 then t else 7
/-- the contents' kind; of what is there: Strings (one reference), else bytes -/
def kdN (t n : Nat) : Nat := if t = 999 then (if n = 1 then 7 else 0) else kdT t
def aG (G : Nat → Nat) (ρ : Va) (gr : List (LE × Nat)) : Prop := ∀ q ∈ gr, 0 ≤ ev ρ q.1 ∧ G (ev ρ q.1).toNat = q.2
def aH (ρ : Va) (hf : List (LE × Nat × sV)) (h : mH) : Prop := ∀ q ∈ hf, ∃ ci fs v, h[(ev ρ q.1).toNat]? = some (.inr (ci, fs)) ∧ fs[q.2.1]? = some v ∧ dV ρ q.2.2 v
def aA (ρ : Va) (af : List (LE × LE × sV)) (h : mH) : Prop := ∀ q ∈ af, ∃ t n c, h[(ev ρ q.1).toNat]? = some (.inl (t, n, c)) ∧ 0 ≤ ev ρ q.2.1 ∧ ev ρ q.2.1 < n ∧ dV ρ q.2.2 (elV c (ev ρ q.2.1).toNat)
def aP (PR : Nat → Int → Int → mH → Prop) (ρ : Va) (pr : List (Nat × LE × LE)) (h : mH) : Prop := ∀ q ∈ pr, PR q.1 (ev ρ q.2.1) (ev ρ q.2.2) h
def abs (PR : Nat → Int → Int → mH → Prop) (G : Nat → Nat) (ρ : Va) (S : sS) (lv : mL) (st : List Value) (h : mH) : Prop :=
  aL ρ S.2.1 lv ∧ aS ρ S.2.2.1 st ∧ aF ρ S.2.2.2.1 ∧ aG G ρ S.2.2.2.2.1 ∧ aH ρ S.2.2.2.2.2.1 h ∧ aA ρ S.2.2.2.2.2.2.1 h ∧ aP PR ρ S.2.2.2.2.2.2.2 h
/-- does the unknown occur anywhere -/
def occS (n : Nat) (S : sS) : Bool := S.2.1.any (fun q => occE n q.2.2) || (S.2.2.1.any (fun s => occE n s.2) || (S.2.2.2.1.any (fun f => occE n f) || (S.2.2.2.2.1.any (fun q => occE n q.1) ||
  (S.2.2.2.2.2.1.any (fun q => occE n q.1 || occE n q.2.2.2) || (S.2.2.2.2.2.2.1.any (fun q => occE n q.1 || (occE n q.2.1 || occE n q.2.2.2)) || S.2.2.2.2.2.2.2.any (fun q => occE n q.2.1 || occE n q.2.2))))))
theorem any_no {α : Type} {p : α → Bool} {l : List α} (h : l.any p = false) : ∀ q ∈ l, p q = false := by
  intro q hq
  cases hp : p q with
  | false => rfl
  | true => rw [List.any_eq_true.mpr ⟨q, hq, hp⟩] at h; cases h
theorem aS_u {ρ : Va} {n : Nat} {x : Int} : ∀ {l : List sV} {st : List Value}, l.any (fun s => occE n s.2) = false → aS ρ l st → aS (uV ρ n x) l st
  | [], [], _, _ => trivial
  | s :: r, v :: w, h, ha => by
    simp only [List.any_cons, Bool.or_eq_false_iff] at h
    exact ⟨dV_u h.1 ha.1, aS_u h.2 ha.2⟩
  | [], _ :: _, _, ha => ha.elim
  | _ :: _, [], _, ha => ha.elim
variable {PR : Nat → Int → Int → mH → Prop} {G : Nat → Nat} {ρ : Va} {S : sS} {lv : mL} {st : List Value} {h : mH}
theorem abs_u {n : Nat} {x : Int} (ho : occS n S = false) (ha : abs PR G ρ S lv st h) : abs PR G (uV ρ n x) S lv st h := by
  unfold occS at ho
  simp only [Bool.or_eq_false_iff] at ho
  obtain ⟨o1, o2, o3, o4, o5, o6, o7⟩ := ho
  obtain ⟨a1, a2, a3, a4, a5, a6, a7⟩ := ha
  refine ⟨fun q hq => ?_, aS_u o2 a2, fun f hf => ?_, fun q hq => ?_, fun q hq => ?_, fun q hq => ?_, fun q hq => ?_⟩
  · obtain ⟨v, h1, h2⟩ := a1 q hq
    exact ⟨v, h1, dV_u (any_no o1 q hq) h2⟩
  · rw [ev_u (any_no o3 f hf)]
    exact a3 f hf
  · rw [ev_u (any_no o4 q hq)]
    exact a4 q hq
  · have o := any_no o5 q hq
    simp only [Bool.or_eq_false_iff] at o
    obtain ⟨ci, fs, v, h1, h2, h3⟩ := a5 q hq
    exact ⟨ci, fs, v, by rw [ev_u o.1]; exact h1, h2, dV_u o.2 h3⟩
  · have o := any_no o6 q hq
    simp only [Bool.or_eq_false_iff] at o
    obtain ⟨t, n, c, h1, h2, h3, h4⟩ := a6 q hq
    exact ⟨t, n, c, by rw [ev_u o.1]; exact h1, by rw [ev_u o.2.1]; exact h2, by rw [ev_u o.2.1]; exact h3, by rw [ev_u o.2.1]; exact dV_u o.2.2 h4⟩
  · have o := any_no o7 q hq
    simp only [Bool.or_eq_false_iff] at o
    rw [ev_u o.1, ev_u o.2]
    exact a7 q hq
/-- what a field or an element holds -/
def fOK (G : Nat → Nat) (f : kS) (v : Value) : Prop := match f.1 with
  | 0 => ∃ x : Int32, v = .int x ∧ f.2.1 ≤ x.toInt ∧ x.toInt ≤ f.2.2
  | 1 => ∃ a, v = .ref a ∧ G a = f.2.1.toNat
  | 2 => v = .null ∨ ∃ a, v = .ref a ∧ G a = f.2.1.toNat
  | 3 => ∃ x, v = .long x
  | 4 => ∃ x, v = .float x
  | 5 => ∃ x, v = .double x
  | _ => True
def segAt : List (Nat × kS) → Nat → Nat → Option (Nat × kS)
  | [], _, _ => none
  | p :: r, i, k => if i < p.1 then some (k, p.2) else segAt r i (k + 1)
def cellOK (G : Nat → Nat) (sp : gS) (e : mE) : Prop := match sp, e with
  | .inl (ci, fs), .inr (cj, vs) => cj = ci ∧ vs.length = fs.length ∧ ∀ (k : Nat) (f : kS), fs[k]? = some f → ∃ v, vs[k]? = some v ∧ fOK G f v
  | .inr (t, n, p, sg), .inl (t', n', c) => t' = t ∧ n' = n ∧ kdC c = kdN t n ∧ ∀ i, i < n → ∃ k f, segAt sg (i % p) 0 = some (k, f) ∧ fOK G f (elV c i)
  | _, _ => False
/-- is it there from the start (rows of the groups from 600 on are made later) -/
def exG (g : Nat) (sp : gS) : Prop := match sp with
  | .inl _ => True
  | .inr _ => g < 600
def TI (G : Nat → Nat) (gs : Nat → Option gS) (h : mH) : Prop := ∀ x sp, gs (G x) = some sp → (exG (G x) sp → ∃ e, h[x]? = some e) ∧ ∀ e, h[x]? = some e → cellOK G sp e
/-- what has not changed: all but the fields and segments that md names, by group -/
def sgK (gs : Nat → Option gS) (g i : Nat) : Option Nat := match gs g with
  | some (.inr (_, _, p, sg)) => (segAt sg (i % p) 0).map fun q => q.1
  | _ => none
def frC (G : Nat → Nat) (gs : Nat → Option gS) (md : List (Nat × Nat)) (x : Nat) (e e' : mE) : Prop := match e with
  | .inr (ci, fs) => ∃ fs', e' = .inr (ci, fs') ∧ fs'.length = fs.length ∧ ∀ k, (G x, k) ∉ md → fs'[k]? = fs[k]?
  | .inl (t, n, c) => ∃ c', e' = .inl (t, n, c') ∧ kdC c' = kdC c ∧ ∀ i, i < n → (∀ k, sgK gs (G x) i = some k → (G x, k) ∉ md) → elV c' i = elV c i
def fr (G : Nat → Nat) (gs : Nat → Option gS) (md : List (Nat × Nat)) (h h' : mH) : Prop := (h.length ≤ h'.length ∧ ((699, 0) ∉ md → h'.length = h.length)) ∧ ∀ x e e', h[x]? = some e → h'[x]? = some e' → frC G gs md x e e'
variable {gs : Nat → Option gS} {md md' : List (Nat × Nat)} {h' h'' : mH}
theorem frC_rf {x : Nat} {e : mE} : frC G gs md x e e := by
  obtain ⟨t, n, c⟩ | ⟨ci, fs⟩ := e
  · exact ⟨c, rfl, rfl, fun _ _ _ => rfl⟩
  · exact ⟨fs, rfl, rfl, fun _ _ => rfl⟩
theorem fr_rf : fr G gs md h h := ⟨⟨Nat.le_refl _, fun _ => rfl⟩, fun x e e' h1 h2 => by cases h1.symm.trans h2; exact frC_rf⟩
theorem frC_mono (hm : ∀ q ∈ md, q ∈ md') {x : Nat} {e e' : mE} (hf : frC G gs md x e e') : frC G gs md' x e e' := by
  obtain ⟨t, n, c⟩ | ⟨ci, fs⟩ := e
  · obtain ⟨c', h1, h2, h3⟩ := hf
    exact ⟨c', h1, h2, fun i hi hk => h3 i hi fun k h4 h5 => hk k h4 (hm _ h5)⟩
  · obtain ⟨fs', h1, h2, h3⟩ := hf
    exact ⟨fs', h1, h2, fun k hk => h3 k fun h5 => hk (hm _ h5)⟩
theorem fr_mono (hm : ∀ q ∈ md, q ∈ md') (hf : fr G gs md h h') : fr G gs md' h h' := ⟨⟨hf.1.1, fun hn => hf.1.2 fun h9 => hn (hm _ h9)⟩, fun x e e' h1 h2 => frC_mono hm (hf.2 x e e' h1 h2)⟩
theorem frC_tr {x : Nat} {e e' e'' : mE} (h1 : frC G gs md x e e') (h2 : frC G gs md x e' e'') : frC G gs md x e e'' := by
  obtain ⟨t, n, c⟩ | ⟨ci, fs⟩ := e
  · obtain ⟨c', rfl, a2, a3⟩ := h1
    obtain ⟨c'', rfl, b2, b3⟩ := h2
    exact ⟨c'', rfl, b2.trans a2, fun i hi hk => (b3 i hi hk).trans (a3 i hi hk)⟩
  · obtain ⟨fs', rfl, a2, a3⟩ := h1
    obtain ⟨fs'', rfl, b2, b3⟩ := h2
    exact ⟨fs'', rfl, b2.trans a2, fun k hk => (b3 k hk).trans (a3 k hk)⟩
theorem fr_get (hf : fr G gs md h h') {x : Nat} {e : mE} (hx : h[x]? = some e) : ∃ e', h'[x]? = some e' := by
  have hl := (List.getElem?_eq_some_iff.mp hx).1
  exact ⟨_, List.getElem?_eq_getElem (Nat.lt_of_lt_of_le hl hf.1.1)⟩
theorem fr_tr (h1 : fr G gs md h h') (h2 : fr G gs md h' h'') : fr G gs md h h'' := ⟨⟨Nat.le_trans h1.1.1 h2.1.1, fun hn => (h2.1.2 hn).trans (h1.1.2 hn)⟩, fun x e e'' hx hx'' => by
  obtain ⟨e', hx'⟩ := fr_get h1 hx
  exact frC_tr (h1.2 x e e' hx hx') (h2.2 x e' e'' hx' hx'')⟩
theorem TI_obj (hT : TI G gs h) {x ci : Nat} {fs : List kS} (hg : gs (G x) = some (.inl (ci, fs))) : ∃ vs, h[x]? = some (.inr (ci, vs)) ∧ vs.length = fs.length ∧ ∀ (k : Nat) (f : kS), fs[k]? = some f → ∃ v, vs[k]? = some v ∧ fOK G f v := by
  obtain ⟨e, h1⟩ := (hT x _ hg).1 trivial
  have h2 := (hT x _ hg).2 e h1
  obtain ⟨t, n, c⟩ | ⟨cj, vs⟩ := e
  · exact h2.elim
  · obtain ⟨rfl, h3, h4⟩ := h2
    exact ⟨vs, h1, h3, h4⟩
theorem TI_arr (hT : TI G gs h) {x t n p : Nat} {sg : List (Nat × kS)} (hg : gs (G x) = some (.inr (t, n, p, sg))) (hex : G x < 600 ∨ ∃ e, h[x]? = some e) : ∃ c, h[x]? = some (.inl (t, n, c)) ∧ kdC c = kdN t n ∧ ∀ i, i < n → ∃ k f, segAt sg (i % p) 0 = some (k, f) ∧ fOK G f (elV c i) := by
  obtain ⟨e, h1⟩ : ∃ e, h[x]? = some e := hex.elim (fun h9 => (hT x _ hg).1 h9) id
  have h2 := (hT x _ hg).2 e h1
  obtain ⟨t', n', c⟩ | ⟨cj, vs⟩ := e
  · obtain ⟨rfl, rfl, h3, h4⟩ := h2
    exact ⟨c, h1, h3, h4⟩
  · exact h2.elim
/-- a write into an object's field -/
theorem TI_put (hT : TI G gs h) {x ci k : Nat} {fs : List kS} {vs : List Value} {f : kS} {v : Value} (hg : gs (G x) = some (.inl (ci, fs))) (hx : h[x]? = some (.inr (ci, vs))) (hf : fs[k]? = some f) (hv : fOK G f v) :
    TI G gs (h.set x (.inr (ci, vs.set k v))) ∧ fr G gs [(G x, k)] h (h.set x (.inr (ci, vs.set k v))) := by
  obtain ⟨vs0, hx0, hl, hall⟩ := TI_obj hT hg
  cases hx.symm.trans hx0
  have hlt := (List.getElem?_eq_some_iff.mp hx).1
  have hk : k < fs.length := (List.getElem?_eq_some_iff.mp hf).1
  constructor
  · intro y sp hy
    by_cases hxy : x = y
    · subst hxy
      cases hg.symm.trans hy
      refine ⟨fun _ => ⟨_, List.getElem?_set_self hlt⟩, fun e9 he9 => ?_⟩
      rw [List.getElem?_set_self hlt] at he9
      cases he9
      refine ⟨rfl, by rw [List.length_set]; exact hl, fun k' f' hf' => ?_⟩
      by_cases hkk : k = k'
      · subst hkk
        cases hf.symm.trans hf'
        exact ⟨v, List.getElem?_set_self (by rw [hl]; exact hk), hv⟩
      · rw [List.getElem?_set_ne hkk]
        exact hall k' f' hf'
    · rw [List.getElem?_set_ne hxy]
      exact hT y sp hy
  · refine ⟨⟨Nat.le_of_eq List.length_set.symm, fun _ => List.length_set⟩, fun y e e' h1 h2 => ?_⟩
    by_cases hxy : x = y
    · subst hxy
      cases hx.symm.trans h1
      rw [List.getElem?_set_self hlt] at h2
      cases h2
      exact ⟨_, rfl, List.length_set, fun k' hk' => List.getElem?_set_ne fun he => hk' (by rw [he]; exact List.mem_cons_self)⟩
    · rw [List.getElem?_set_ne hxy] at h2
      cases h1.symm.trans h2
      exact frC_rf
/-- a write into an array -/
theorem TI_put_arr (hT : TI G gs h) {x t n p i k : Nat} {sg : List (Nat × kS)} {c c' : mC} {f : kS} (hg : gs (G x) = some (.inr (t, n, p, sg))) (hx : h[x]? = some (.inl (t, n, c))) (hi : i < n) (hs : segAt sg (i % p) 0 = some (k, f)) (hk : kdC c' = kdC c)
    (hv : fOK G f (elV c' i)) (ho : ∀ j, j ≠ i → elV c' j = elV c j) : TI G gs (h.set x (.inl (t, n, c'))) ∧ fr G gs [(G x, k)] h (h.set x (.inl (t, n, c'))) := by
  obtain ⟨c0, hx0, hl, hall⟩ := TI_arr hT hg (Or.inr ⟨_, hx⟩)
  cases hx.symm.trans hx0
  have hlt := (List.getElem?_eq_some_iff.mp hx).1
  constructor
  · intro y sp hy
    by_cases hxy : x = y
    · subst hxy
      cases hg.symm.trans hy
      refine ⟨fun _ => ⟨_, List.getElem?_set_self hlt⟩, fun e9 he9 => ?_⟩
      rw [List.getElem?_set_self hlt] at he9
      cases he9
      refine ⟨rfl, rfl, hk.trans hl, fun j hj => ?_⟩
      by_cases hij : j = i
      · subst hij
        exact ⟨k, f, hs, hv⟩
      · obtain ⟨k', f', h1, h2⟩ := hall j hj
        exact ⟨k', f', h1, by rw [ho j hij]; exact h2⟩
    · rw [List.getElem?_set_ne hxy]
      exact hT y sp hy
  · refine ⟨⟨Nat.le_of_eq List.length_set.symm, fun _ => List.length_set⟩, fun y e e' h1 h2 => ?_⟩
    by_cases hxy : x = y
    · subst hxy
      cases hx.symm.trans h1
      rw [List.getElem?_set_self hlt] at h2
      cases h2
      refine ⟨_, rfl, hk, fun j hj hk' => ho j fun he => ?_⟩
      subst he
      refine hk' k ?_ List.mem_cons_self
      unfold sgK
      rw [hg]
      dsimp only
      rw [hs]
      rfl
    · rw [List.getElem?_set_ne hxy] at h2
      cases h1.symm.trans h2
      exact frC_rf
end SYM
