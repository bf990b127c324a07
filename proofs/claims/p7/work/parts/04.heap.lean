section MH
/-- the kinds of rows: numbers for their types -/
def ftOf (cl : List vw_C) : Nat → FieldType
  | 0 => .int
  | 1 => .byte
  | 2 => .boolean
  | 3 => .char
  | 4 => .long
  | 5 => .float
  | 6 => .double
  | 7 => .object "java/lang/String"
  | n + 8 => .object ((cl[n]?.map fun r => r.1).getD "")
def rO (L : List Nat) (x y : Option Nat) : Prop := match x with
  | none => y = none
  | some k => ∃ a, L[k]? = some a ∧ y = some a
def rA (L : List Nat) (x y : vp_A) : Prop := match x with
  | (n, .inr (.inr (.inr (.inr f)))) => ∃ g : Nat → Option Nat, y = (n, .inr (.inr (.inr (.inr g)))) ∧ ∀ i, rO L (f i) (g i)
  | z => y = z
/-- rows of bytes hold bytes -/
def byA (t : Nat) (z : vp_A) : Prop := t ≠ 999 ∧ (t = 1 → ∀ i, (match z.2 with
  | .inl f => fits .byte (.int (f i)) = true
  | _ => True))
theorem byA_no {t : Nat} {z : vp_A} (h : t ≠ 999) (h1 : t ≠ 1) : byA t z := ⟨h, fun e => absurd e h1⟩
def rE (cl : List vw_C) (L : List Nat) (tys : List (ClassId × FieldType)) (x : mE) (y : va_E) : Prop := match x with
  | .inl (t, a) => ∃ (cA : ClassId) (t0 : Nat) (b : vp_A), tys[t0]? = some (cA, ftOf cl t) ∧ y = .inl (cA, b) ∧ rA L a b ∧ byA t a
  | .inr (ci, fs) => ∃ gs, y = .inr (ci, gs) ∧ rS L fs gs
/-- the small machine's cells, and a world of the machine's; cells of the kind 999 stand for things that are there, but not in the world -/
def rH (cl : List vw_C) (ns : Nat) (L : List Nat) (tys : List (ClassId × FieldType)) (h : mH) (ws : va_W) : Prop :=
  L.length = h.length ∧ ws.length + ns = h.length ∧ ∀ (k : Nat) (x : mE), h[k]? = some x → (∃ z, x = .inl (999, z) ∧ cstZ k = some z) ∨ (ns ≤ k ∧ ∃ (a : Nat) (y : va_E), L[k]? = some a ∧ ws[k - ns]? = some (a, y) ∧ rE cl L tys x y)
theorem rO_mono {L L' : List Nat} {x y : Option Nat} (hL : L <+: L') (h : rO L x y) : rO L' x y := by
  cases x with
  | none => exact h
  | some k =>
    obtain ⟨a, h1, h2⟩ := h
    exact ⟨a, by obtain ⟨t, rfl⟩ := hL; rw [List.getElem?_append_left (List.getElem?_eq_some_iff.mp h1).1]; exact h1, h2⟩
theorem rA_mono {L L' : List Nat} {x y : vp_A} (hL : L <+: L') (h : rA L x y) : rA L' x y := by
  obtain ⟨n, f | f | f | f | f⟩ := x
  · exact h
  · exact h
  · exact h
  · exact h
  · obtain ⟨g, h1, h2⟩ := h
    exact ⟨g, h1, fun i => rO_mono hL (h2 i)⟩
theorem rE_mono {cl : List vw_C} {L L' : List Nat} {tys tys' : List (ClassId × FieldType)} {x : mE} {y : va_E} (hL : L <+: L') (ht : tys <+: tys') (h : rE cl L tys x y) : rE cl L' tys' x y := by
  obtain ⟨t, a⟩ | ⟨ci, fs⟩ := x
  · obtain ⟨cA, t0, b, h1, h2, h3, h4⟩ := h
    exact ⟨cA, t0, b, by obtain ⟨z, rfl⟩ := ht; rw [List.getElem?_append_left (List.getElem?_eq_some_iff.mp h1).1]; exact h1, h2, rA_mono hL h3, h4⟩
  · obtain ⟨gs, h1, h2⟩ := h
    exact ⟨gs, h1, rS_mono hL h2⟩
theorem rS_get {L : List Nat} : ∀ {fs gs : List Value} {k : Nat} {v : Value}, rS L fs gs → fs[k]? = some v → ∃ w, gs[k]? = some w ∧ rV L v w
  | [], [], k, v, _, h => by simp at h
  | v :: vs, w :: ws, 0, _, h, hk => by cases hk; exact ⟨w, rfl, h.1⟩
  | v :: vs, w :: ws, k + 1, _, h, hk => rS_get (k := k) h.2 hk
  | [], _ :: _, _, _, h, _ => h.elim
  | _ :: _, [], _, _, h, _ => h.elim
theorem rS_len {L : List Nat} : ∀ {fs gs : List Value}, rS L fs gs → gs.length = fs.length
  | [], [], _ => rfl
  | _ :: _, _ :: _, h => by simp [rS_len h.2]
  | [], _ :: _, h => h.elim
  | _ :: _, [], h => h.elim
theorem rS_set {L : List Nat} : ∀ {fs gs : List Value} {k : Nat} {v w : Value}, rS L fs gs → rV L v w → rS L (fs.set k v) (gs.set k w)
  | [], [], k, v, w, _, _ => by cases k <;> exact trivial
  | _ :: _, _ :: _, 0, _, _, h, hv => ⟨hv, h.2⟩
  | _ :: _, _ :: _, k + 1, _, _, h, hv => ⟨h.1, rS_set (k := k) h.2 hv⟩
  | [], _ :: _, _, _, _, h, _ => h.elim
  | _ :: _, [], _, _, _, h, _ => h.elim
theorem rS_app {L : List Nat} : ∀ {fs gs fs' gs' : List Value}, rS L fs gs → rS L fs' gs' → rS L (fs ++ fs') (gs ++ gs')
  | [], [], _, _, _, h => h
  | _ :: _, _ :: _, _, _, h, h' => ⟨h.1, rS_app h.2 h'⟩
  | [], _ :: _, _, _, h, _ => h.elim
  | _ :: _, [], _, _, h, _ => h.elim
theorem rH_obj {cl : List vw_C} {ns : Nat} {L : List Nat} {tys : List (ClassId × FieldType)} {h : mH} {ws : va_W} {x ci : Nat} {fs : List Value} (hr : rH cl ns L tys h ws) (hx : h[x]? = some (.inr (ci, fs))) : ∃ (a : Nat) (gs : List Value), L[x]? = some a ∧ ws[x - ns]? = some (a, .inr (ci, gs)) ∧ rS L fs gs ∧ ns ≤ x := by
  rcases hr.2.2 x _ hx with ⟨z, hz, -⟩ | ⟨h1, a, y, h2, h3, gs, rfl, h4⟩
  · cases hz
  · exact ⟨a, gs, h2, h3, h4, h1⟩
theorem rH_arr {cl : List vw_C} {ns : Nat} {L : List Nat} {tys : List (ClassId × FieldType)} {h : mH} {ws : va_W} {x t : Nat} {z : vp_A} (hr : rH cl ns L tys h ws) (hx : h[x]? = some (.inl (t, z))) (ht : t ≠ 999) : ∃ (a : Nat) (cA : ClassId) (t0 : Nat) (b : vp_A), L[x]? = some a ∧ ws[x - ns]? = some (a, .inl (cA, b)) ∧ tys[t0]? = some (cA, ftOf cl t) ∧ rA L z b ∧ ns ≤ x := by
  rcases hr.2.2 x _ hx with ⟨z, hz, -⟩ | ⟨h1, a, y, h2, h3, cA, t0, b, h4, rfl, h5, h6⟩
  · cases hz; exact absurd rfl ht
  · exact ⟨a, cA, t0, b, h2, h3, h4, h5, h1⟩
theorem rH_by {cl : List vw_C} {ns : Nat} {L : List Nat} {tys : List (ClassId × FieldType)} {h : mH} {ws : va_W} {x t : Nat} {z : vp_A} (hr : rH cl ns L tys h ws) (hx : h[x]? = some (.inl (t, z))) (ht : t ≠ 999) : byA t z := by
  rcases hr.2.2 x _ hx with ⟨z, hz, -⟩ | ⟨h1, a, y, h2, h3, cA, t0, b, h4, rfl, h5, h6⟩
  · cases hz; exact absurd rfl ht
  · exact h6
/-- things that are there, and not in the world -/
theorem rH_cst {cl : List vw_C} {ns : Nat} {L : List Nat} {tys : List (ClassId × FieldType)} {h : mH} {ws : va_W} {x : Nat} {z : vp_A} (hr : rH cl ns L tys h ws) (hx : h[x]? = some (.inl (999, z))) : cstZ x = some z := by
  rcases hr.2.2 x _ hx with ⟨z, hz, h1⟩ | ⟨h1, a, y, h2, h3, cA, t0, b, h4, rfl, h5, h6⟩
  · cases hz; exact h1
  · exact absurd rfl h6.1
theorem rH_set {cl : List vw_C} {ns : Nat} {L : List Nat} {tys : List (ClassId × FieldType)} {h : mH} {ws : va_W} {x a : Nat} {e : mE} {y : va_E} (hr : rH cl ns L tys h ws) (ha : L[x]? = some a) (hx : ns ≤ x) (he : rE cl L tys e y) : rH cl ns L tys (h.set x e) (ws.set (x - ns) (a, y)) := by
  obtain ⟨h1, h2, h3⟩ := hr
  refine ⟨by simp [h1], by simp [h2], fun k z hk => ?_⟩
  rw [List.getElem?_set] at hk
  split at hk
  next e0 =>
    subst e0
    split at hk
    next hlt =>
      cases hk
      refine Or.inr ⟨hx, a, y, ha, ?_, he⟩
      rw [List.getElem?_set_self (by omega)]
    next => cases hk
  next e0 =>
    rcases h3 k z hk with z1 | ⟨z1, b, y', z2, z3, z4⟩
    · exact Or.inl z1
    · refine Or.inr ⟨z1, b, y', z2, ?_, z4⟩
      rw [List.getElem?_set_ne (by omega)]
      exact z3
theorem rH_push {cl : List vw_C} {ns : Nat} {L : List Nat} {tys tys' : List (ClassId × FieldType)} {h : mH} {ws : va_W} {a : Nat} {e : mE} {y : va_E} (hr : rH cl ns L tys h ws) (ht : tys <+: tys') (he : rE cl (L ++ [a]) tys' e y) : rH cl ns (L ++ [a]) tys' (h ++ [e]) (ws ++ [(a, y)]) := by
  obtain ⟨h1, h2, h3⟩ := hr
  refine ⟨by simp [h1], by simp; omega, fun k z hk => ?_⟩
  rcases Nat.lt_or_ge k h.length with hlt | hge
  · rw [List.getElem?_append_left hlt] at hk
    rcases h3 k z hk with z1 | ⟨z1, b, y', z2, z3, z4⟩
    · exact Or.inl z1
    · refine Or.inr ⟨z1, b, y', ?_, ?_, rE_mono (List.prefix_append _ _) ht z4⟩
      · rw [List.getElem?_append_left (by omega)]; exact z2
      · rw [List.getElem?_append_left (by omega)]; exact z3
  · have hk2 : k = h.length := by
      have := (List.getElem?_eq_some_iff.mp hk).1
      simp at this
      omega
    subst hk2
    rw [List.getElem?_append_right (Nat.le_refl _), Nat.sub_self] at hk
    cases hk
    refine Or.inr ⟨by omega, a, y, ?_, ?_, he⟩
    · rw [← h1]; simp
    · rw [show h.length - ns = ws.length by omega]; simp
theorem rH_tys {cl : List vw_C} {ns : Nat} {L : List Nat} {tys tys' : List (ClassId × FieldType)} {h : mH} {ws : va_W} (hr : rH cl ns L tys h ws) (ht : tys <+: tys') : rH cl ns L tys' h ws :=
  ⟨hr.1, hr.2.1, fun k z hk => (hr.2.2 k z hk).elim Or.inl fun ⟨z1, b, y', z2, z3, z4⟩ => Or.inr ⟨z1, b, y', z2, z3, rE_mono (List.prefix_refl _) ht z4⟩⟩
/-- what a row of a method's table rests on -/
def okG (cl : List vw_C) (Ts : List Cond) (own : String) (idx ci k : Nat) : Prop := ∃ (C : String) (T : u_T) (N : Nat), cl[ci]? = some (C, T, N) ∧ k < N ∧ (∀ w ∈ u_ws C T N, w ∈ Ts) ∧ Cond.fieldLink own idx (T k).1 (T k).2.1 (T k).2.2.1 ∈ Ts
def okP (cl : List vw_C) (Ts : List Cond) (own : String) (init : Prop) (idx ci k : Nat) : Prop := ∃ (C : String) (T : u_T) (N : Nat) (ty : Nat → FieldType), cl[ci]? = some (C, T, N) ∧ k < N ∧ (∀ w ∈ u_ws C T N, w ∈ Ts) ∧ Cond.fieldLink own idx (T k).1 (T k).2.1 (T k).2.2.1 ∈ Ts ∧
  (∀ k, k < N → parseFieldDescriptor (T k).2.2.1 = some (ty k)) ∧ (∀ a, a < N → ∀ b, b < N → a ≠ b → (T a).2.1 ≠ (T b).2.1) ∧ ((T k).2.2.2 = false ∨ ((T k).2.2.2 = true ∧ init ∧ (T k).1 = own))
/-- a value that a field of this type takes as it is -/
def fitV (cl : List vw_C) (ci k : Nat) (v : Value) : Prop := ∃ r ty, cl[ci]? = some r ∧ parseFieldDescriptor (r.2.1 k).2.2.1 = some ty ∧ (match v with
  | .ref _ | .null => ty.isReference = true
  | .int x => narrow ty (.int x) = .int x ∧ fits ty (.int x) = true
  | .long _ => ty = .long
  | .float _ => ty = .float
  | .double _ => ty = .double
  | .retAddr _ => False)
/-- what holds of the things that are there: Strings, their bytes -/
def cstE (A : Nat → Prop) (L : List Nat) (s : State) (a : Nat) (z : vp_A) : Prop := match z.2 with
  | .inl f => va_T .byte a z.1 (fun j => .int (f j)) A s s.heap
  | .inr (.inr (.inr (.inr f))) => va_O "java/lang/String" a A s s.heap ∧ va_OF "java/lang/String" "coder" "B" (.int 0) a A s s.heap ∧ ∃ k b, f 0 = some k ∧ L[k]? = some b ∧ va_OF "java/lang/String" "value" "[B" (.ref b) a A s s.heap
  | _ => True
def cstO (A : Nat → Prop) (L : List Nat) (s : State) : Prop := ∀ k z, cstZ k = some z → ∃ a, L[k]? = some a ∧ cstE A L s a z
theorem cstO_mono {A : Nat → Prop} {L L1 : List Nat} {s : State} (hL : L <+: L1) (h : cstO A L s) : cstO A L1 s := by
  have up : ∀ {k a : Nat}, L[k]? = some a → L1[k]? = some a := fun z => by obtain ⟨t, rfl⟩ := hL; rw [List.getElem?_append_left (List.getElem?_eq_some_iff.mp z).1]; exact z
  intro k z hz
  obtain ⟨a, h1, h2⟩ := h k z hz
  refine ⟨a, up h1, ?_⟩
  obtain ⟨n, f | f | f | f | f⟩ := z
  · exact h2
  · trivial
  · trivial
  · trivial
  · obtain ⟨g1, g2, k2, b, g3, g4, g5⟩ := h2
    exact ⟨g1, g2, k2, b, g3, up g4, g5⟩
theorem cstO_to {A : Nat → Prop} {L : List Nat} {s U : State} (hal : s.vm.Alike U.vm) (hq : ∀ a : Nat, a < s.heap.size → ¬ A a → U.heap[a]? = s.heap[a]?) (h : cstO A L s) : cstO A L U := by
  intro k z hz
  obtain ⟨a, h1, h2⟩ := h k z hz
  refine ⟨a, h1, ?_⟩
  obtain ⟨n, f | f | f | f | f⟩ := z
  · exact va_T.moved hal (va_T.kept (H1 := U.heap) h2 hq)
  · trivial
  · trivial
  · trivial
  · obtain ⟨g1, g2, k2, b, g3, g4, g5⟩ := h2
    exact ⟨va_O.moved hal (va_O.kept g1 hq), va_OF.moved hal (va_OF.kept g2 hq), k2, b, g3, g4, va_OF.moved hal (va_OF.kept g5 hq)⟩
/-- a row that reads a field: of the world's objects, or of a String that is there -/
def okGK (cl : List vw_C) (Ts : List Cond) (own : String) (idx : Nat) (lk : mK) : Prop := (lk.1 < 30 ∧ okG cl Ts own idx lk.2.1 lk.2.2.1) ∨
  (cl.length ≤ lk.2.1 ∧ (lk.1 = 30 → Cond.fieldLink own idx "java/lang/String" "value" "[B" ∈ Ts) ∧ (lk.1 = 31 → Cond.fieldLink own idx "java/lang/String" "coder" "B" ∈ Ts))
def kdI (c : (Nat → Int32) ⊕ (Nat → Int64) ⊕ (Nat → UInt32) ⊕ (Nat → UInt64) ⊕ (Nat → Option Nat)) : Bool := match c with
  | .inl _ => true
  | _ => false
/-- reads -/
def actR (i : Instr) (lk : mK) (st : List Value) (h : mH) : Option (List Value) := match i, st with
  | .getfield _, .ref x :: r => match h[x]? with
    | some (.inr (ci, fs)) => if ci = lk.2.1 then (match fs[lk.2.2.1]? with | some v => some (v :: r) | none => none) else none
    | some (.inl (t, n, .inr (.inr (.inr (.inr f))))) => if t = 999 ∧ lk.1 = 30 then some (va_rf (f 0) :: r) else if t = 999 ∧ lk.1 = 31 then some (.int 0 :: r) else none
    | _ => none
  | .iaload, .int j :: .ref x :: r => match h[x]? with
    | some (.inl (t, n, .inl f)) => if t = 0 ∧ ¬ (j < 0 ∨ n ≤ j.toNatClampNeg) then some (.int (f j.toNatClampNeg) :: r) else none
    | _ => none
  | .laload, .int j :: .ref x :: r => match h[x]? with
    | some (.inl (t, n, .inr (.inl f))) => if t = 4 ∧ ¬ (j < 0 ∨ n ≤ j.toNatClampNeg) then some (.long (f j.toNatClampNeg) :: r) else none
    | _ => none
  | .faload, .int j :: .ref x :: r => match h[x]? with
    | some (.inl (t, n, .inr (.inr (.inl f)))) => if t = 5 ∧ ¬ (j < 0 ∨ n ≤ j.toNatClampNeg) then some (.float (f j.toNatClampNeg) :: r) else none
    | _ => none
  | .daload, .int j :: .ref x :: r => match h[x]? with
    | some (.inl (t, n, .inr (.inr (.inr (.inl f))))) => if t = 6 ∧ ¬ (j < 0 ∨ n ≤ j.toNatClampNeg) then some (.double (f j.toNatClampNeg) :: r) else none
    | _ => none
  | .baload, .int j :: .ref x :: r => match h[x]? with
    | some (.inl (t, n, .inl f)) => if (t = 1 ∨ t = 2 ∨ t = 999) ∧ ¬ (j < 0 ∨ n ≤ j.toNatClampNeg) then some (.int (f j.toNatClampNeg) :: r) else none
    | _ => none
  | .aaload, .int j :: .ref x :: r => match h[x]? with
    | some (.inl (t, n, .inr (.inr (.inr (.inr f))))) => if (7 ≤ t ∧ t < 900) ∧ ¬ (j < 0 ∨ n ≤ j.toNatClampNeg) then some (va_rf (f j.toNatClampNeg) :: r) else none
    | _ => none
  | .arraylength, .ref x :: r => match h[x]? with
    | some (.inl (t, n, z)) => if t < 900 ∨ (t = 999 ∧ kdI z = true) then some (.int (Int32.ofNat n) :: r) else none
    | _ => none
  | _, _ => none
/-- a row's tag says an object's class -/
theorem ftOf_obj {cl : List vw_C} {t : Nat} (h : 7 ≤ t) : ∃ C, ftOf cl t = .object C := by
  match t, h with
  | 7, _ => exact ⟨_, rfl⟩
  | n + 8, _ => exact ⟨_, rfl⟩
theorem rA_len {L : List Nat} {x y : vp_A} (h : rA L x y) : y.1 = x.1 := by
  obtain ⟨n, f | f | f | f | f⟩ := x
  · have h : y = _ := h; rw [h]
  · have h : y = _ := h; rw [h]
  · have h : y = _ := h; rw [h]
  · have h : y = _ := h; rw [h]
  · obtain ⟨g, h1, h2⟩ := h; rw [h1]
variable {p : Program} {l : Launch} {e : Env} {R : Room} {s : State} {m : MethodId} {args : Array Value} {below : List Frame} {meth : Method} {c : Code} {H : Heap} {locs : List Loc} {cells slots : Nat} {Q : State → Prop}
variable {cc : ByteArray} {ls : Array Slot} {L : List Nat} {D : va_G} {cl : List vw_C} {tys : List (ClassId × FieldType)} {ws : va_W} {A : Nat → Prop} {H0 : Heap} {ns : Nat} {h : mH} {Ts : List Cond} {own : String}
set_option maxHeartbeats 4000000 in
theorem actR_ok (hx : p.tables.exec = Jvm.exec) (hb : c.code = cc) (hts : ∀ w ∈ Ts, w.before args s = true) (hown : s.vm.findClass own = some m.cls) (hK : va_K D cl tys s) (hP : va_P D cl ws H) (hH : rH cl ns L tys h ws) (hC : cstO A L s) (hSS : va_S A s.heap H locs) {pc len : Nat} {i : Instr} {lk : mK} {st str st2 : List Value}
    (hok : ∀ idx, i = .getfield idx → okGK cl Ts own idx lk) (ha : actR i lk st h = some st2) (hd : decode cc pc = .ok (i, lnI i len)) (hS : rS L st str)
    (k : ∀ (str2 : List Value), rS L st2 str2 → W p l e R s m args below meth c H locs cells slots Q (F0 m (pc + lnI i len) ls str2)) : W p l e R s m args below meth c H locs cells slots Q (F0 m pc ls str) := by
  unfold actR at ha
  split at ha
  · rename_i x r
    obtain ⟨a, r1, h1, rfl, hS1⟩ := rS_R hS
    split at ha
    · rename_i ci fs hc
      split at ha
      · rename_i e0
        split at ha
        · rename_i v hv
          cases ha
          obtain ⟨a2, gs, g1, g2, g3, g4⟩ := rH_obj hH hc
          cases h1.symm.trans g1
          obtain ⟨w, w1, w2⟩ := rS_get g3 hv
          rcases hok _ rfl with ⟨-, C, T, N, q1, q2, q3, q4⟩ | ⟨q1, -⟩
          · rw [← e0] at q1
            exact va_get hx hb hts q3 hown hK hP _ g2 q1 _ q2 (hts _ q4) (fun _ z => z) w1 hd (k _ ⟨w2, hS1⟩)
          · obtain ⟨r9, hr9, -⟩ := hP _ _ g2
            have hr9 : cl[ci]? = some r9 := hr9
            have := (List.getElem?_eq_some_iff.mp hr9).1
            omega
        · cases ha
      · cases ha
    · rename_i t n f hc
      split at ha
      · rename_i e0
        cases ha
        obtain ⟨rfl, e1⟩ := e0
        obtain ⟨a2, g1, g2⟩ := hC _ _ (rH_cst hH hc)
        cases h1.symm.trans g1
        obtain ⟨f1, f2, k2, b, f3, f4, f5⟩ := g2
        rcases hok _ rfl with ⟨q1, -⟩ | ⟨-, q2, -⟩
        · omega
        · refine vk_getf hx hb f5 hSS hown (hts _ (q2 e1)) (fun _ z => z) hd (k _ ⟨?_, hS1⟩)
          rw [f3]
          exact ⟨b, f4, rfl⟩
      · split at ha
        · rename_i e0
          cases ha
          obtain ⟨rfl, e1⟩ := e0
          obtain ⟨a2, g1, g2⟩ := hC _ _ (rH_cst hH hc)
          cases h1.symm.trans g1
          obtain ⟨f1, f2, -⟩ := g2
          rcases hok _ rfl with ⟨q1, -⟩ | ⟨-, -, q2⟩
          · omega
          · exact vk_getf hx hb f2 hSS hown (hts _ (q2 e1)) (fun _ z => z) hd (k _ ⟨rfl, hS1⟩)
        · cases ha
    · cases ha
  · obtain ⟨r1, rfl, hS1⟩ := rS_I hS
    obtain ⟨a, r2, h1, rfl, hS2⟩ := rS_R hS1
    split at ha
    · rename_i t n f hc
      split at ha
      · rename_i e0
        cases ha
        obtain ⟨rfl, hin⟩ := e0
        obtain ⟨a2, cA, t0, b, g1, g2, g3, g4, g5⟩ := rH_arr hH hc (by decide)
        cases h1.symm.trans g1
        have g4 : b = _ := g4
        subst g4
        exact va_iald hx hb hK hP _ t0 g2 g3 hin hd (k _ ⟨rfl, hS2⟩)
      · cases ha
    · cases ha
  · obtain ⟨r1, rfl, hS1⟩ := rS_I hS
    obtain ⟨a, r2, h1, rfl, hS2⟩ := rS_R hS1
    split at ha
    · rename_i t n f hc
      split at ha
      · rename_i e0
        cases ha
        obtain ⟨rfl, hin⟩ := e0
        obtain ⟨a2, cA, t0, b, g1, g2, g3, g4, g5⟩ := rH_arr hH hc (by decide)
        cases h1.symm.trans g1
        have g4 : b = _ := g4
        subst g4
        exact va_lald hx hb hK hP _ t0 g2 g3 hin hd (k _ ⟨rfl, hS2⟩)
      · cases ha
    · cases ha
  · obtain ⟨r1, rfl, hS1⟩ := rS_I hS
    obtain ⟨a, r2, h1, rfl, hS2⟩ := rS_R hS1
    split at ha
    · rename_i t n f hc
      split at ha
      · rename_i e0
        cases ha
        obtain ⟨rfl, hin⟩ := e0
        obtain ⟨a2, cA, t0, b, g1, g2, g3, g4, g5⟩ := rH_arr hH hc (by decide)
        cases h1.symm.trans g1
        have g4 : b = _ := g4
        subst g4
        exact va_fald hx hb hK hP _ t0 g2 g3 hin hd (k _ ⟨rfl, hS2⟩)
      · cases ha
    · cases ha
  · obtain ⟨r1, rfl, hS1⟩ := rS_I hS
    obtain ⟨a, r2, h1, rfl, hS2⟩ := rS_R hS1
    split at ha
    · rename_i t n f hc
      split at ha
      · rename_i e0
        cases ha
        obtain ⟨rfl, hin⟩ := e0
        obtain ⟨a2, cA, t0, b, g1, g2, g3, g4, g5⟩ := rH_arr hH hc (by decide)
        cases h1.symm.trans g1
        have g4 : b = _ := g4
        subst g4
        exact va_dald hx hb hK hP _ t0 g2 g3 hin hd (k _ ⟨rfl, hS2⟩)
      · cases ha
    · cases ha
  · obtain ⟨r1, rfl, hS1⟩ := rS_I hS
    obtain ⟨a, r2, h1, rfl, hS2⟩ := rS_R hS1
    split at ha
    · rename_i t n f hc
      split at ha
      · rename_i e0
        cases ha
        obtain ⟨rfl | rfl | rfl, hin⟩ := e0
        · obtain ⟨a2, cA, t0, b, g1, g2, g3, g4, g5⟩ := rH_arr hH hc (by decide)
          cases h1.symm.trans g1
          have g4 : b = _ := g4
          subst g4
          exact va_bald hx hb hK hP _ t0 g2 g3 hin hd (k _ ⟨rfl, hS2⟩)
        · obtain ⟨a2, cA, t0, b, g1, g2, g3, g4, g5⟩ := rH_arr hH hc (by decide)
          cases h1.symm.trans g1
          have g4 : b = _ := g4
          subst g4
          exact va_zald hx hb hK hP _ t0 g2 g3 hin hd (k _ ⟨rfl, hS2⟩)
        · obtain ⟨a2, g1, g2⟩ := hC _ _ (rH_cst hH hc)
          cases h1.symm.trans g1
          exact va_tb hx hb g2 hSS hin rfl hd (k _ ⟨rfl, hS2⟩)
      · cases ha
    · cases ha
  · obtain ⟨r1, rfl, hS1⟩ := rS_I hS
    obtain ⟨a, r2, h1, rfl, hS2⟩ := rS_R hS1
    split at ha
    · rename_i t n f hc
      split at ha
      · rename_i e0
        cases ha
        obtain ⟨ht, hin⟩ := e0
        obtain ⟨a2, cA, t0, b, g1, g2, g3, g4, g5⟩ := rH_arr hH hc (by omega)
        cases h1.symm.trans g1
        obtain ⟨g, rfl, gg⟩ := g4
        obtain ⟨C, hC⟩ := ftOf_obj (cl := cl) ht.1
        rw [hC] at g3
        refine va_aldq hx hb hK hP _ t0 g2 g3 hin hd (k _ ⟨?_, hS2⟩)
        have g9 := gg (Int32.toNatClampNeg ‹Int32›)
        revert g9
        cases f (Int32.toNatClampNeg ‹Int32›) with
        | none => intro g9; have g9 : g _ = none := g9; rw [g9]; rfl
        | some z => intro g9; obtain ⟨z1, z2, z3⟩ := g9; rw [z3]; exact ⟨z1, z2, rfl⟩
      · cases ha
    · cases ha
  · obtain ⟨a, r2, h1, rfl, hS2⟩ := rS_R hS
    split at ha
    · rename_i t n z hc
      split at ha
      · rename_i ht
        cases ha
        rcases ht with ht | ⟨rfl, ht⟩
        · obtain ⟨a2, cA, t0, b, g1, g2, g3, g4, g5⟩ := rH_arr hH hc (by omega)
          cases h1.symm.trans g1
          exact va_alen hx hb hK hP _ t0 g2 g3 (by rw [rA_len g4]) hd (k _ ⟨rfl, hS2⟩)
        · obtain ⟨a2, g1, g2⟩ := hC _ _ (rH_cst hH hc)
          cases h1.symm.trans g1
          cases z with
          | inl f => exact va_tlen hx hb g2 hSS rfl hd (k _ ⟨rfl, hS2⟩)
          | inr _ => cases ht
      · cases ha
    · cases ha
  · cases ha
end MH
