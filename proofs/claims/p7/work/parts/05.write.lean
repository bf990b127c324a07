section MW
/-- what a field of a kind takes: 0 an int, 1 a boolean, 2 a reference, 3 a long, 4 a float, 5 a byte -/
def okV (z : Int) (v : Value) : Bool := match v with
  | .int x => decide (z = 0) || (decide (z = 1) && decide (narrow .boolean (.int x) = .int x) && fits .boolean (.int x)) || (decide (z = 5) && decide (narrow .byte (.int x) = .int x) && fits .byte (.int x))
  | .ref _ => decide (z = 2)
  | .null => decide (z = 2)
  | .long _ => decide (z = 3)
  | .float _ => decide (z = 4)
  | _ => false
def tyZ (z : Int) (ft : FieldType) : Prop := (z = 0 ∧ ft = .int) ∨ (z = 1 ∧ ft = .boolean) ∨ (z = 2 ∧ ft.isReference = true) ∨ (z = 3 ∧ ft = .long) ∨ (z = 4 ∧ ft = .float) ∨ (z = 5 ∧ ft = .byte)
theorem okV_ok {L : List Nat} {z : Int} {v w : Value} {ft : FieldType} (h : okV z v = true) (ht : tyZ z ft) (hv : rV L v w) : narrow ft w = w ∧ fits ft w = true := by
  cases v with
  | int x =>
    have hv : w = .int x := hv
    subst hv
    simp only [okV, Bool.or_eq_true, Bool.and_eq_true, decide_eq_true_eq] at h
    rcases ht with ⟨rfl, rfl⟩ | ⟨rfl, rfl⟩ | ⟨rfl, _⟩ | ⟨rfl, _⟩ | ⟨rfl, _⟩ | ⟨rfl, rfl⟩
    · exact ⟨rfl, rfl⟩
    · rcases h with (h | h) | h
      · exact absurd h (by decide)
      · exact ⟨h.1.2, h.2⟩
      · exact absurd h.1.1 (by decide)
    · rcases h with (h | h) | h
      · exact absurd h (by decide)
      · exact absurd h.1.1 (by decide)
      · exact absurd h.1.1 (by decide)
    · rcases h with (h | h) | h
      · exact absurd h (by decide)
      · exact absurd h.1.1 (by decide)
      · exact absurd h.1.1 (by decide)
    · rcases h with (h | h) | h
      · exact absurd h (by decide)
      · exact absurd h.1.1 (by decide)
      · exact absurd h.1.1 (by decide)
    · rcases h with (h | h) | h
      · exact absurd h (by decide)
      · exact absurd h.1.1 (by decide)
      · exact ⟨h.1.2, h.2⟩
  | ref k =>
    obtain ⟨a, -, rfl⟩ := hv
    have h : z = 2 := by simpa [okV] using h
    subst h
    rcases ht with ⟨z, _⟩ | ⟨z, _⟩ | ⟨_, z⟩ | ⟨z, _⟩ | ⟨z, _⟩ | ⟨z, _⟩
    · exact absurd z (by decide)
    · exact absurd z (by decide)
    · cases ft <;> first | exact ⟨rfl, rfl⟩ | cases z
    · exact absurd z (by decide)
    · exact absurd z (by decide)
    · exact absurd z (by decide)
  | null =>
    have hv : w = .null := hv
    subst hv
    have h : z = 2 := by simpa [okV] using h
    subst h
    rcases ht with ⟨z, _⟩ | ⟨z, _⟩ | ⟨_, z⟩ | ⟨z, _⟩ | ⟨z, _⟩ | ⟨z, _⟩
    · exact absurd z (by decide)
    · exact absurd z (by decide)
    · cases ft <;> first | exact ⟨rfl, rfl⟩ | cases z
    · exact absurd z (by decide)
    · exact absurd z (by decide)
    · exact absurd z (by decide)
  | long x =>
    have hv : w = .long x := hv
    subst hv
    have h : z = 3 := by simpa [okV] using h
    subst h
    rcases ht with ⟨z, _⟩ | ⟨z, _⟩ | ⟨z, _⟩ | ⟨_, rfl⟩ | ⟨z, _⟩ | ⟨z, _⟩
    · exact absurd z (by decide)
    · exact absurd z (by decide)
    · exact absurd z (by decide)
    · exact ⟨rfl, rfl⟩
    · exact absurd z (by decide)
    · exact absurd z (by decide)
  | float x =>
    have hv : w = .float x := hv
    subst hv
    have h : z = 4 := by simpa [okV] using h
    subst h
    rcases ht with ⟨z, _⟩ | ⟨z, _⟩ | ⟨z, _⟩ | ⟨z, _⟩ | ⟨_, rfl⟩ | ⟨z, _⟩
    · exact absurd z (by decide)
    · exact absurd z (by decide)
    · exact absurd z (by decide)
    · exact absurd z (by decide)
    · exact ⟨rfl, rfl⟩
    · exact absurd z (by decide)
  | double x => cases h
  | retAddr x => cases h
def okPf (cl : List vw_C) (Ts : List Cond) (own : String) (init : Prop) (idx ci k : Nat) (z : Int) : Prop := ∃ (C : String) (T : u_T) (N : Nat) (ty : Nat → FieldType), cl[ci]? = some (C, T, N) ∧ k < N ∧ (∀ w ∈ u_ws C T N, w ∈ Ts) ∧ Cond.fieldLink own idx (T k).1 (T k).2.1 (T k).2.2.1 ∈ Ts ∧
  (∀ k, k < N → parseFieldDescriptor (T k).2.2.1 = some (ty k)) ∧ (∀ a, a < N → ∀ b, b < N → a ≠ b → (T a).2.1 ≠ (T b).2.1) ∧ ((T k).2.2.2 = false ∨ ((T k).2.2.2 = true ∧ init ∧ (T k).1 = own)) ∧ tyZ z (ty k)
/-- writes: the stack behind, the cell's number, what it holds then -/
def actW (i : Instr) (lk : mK) (st : List Value) (h : mH) : Option (List Value × Nat × mE) := match i, st with
  | .putfield _, v :: .ref x :: r => match h[x]? with
    | some (.inr (ci, fs)) => if ci = lk.2.1 ∧ lk.2.2.1 < fs.length ∧ okV lk.2.2.2 v = true then some (r, x, .inr (ci, fs.set lk.2.2.1 v)) else none
    | _ => none
  | .iastore, .int y :: .int j :: .ref x :: r => match h[x]? with
    | some (.inl (t, n, .inl f)) => if t = 0 ∧ ¬ (j < 0 ∨ n ≤ j.toNatClampNeg) then some (r, x, .inl (0, n, .inl (upd f j.toNatClampNeg y))) else none
    | _ => none
  | .lastore, .long y :: .int j :: .ref x :: r => match h[x]? with
    | some (.inl (t, n, .inr (.inl f))) => if t = 4 ∧ ¬ (j < 0 ∨ n ≤ j.toNatClampNeg) then some (r, x, .inl (4, n, .inr (.inl (vp_updL f j.toNatClampNeg y)))) else none
    | _ => none
  | .fastore, .float y :: .int j :: .ref x :: r => match h[x]? with
    | some (.inl (t, n, .inr (.inr (.inl f)))) => if t = 5 ∧ ¬ (j < 0 ∨ n ≤ j.toNatClampNeg) then some (r, x, .inl (5, n, .inr (.inr (.inl (vf_upd f j.toNatClampNeg y))))) else none
    | _ => none
  | .dastore, .double y :: .int j :: .ref x :: r => match h[x]? with
    | some (.inl (t, n, .inr (.inr (.inr (.inl f))))) => if t = 6 ∧ ¬ (j < 0 ∨ n ≤ j.toNatClampNeg) then some (r, x, .inl (6, n, .inr (.inr (.inr (.inl (vf_upd f j.toNatClampNeg y)))))) else none
    | _ => none
  | .bastore, .int y :: .int j :: .ref x :: r => match h[x]? with
    | some (.inl (t, n, .inl f)) => if t = 1 ∧ ¬ (j < 0 ∨ n ≤ j.toNatClampNeg) then some (r, x, .inl (1, n, .inl (upd f j.toNatClampNeg (vp_nar .byte y)))) else if t = 2 ∧ ¬ (j < 0 ∨ n ≤ j.toNatClampNeg) then some (r, x, .inl (2, n, .inl (upd f j.toNatClampNeg (vp_nar .boolean y)))) else none
    | _ => none
  | .aastore, .ref v :: .int j :: .ref x :: r => match h[x]?, h[v]? with
    | some (.inl (t, n, .inr (.inr (.inr (.inr f))))), some (.inr (ci, _)) => if (t = ci + 8 ∧ t < 900) ∧ ¬ (j < 0 ∨ n ≤ j.toNatClampNeg) then some (r, x, .inl (t, n, .inr (.inr (.inr (.inr (va_up f j.toNatClampNeg (some v))))))) else none
    | some (.inl (t, n, .inr (.inr (.inr (.inr f))))), some (.inl (999, _)) => if (t = 7 ∧ v < lk.2.1) ∧ ¬ (j < 0 ∨ n ≤ j.toNatClampNeg) then some (r, x, .inl (t, n, .inr (.inr (.inr (.inr (va_up f j.toNatClampNeg (some v))))))) else none
    | _, _ => none
  | .invokestatic _, .int n :: .int dp :: .ref x :: .int sp :: .ref x0 :: r => match h[x0]?, h[x]? with
    | some (.inl (t0, n0, .inl f)), some (.inl (t, n1, .inl g)) => if (lk.1 = 16 ∧ t0 = t ∧ t ≤ 1 ∧ (r.map fun v => v.category).sum ≤ 8) ∧ ¬ sp < 0 ∧ ¬ dp < 0 ∧ ¬ n < 0 ∧ sp.toNatClampNeg + n.toNatClampNeg ≤ n0 ∧ dp.toNatClampNeg + n.toNatClampNeg ≤ n1 then some (r, x, .inl (t, n1, .inl (va_cpy f g sp.toNatClampNeg dp.toNatClampNeg n.toNatClampNeg))) else none
    | _, _ => none
  | _, _ => none
def okCopy (Ts : List Cond) (own : String) (idx : Nat) : Prop := Cond.methodLink own idx arraycopyName ∈ Ts ∧ Cond.native arraycopyName ∈ Ts ∧ Cond.static arraycopyName ∈ Ts ∧ Cond.initialized "java/lang/System" ∈ Ts
theorem rS_cats {L : List Nat} : ∀ {st str : List Value}, rS L st str → (str.map fun v => v.category) = st.map fun v => v.category
  | [], [], _ => rfl
  | v :: vs, w :: ws, h => by simp only [List.map_cons, rV_cat h.1, rS_cats h.2]
  | [], _ :: _, h => h.elim
  | _ :: _, [], h => h.elim
theorem rA_up {L : List Nat} {n : Nat} {f g : Nat → Option Nat} {k v a : Nat} (h : ∀ i, rO L (f i) (g i)) (hv : L[v]? = some a) : rA L (n, .inr (.inr (.inr (.inr (va_up f k (some v)))))) (n, .inr (.inr (.inr (.inr (va_up g k (some a)))))) := by
  refine ⟨_, rfl, fun i => ?_⟩
  by_cases hi : i = k
  · simp only [va_up, if_pos hi]; exact ⟨a, hv, rfl⟩
  · simp only [va_up, if_neg hi]; exact h i
theorem byA_up {n k : Nat} {f : Nat → Int32} {y : Int32} (h : byA 1 (n, .inl f)) : byA 1 (n, .inl (upd f k (vp_nar .byte y))) := by
  refine ⟨by decide, fun _ i => ?_⟩
  by_cases hi : i = k
  · subst hi
    show fits .byte (.int (upd f i (vp_nar .byte y) i)) = true
    rw [pk_us, vp_nar_byte]
    exact pk_fb y
  · show fits .byte (.int (upd f k (vp_nar .byte y) i)) = true
    rw [pk_un hi]
    exact h.2 rfl i
theorem byA_cpy {t n n0 a b c : Nat} {f g : Nat → Int32} (h : byA t (n, .inl g)) (h0 : byA t (n0, .inl f)) : byA t (n, .inl (va_cpy f g a b c)) := by
  refine ⟨h.1, fun e i => ?_⟩
  show fits .byte (.int (va_cpy f g a b c i)) = true
  unfold va_cpy
  split
  · exact h0.2 e _
  · exact h.2 e _
/-- the strings that are there: numbers below ns -/
def strO (ns : Nat) (L : List Nat) (A : Nat → Prop) (s : State) : Prop := ∀ k, k < ns → ∃ a, L[k]? = some a ∧ va_O "java/lang/String" a A s s.heap
variable {p : Program} {l : Launch} {e : Env} {R : Room} {s : State} {m : MethodId} {args : Array Value} {below : List Frame} {meth : Method} {c : Code} {H : Heap} {locs : List Loc} {cells slots : Nat} {Q : State → Prop}
variable {cc : ByteArray} {ls : Array Slot} {L : List Nat} {D : va_G} {cl : List vw_C} {tys : List (ClassId × FieldType)} {ws : va_W} {A : Nat → Prop} {ns : Nat} {h : mH} {Ts : List Cond} {own : String}
set_option maxHeartbeats 4000000 in
theorem actW_ok (hx : p.tables.exec = Jvm.exec) (hb : c.code = cc) (hts : ∀ w ∈ Ts, w.before args s = true) (hown : s.vm.findClass own = some m.cls) (hK : va_K D cl tys s) (hP : va_P D cl ws H) (hD : va_D A ws) (hSS : va_S A s.heap H locs) {n1 : Nat} (hO : strO n1 L A s) (hH : rH cl ns L tys h ws) {pc len x : Nat} {i : Instr} {lk : mK} {st str st2 : List Value} {y : mE}
    (hok : ∀ idx, i = .putfield idx → okPf cl Ts own (meth.name = "<init>") idx lk.2.1 lk.2.2.1 lk.2.2.2) (hok2 : i = .aastore → lk.2.1 = n1) (hok3 : ∀ idx, i = .invokestatic idx → lk.1 = 16 → okCopy Ts own idx) (hml : c.maxLocals = ls.size) (hRf : 1 ≤ R.frames) (hRl : 32 ≤ R.locals) (ha : actW i lk st h = some (st2, x, y)) (hd : decode cc pc = .ok (i, lnI i len)) (hS : rS L st str)
    (k : ∀ (H1 : Heap) (locs1 : List Loc) (ws1 : va_W) (str2 : List Value), va_P D cl ws1 H1 → va_D A ws1 → va_S A s.heap H1 locs1 → rH cl ns L tys (h.set x y) ws1 → rS L st2 str2 → W p l e R s m args below meth c H1 locs1 cells slots Q (F0 m (pc + lnI i len) ls str2)) : W p l e R s m args below meth c H locs cells slots Q (F0 m pc ls str) := by
  unfold actW at ha
  split at ha
  · rename_i v x0 r
    obtain ⟨w, r1, rfl, hv, hS1⟩ := rS_V hS
    obtain ⟨a, r2, h1, rfl, hS2⟩ := rS_R hS1
    split at ha
    · rename_i ci fs hc
      split at ha
      · rename_i e0
        cases ha
        obtain ⟨e1, e2, e3⟩ := e0
        obtain ⟨a2, gs, g1, g2, g3, g4⟩ := rH_obj hH hc
        cases h1.symm.trans g1
        obtain ⟨C, T, N, ty, q1, q2, q3, q4, q5, q6, q7, q8⟩ := hok _ rfl
        rw [← e1] at q1
        obtain ⟨n1, n2⟩ := okV_ok e3 q8 hv
        have hl : lk.2.2.1 < gs.length := by rw [rS_len g3]; exact e2
        have hset := fun H1 locs1 (hP1 : va_P D cl (ws.set (_ - ns) (a, .inr (ci, gs.set lk.2.2.1 w))) H1) (hD1 : va_D A (ws.set (_ - ns) (a, .inr (ci, gs.set lk.2.2.1 w)))) (hS9 : va_S A s.heap H1 locs1) => k H1 locs1 _ r2 hP1 hD1 hS9 (rH_set hH g1 g4 ⟨_, rfl, rS_set g3 hv⟩) hS2
        rcases q7 with q7 | ⟨q7, q9, q10⟩
        · exact va_put hx hb hts q3 ty q5 q6 hown hK hP hD hSS _ g2 q1 _ q2 (hts _ q4) (fun _ z => z) q7 (q5 _ q2) n1 n2 hl hd hset
        · exact va_putF hx hb hts q3 ty q5 q6 hown hK hP hD hSS _ g2 q1 _ q2 (hts _ q4) (fun _ z => z) q7 q9 q10 (q5 _ q2) n1 n2 hl hd hset
      · cases ha
    · cases ha
  · obtain ⟨r0, rfl, hS0⟩ := rS_I hS
    obtain ⟨r1, rfl, hS1⟩ := rS_I hS0
    obtain ⟨a, r2, h1, rfl, hS2⟩ := rS_R hS1
    split at ha
    · rename_i t n f hc
      split at ha
      · rename_i e0
        cases ha
        obtain ⟨rfl, hin⟩ := e0
        obtain ⟨a2, cA, t0, b, g1, g2, g3, g4, g5⟩ := rH_arr hH hc (by decide)
        cases h1.symm.trans g1
        have g4 : b = _ := g4
        subst g4
        exact va_iast hx hb hK hP hD hSS _ t0 g2 g3 hin hd (fun H1 locs1 hP1 hD1 hS9 => k H1 locs1 _ r2 hP1 hD1 hS9 (rH_set hH g1 g5 ⟨cA, t0, _, g3, rfl, rfl, byA_no (by decide) (by decide)⟩) hS2)
      · cases ha
    · cases ha
  · obtain ⟨r0, rfl, hS0⟩ := rS_J hS
    obtain ⟨r1, rfl, hS1⟩ := rS_I hS0
    obtain ⟨a, r2, h1, rfl, hS2⟩ := rS_R hS1
    split at ha
    · rename_i t n f hc
      split at ha
      · rename_i e0
        cases ha
        obtain ⟨rfl, hin⟩ := e0
        obtain ⟨a2, cA, t0, b, g1, g2, g3, g4, g5⟩ := rH_arr hH hc (by decide)
        cases h1.symm.trans g1
        have g4 : b = _ := g4
        subst g4
        exact va_last hx hb hK hP hD hSS _ t0 g2 g3 hin hd (fun H1 locs1 hP1 hD1 hS9 => k H1 locs1 _ r2 hP1 hD1 hS9 (rH_set hH g1 g5 ⟨cA, t0, _, g3, rfl, rfl, byA_no (by decide) (by decide)⟩) hS2)
      · cases ha
    · cases ha
  · obtain ⟨r0, rfl, hS0⟩ := rS_F hS
    obtain ⟨r1, rfl, hS1⟩ := rS_I hS0
    obtain ⟨a, r2, h1, rfl, hS2⟩ := rS_R hS1
    split at ha
    · rename_i t n f hc
      split at ha
      · rename_i e0
        cases ha
        obtain ⟨rfl, hin⟩ := e0
        obtain ⟨a2, cA, t0, b, g1, g2, g3, g4, g5⟩ := rH_arr hH hc (by decide)
        cases h1.symm.trans g1
        have g4 : b = _ := g4
        subst g4
        exact va_fast hx hb hK hP hD hSS _ t0 g2 g3 hin hd (fun H1 locs1 hP1 hD1 hS9 => k H1 locs1 _ r2 hP1 hD1 hS9 (rH_set hH g1 g5 ⟨cA, t0, _, g3, rfl, rfl, byA_no (by decide) (by decide)⟩) hS2)
      · cases ha
    · cases ha
  · obtain ⟨r0, rfl, hS0⟩ := rS_D hS
    obtain ⟨r1, rfl, hS1⟩ := rS_I hS0
    obtain ⟨a, r2, h1, rfl, hS2⟩ := rS_R hS1
    split at ha
    · rename_i t n f hc
      split at ha
      · rename_i e0
        cases ha
        obtain ⟨rfl, hin⟩ := e0
        obtain ⟨a2, cA, t0, b, g1, g2, g3, g4, g5⟩ := rH_arr hH hc (by decide)
        cases h1.symm.trans g1
        have g4 : b = _ := g4
        subst g4
        exact va_dast hx hb hK hP hD hSS _ t0 g2 g3 hin hd (fun H1 locs1 hP1 hD1 hS9 => k H1 locs1 _ r2 hP1 hD1 hS9 (rH_set hH g1 g5 ⟨cA, t0, _, g3, rfl, rfl, byA_no (by decide) (by decide)⟩) hS2)
      · cases ha
    · cases ha
  · obtain ⟨r0, rfl, hS0⟩ := rS_I hS
    obtain ⟨r1, rfl, hS1⟩ := rS_I hS0
    obtain ⟨a, r2, h1, rfl, hS2⟩ := rS_R hS1
    split at ha
    · rename_i t n f hc
      split at ha
      · rename_i e0
        cases ha
        obtain ⟨rfl, hin⟩ := e0
        obtain ⟨a2, cA, t0, b, g1, g2, g3, g4, g5⟩ := rH_arr hH hc (by decide)
        cases h1.symm.trans g1
        have g4 : b = _ := g4
        subst g4
        exact va_bast hx hb hK hP hD hSS _ t0 g2 g3 hin hd (fun H1 locs1 hP1 hD1 hS9 => k H1 locs1 _ r2 hP1 hD1 hS9 (rH_set hH g1 g5 ⟨cA, t0, _, g3, rfl, rfl, byA_up (rH_by hH hc (by decide))⟩) hS2)
      · split at ha
        · rename_i e0
          cases ha
          obtain ⟨rfl, hin⟩ := e0
          obtain ⟨a2, cA, t0, b, g1, g2, g3, g4, g5⟩ := rH_arr hH hc (by decide)
          cases h1.symm.trans g1
          have g4 : b = _ := g4
          subst g4
          exact va_zast hx hb hK hP hD hSS _ t0 g2 g3 hin hd (fun H1 locs1 hP1 hD1 hS9 => k H1 locs1 _ r2 hP1 hD1 hS9 (rH_set hH g1 g5 ⟨cA, t0, _, g3, rfl, rfl, byA_no (by decide) (by decide)⟩) hS2)
        · cases ha
    · cases ha
  · obtain ⟨w, r0, z1, rfl, hS0⟩ := rS_R hS
    obtain ⟨r1, rfl, hS1⟩ := rS_I hS0
    obtain ⟨a, r2, h1, rfl, hS2⟩ := rS_R hS1
    split at ha
    · rename_i t n f ci vs hc hv
      split at ha
      · rename_i e0
        cases ha
        obtain ⟨⟨rfl, ht⟩, hin⟩ := e0
        obtain ⟨a2, cA, t0, b, g1, g2, g3, g4, g5⟩ := rH_arr hH hc (by omega)
        cases h1.symm.trans g1
        obtain ⟨g, rfl, gg⟩ := g4
        obtain ⟨b2, gs, f1, f2, f3, f4⟩ := rH_obj hH hv
        cases z1.symm.trans f1
        obtain ⟨r, hr, -⟩ := hP _ _ f2
        have hft : ftOf cl (ci + 8) = .object r.1 := by show FieldType.object _ = _; rw [hr]; rfl
        rw [hft] at g3
        obtain ⟨cellB, u1, u2, u3⟩ := va_recv hK hP hr f2
        exact vb_astq hx hb hK hP hD hSS _ t0 g2 g3 ⟨cellB, u1, u2, u3⟩ vb_asgS hin hd (fun H1 locs1 hP1 hD1 hS9 => k H1 locs1 _ r2 hP1 hD1 hS9 (rH_set hH g1 g5 ⟨cA, t0, _, by rw [hft]; exact g3, rfl, rA_up gg z1, byA_no (by omega) (by omega)⟩) hS2)
      · cases ha
    · rename_i t n f vs hc hv
      split at ha
      · rename_i e0
        cases ha
        obtain ⟨⟨rfl, ht⟩, hin⟩ := e0
        obtain ⟨a2, cA, t0, b, g1, g2, g3, g4, g5⟩ := rH_arr hH hc (by omega)
        cases h1.symm.trans g1
        obtain ⟨g, rfl, gg⟩ := g4
        obtain ⟨b2, f1, cellB, u1, u2, u3, u4⟩ := hO _ (by rw [← hok2 rfl]; exact ht)
        cases z1.symm.trans f1
        have hlt : w < s.heap.size := (Array.getElem?_eq_some_iff.mp u1).1
        exact vb_astq hx hb hK hP hD hSS _ t0 g2 g3 ⟨cellB, by rw [hSS.2.1 _ hlt u4]; exact u1, u2, u3⟩ vb_asgS hin hd (fun H1 locs1 hP1 hD1 hS9 => k H1 locs1 _ r2 hP1 hD1 hS9 (rH_set hH g1 g5 ⟨cA, t0, _, g3, rfl, rA_up gg z1, byA_no (by decide) (by decide)⟩) hS2)
      · cases ha
    · cases ha
  · obtain ⟨r0, rfl, hS0⟩ := rS_I hS
    obtain ⟨r1, rfl, hS1⟩ := rS_I hS0
    obtain ⟨a, r2, h1, rfl, hS2⟩ := rS_R hS1
    obtain ⟨r3, rfl, hS3⟩ := rS_I hS2
    obtain ⟨a0, r4, h2, rfl, hS4⟩ := rS_R hS3
    split at ha
    · rename_i t0 n0 f t n1 g hc0 hc
      split at ha
      · rename_i e0
        cases ha
        obtain ⟨⟨e1, rfl, e2, e3⟩, e4, e5, e6, e7, e8⟩ := e0
        obtain ⟨w1, w2, w3, w4⟩ := hok3 _ rfl e1
        obtain ⟨b0, cA0, j0, z0, g1, g2, g3, g4, g5⟩ := rH_arr hH hc0 (by omega)
        cases h2.symm.trans g1
        have g4 : z0 = _ := g4
        subst g4
        obtain ⟨b1, cA1, j1, z1, f1, f2, f3, f4, f5⟩ := rH_arr hH hc (by omega)
        cases h1.symm.trans f1
        have f4 : z1 = _ := f4
        subst f4
        have hb0 := rH_by hH hc0 (by omega)
        have hb1 := rH_by hH hc (by omega)
        have hty : refKind (ftOf cl t0) = false := by
          rcases Nat.le_one_iff_eq_zero_or_eq_one.mp e2 with rfl | rfl <;> rfl
        refine va_copyi hx hb hml hown (hts _ w1) (hts _ w2) (hts _ w3) (hts _ w4) hK hP hD hSS _ _ j0 j1 g2 f2 g3 f3 hty e4 e5 e6 e7 e8 (fun i hi => ?_) hRf ?_ hd (fun H1 locs1 hP1 hD1 hS9 => k H1 locs1 _ r4 hP1 hD1 hS9 (rH_set hH f1 f5 ⟨cA1, j1, _, f3, rfl, rfl, byA_cpy hb1 hb0⟩) hS4)
        · rcases Nat.le_one_iff_eq_zero_or_eq_one.mp e2 with rfl | rfl
          · rfl
          · exact hb0.2 rfl _
        · rw [← rS_cats hS4] at e3
          refine Nat.le_trans (Nat.add_le_add_right e3 _) (Nat.le_trans ?_ hRl)
          decide
      · cases ha
    · cases ha
  · cases ha
/-! what is made -/
def tgA : ArrayType → Nat
  | .int => 0
  | .byte => 1
  | .boolean => 2
  | .char => 3
  | .long => 4
  | .float => 5
  | .double => 6
  | .short => 900
def ctA : ArrayType → ((Nat → Int32) ⊕ (Nat → Int64) ⊕ (Nat → UInt32) ⊕ (Nat → UInt64) ⊕ (Nat → Option Nat))
  | .long => .inr (.inl fun _ => 0)
  | .float => .inr (.inr (.inl fun _ => 0))
  | .double => .inr (.inr (.inr (.inl fun _ => 0)))
  | _ => .inl fun _ => 0
/-- the stack behind, the new cell, how many slots it has -/
def actN (df : List (List Value)) (i : Instr) (lk : mK) (st : List Value) (h : mH) : Option (List Value × mE × Nat) := match i, st with
  | .new _, r => match df[lk.2.1]? with
    | some fs => some (.ref h.length :: r, .inr (lk.2.1, fs), fs.length)
    | none => none
  | .newarray at0, .int n :: r => if ¬ n < 0 ∧ n.toNatClampNeg ≤ 65536 ∧ tgA at0 < 900 then some (.ref h.length :: r, .inl (tgA at0, n.toNatClampNeg, ctA at0), n.toNatClampNeg) else none
  | .anewarray _, .int n :: r => if ¬ n < 0 ∧ n.toNatClampNeg ≤ 65536 ∧ lk.2.1 ≠ 999 then some (.ref h.length :: r, .inl (lk.2.1, n.toNatClampNeg, .inr (.inr (.inr (.inr fun _ => none)))), n.toNatClampNeg) else none
  | _, _ => none
def okNew (cl : List vw_C) (df : List (List Value)) (Ts : List Cond) (own : String) (idx ci : Nat) : Prop := ∃ (C : String) (T : u_T) (N : Nat) (ty : Nat → FieldType) (fs : List Value), cl[ci]? = some (C, T, N) ∧ df[ci]? = some fs ∧ fs.length = N ∧ (∀ w ∈ u_ws C T N, w ∈ Ts) ∧ (∀ k, k < N → parseFieldDescriptor (T k).2.2.1 = some (ty k)) ∧ (∀ j, j < N → defaultValue (ty j) = vp_V fs j) ∧ (∀ L : List Nat, rS L fs fs) ∧
  Cond.classLink own idx C ∈ Ts ∧ Cond.instantiable C N ∈ Ts ∧ Cond.initialized C ∈ Ts
def okArr (Ts : List Cond) (at0 : ArrayType) : Prop := Cond.arrayClass (newarray.typeOf at0) ∈ Ts
def okANew (cl : List vw_C) (Ts : List Cond) (ar : List String) (own : String) (idx t : Nat) : Prop := ∃ C, ftOf cl t = .object C ∧ C ∈ ar ∧ Cond.classLink own idx C ∈ Ts
theorem tgA_ft {cl : List vw_C} {at0 : ArrayType} (h : tgA at0 < 900) : ftOf cl (tgA at0) = newarray.typeOf at0 ∧ ∀ (cA : ClassId) (n : Nat), vp_cell cA (n, ctA at0) = arrV cA n (fun _ => defaultValue (newarray.typeOf at0)) := by
  cases at0 <;> first | exact ⟨rfl, fun _ _ => rfl⟩ | exact absurd h (by decide)
theorem rA_ct {L : List Nat} {n : Nat} (at0 : ArrayType) : rA L (n, ctA at0) (n, ctA at0) := by
  cases at0 <;> exact rfl
theorem byA_ct {n : Nat} {at0 : ArrayType} (h : tgA at0 < 900) : byA (tgA at0) (n, ctA at0) := by
  cases at0 <;> first | exact byA_no (by decide) (by decide) | exact ⟨by decide, fun _ _ => rfl⟩ | exact absurd h (by decide)
set_option maxHeartbeats 4000000 in
theorem actN_ok (hx : p.tables.exec = Jvm.exec) (hb : c.code = cc) (hts : ∀ w ∈ Ts, w.before args s = true) (hown : s.vm.findClass own = some m.cls) (hK : va_K D cl tys s) (hP : va_P D cl ws H) (hD : va_D A ws) (hSS : va_S A s.heap H locs) (hA : ∀ q, s.heap.size ≤ q → A q) {ar : List String} (har : ∀ C ∈ ar, va_AO C s) (hH : rH cl ns L tys h ws) {df : List (List Value)} {pc len n : Nat} {i : Instr} {lk : mK} {st str st2 : List Value} {y : mE}
    (hok1 : ∀ idx, i = .new idx → okNew cl df Ts own idx lk.2.1) (hok2 : ∀ at0, i = .newarray at0 → okArr Ts at0) (hok3 : ∀ idx, i = .anewarray idx → okANew cl Ts ar own idx lk.2.1) (ha : actN df i lk st h = some (st2, y, n)) (hc : cells + 1 ≤ R.cells) (hs : slots + n ≤ R.slots) (hd : decode cc pc = .ok (i, lnI i len)) (hS : rS L st str)
    (k : ∀ (H1 : Heap) (ws1 : va_W) (L1 : List Nat) (tys1 : List (ClassId × FieldType)) (str2 : List Value), L <+: L1 → va_K D cl tys1 s → va_P D cl ws1 H1 → va_D A ws1 → va_S A s.heap H1 locs → rH cl ns L1 tys1 (h ++ [y]) ws1 → rS L1 st2 str2 → W p l e R s m args below meth c H1 locs (cells + 1) (slots + n) Q (F0 m (pc + lnI i len) ls str2)) : W p l e R s m args below meth c H locs cells slots Q (F0 m pc ls str) := by
  have hlast : ∀ q : Nat, (L ++ [q])[h.length]? = some q := fun q => by rw [← hH.1]; simp
  unfold actN at ha
  split at ha
  · split at ha
    · rename_i fs hf
      cases ha
      obtain ⟨C, T, N, ty, fs', q1, q2, q3, q4, q5, q6, q7, q8, q9, q10⟩ := hok1 _ rfl
      cases hf.symm.trans q2
      subst q3
      refine va_new hx hb hts q4 ty q5 hown (hts _ q8) (hts _ q9) (hts _ q10) hK hP hD hSS hA q1 q6 hc hs hd (fun q H1 hP1 hD1 hS1 => ?_)
      exact k H1 _ (L ++ [q]) tys _ (List.prefix_append _ _) hK hP1 hD1 hS1 (rH_push hH (List.prefix_refl _) ⟨_, rfl, q7 _⟩) ⟨⟨q, hlast q, rfl⟩, rS_mono (List.prefix_append _ _) hS⟩
    · cases ha
  · rename_i at0 n0 r
    obtain ⟨r1, rfl, hS1⟩ := rS_I hS
    split at ha
    · rename_i e0
      cases ha
      obtain ⟨e1, e2, e3⟩ := e0
      obtain ⟨f1, f2⟩ := tgA_ft (cl := cl) e3
      have hby : n0.toNatClampNeg * componentBytes (newarray.typeOf at0) ≤ 536870912 := by
        have h8 : componentBytes (newarray.typeOf at0) ≤ 8 := by cases at0 <;> decide
        exact Nat.le_trans (Nat.mul_le_mul e2 h8) (by decide)
      refine va_newa hx hb (hts _ (hok2 _ rfl)) rfl hK hP hD hSS hA (fun cA => f2 cA _) e1 rfl hby hc hs hd (fun q cA H1 hK1 hP1 hD1 hS9 => ?_)
      refine k H1 _ (L ++ [q]) (tys ++ [(cA, newarray.typeOf at0)]) _ (List.prefix_append _ _) hK1 hP1 hD1 hS9 (rH_push hH (List.prefix_append _ _) ⟨cA, tys.length, _, ?_, rfl, rA_ct _, byA_ct e3⟩) ⟨⟨q, hlast q, rfl⟩, rS_mono (List.prefix_append _ _) hS1⟩
      rw [f1]; simp
    · cases ha
  · rename_i n0 r
    obtain ⟨r1, rfl, hS1⟩ := rS_I hS
    split at ha
    · rename_i e0
      cases ha
      obtain ⟨e1, e2, e4⟩ := e0
      obtain ⟨C, q1, q2, q3⟩ := hok3 _ rfl
      refine va_newq hx hb hown (hts _ q3) (har _ q2) hK hP hD hSS hA e1 rfl (Nat.le_trans (Nat.mul_le_mul_right 4 e2) (by decide)) hc hs hd (fun q cA H1 hK1 hP1 hD1 hS9 => ?_)
      refine k H1 _ (L ++ [q]) (tys ++ [(cA, .object C)]) _ (List.prefix_append _ _) hK1 hP1 hD1 hS9 (rH_push hH (List.prefix_append _ _) ⟨cA, tys.length, _, ?_, rfl, ⟨_, rfl, fun i => rfl⟩, byA_no (fun e9 => absurd e9 e4) (fun e9 => by rw [e9] at q1; cases q1)⟩) ⟨⟨q, hlast q, rfl⟩, rS_mono (List.prefix_append _ _) hS1⟩
      rw [q1]; simp
    · cases ha
  · cases ha
end MW
