/-! Numbers of the script put in. -/
section ABS
abbrev mKn : Type := List (Nat × Bool × Int)
abbrev mAs : Type := Option (Nat × Nat × (Nat → Value) × Int32)
def sg (f : Nat → Int32) (v : Value) : Value := match v with
  | .retAddr t => if 1000 ≤ t then .int (f (t - 1000)) else .retAddr t
  | v => v
def sgS (f : Nat → Int32) (st : List Value) : List Value := st.map (sg f)
def sgL (f : Nat → Int32) (lv : mL) : mL := lv.map fun q => (q.1, sg f q.2)
variable {f : Nat → Int32}
theorem sg_n {v : Value} (h : nTk v = true) : sg f v = v := by
  cases v with
  | retAddr t =>
    simp only [nTk, decide_eq_true_eq] at h
    unfold sg
    dsimp only
    rw [if_neg (by omega)]
  | _ => rfl
theorem sg_t {t : Nat} (h : 1000 ≤ t) : sg f (.retAddr t) = .int (f (t - 1000)) := by
  unfold sg
  dsimp only
  rw [if_pos h]
theorem sg_cat {v : Value} : (sg f v).category = v.category := by
  cases v with
  | retAddr t =>
    unfold sg
    dsimp only
    split <;> rfl
  | _ => rfl
theorem sg_int {x : Int32} : sg f (.int x) = .int x := rfl
theorem sg_ref {x : Nat} : sg f (.ref x) = .ref x := rfl
theorem sg_long {x : Int64} : sg f (.long x) = .long x := rfl
theorem sg_float {x : UInt32} : sg f (.float x) = .float x := rfl
theorem sg_double {x : UInt64} : sg f (.double x) = .double x := rfl
theorem gl_sg {k : Nat} : ∀ {lv : mL}, gl (sgL f lv) k = (gl lv k).map (sg f)
  | [] => rfl
  | q :: r => by
    show (if q.1 = k then some (sg f q.2) else gl (sgL f r) k) = (if q.1 = k then some q.2 else gl r k).map (sg f)
    rw [gl_sg]
    split <;> rfl
theorem sto_sg {lv : mL} {i : Nat} {v : Value} : sto (sgL f lv) i (sg f v) = sgL f (sto lv i v) := by
  have e : ((fun q : Nat × Value => !(q.1 == i) && !(q.1 + 1 == i && q.2.category == 2)) ∘ fun q : Nat × Value => (q.1, sg f q.2)) = fun q => !(q.1 == i) && !(q.1 + 1 == i && q.2.category == 2) := by
    funext q
    simp only [Function.comp, sg_cat]
  show (i, sg f v) :: (lv.map _).filter _ = (i, sg f v) :: (lv.filter _).map _
  rw [List.filter_map, e]
theorem sto2_sg {lv : mL} {i : Nat} {v : Value} : sto2 (sgL f lv) i (sg f v) = sgL f (sto2 lv i v) := by
  have e : ((fun q : Nat × Value => !(q.1 == i) && (!(q.1 == i + 1) && !(q.1 + 1 == i && q.2.category == 2))) ∘ fun q : Nat × Value => (q.1, sg f q.2)) = fun q => !(q.1 == i) && (!(q.1 == i + 1) && !(q.1 + 1 == i && q.2.category == 2)) := by
    funext q
    simp only [Function.comp, sg_cat]
  show (i, sg f v) :: (lv.map _).filter _ = (i, sg f v) :: (lv.filter _).map _
  rw [List.filter_map, e]
theorem args_sg : ∀ (as : List Value) (i : Nat), lv_args i (sgS f as) = sgL f (lv_args i as)
  | [], i => rfl
  | v :: vs, i => by
    show lv_args i (sg f v :: sgS f vs) = _
    unfold lv_args
    rw [sg_cat, args_sg vs]
    rfl
theorem cats_sg {st : List Value} : ((sgS f st).map fun v => v.category) = st.map fun v => v.category := by
  unfold sgS
  rw [List.map_map]
  exact List.map_congr_left fun v _ => sg_cat
theorem popN_sg : ∀ {n : Nat} {st as r : List Value}, popN n st = some (as, r) → popN n (sgS f st) = some (sgS f as, sgS f r)
  | 0, st, as, r, h => by cases h; rfl
  | n + 1, [], as, r, h => by cases h
  | n + 1, v :: st, as, r, h => by
    unfold popN at h
    split at h
    next a r2 e =>
      cases h
      show (match popN n (sgS f st) with | some (a, r) => some (a ++ [sg f v], r) | none => none) = _
      rw [popN_sg e]
      simp [sgS]
    next => cases h
variable {mt : Nat → Option mM} {df : List (List Value)} {pc nL len : Nat} {i : Instr} {lk : mK} {lv : mL} {st : List Value} {h : mH} {sc : mSc} {g : Nat → Option mE}
theorem actC_sg {q : Nat × mL × List Value} (hq : actC i pc lv st = some q) : actC i pc (sgL f lv) (sgS f st) = some (q.1, sgL f q.2.1, sgS f q.2.2) := by
  unfold actC at hq ⊢
  split at hq <;> first
    | (cases hq; done)
    | (cases hq; rfl)
    | (split at hq <;> first
      | (cases hq; done)
      | (rename_i e; cases hq; dsimp only; rw [gl_sg, e]; rfl))
theorem actA_sg {q : Nat × List Value} (hq : actA i pc st = some q) : actA i pc (sgS f st) = some (q.1, sgS f q.2) := by
  unfold actA at hq
  split at hq <;> first
    | (cases hq; done)
    | (cases hq; rfl)
    | (split at hq <;> first
      | (cases hq; done)
      | (rename_i hc; cases hq; show (if _ then _ else _) = _; (try simp only [sg_cat]); first | (rw [if_pos hc]; rfl) | (rw [if_neg hc]; rfl))
      | (rename_i hc
         split at hq
         · split at hq
           · rename_i h2
             cases hq
             simp only [sgS, List.map_cons, actA, sg_cat]
             rw [if_neg hc, if_pos h2]
           · cases hq
         · cases hq))
theorem actS_sg {q : Nat × mL × List Value} (hq : actS nL i pc lv st = some q) (hg : gPre i st = true) : actS nL i pc (sgL f lv) (sgS f st) = some (q.1, sgL f q.2.1, sgS f q.2.2) := by
  unfold actS at hq
  split at hq <;> first
    | (cases hq; done)
    | (split at hq <;> first
      | (cases hq; done)
      | (rename_i hc; cases hq
         show (if _ then _ else _) = _
         rw [if_pos hc]
         dsimp only
         rw [← sto_sg]
         rfl)
      | (rename_i hc; cases hq
         show (if _ then _ else _) = _
         rw [if_pos hc]
         dsimp only
         rw [← sto2_sg]
         rfl)
      | (rename_i hc; cases hq
         have hv := sg_n (f := f) (v := .retAddr _) hg
         simp only [sgS, List.map_cons, hv, actS]
         rw [if_pos hc, ← sto_sg, hv])
      | (rename_i e
         split at hq
         · rename_i hc; cases hq
           show (match gl (sgL f lv) _ with | some (.int x) => _ | _ => none) = _
           rw [gl_sg, e]
           show (if _ then _ else _) = _
           rw [if_pos hc]
           dsimp only
           rw [← sto_sg]
           rfl
         · cases hq))
theorem actB_sg {q : Nat × List Value} (hq : actB i pc st = some q) : actB i pc (sgS f st) = some (q.1, sgS f q.2) := by
  unfold actB at hq
  split at hq <;> first
    | (cases hq; done)
    | (cases hq; rfl)
    | (obtain ⟨t, ht, rfl⟩ := Option.map_eq_some_iff.mp hq
       show (tgt _ _).map _ = _
       rw [ht]
       rfl)
    | (split at hq <;> first
      | (cases hq; done)
      | (rename_i hc
         obtain ⟨t, ht, rfl⟩ := Option.map_eq_some_iff.mp hq
         show (if _ then _ else _) = _
         first | rw [if_pos hc] | rw [if_neg hc]
         rw [ht]
         rfl)
      | (rename_i hc
         split at hq
         · rename_i e
           obtain ⟨t, ht, rfl⟩ := Option.map_eq_some_iff.mp hq
           show (if _ then _ else _) = _
           rw [if_neg hc, e]
           dsimp only
           rw [ht]
           rfl
         · cases hq))
theorem va_rf_sg {o : Option Nat} : sg f (va_rf o) = va_rf o := by cases o <;> rfl
theorem actR_sg (hG : ∀ x e, g x = some e → clean e = true → h[x]? = some e) {q : List Value} (hq : actRg i lk st g = some q) (hg : gTop i q = true) : actR i lk (sgS f st) h = some (sgS f q) := by
  unfold actRg at hq
  split at hq <;> first
    | (cases hq; done)
    | (split at hq
       · rename_i e
         split at hq
         · rename_i hc
           first
           | (cases hq
              have e2 := hG _ _ e (by simp only [clean, decide_eq_true_eq]; first | omega | (have := hc.1; omega))
              simp only [sgS, List.map_cons, sg_int, sg_ref, actR, e2, va_rf_sg, sg_long, sg_float, sg_double]
              first | rw [if_pos hc] | rw [if_pos (show _ ∧ _ from And.intro (show _ ∨ _ ∨ _ by omega) hc.2)] | rw [if_pos (show _ ∨ _ from Or.inl hc)])
           | (split at hq
              · rename_i e3
                cases hq
                have e2 := hG _ _ e rfl
                simp only [sgS, List.map_cons, sg_ref, actR, e2, e3]
                rw [if_pos hc, sg_n (show nTk _ = true from hg)]
              · cases hq)
         · cases hq
       · cases hq)
theorem okV_sg {z : Int} {v : Value} (hv : okV z v = true) : sg f v = v := by
  cases v with
  | retAddr t => cases hv
  | _ => rfl
theorem actW_sg (hG : ∀ x e, g x = some e → clean e = true → h[x]? = some e) {q : List Value × Nat × mE} (hq : actWg i lk st g = some q) : actW i lk (sgS f st) h = some (sgS f q.1, q.2) := by
  unfold actWg at hq
  split at hq <;> first
    | (cases hq; done)
    | (split at hq <;> first
       | (cases hq; done)
       | (rename_i e
          split at hq
          · rename_i hc
            cases hq
            first
            | (have e2 := hG _ _ e rfl
               simp only [sgS, List.map_cons, sg_ref, okV_sg hc.2.2, actW, e2]
               rw [if_pos hc])
            | (have e2 := hG _ _ e (by simp only [clean, decide_eq_true_eq]; have := hc.1; omega)
               simp only [sgS, List.map_cons, sg_int, sg_long, sg_float, sg_double, sg_ref, actW, e2]
               rw [if_pos hc])
          · first
            | (cases hq; done)
            | (rename_i hn
               split at hq
               · rename_i hc
                 cases hq
                 have e2 := hG _ _ e (by simp only [clean, decide_eq_true_eq]; have := hc.1; omega)
                 simp only [sgS, List.map_cons, sg_int, sg_ref, actW, e2]
                 rw [if_neg hn, if_pos hc]
               · cases hq))
       | (rename_i e1 e2
          split at hq
          · rename_i hc
            cases hq
            have e3 := hG _ _ e1 (by first | rfl | (simp only [clean, decide_eq_true_eq]; have := hc.1; omega))
            have e4 := hG _ _ e2 rfl
            simp only [sgS, List.map_cons, sg_int, sg_ref, actW, e3, e4]
            rw [if_pos hc]
          · cases hq))
theorem cats_map {st : List Value} : ((st.map (sg f)).map fun v => v.category) = st.map fun v => v.category := cats_sg
theorem actK12 {idx : Nat} {y : Int32} {r : List Value} (h12 : lk.1 = 12) (hc : (r.map fun v => v.category).sum ≤ 8) : actK (.invokestatic idx) lk (.int y :: r) = some (.int (if 0 ≤ y then y else 0 - y) :: r) := by
  cases r with
  | nil => simp [actK, h12]
  | cons w r =>
    cases w with
    | int x =>
      have h2 : (r.map fun v => v.category).sum ≤ 8 := by
        simp only [List.map_cons, List.sum_cons] at hc
        omega
      simp only [actK]
      rw [if_pos h2, if_neg (by omega), if_neg (by omega), if_pos h12]
    | _ =>
      simp only [actK]
      rw [if_pos ⟨hc, h12⟩]
theorem actK_sg {q : List Value} (hq : actK i lk st = some q) : actK i lk (sgS f st) = some (sgS f q) := by
  unfold actK at hq
  split at hq <;> first
    | (cases hq; done)
    | (split at hq
       · rename_i hc
         cases hq
         exact actK12 hc.2 (by rw [cats_map]; exact hc.1)
       · cases hq)
    | ((repeat' split at hq) <;> first
       | (cases hq; done)
       | (cases hq
          simp only [sgS, List.map_cons, sg_int, sg_ref, actK, cats_map]
          first | done | (simp only [*]; done) | (simp [*]; done) | (simp [*]; rfl)))
theorem actN_sg {q : List Value × mE × Nat} (hq : actNg df i lk st h.length = some q) : actN df i lk (sgS f st) h = some (sgS f q.1, q.2) := by
  unfold actNg at hq
  split at hq <;> first
    | (cases hq; done)
    | (split at hq
       · rename_i e; cases hq
         first
         | (simp only [sgS, actN, e]; done)
         | (simp only [sgS, actN, e, List.map_cons, sg_ref]; done)
         | (simp only [sgS, List.map_cons, sg_int, sg_ref, actN]; rw [if_pos e])
       · cases hq)
end ABS
