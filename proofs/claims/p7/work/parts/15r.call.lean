/-! Contracts in states of which part is known, and what a call by one comes to. -/
section CTR
variable {PR : Nat → Int → Int → mH → Prop} {G : Nat → Nat} {gs : Nat → Option gS} {ρ : Va} {S : sS} {lv : mL} {st : List Value} {h h' : mH} {np d : Nat} {md : List (Nat × Nat)} {dp : dT}
/-- before (its stack: the arguments), behind (one of several; its stack: the answer), what may change, the exceptions -/
abbrev Ctr : Type := sS × List sS × List (Nat × Nat) × List Nat
/-- what a throw tells: nothing; that a field of the first argument is 0 (tens); the further fact 199 of an unknown (thousands); that the further facts 200 to 299 of before hold still (millions) -/
def kpT (pr : List (Nat × LE × LE)) : List (Nat × LE × LE) := pr.filter fun q => Nat.ble 200 q.1 && Nat.ble q.1 299
def exF (PR : Nat → Int → Int → mH → Prop) (pr : List (Nat × LE × LE)) (z : Nat) (ρ : Va) (h : mH) : Prop := (z / 10 % 100 = 0 ∨ ∃ ci fs, h[(ρ 0).toNat]? = some (.inr (ci, fs)) ∧ fs[z / 10 % 100 - 1]? = some (.int 0)) ∧ (z / 1000 % 1000 = 0 ∨ PR 199 0 (ρ (z / 1000 % 1000 - 1)) h) ∧ (z / 1000000 = 0 ∨ aP PR ρ (kpT pr) h)
def ctrP (PR : Nat → Int → Int → mH → Prop) (G : Nat → Nat) (gs : Nat → Option gS) (c : Ctr) (ρ : Va) (h : mH) : mPost := fun ex v h2 => TI G gs h2 ∧ fr G gs c.2.2.1 h h2 ∧ match ex with
  | none => ∃ P, P ∈ c.2.1 ∧ ∃ ρ', (∀ i, i < c.1.1 → ρ' i = ρ i) ∧ abs PR G ρ' P [] v.toList h2
  | some E => ∃ z, z ∈ c.2.2.2 ∧ z % 10 = E ∧ exF PR c.1.2.2.2.2.2.2.2 z ρ h2
def ctrOK (PR : Nat → Int → Int → mH → Prop) (G : Nat → Nat) (gs : Nat → Option gS) (call : mCall) (y : Nat) (c : Ctr) : Prop := ∀ (ρ : Va) (as : List Value) (h : mH), abs PR G ρ c.1 [] as h → TI G gs h → call y as h (ctrP PR G gs c ρ h)
def ltE (n : Nat) (e : LE) : Bool := e.2.all fun q => Nat.ble (q.1 + 1) n
def wfS (n : Nat) (S : sS) : Bool := S.2.2.1.all (fun s => ltE n s.2) && (S.2.2.2.1.all (fun f => ltE n f) && (S.2.2.2.2.1.all (fun q => ltE n q.1) && (S.2.2.2.2.2.1.all (fun q => ltE n q.1 && ltE n q.2.2.2) && (S.2.2.2.2.2.2.1.all (fun q => ltE n q.1 && (ltE n q.2.1 && ltE n q.2.2.2)) && S.2.2.2.2.2.2.2.all (fun q => ltE n q.2.1 && ltE n q.2.2)))))
theorem evT_same {ρ' : Va} {n : Nat} (hs : ∀ i, i < n → ρ i = ρ' i) : ∀ {l : List (Nat × Int)}, (l.all fun q => Nat.ble (q.1 + 1) n) = true → evT ρ l = evT ρ' l
  | [], _ => rfl
  | q :: r, h => by
    simp only [List.all_cons, Bool.and_eq_true] at h
    show q.2 * ρ q.1 + evT ρ r = q.2 * ρ' q.1 + evT ρ' r
    rw [hs q.1 (Nat.le_of_ble_eq_true h.1), evT_same hs h.2]
theorem ev_same {ρ' : Va} {n : Nat} {e : LE} (hs : ∀ i, i < n → ρ i = ρ' i) (h : ltE n e = true) : ev ρ e = ev ρ' e := by
  show e.1 + evT ρ e.2 = e.1 + evT ρ' e.2
  rw [evT_same hs h]
def thE (θ : List LE) (ρ : Va) : Va := fun i => ev ρ (θ.getD i (0, []))
theorem ev_th {ρ' : Va} {θ : List LE} {n : Nat} {e : LE} (hs : ∀ i, i < n → thE θ ρ i = ρ' i) (h : ltE n e = true) : ev ρ (sbE θ e) = ev ρ' e := by
  rw [ev_sb]
  exact ev_same hs h
def sbV (θ : List LE) (v : sV) : sV := (v.1, sbE θ v.2)
theorem dV_ev {ρ' : Va} {t : Nat} {e e' : LE} {v : Value} (he : t = 0 ∨ t = 1 ∨ t = 7 → ev ρ e = ev ρ' e') (hv : dV ρ (t, e) v) : dV ρ' (t, e') v := by
  unfold dV at hv ⊢
  dsimp only at hv ⊢
  match t, he, hv with
  | 0, he, hv => obtain ⟨x, h1, h2⟩ := hv; exact ⟨x, h1, h2.trans (he (Or.inl rfl))⟩
  | 1, he, hv => rw [← he (Or.inr (Or.inl rfl))]; exact hv
  | 2, _, hv => exact hv
  | 3, _, hv => exact hv
  | 4, _, hv => exact hv
  | 5, _, hv => exact hv
  | 6, _, hv => exact hv
  | 7, he, hv => obtain ⟨x, h1, h2⟩ := hv; exact ⟨x, h1, h2.trans (he (Or.inr (Or.inr rfl)))⟩
  | n + 8, _, hv => exact hv
def mtV (θ : List LE) (u v : sV) : Bool := Nat.beq u.1 v.1 && (if v.1 = 0 ∨ v.1 = 1 ∨ v.1 = 7 then eqE u.2 (sbE θ v.2) else true)
theorem mtV_ok {θ : List LE} {n : Nat} {u v : sV} {w : Value} (hm : mtV θ u v = true) (hl : ltE n v.2 = true) {ρ' : Va} (hs : ∀ i, i < n → thE θ ρ i = ρ' i) (hu : dV ρ u w) : dV ρ' v w := by
  obtain ⟨t, e⟩ := u
  obtain ⟨t', e'⟩ := v
  simp only [mtV, Bool.and_eq_true] at hm
  obtain ⟨h1, h2⟩ := hm
  have h1 : t = t' := Nat.eq_of_beq_eq_true h1
  subst h1
  refine dV_ev (fun ht => ?_) hu
  rw [if_pos ht] at h2
  rw [eqE_ok h2]
  exact ev_th hs hl
def mtS (θ : List LE) : List sV → List sV → Bool
  | [], [] => true
  | u :: us, v :: vs => mtV θ u v && mtS θ us vs
  | _, _ => false
theorem mtS_ok {θ : List LE} {n : Nat} {ρ' : Va} (hs : ∀ i, i < n → thE θ ρ i = ρ' i) : ∀ {us vs : List sV} {w : List Value}, mtS θ us vs = true → (vs.all fun s => ltE n s.2) = true → aS ρ us w → aS ρ' vs w
  | [], [], [], _, _, _ => trivial
  | u :: us, v :: vs, x :: w, hm, hl, ha => by
    simp only [mtS, Bool.and_eq_true] at hm
    simp only [List.all_cons, Bool.and_eq_true] at hl
    exact ⟨mtV_ok hm.1 hl.1 hs ha.1, mtS_ok hs hm.2 hl.2 ha.2⟩
  | [], _ :: _, _, hm, _, _ => by cases hm
  | _ :: _, [], _, hm, _, _ => by cases hm
  | [], [], _ :: _, _, _, ha => ha.elim
  | _ :: _, _ :: _, [], _, _, ha => ha.elim
/-! a field or an element read beside the stack -/
def sMt (S : sS) (q : sV × List LE × List (LE × Nat)) (hf : List (LE × Nat × sV)) (af : List (LE × LE × sV)) : sS := (S.1 + 1, S.2.1, S.2.2.1, q.2.1 ++ S.2.2.2.1, q.2.2 ++ S.2.2.2.2.1, hf ++ S.2.2.2.2.2.1, af ++ S.2.2.2.2.2.2.1, S.2.2.2.2.2.2.2)
def mat (np : Nat) (gs : Nat → Option gS) (S : sS) (r : LE) (k : Nat) : Option sS := match lkH S.2.2.2.2.2.1 r k with
  | some _ => some S
  | none => match lkG S.2.2.2.2.1 r with
    | some g => match gs g with
      | some (.inl (_, fs)) => match fs[k]? with
        | some f => if frs np S = true ∧ occE S.1 r = false then (match rdV f S.1 with
          | some q => some (sMt S q [(r, k, q.1)] [])
          | none => none) else none
        | none => none
      | _ => none
    | none => none
def matA (np d : Nat) (gs : Nat → Option gS) (S : sS) (r j : LE) : Option sS := match lkF S.2.2.2.2.2.2.1 r j with
  | some _ => some S
  | none => match aGg gs S r with
    | some (_, _, n, p, sg) => if inB d S.2.2.2.1 n j = true ∧ frs np S = true ∧ occE S.1 r = false ∧ occE S.1 j = false then (match hul d S.2.2.2.1 n p sg j with
      | some f => match rdV f S.1 with
        | some q => some (sMt S q [] [(r, j, q.1)])
        | none => none
      | none => none) else none
    | none => none
/-- the same values, more unknowns -/
def Ext (PR : Nat → Int → Int → mH → Prop) (G : Nat → Nat) (np : Nat) (ρ : Va) (S S' : sS) (lv : mL) (st : List Value) (h : mH) : Prop := ∃ ρ', (∀ i, i < np → ρ' i = ρ i) ∧ abs PR G ρ' S' lv st h ∧ S'.2.1 = S.2.1 ∧ S'.2.2.1 = S.2.2.1
theorem abs_mt {q : sV × List LE × List (LE × Nat)} {hf : List (LE × Nat × sV)} {af : List (LE × LE × sV)} {x : Int} (hfr : frs np S = true) (ha : abs PR G ρ S lv st h) (h2 : ∀ e ∈ q.2.1, 0 ≤ ev (uV ρ S.1 x) e) (h3 : aG G (uV ρ S.1 x) q.2.2) (h4 : aH (uV ρ S.1 x) hf h) (h5 : aA (uV ρ S.1 x) af h) : Ext PR G np ρ S (sMt S q hf af) lv st h := by
  obtain ⟨a1, a2, a3, a4, a5, a6, a7⟩ := abs_u (x := x) (frs_ok hfr).2 ha
  exact ⟨_, up_np hfr, ⟨a1, a2, aF_app h2 a3, aG_app h3 a4, fun e he => (List.mem_append.mp he).elim (h4 e) (a5 e), fun e he => (List.mem_append.mp he).elim (h5 e) (a6 e), a7⟩, rfl, rfl⟩
theorem mat_ok {r : LE} {k : Nat} {S' : sS} (hm : mat np gs S r k = some S') (hT : TI G gs h) (ha : abs PR G ρ S lv st h) : Ext PR G np ρ S S' lv st h := by
  unfold mat at hm
  split at hm
  next => cases hm; exact ⟨ρ, fun _ _ => rfl, ha, rfl, rfl⟩
  next =>
  split at hm
  next g hg =>
    have hg2 := lkG_ok ha.2.2.2.1 hg
    split at hm
    next ci fs hgs =>
      split at hm
      next f hf =>
        split at hm
        next hc =>
          split at hm
          next q hq =>
            cases hm
            obtain ⟨vs, hx, hlen, hall⟩ := TI_obj hT (x := (ev ρ r).toNat) (by rw [hg2.2]; exact hgs)
            obtain ⟨v, g1, g2⟩ := hall _ _ hf
            obtain ⟨x, e1, e2, e3⟩ := rdV_ok (ρ := ρ) hq g2
            refine abs_mt hc.1 ha e2 e3 (fun e he => ?_) (fun e he => absurd he List.not_mem_nil)
            obtain rfl := List.mem_singleton.mp he
            exact ⟨_, vs, v, by rw [ev_u hc.2]; exact hx, g1, e1⟩
          next => cases hm
        next => cases hm
      next => cases hm
    next => cases hm
  next => cases hm
theorem matA_ok {r j : LE} {S' : sS} (hm : matA np d gs S r j = some S') (hT : TI G gs h) (ha : abs PR G ρ S lv st h) : Ext PR G np ρ S S' lv st h := by
  unfold matA at hm
  split at hm
  next => cases hm; exact ⟨ρ, fun _ _ => rfl, ha, rfl, rfl⟩
  next =>
  split at hm
  next g t n p sg ho =>
    obtain ⟨-, hg, hgs⟩ := aGg_ok ho ha
    obtain ⟨c, hx, hk, hall⟩ := TI_arr hT hgs (aGg_ex ho ha)
    split at hm
    next hc =>
      obtain ⟨hb, hfr, o1, o2⟩ := hc
      obtain ⟨j0, jn⟩ := inB_ok hb ha.2.2.1
      split at hm
      next f hf =>
        have hv := hul_ok hf ha.2.2.1 j0 jn (hall _ (by omega))
        split at hm
        next q hq =>
          cases hm
          obtain ⟨x, e1, e2, e3⟩ := rdV_ok (ρ := ρ) hq hv
          refine abs_mt hfr ha e2 e3 (fun e he => absurd he List.not_mem_nil) (fun e he => ?_)
          obtain rfl := List.mem_singleton.mp he
          exact ⟨t, n, c, by rw [ev_u o1]; exact hx, by rw [ev_u o2]; exact j0, by rw [ev_u o2]; exact jn, by rw [ev_u o2]; exact e1⟩
        next => cases hm
      next => cases hm
    next => cases hm
  next => cases hm
theorem Ext.tr {S' S'' : sS} (h1 : Ext PR G np ρ S S' lv st h) (h2 : ∀ ρ', abs PR G ρ' S' lv st h → Ext PR G np ρ' S' S'' lv st h) : Ext PR G np ρ S S'' lv st h := by
  obtain ⟨ρ1, a1, a2, a3, a4⟩ := h1
  obtain ⟨ρ2, b1, b2, b3, b4⟩ := h2 ρ1 a2
  exact ⟨ρ2, fun i hi => (b1 i hi).trans (a1 i hi), b2, b3.trans a3, b4.trans a4⟩
/-- the unknowns of a contract, one after the other: arguments, then fields, then elements -/
def thH (np : Nat) (gs : Nat → Option gS) : List (LE × Nat × sV) → sS → List LE → Option (sS × List LE)
  | [], S, θ => some (S, θ)
  | q :: r, S, θ => match mat np gs S (sbE θ q.1) q.2.1 with
    | some S' => match lkH S'.2.2.2.2.2.1 (sbE θ q.1) q.2.1 with
      | some u => thH np gs r S' (if eqE q.2.2.2 (vE θ.length) = true then θ ++ [u.2] else θ)
      | none => none
    | none => none
def thA (np d : Nat) (gs : Nat → Option gS) : List (LE × LE × sV) → sS → List LE → Option (sS × List LE)
  | [], S, θ => some (S, θ)
  | q :: r, S, θ => match matA np d gs S (sbE θ q.1) (sbE θ q.2.1) with
    | some S' => match lkF S'.2.2.2.2.2.2.1 (sbE θ q.1) (sbE θ q.2.1) with
      | some u => thA np d gs r S' (if eqE q.2.2.2 (vE θ.length) = true then θ ++ [u.2] else θ)
      | none => none
    | none => none
theorem thH_ok {S' : sS} {θ' : List LE} (hT : TI G gs h) : ∀ {l : List (LE × Nat × sV)} {S : sS} {θ : List LE} {ρ : Va}, thH np gs l S θ = some (S', θ') → abs PR G ρ S lv st h → Ext PR G np ρ S S' lv st h
  | [], S, θ, ρ, ht, ha => by cases ht; exact ⟨ρ, fun _ _ => rfl, ha, rfl, rfl⟩
  | q :: r, S, θ, ρ, ht, ha => by
    unfold thH at ht
    split at ht
    next S1 h1 =>
      split at ht
      next u hu => exact (mat_ok h1 hT ha).tr fun ρ' ha' => thH_ok hT ht ha'
      next => cases ht
    next => cases ht
theorem thA_ok {S' : sS} {θ' : List LE} (hT : TI G gs h) : ∀ {l : List (LE × LE × sV)} {S : sS} {θ : List LE} {ρ : Va}, thA np d gs l S θ = some (S', θ') → abs PR G ρ S lv st h → Ext PR G np ρ S S' lv st h
  | [], S, θ, ρ, ht, ha => by cases ht; exact ⟨ρ, fun _ _ => rfl, ha, rfl, rfl⟩
  | q :: r, S, θ, ρ, ht, ha => by
    unfold thA at ht
    split at ht
    next S1 h1 =>
      split at ht
      next u hu => exact (matA_ok h1 hT ha).tr fun ρ' ha' => thA_ok hT ht ha'
      next => cases ht
    next => cases ht
def eqF (d : Nat) (F : List LE) (a b : LE) : Bool := eqE a b || (match (subE a b).2 with
  | [] => false
  | _ :: _ => ent F (min d 2) (subE a b) && ent F (min d 2) (subE b a))
theorem eqF_ok {F : List LE} {a b : LE} (h : eqF d F a b = true) (hF : aF ρ F) : ev ρ a = ev ρ b := by
  unfold eqF at h
  rcases (Bool.or_eq_true _ _).mp h with h | h
  · rw [eqE_ok h]
  · split at h
    · cases h
    · simp only [Bool.and_eq_true] at h
      have g1 := ent_ok hF _ _ h.1
      have g2 := ent_ok hF _ _ h.2
      rw [ev_sub] at g1 g2
      omega
/-- unknowns out of further facts: the other number of one that is known -/
def fnP (d : Nat) (F : List LE) (τ : Nat) (b : Bool) (k : LE) : List (Nat × LE × LE) → Option LE
  | [] => none
  | z :: r => if (Nat.beq z.1 τ && (match b with
    | true => eqF d F z.2.1 k
    | false => eqF d F z.2.2 k)) = true then some (match b with
    | true => z.2.2
    | false => z.2.1) else fnP d F τ b k r
def thP (d : Nat) (F : List LE) (pr : List (Nat × LE × LE)) : List (Nat × LE × LE) → List LE → List LE
  | [], θ => θ
  | q :: r, θ => thP d F pr r (if eqE q.2.2 (vE θ.length) = true then (match fnP d F q.1 true (sbE θ q.2.1) pr with
    | some e => θ ++ [e]
    | none => θ) else if eqE q.2.1 (vE θ.length) = true then (match fnP d F q.1 false (sbE θ q.2.2) pr with
    | some e => θ ++ [e]
    | none => θ) else θ)
/-- a state holds what another asks, its unknowns put in -/
def fits (d : Nat) (S : sS) (θ : List LE) (args : List sV) (P : sS) : Bool := Nat.beq θ.length P.1 && (mtS θ args P.2.2.1 && (P.2.2.2.2.1.all (fun q => decide (lkG S.2.2.2.2.1 (sbE θ q.1) = some q.2)) &&
  (P.2.2.2.2.2.1.all (fun q => match lkH S.2.2.2.2.2.1 (sbE θ q.1) q.2.1 with | some u => mtV θ u q.2.2 | none => false) && (P.2.2.2.2.2.2.1.all (fun q => match lkF S.2.2.2.2.2.2.1 (sbE θ q.1) (sbE θ q.2.1) with | some u => mtV θ u q.2.2 | none => false) && (P.2.2.2.1.all (fun f => ent S.2.2.2.1 d (sbE θ f)) &&
  (P.2.2.2.2.2.2.2.all (fun q => S.2.2.2.2.2.2.2.any fun z => Nat.beq z.1 q.1 && (eqF d S.2.2.2.1 z.2.1 (sbE θ q.2.1) && eqF d S.2.2.2.1 z.2.2 (sbE θ q.2.2))) && wfS P.1 P))))))
theorem fits_ok {θ : List LE} {args : List sV} {P : sS} {as : List Value} {lv' : mL} (hf : fits d S θ args P = true) (hL : aL (thE θ ρ) P.2.1 lv') (ha : abs PR G ρ S lv st h) (has : aS ρ args as) : abs PR G (thE θ ρ) P lv' as h := by
  simp only [fits, Bool.and_eq_true] at hf
  obtain ⟨-, f1, f3, f4, f5, f2, f6, f7⟩ := hf
  simp only [wfS, Bool.and_eq_true] at f7
  obtain ⟨w1, w2, w3, w4, w5, w6⟩ := f7
  have hs : ∀ i, i < P.1 → thE θ ρ i = thE θ ρ i := fun _ _ => rfl
  refine ⟨hL, mtS_ok hs f1 w1 has, fun f hff => ?_, fun q hq => ?_, fun q hq => ?_, fun q hq => ?_, fun q hq => ?_⟩
  · rw [← ev_th hs (List.all_eq_true.mp w2 f hff)]
    exact ent_ok ha.2.2.1 _ _ (List.all_eq_true.mp f2 f hff)
  · rw [← ev_th hs (List.all_eq_true.mp w3 q hq)]
    exact lkG_ok ha.2.2.2.1 (of_decide_eq_true (List.all_eq_true.mp f3 q hq))
  · have h1 := List.all_eq_true.mp f4 q hq
    have h2 := List.all_eq_true.mp w4 q hq
    simp only [Bool.and_eq_true] at h2
    split at h1
    next u hu =>
      obtain ⟨ci, fs, w, g1, g2, g3⟩ := lkH_ok ha.2.2.2.2.1 hu
      rw [ev_th hs h2.1] at g1
      exact ⟨ci, fs, w, g1, g2, mtV_ok h1 h2.2 hs g3⟩
    next => cases h1
  · have h1 := List.all_eq_true.mp f5 q hq
    have h2 := List.all_eq_true.mp w5 q hq
    simp only [Bool.and_eq_true] at h2
    split at h1
    next u hu =>
      obtain ⟨t, n, c, g1, g2, g3, g4⟩ := lkF_ok ha.2.2.2.2.2.1 hu
      rw [ev_th hs h2.1] at g1
      rw [ev_th hs h2.2.1] at g2 g3 g4
      exact ⟨t, n, c, g1, g2, g3, mtV_ok h1 h2.2.2 hs g4⟩
    next => cases h1
  · obtain ⟨z, hz, h1⟩ := List.any_eq_true.mp (List.all_eq_true.mp f6 q hq)
    have h2 := List.all_eq_true.mp w6 q hq
    simp only [Bool.and_eq_true] at h1 h2
    have h3 := ha.2.2.2.2.2.2 z hz
    rw [Nat.eq_of_beq_eq_true h1.1, eqF_ok h1.2.1 ha.2.2.1, eqF_ok h1.2.2 ha.2.2.1, ev_th hs h2.1, ev_th hs h2.2] at h3
    exact h3
/-! what is left of a state behind a call -/
def kpH (md : List (Nat × Nat)) (gr : List (LE × Nat)) (hf : List (LE × Nat × sV)) : List (LE × Nat × sV) := hf.filter fun q => match lkG gr q.1 with
  | some g => !(mdI md g q.2.1)
  | none => false
/-- an index in a segment that is not named -/
def sgN (d : Nat) (gs : Nat → Option gS) (F : List LE) (md : List (Nat × Nat)) (g : Nat) (j : LE) : Bool := match gs g with
  | some (.inr (_, n, p, sg)) => (match sgI d F n p sg j with
    | some (k, _) => !(mdI md g k)
    | none => false)
  | _ => false
def kpA (d : Nat) (gs : Nat → Option gS) (F : List LE) (md : List (Nat × Nat)) (gr : List (LE × Nat)) (af : List (LE × LE × sV)) : List (LE × LE × sV) := af.filter fun q => match lkG gr q.1 with
  | some g => !(md.any fun z => Nat.beq z.1 g) || sgN d gs F md g q.2.1
  | none => false
def kpP (md : List (Nat × Nat)) (dp : dT) (pr : List (Nat × LE × LE)) : List (Nat × LE × LE) := pr.filter fun q => (dp q.1).all fun z => !(mdI md z.1 z.2.1)
theorem mdI_no {g k : Nat} (h : mdI md g k = false) : (g, k) ∉ md := fun hm => by
  have h1 := any_no h _ hm
  simp only [Nat.beq_refl, Bool.and_self] at h1
  cases h1
theorem kpH_ok {gr : List (LE × Nat)} {hf : List (LE × Nat × sV)} (hT : TI G gs h') (hf' : fr G gs md h h') (hG : aG G ρ gr) (hH : aH ρ hf h) : aH ρ (kpH md gr hf) h' := by
  intro q hq
  obtain ⟨hm, hn⟩ := List.mem_filter.mp hq
  obtain ⟨ci, fs, v, h1, h2, h3⟩ := hH q hm
  split at hn
  next g hg =>
    have hg2 := (lkG_ok hG hg).2
    simp only [Bool.not_eq_true'] at hn
    have hno := mdI_no hn
    obtain ⟨e', he⟩ := fr_get hf' h1
    have hc := hf'.2 _ _ _ h1 he
    unfold frC at hc
    rw [hg2] at hc
    obtain ⟨fs', rfl, -, h9⟩ := hc
    exact ⟨ci, fs', v, he, (h9 _ hno).trans h2, h3⟩
  next => cases hn
theorem kpA_ok {F : List LE} {gr : List (LE × Nat)} {af : List (LE × LE × sV)} (hF : aF ρ F) (hT : TI G gs h) (hf' : fr G gs md h h') (hG : aG G ρ gr) (hA : aA ρ af h) : aA ρ (kpA d gs F md gr af) h' := by
  intro q hq
  obtain ⟨hm, hn⟩ := List.mem_filter.mp hq
  obtain ⟨t, n, c, h1, h2, h3, h4⟩ := hA q hm
  split at hn
  next g hg =>
    have hg2 := (lkG_ok hG hg).2
    obtain ⟨e', he⟩ := fr_get hf' h1
    have hc := hf'.2 _ _ _ h1 he
    unfold frC at hc
    rw [hg2] at hc
    obtain ⟨c', rfl, -, h9⟩ := hc
    simp only [Bool.or_eq_true, Bool.not_eq_true'] at hn
    rcases hn with hn | hn
    · have hno : ∀ k, (g, k) ∉ md := fun k hk => by
        have := any_no hn _ hk
        rw [Nat.beq_refl] at this
        cases this
      exact ⟨t, n, c', he, h2, h3, by rw [h9 _ (by omega) (fun k _ => hno k)]; exact h4⟩
    · refine ⟨t, n, c', he, h2, h3, ?_⟩
      unfold sgN at hn
      split at hn
      next t0 n0 p0 sg0 hgs =>
        split at hn
        next k0 f0 hs =>
          obtain ⟨c0, hx0, -, -⟩ := TI_arr hT (x := (ev ρ q.1).toNat) (by rw [hg2]; exact hgs) (Or.inr ⟨_, h1⟩)
          cases h1.symm.trans hx0
          have hsg := sgI_ok hs hF h2 h3
          simp only [Bool.not_eq_true'] at hn
          rw [h9 _ (by omega) (fun k hk => ?_)]
          · exact h4
          · unfold sgK at hk
            rw [hgs] at hk
            simp only [hsg, Option.map_some, Option.some.injEq] at hk
            rw [← hk]
            exact mdI_no hn
        next => cases hn
      next => cases hn
  next => cases hn
theorem kpP_ok {pr : List (Nat × LE × LE)} (hPR : PRk PR G gs dp) (h1 : TI G gs h) (h2 : TI G gs h') (hf : fr G gs md h h') (hp : aP PR ρ pr h) : aP PR ρ (kpP md dp pr) h' := by
  intro q hq
  obtain ⟨hm, hn⟩ := List.mem_filter.mp hq
  refine hPR.1 _ _ _ h h' md (hp q hm) h1 h2 hf fun z hz => ?_
  have h3 := List.all_eq_true.mp hn z hz
  simp only [Bool.not_eq_true'] at h3
  exact mdI_no h3
/-- several unknowns at once -/
def blk (ρ : Va) (n : Nat) : List Int → Va
  | [] => ρ
  | x :: xs => uV (blk ρ (n + 1) xs) n x
theorem blk_lo {m : Nat} : ∀ {xs : List Int} {n : Nat}, m < n → blk ρ n xs m = ρ m
  | [], _, _ => rfl
  | x :: xs, n, h => by
    show uV _ n x m = _
    rw [uV_o (by omega), blk_lo (xs := xs) (by omega)]
theorem blk_at : ∀ {xs : List Int} {n j : Nat} {x : Int}, xs[j]? = some x → blk ρ n xs (n + j) = x
  | [], _, _, _, h => by simp at h
  | y :: xs, n, 0, x, h => by cases h; exact uV_n
  | y :: xs, n, j + 1, x, h => by
    show uV _ n y (n + (j + 1)) = x
    rw [uV_o (by omega), show n + (j + 1) = n + 1 + j by omega]
    exact blk_at (xs := xs) h
theorem abs_blk (ha : abs PR G ρ S lv st h) : ∀ {xs : List Int} {n : Nat}, (∀ j, j < xs.length → occS (n + j) S = false) → abs PR G (blk ρ n xs) S lv st h
  | [], _, _ => ha
  | x :: xs, n, ho => by
    refine abs_u (ho 0 (by simp)) (abs_blk ha fun j hj => ?_)
    rw [show n + 1 + j = n + (j + 1) by omega]
    exact ho (j + 1) (by simp; omega)
theorem ev_blk {e : LE} : ∀ {xs : List Int} {n : Nat}, (∀ j, j < xs.length → occE (n + j) e = false) → ev (blk ρ n xs) e = ev ρ e
  | [], _, _ => rfl
  | x :: xs, n, ho => by
    show ev (uV _ n x) e = _
    have h0 : occE n e = false := ho 0 (by simp)
    rw [ev_u h0]
    exact ev_blk (xs := xs) fun j hj => by
      rw [show n + 1 + j = n + (j + 1) by omega]
      exact ho (j + 1) (by simp; omega)
def sbS (θ : List LE) (st : List sV) : List sV := st.map (sbV θ)
theorem aS_sb {θ : List LE} {n : Nat} {ρ' : Va} (hs : ∀ i, i < n → thE θ ρ i = ρ' i) : ∀ {l : List sV} {w : List Value}, (l.all fun s => ltE n s.2) = true → aS ρ' l w → aS ρ (sbS θ l) w
  | [], [], _, _ => trivial
  | s :: r, v :: w, hl, ha => by
    simp only [List.all_cons, Bool.and_eq_true] at hl
    exact ⟨dV_ev (fun _ => (ev_th hs hl.1).symm) ha.1, aS_sb hs hl.2 ha.2⟩
  | [], _ :: _, _, ha => ha.elim
  | _ :: _, [], _, ha => ha.elim
theorem aS_app {b : List sV} : ∀ {a : List sV} {v w : List Value}, aS ρ a v → aS ρ b w → aS ρ (a ++ b) (v ++ w)
  | [], [], _, _, h => h
  | _ :: _, _ :: _, _, h1, h2 => ⟨h1.1, aS_app h1.2 h2⟩
  | [], _ :: _, _, h1, _ => h1.elim
  | _ :: _, [], _, h1, _ => h1.elim
/-- the state behind a call -/
def aftS (d : Nat) (gs : Nat → Option gS) (dp : dT) (S : sS) (θ : List LE) (c : Ctr) (P : sS) (rest : List sV) : sS :=
  (S.1 + (P.1 - c.1.1), S.2.1, sbS (θ ++ (List.range (P.1 - c.1.1)).map fun j => vE (S.1 + j)) P.2.2.1 ++ rest,
   P.2.2.2.1.map (sbE (θ ++ (List.range (P.1 - c.1.1)).map fun j => vE (S.1 + j))) ++ S.2.2.2.1,
   P.2.2.2.2.1.map (fun q => (sbE (θ ++ (List.range (P.1 - c.1.1)).map fun j => vE (S.1 + j)) q.1, q.2)) ++ S.2.2.2.2.1,
   P.2.2.2.2.2.1.map (fun q => (sbE (θ ++ (List.range (P.1 - c.1.1)).map fun j => vE (S.1 + j)) q.1, q.2.1, sbV (θ ++ (List.range (P.1 - c.1.1)).map fun j => vE (S.1 + j)) q.2.2)) ++ kpH c.2.2.1 S.2.2.2.2.1 S.2.2.2.2.2.1,
   P.2.2.2.2.2.2.1.map (fun q => (sbE (θ ++ (List.range (P.1 - c.1.1)).map fun j => vE (S.1 + j)) q.1, sbE (θ ++ (List.range (P.1 - c.1.1)).map fun j => vE (S.1 + j)) q.2.1, sbV (θ ++ (List.range (P.1 - c.1.1)).map fun j => vE (S.1 + j)) q.2.2)) ++ kpA d gs S.2.2.2.1 c.2.2.1 S.2.2.2.2.1 S.2.2.2.2.2.2.1,
   P.2.2.2.2.2.2.2.map (fun q => (q.1, sbE (θ ++ (List.range (P.1 - c.1.1)).map fun j => vE (S.1 + j)) q.2.1, sbE (θ ++ (List.range (P.1 - c.1.1)).map fun j => vE (S.1 + j)) q.2.2)) ++ kpP c.2.2.1 dp S.2.2.2.2.2.2.2)
/-- the state behind a call that throws, at its handler -/
def thrS (d : Nat) (gs : Nat → Option gS) (dp : dT) (S : sS) (c : Ctr) : sS := (S.1, S.2.1, [(6, cE 0)], S.2.2.2.1, S.2.2.2.2.1, kpH c.2.2.1 S.2.2.2.2.1 S.2.2.2.2.2.1, kpA d gs S.2.2.2.1 c.2.2.1 S.2.2.2.2.1 S.2.2.2.2.2.2.1, kpP c.2.2.1 dp S.2.2.2.2.2.2.2)
def thrX (d : Nat) (gs : Nat → Option gS) (dp : dT) (S : sS) (θ : List LE) (c : Ctr) (z : Nat) : sS := (S.1, S.2.1, [(6, cE 0)], S.2.2.2.1, S.2.2.2.2.1, cond (Nat.beq (z / 10 % 100) 0) [] [(θ.getD 0 (0, []), z / 10 % 100 - 1, (0, cE 0))] ++ kpH c.2.2.1 S.2.2.2.2.1 S.2.2.2.2.2.1, kpA d gs S.2.2.2.1 c.2.2.1 S.2.2.2.2.1 S.2.2.2.2.2.2.1, cond (Nat.beq (z / 1000 % 1000) 0) [] [(199, cE 0, θ.getD (z / 1000 % 1000 - 1) (0, []))] ++ (cond (Nat.beq (z / 1000000) 0) [] ((kpT c.1.2.2.2.2.2.2.2).map fun q => (q.1, sbE θ q.2.1, sbE θ q.2.2)) ++ kpP c.2.2.1 dp S.2.2.2.2.2.2.2))
/-- a further fact that is known -/
def hasP (d : Nat) (F : List LE) (pr : List (Nat × LE × LE)) (q : Nat × LE × LE) : Bool := pr.any fun z => Nat.beq z.1 q.1 && (eqF d F z.2.1 q.2.1 && eqF d F z.2.2 q.2.2)
theorem hasP_ok {F : List LE} {pr : List (Nat × LE × LE)} {q : Nat × LE × LE} (h1 : hasP d F pr q = true) (hF : aF ρ F) (hp : aP PR ρ pr h) : PR q.1 (ev ρ q.2.1) (ev ρ q.2.2) h := by
  obtain ⟨z, hz, h2⟩ := List.any_eq_true.mp h1
  simp only [Bool.and_eq_true] at h2
  have h3 := hp z hz
  rw [Nat.eq_of_beq_eq_true h2.1, eqF_ok h2.2.1 hF, eqF_ok h2.2.2 hF] at h3
  exact h3
/-- what a throw is to tell, in a state -/
def exT (npm d : Nat) (pr : List (Nat × LE × LE)) (S : sS) (z E : Nat) : Bool := Nat.beq (z % 10) E && ((Nat.beq (z / 10 % 100) 0 || (Nat.ble 1 npm && (match lkH S.2.2.2.2.2.1 (vE 0) (z / 10 % 100 - 1) with
  | some (0, e) => eqE e (cE 0)
  | _ => false))) && ((Nat.beq (z / 1000 % 1000) 0 || (Nat.ble (z / 1000 % 1000 - 1 + 1) npm && hasP d S.2.2.2.1 S.2.2.2.2.2.2.2 (199, cE 0, vE (z / 1000 % 1000 - 1)))) &&
  (Nat.beq (z / 1000000) 0 || (kpT pr).all fun q => ltE npm q.2.1 && (ltE npm q.2.2 && hasP d S.2.2.2.1 S.2.2.2.2.2.2.2 q))))
def aftC (np : Nat) (S : sS) (θ : List LE) (c : Ctr) (P : sS) : Bool := Nat.ble np S.1 && (Nat.beq θ.length c.1.1 && (Nat.ble c.1.1 P.1 && ((List.range (P.1 - c.1.1)).all (fun j => !(occS (S.1 + j) S) && θ.all fun e => !(occE (S.1 + j) e)) && wfS P.1 P)))
end CTR
