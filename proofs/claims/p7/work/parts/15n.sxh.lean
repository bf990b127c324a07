/-! Reads and writes of cells. -/
section SXH
variable {PR : Nat → Int → Int → mH → Prop} {G : Nat → Nat} {gs : Nat → Option gS} {ρ : Va} {S : sS} {lv : mL} {st : List Value} {h : mH} {np d nL pc len : Nat} {i : Instr} {lk : mK} {df : List (List Value)} {md : List (Nat × Nat)} {dp : dT}
def lkG : List (LE × Nat) → LE → Option Nat
  | [], _ => none
  | q :: r, e => if eqE q.1 e = true then some q.2 else lkG r e
theorem lkG_ok {e : LE} {g : Nat} : ∀ {gr : List (LE × Nat)}, aG G ρ gr → lkG gr e = some g → 0 ≤ ev ρ e ∧ G (ev ρ e).toNat = g
  | [], _, h => by cases h
  | q :: r, ha, h => by
    unfold lkG at h
    split at h
    next hq =>
      cases h
      have h1 := ha q List.mem_cons_self
      rw [eqE_ok hq] at h1
      exact h1
    next => exact lkG_ok (fun x hx => ha x (List.mem_cons_of_mem _ hx)) h
def lkH : List (LE × Nat × sV) → LE → Nat → Option sV
  | [], _, _ => none
  | q :: r, e, k => if Nat.beq q.2.1 k = true then (if eqE q.1 e = true then some q.2.2 else lkH r e k) else lkH r e k
theorem lkH_ok {e : LE} {k : Nat} {v : sV} : ∀ {hf : List (LE × Nat × sV)}, aH ρ hf h → lkH hf e k = some v → ∃ ci fs w, h[(ev ρ e).toNat]? = some (.inr (ci, fs)) ∧ fs[k]? = some w ∧ dV ρ v w
  | [], _, h => by cases h
  | q :: r, ha, hl => by
    have ih := lkH_ok (e := e) (k := k) (v := v) (hf := r) (fun x hx => ha x (List.mem_cons_of_mem _ hx))
    unfold lkH at hl
    split at hl
    next hk =>
      split at hl
      next hq =>
        cases hl
        have h1 := ha q List.mem_cons_self
        rw [eqE_ok hq, Nat.eq_of_beq_eq_true hk] at h1
        exact h1
      next => exact ih hl
    next => exact ih hl
def lkF : List (LE × LE × sV) → LE → LE → Option sV
  | [], _, _ => none
  | q :: r, e, j => if eqE q.1 e = true then (if eqE q.2.1 j = true then some q.2.2 else lkF r e j) else lkF r e j
theorem lkF_ok {e j : LE} {v : sV} : ∀ {af : List (LE × LE × sV)}, aA ρ af h → lkF af e j = some v → ∃ t n c, h[(ev ρ e).toNat]? = some (.inl (t, n, c)) ∧ 0 ≤ ev ρ j ∧ ev ρ j < n ∧ dV ρ v (elV c (ev ρ j).toNat)
  | [], _, h => by cases h
  | q :: r, ha, hl => by
    have ih := lkF_ok (e := e) (j := j) (v := v) (af := r) (fun x hx => ha x (List.mem_cons_of_mem _ hx))
    unfold lkF at hl
    split at hl
    next hk =>
      split at hl
      next hq =>
        cases hl
        have h1 := ha q List.mem_cons_self
        rw [eqE_ok hq, eqE_ok hk] at h1
        exact h1
      next => exact ih hl
    next => exact ih hl
/-- an unknown for what a field or an element holds: the value, facts, group -/
def rdV (f : kS) (n : Nat) : Option (sV × List LE × List (LE × Nat)) := match f.1 with
  | 0 => some ((0, vE n), rng n f.2.1 f.2.2, [])
  | 1 => some ((1, vE n), [], [(vE n, f.2.1.toNat)])
  | 3 => some ((3, cE 0), [], [])
  | 4 => some ((4, cE 0), [], [])
  | 5 => some ((5, cE 0), [], [])
  | _ => none
theorem rdV_ok {f : kS} {n : Nat} {q : sV × List LE × List (LE × Nat)} {v : Value} (hr : rdV f n = some q) (hv : fOK G f v) : ∃ x : Int, dV (uV ρ n x) q.1 v ∧ (∀ e ∈ q.2.1, 0 ≤ ev (uV ρ n x) e) ∧ aG G (uV ρ n x) q.2.2 := by
  obtain ⟨t, lo, hi⟩ := f
  unfold rdV at hr
  unfold fOK at hv
  dsimp only at hr hv
  split at hr
  · cases hr
    obtain ⟨x, rfl, h1, h2⟩ := hv
    exact ⟨x.toInt, ⟨x, rfl, by show x.toInt = ev _ (vE n); rw [ev_v, uV_n]⟩, rng_ok (by rw [uV_n]; exact h1) (by rw [uV_n]; exact h2), fun e he => absurd he List.not_mem_nil⟩
  · cases hr
    obtain ⟨a, rfl, h1⟩ := hv
    refine ⟨(a : Int), ⟨by show 0 ≤ ev _ (vE n); rw [ev_v, uV_n]; omega, by show _ = Value.ref (ev _ (vE n)).toNat; rw [ev_v, uV_n]; rfl⟩, fun e he => absurd he List.not_mem_nil, fun e he => ?_⟩
    obtain rfl := List.mem_singleton.mp he
    rw [ev_v, uV_n]
    exact ⟨by omega, h1⟩
  · cases hr
    obtain ⟨x, rfl⟩ := hv
    exact ⟨0, ⟨x, rfl⟩, fun e he => absurd he List.not_mem_nil, fun e he => absurd he List.not_mem_nil⟩
  · cases hr
    obtain ⟨x, rfl⟩ := hv
    exact ⟨0, ⟨x, rfl⟩, fun e he => absurd he List.not_mem_nil, fun e he => absurd he List.not_mem_nil⟩
  · cases hr
    obtain ⟨x, rfl⟩ := hv
    exact ⟨0, ⟨x, rfl⟩, fun e he => absurd he List.not_mem_nil, fun e he => absurd he List.not_mem_nil⟩
  · cases hr
/-- the state with what a read has shown -/
def sRd (S : sS) (q : sV × List LE × List (LE × Nat)) (hf : List (LE × Nat × sV)) (af : List (LE × LE × sV)) (st : List sV) : sS :=
  (S.1 + 1, S.2.1, q.1 :: st, q.2.1 ++ S.2.2.2.1, q.2.2 ++ S.2.2.2.2.1, hf ++ S.2.2.2.2.2.1, af ++ S.2.2.2.2.2.2.1, S.2.2.2.2.2.2.2)
theorem aG_app {a b : List (LE × Nat)} (h1 : aG G ρ a) (h2 : aG G ρ b) : aG G ρ (a ++ b) := fun q hq => (List.mem_append.mp hq).elim (h1 q) (h2 q)
theorem abs_rd {q : sV × List LE × List (LE × Nat)} {hf : List (LE × Nat × sV)} {af : List (LE × LE × sV)} {st' : List sV} {w : List Value} {v : Value} {x : Int} (hfr : frs np S = true) (ha : abs PR G ρ S lv st h) (h1 : dV (uV ρ S.1 x) q.1 v) (h2 : ∀ e ∈ q.2.1, 0 ≤ ev (uV ρ S.1 x) e) (h3 : aG G (uV ρ S.1 x) q.2.2)
    (h4 : aH (uV ρ S.1 x) hf h) (h5 : aA (uV ρ S.1 x) af h) (hr : aS (uV ρ S.1 x) st' w) : abs PR G (uV ρ S.1 x) (sRd S q hf af st') lv (v :: w) h := by
  obtain ⟨a1, a2, a3, a4, a5, a6, a7⟩ := abs_u (x := x) (frs_ok hfr).2 ha
  exact ⟨a1, ⟨h1, hr⟩, aF_app h2 a3, aG_app h3 a4, fun e he => (List.mem_append.mp he).elim (h4 e) (a5 e), fun e he => (List.mem_append.mp he).elim (h5 e) (a6 e), a7⟩
theorem of_R {q : List Value} (hi : (∀ lv st, actC i pc lv st = none) ∧ ∀ st, actA i pc st = none) (hR : actR i lk st h = some q) : stp none df nL pc i len lk lv st h = some (pc + lnI i len, lv, q, h, 0, 0) := by
  unfold stp
  rw [hi.1, hi.2, hR]
/-- the group of a cell that stands for an object of a class -/
def oG (gs : Nat → Option gS) (S : sS) (r : LE) (ci : Nat) : Option (Nat × List kS) := match lkG S.2.2.2.2.1 r with
  | some g => match gs g with
    | some (.inl (cj, fs)) => if cj = ci then some (g, fs) else none
    | _ => none
  | none => none
theorem oG_ok {r : LE} {ci g : Nat} {fs : List kS} (ho : oG gs S r ci = some (g, fs)) (ha : abs PR G ρ S lv st h) : 0 ≤ ev ρ r ∧ G (ev ρ r).toNat = g ∧ gs (G (ev ρ r).toNat) = some (.inl (ci, fs)) := by
  unfold oG at ho
  split at ho
  next g' hg =>
    have h1 := lkG_ok ha.2.2.2.1 hg
    split at ho
    next cj fs' hgs =>
      split at ho
      next hc =>
        cases ho
        subst hc
        exact ⟨h1.1, h1.2, by rw [h1.2]; exact hgs⟩
      next => cases ho
    next => cases ho
  next => cases ho
def aGg (gs : Nat → Option gS) (S : sS) (r : LE) : Option (Nat × Nat × Nat × Nat × List (Nat × kS)) := match lkG S.2.2.2.2.1 r with
  | some g => match gs g with
    | some (.inr q) => if (Nat.ble 600 g && !(S.2.2.2.2.2.2.1.any fun z => eqE z.1 r)) = true then none else some (g, q)
    | _ => none
  | none => none
theorem aGg_ok {r : LE} {g t n p : Nat} {sg : List (Nat × kS)} (ho : aGg gs S r = some (g, t, n, p, sg)) (ha : abs PR G ρ S lv st h) : 0 ≤ ev ρ r ∧ G (ev ρ r).toNat = g ∧ gs (G (ev ρ r).toNat) = some (.inr (t, n, p, sg)) := by
  unfold aGg at ho
  split at ho
  next g' hg =>
    have h1 := lkG_ok ha.2.2.2.1 hg
    split at ho
    next q hgs =>
      split at ho
      next => cases ho
      next => cases ho; exact ⟨h1.1, h1.2, by rw [h1.2]; exact hgs⟩
    next => cases ho
  next => cases ho
theorem aGg_ex {r : LE} {g t n p : Nat} {sg : List (Nat × kS)} (ho : aGg gs S r = some (g, t, n, p, sg)) (ha : abs PR G ρ S lv st h) : G (ev ρ r).toNat < 600 ∨ ∃ e, h[(ev ρ r).toNat]? = some e := by
  unfold aGg at ho
  split at ho
  next g' hg =>
    have h1 := lkG_ok ha.2.2.2.1 hg
    split at ho
    next q hgs =>
      split at ho
      next => cases ho
      next hc =>
        rw [h1.2]
        rcases Nat.lt_or_ge g' 600 with h2 | h2
        · exact Or.inl h2
        · rw [Nat.ble_eq_true_of_le h2, Bool.true_and, Bool.not_eq_true', Bool.not_eq_false] at hc
          obtain ⟨z, hz, he⟩ := List.any_eq_true.mp hc
          obtain ⟨t9, n9, c9, g9, -⟩ := ha.2.2.2.2.2.1 z hz
          rw [eqE_ok he] at g9
          exact Or.inr ⟨_, g9⟩
    next => cases ho
  next => cases ho
def sxG (np : Nat) (gs : Nat → Option gS) (lk : mK) (S : sS) : Option sS := match S.2.2.1 with
  | (1, r) :: st' => match oG gs S r lk.2.1 with
    | some (_, fs) => match lkH S.2.2.2.2.2.1 r lk.2.2.1 with
      | some v => some (sSt S (v :: st'))
      | none => match fs[lk.2.2.1]? with
        | some f => if frs np S = true then (match rdV f S.1 with
          | some q => some (sRd S q [(r, lk.2.2.1, q.1)] [] st')
          | none => none) else none
        | none => none
    | none => none
  | _ => none
/-- is it a String that is there -/
def sOK (gs : Nat → Option gS) (S : sS) (r : LE) : Bool := match aGg gs S r with
  | some (_, t, n, _, _) => Nat.beq t 999 && Nat.beq n 1
  | none => false
theorem frs_r {r : LE} {st' : List sV} {t : Nat} (hst : S.2.2.1 = (t, r) :: st') (hf : frs np S = true) : occE S.1 r = false := by
  have ho := (frs_ok hf).2
  unfold occS at ho
  simp only [Bool.or_eq_false_iff] at ho
  have h2 := ho.2.1
  rw [hst] at h2
  simp only [List.any_cons, Bool.or_eq_false_iff] at h2
  exact h2.1
theorem sxG_ok {S2 : sS} {idx : Nat} (hs : sxG np gs lk S = some S2) (hT : TI G gs h) (ha : abs PR G ρ S lv st h) : StpA PR G np ρ df nL pc (.getfield idx) len lk lv st h (pc + 3, S2) := by
  have ha2 := ha.2.1
  unfold sxG at hs
  split at hs
  next r st' hst =>
    rw [hst] at ha2
    obtain ⟨v0, w, rfl, hv0, hr⟩ := aS_cons ha2
    obtain ⟨h0, rfl⟩ := dV1 rfl hv0
    split at hs
    next g fs ho =>
      obtain ⟨-, hg, hgs⟩ := oG_ok ho ha
      obtain ⟨vs, hx, hlen, hall⟩ := TI_obj hT hgs
      have hstp : ∀ v, vs[lk.2.2.1]? = some v → stp none df nL pc (.getfield idx) len lk lv (.ref (ev ρ r).toNat :: w) h = some (pc + 3, lv, v :: w, h, 0, 0) := fun v hv => of_R ⟨fun _ _ => rfl, fun _ => rfl⟩ (by
        simp only [actR, hx]
        rw [if_pos trivial, hv])
      split at hs
      next v hl =>
        cases hs
        obtain ⟨ci, fs', w', g1, g2, g3⟩ := lkH_ok ha.2.2.2.2.1 hl
        cases hx.symm.trans g1
        exact ⟨_, _, hstp _ g2, Abs.of (abs_st ha ⟨g3, hr⟩)⟩
      next =>
      split at hs
      next f hf =>
        split at hs
        next hfr =>
          split at hs
          next q hq =>
            cases hs
            obtain ⟨v, g1, g2⟩ := hall _ _ hf
            obtain ⟨x, e1, e2, e3⟩ := rdV_ok (ρ := ρ) hq g2
            refine ⟨_, _, hstp _ g1, _, up_np hfr, abs_rd hfr ha e1 e2 e3 (fun e he => ?_) (fun e he => absurd he List.not_mem_nil) (aS_tl hfr ⟨[_], hst⟩ hr)⟩
            obtain rfl := List.mem_singleton.mp he
            exact ⟨_, vs, v, by rw [ev_u (frs_r hst hfr)]; exact hx, g1, e1⟩
          next => cases hs
        next => cases hs
      next => cases hs
    next => cases hs
  next => cases hs
theorem occ_st' {r j : LE} {st' : List sV} {t t' : Nat} (hst : S.2.2.1 = (t', j) :: (t, r) :: st') (hf : frs np S = true) : occE S.1 r = false := by
  have ho := (frs_ok hf).2
  unfold occS at ho
  simp only [Bool.or_eq_false_iff] at ho
  have h2 := ho.2.1
  rw [hst] at h2
  simp only [List.any_cons, Bool.or_eq_false_iff] at h2
  exact h2.2.1
/-! segments of arrays -/
def sgF : List (Nat × kS) → Nat → Nat → Nat → Option (Nat × Nat × Nat × kS)
  | [], _, _, _ => none
  | p :: r, c, s, k => if c < p.1 ∧ s ≤ c then some (k, s, p.1, p.2) else sgF r c (max s p.1) (k + 1)
theorem sgF_ok {c k s' e' : Nat} {f : kS} : ∀ {sg : List (Nat × kS)} {s k0 : Nat}, sgF sg c s k0 = some (k, s', e', f) → s ≤ s' ∧ ∀ i, s' ≤ i → i < e' → segAt sg i k0 = some (k, f)
  | [], s, k0, h => by cases h
  | p :: r, s, k0, h => by
    unfold sgF at h
    split at h
    next hc =>
      cases h
      exact ⟨Nat.le_refl _, fun i h1 h2 => by unfold segAt; rw [if_pos h2]⟩
    next hc =>
      obtain ⟨h1, h2⟩ := sgF_ok h
      exact ⟨by omega, fun i g1 g2 => by unfold segAt; rw [if_neg (by omega)]; exact h2 i g1 g2⟩
theorem segAt_k {i k : Nat} {f : kS} : ∀ {sg : List (Nat × kS)} {k0 : Nat}, segAt sg i k0 = some (k, f) → (∃ e, (e, f) ∈ sg) ∧ k0 ≤ k ∧ k < k0 + sg.length
  | [], k0, h => by cases h
  | p :: r, k0, h => by
    unfold segAt at h
    split at h
    next =>
      cases h
      exact ⟨⟨_, List.mem_cons_self⟩, Nat.le_refl _, by simp⟩
    next =>
      obtain ⟨⟨e, h1⟩, h2, h3⟩ := segAt_k h
      exact ⟨⟨e, List.mem_cons_of_mem _ h1⟩, by omega, by rw [List.length_cons]; omega⟩
/-- the segment in which an index lies, found by its constant part -/
def sgJ (o d : Nat) (F : List LE) (n p : Nat) (sg : List (Nat × kS)) (j : LE) : Option (Nat × kS) := if p = n then (match sgF sg (j.1.toNat + o) 0 0 with
  | some (k, s, e, f) => if ent F d (subE j (cE s)) = true ∧ ent F d (subE (cE ((e : Int) - 1)) j) = true then some (k, f) else none
  | none => none) else none
theorem sgJ_ok {o : Nat} {F : List LE} {n p k : Nat} {sg : List (Nat × kS)} {j : LE} {f : kS} (hs : sgJ o d F n p sg j = some (k, f)) (hF : aF ρ F) (h0 : 0 ≤ ev ρ j) (hn : ev ρ j < n) : segAt sg ((ev ρ j).toNat % p) 0 = some (k, f) := by
  unfold sgJ at hs
  split at hs
  next hp =>
    split at hs
    next k' s e f' hf =>
      split at hs
      next he =>
        cases hs
        have h1 := ent_ok hF _ _ he.1
        have h2 := ent_ok hF _ _ he.2
        rw [ev_sub, ev_c] at h1 h2
        have h3 := (sgF_ok hf).2 (ev ρ j).toNat (by omega) (by omega)
        rw [Nat.mod_eq_of_lt (by omega)]
        exact h3
      next => cases hs
    next => cases hs
  next => cases hs
def sgX (d : Nat) (F : List LE) (j : LE) : List (Nat × kS) → Nat → Nat → Option (Nat × kS)
  | [], _, _ => none
  | q :: r, s, k => if ent F d (subE j (cE s)) = true then (if ent F d (subE (cE ((q.1 : Int) - 1)) j) = true then some (k, q.2) else sgX d F j r (max s q.1) (k + 1)) else none
theorem sgX_ok {F : List LE} {j : LE} {k : Nat} {f : kS} (hF : aF ρ F) : ∀ {sg : List (Nat × kS)} {s k0 : Nat}, sgX d F j sg s k0 = some (k, f) → (s : Int) ≤ ev ρ j ∧ segAt sg (ev ρ j).toNat k0 = some (k, f)
  | [], _, _, h => by cases h
  | q :: r, s, k0, h => by
    unfold sgX at h
    split at h
    next h1 =>
      have h1 := ent_ok hF _ _ h1
      rw [ev_sub, ev_c] at h1
      refine ⟨by omega, ?_⟩
      unfold segAt
      split at h
      next h2 =>
        have h2 := ent_ok hF _ _ h2
        rw [ev_sub, ev_c] at h2
        cases h
        rw [if_pos (by omega)]
      next =>
        obtain ⟨h3, h4⟩ := sgX_ok hF h
        rw [if_neg (by omega)]
        exact h4
    next => cases h
def sgI (d : Nat) (F : List LE) (n p : Nat) (sg : List (Nat × kS)) (j : LE) : Option (Nat × kS) := match sgJ 0 d F n p sg j with
  | some q => some q
  | none => if p = n then sgX d F j sg 0 0 else none
theorem sgI_ok {F : List LE} {n p k : Nat} {sg : List (Nat × kS)} {j : LE} {f : kS} (hs : sgI d F n p sg j = some (k, f)) (hF : aF ρ F) (h0 : 0 ≤ ev ρ j) (hn : ev ρ j < n) : segAt sg ((ev ρ j).toNat % p) 0 = some (k, f) := by
  unfold sgI at hs
  split at hs
  next q hq => cases hs; exact sgJ_ok hq hF h0 hn
  next =>
    split at hs
    next hp =>
      rw [hp, Nat.mod_eq_of_lt (by omega)]
      exact (sgX_ok hF hs).2
    next => cases hs
/-- numbers between which all segments' numbers lie -/
def hulL : List (Nat × kS) → Option (Int × Int)
  | [] => some (2147483647, -2147483648)
  | p :: r => if p.2.1 = 0 then (match hulL r with
    | some q => some (if p.2.2.1 ≤ q.1 then p.2.2.1 else q.1, if q.2 ≤ p.2.2.2 then p.2.2.2 else q.2)
    | none => none) else none
theorem hulL_ok {e : Nat} {f : kS} : ∀ {sg : List (Nat × kS)} {lo hi : Int}, hulL sg = some (lo, hi) → (e, f) ∈ sg → f.1 = 0 ∧ lo ≤ f.2.1 ∧ f.2.2 ≤ hi
  | [], lo, hi, _, hm => absurd hm List.not_mem_nil
  | p :: r, lo, hi, h, hm => by
    unfold hulL at h
    split at h
    next h0 =>
      split at h
      next q hq =>
        cases h
        rcases List.mem_cons.mp hm with rfl | hm
        · exact ⟨h0, by dsimp only; split <;> omega, by dsimp only; split <;> omega⟩
        · obtain ⟨h1, h2, h3⟩ := hulL_ok (lo := q.1) (hi := q.2) hq hm
          exact ⟨h1, by split <;> omega, by split <;> omega⟩
      next => cases h
    next => cases h
def hul (d : Nat) (F : List LE) (n p : Nat) (sg : List (Nat × kS)) (j : LE) : Option kS := match sgI d F n p sg j with
  | some q => some q.2
  | none => match sg with
    | [q] => some q.2
    | _ => match hulL sg with
      | some q => some (0, q.1, q.2)
      | none => none
theorem hul_ok {F : List LE} {n p : Nat} {sg : List (Nat × kS)} {j : LE} {f : kS} {v : Value} (hh : hul d F n p sg j = some f) (hF : aF ρ F) (h0 : 0 ≤ ev ρ j) (hn : ev ρ j < n) (hv : ∃ k f', segAt sg ((ev ρ j).toNat % p) 0 = some (k, f') ∧ fOK G f' v) : fOK G f v := by
  obtain ⟨k, f', h1, h2⟩ := hv
  unfold hul at hh
  split at hh
  next q hq =>
    cases hh
    have h3 := sgI_ok hq hF h0 hn
    cases h1.symm.trans h3
    exact h2
  next =>
  obtain ⟨⟨e, hm⟩, -⟩ := segAt_k h1
  split at hh
  next q =>
    cases hh
    obtain h4 := List.mem_singleton.mp hm
    rw [← h4]
    exact h2
  next =>
  split at hh
  next q hq =>
    cases hh
    obtain ⟨g1, g2, g3⟩ := hulL_ok (lo := q.1) (hi := q.2) hq hm
    unfold fOK at h2 ⊢
    rw [g1] at h2
    obtain ⟨x, rfl, h5, h6⟩ := h2
    exact ⟨x, rfl, Int.le_trans g2 h5, Int.le_trans h6 g3⟩
  next => cases hh
def inB (d : Nat) (F : List LE) (n : Nat) (j : LE) : Bool := ent F d j && ent F d (subE (cE ((n : Int) - 1)) j)
theorem inB_ok {F : List LE} {n : Nat} {j : LE} (hi : inB d F n j = true) (hF : aF ρ F) : 0 ≤ ev ρ j ∧ ev ρ j < n := by
  simp only [inB, Bool.and_eq_true] at hi
  have h1 := ent_ok hF _ _ hi.1
  have h2 := ent_ok hF _ _ hi.2
  rw [ev_sub, ev_c] at h2
  exact ⟨h1, by omega⟩
theorem clampI {x : Int32} {z : Int} (hx : x.toInt = z) (h0 : 0 ≤ z) : x.toNatClampNeg = z.toNat ∧ ¬ x < 0 := by
  constructor
  · show x.toInt.toNat = _
    rw [hx]
  · rw [Int32.lt_iff_toInt_lt, z00, hx]
    omega
/-- a read of an array's element -/
def rdA (np d : Nat) (gs : Nat → Option gS) (ok : Nat → Nat → Bool) (S : sS) (j r : LE) (st' : List sV) : Option sS := match aGg gs S r with
  | some (_, t, n, p, sg) => if ok t n = true ∧ inB d S.2.2.2.1 n j = true then (match lkF S.2.2.2.2.2.2.1 r j with
    | some v => some (sSt S (v :: st'))
    | none => match hul d S.2.2.2.1 n p sg j with
      | some f => if frs np S = true then (match rdV f S.1 with
        | some q => some (sRd S q [] [(r, j, q.1)] st')
        | none => none) else none
      | none => none) else none
  | none => none
theorem rdA_ok {ok : Nat → Nat → Bool} {S2 : sS} {j r : LE} {st' : List sV} {w : List Value} (hs : rdA np d gs ok S j r st' = some S2) (hst : S.2.2.1 = (0, j) :: (1, r) :: st') (hT : TI G gs h) (ha : abs PR G ρ S lv st h) (hr : aS ρ st' w) :
    ∃ t n c, h[(ev ρ r).toNat]? = some (.inl (t, n, c)) ∧ kdC c = kdN t n ∧ ok t n = true ∧ 0 ≤ ev ρ j ∧ ev ρ j < n ∧ Abs PR G np ρ S2 lv (elV c (ev ρ j).toNat :: w) h := by
  unfold rdA at hs
  split at hs
  next g t n p sg ho =>
    obtain ⟨h0, hg, hgs⟩ := aGg_ok ho ha
    obtain ⟨c, hx, hk, hall⟩ := TI_arr hT hgs (aGg_ex ho ha)
    split at hs
    next hc =>
      obtain ⟨j0, jn⟩ := inB_ok hc.2 ha.2.2.1
      refine ⟨t, n, c, hx, hk, hc.1, j0, jn, ?_⟩
      split at hs
      next v hl =>
        cases hs
        obtain ⟨t', n', c', g1, g2, g3, g4⟩ := lkF_ok ha.2.2.2.2.2.1 hl
        cases hx.symm.trans g1
        exact Abs.of (abs_st ha ⟨g4, hr⟩)
      next =>
      split at hs
      next f hf =>
        have hv := hul_ok hf ha.2.2.1 j0 jn (hall _ (by omega))
        split at hs
        next hfr =>
          split at hs
          next q hq =>
            cases hs
            obtain ⟨x, e1, e2, e3⟩ := rdV_ok (ρ := ρ) hq hv
            have o1 : occE S.1 j = false := frs_r hst hfr
            have o2 : occE S.1 r = false := occ_st' hst hfr
            refine ⟨_, up_np hfr, abs_rd hfr ha e1 e2 e3 (fun e he => absurd he List.not_mem_nil) (fun e he => ?_) (aS_tl hfr ⟨[_, _], hst⟩ hr)⟩
            obtain rfl := List.mem_singleton.mp he
            exact ⟨t, n, c, by rw [ev_u o2]; exact hx, by rw [ev_u o1]; exact j0, by rw [ev_u o1]; exact jn, by rw [ev_u o1]; exact e1⟩
          next => cases hs
        next => cases hs
      next => cases hs
    next => cases hs
  next => cases hs
end SXH
