/-! Arithmetic and branches. -/
section SXA
variable {PR : Nat → Int → Int → mH → Prop} {G : Nat → Nat} {ρ : Va} {S : sS} {lv : mL} {st : List Value} {h : mH} {np d nL pc len : Nat} {i : Instr} {lk : mK} {df : List (List Value)}
def dvF (n : Nat) (a : LE) (c : Int) : List LE := [subE a (mulE c (vE n)), addE (subE (mulE c (vE n)) a) (cE (c - 1)), vE n, (2147483647, [(n, -1)])]
def dvI (np d : Nat) (S : sS) (a : LE) (c : Int) (r : List sV) : Option sS := if ent S.2.2.2.1 d a = true then (if frs np S = true then some (sNw S (dvF S.1 a c) ((0, vE S.1) :: r)) else none) else unI np S r
def rmI (np d : Nat) (S : sS) (a : LE) (c : Int) (r : List sV) : Option sS := if ent S.2.2.2.1 d a = true then unR np S 0 (c - 1) r else unI np S r
def mlI (np d : Nat) (S : sS) (a b : LE) (r : List sV) : Option sS := match b.2, a.2 with
  | [], _ => arI np d S (mulE b.1 a) r
  | _ :: _, [] => arI np d S (mulE a.1 b) r
  | _ :: _, _ :: _ => unI np S r
def sxA (np d : Nat) (i : Instr) (S : sS) : Option sS := match i, S.2.2.1 with
  | .iadd, (0, b) :: (0, a) :: r => arI np d S (addE a b) r
  | .isub, (0, b) :: (0, a) :: r => arI np d S (subE a b) r
  | .imul, (0, b) :: (0, a) :: r => mlI np d S a b r
  | .ineg, (0, a) :: r => arI np d S (mulE (-1) a) r
  | .idiv, (0, b) :: (0, a) :: r => match b.2 with
    | [] => if 0 < b.1 then dvI np d S a b.1 r else none
    | _ :: _ => if ent S.2.2.2.1 d (addE b (cE (-1))) = true then unI np S r else none
  | .irem, (0, b) :: (0, a) :: r => match b.2 with
    | [] => if 0 < b.1 then rmI np d S a b.1 r else none
    | _ :: _ => if ent S.2.2.2.1 d (addE b (cE (-1))) = true then unI np S r else none
  | .iand, (0, b) :: (0, a) :: r => match b.2 with
    | [] => if 0 ≤ b.1 then unR np S 0 b.1 r else unI np S r
    | _ :: _ => unI np S r
  | .ior, (0, _) :: (0, _) :: r => unI np S r
  | .ixor, (0, _) :: (0, _) :: r => unI np S r
  | .ishl, (0, _) :: (0, _) :: r => unI np S r
  | .ishr, (0, b) :: (0, a) :: r => if eqE b (cE 0) = true then some (sSt S ((0, a) :: r)) else unI np S r
  | .iushr, (0, _) :: (0, _) :: r => unI np S r
  | .ladd, (3, _) :: (3, _) :: r => some (sSt S ((3, cE 0) :: r))
  | .lsub, (3, _) :: (3, _) :: r => some (sSt S ((3, cE 0) :: r))
  | .lmul, (3, _) :: (3, _) :: r => some (sSt S ((3, cE 0) :: r))
  | .lcmp, (3, _) :: (3, _) :: r => unI np S r
  | .fcmp _, (4, _) :: (4, _) :: r => unI np S r
  | .dcmp _, (5, _) :: (5, _) :: r => unI np S r
  | .i2l, (0, _) :: r => some (sSt S ((3, cE 0) :: r))
  | .i2b, (0, _) :: r => unR np S (-128) 127 r
  | .i2c, (0, _) :: r => unR np S 0 65535 r
  | .l2i, (3, _) :: r => unI np S r
  | .i2f, (0, _) :: r => some (sSt S ((4, cE 0) :: r))
  | .f2i, (4, _) :: r => unI np S r
  | .dup, a :: r => if catS a = 1 then some (sSt S (a :: a :: r)) else none
  | .pop, a :: r => if catS a = 1 then some (sSt S r) else none
  | .dup_x1, a :: b :: r => if catS a = 1 ∧ catS b = 1 then some (sSt S (a :: b :: a :: r)) else none
  | .dup_x2, a :: b :: c :: r => if catS a = 1 ∧ catS b = 1 ∧ catS c = 1 then some (sSt S (a :: b :: c :: a :: r)) else none
  | .dup2, a :: b :: r => if catS a = 1 ∧ catS b = 1 then some (sSt S (a :: b :: a :: b :: r)) else none
  | .pop2, a :: r => if catS a = 2 then some (sSt S r) else none
  | _, _ => none
theorem shr00 {x : Int32} : x >>> ((0 : Int32) &&& 31) = x := by
  have h : ((0 : Int32) &&& 31) = 0 := by decide
  rw [h]
  exact Int32.shiftRight_zero
theorem of_A {pc2 : Nat} {st2 : List Value} (hi : ∀ lv st, actC i pc lv st = none) (hA : actA i pc st = some (pc2, st2)) : stp none df nL pc i len lk lv st h = some (pc2, lv, st2, h, 0, 0) := by
  unfold stp
  rw [hi, hA]
theorem aS_c2 {s t : sV} {r : List sV} (ha : aS ρ (s :: t :: r) st) : ∃ v v' w, st = v :: v' :: w ∧ dV ρ s v ∧ dV ρ t v' ∧ aS ρ r w := by
  obtain ⟨v, w, rfl, h1, h2⟩ := aS_cons ha
  obtain ⟨v', w', rfl, h3, h4⟩ := aS_cons h2
  exact ⟨v, v', w', rfl, h1, h3, h4⟩
theorem ii_of {a b : LE} {r : List sV} (ha : aS ρ ((0, b) :: (0, a) :: r) st) : ∃ (x y : Int32) (w : List Value), st = .int y :: .int x :: w ∧ x.toInt = ev ρ a ∧ y.toInt = ev ρ b ∧ aS ρ r w := by
  obtain ⟨v, v', w, rfl, h1, h2, h3⟩ := aS_c2 ha
  obtain ⟨y, rfl, hy⟩ := dV0 rfl h1
  obtain ⟨x, rfl, hx⟩ := dV0 rfl h2
  exact ⟨x, y, w, rfl, hx, hy, h3⟩
theorem ev_nil {e : LE} (h : e.2 = []) : ev ρ e = e.1 := by
  unfold ev
  rw [h]
  show e.1 + 0 = e.1
  omega
theorem mlI_ok {S2 : sS} {a b : LE} {r : List sV} {w : List Value} {x y : Int32} (hs : mlI np d S a b r = some S2) (hx : x.toInt = ev ρ a) (hy : y.toInt = ev ρ b) (hsub : ∃ pre, S.2.2.1 = pre ++ r) (ha : abs PR G ρ S lv st h) (hr : aS ρ r w) : Abs PR G np ρ S2 lv (.int (x * y) :: w) h := by
  unfold mlI at hs
  split at hs
  next _ hb =>
    refine arI_ok hs (fun h1 h2 => ?_) hsub ha hr
    rw [ev_mul, ← hx] at h1 h2 ⊢
    rw [ev_nil hb] at hy
    rw [← hy, Int.mul_comm] at h1 h2 ⊢
    exact toI_mul h1 h2
  next _ hb' ha' =>
    refine arI_ok hs (fun h1 h2 => ?_) hsub ha hr
    rw [ev_mul, ← hy] at h1 h2 ⊢
    rw [ev_nil ha'] at hx
    rw [← hx] at h1 h2 ⊢
    exact toI_mul h1 h2
  next => exact unI_ok hs hsub ha hr
theorem dvI_ok {S2 : sS} {a : LE} {c : Int} {r : List sV} {w : List Value} {x y : Int32} (hc : 0 < c) (hs : dvI np d S a c r = some S2) (hx : x.toInt = ev ρ a) (hy : y.toInt = c) (hsub : ∃ pre, S.2.2.1 = pre ++ r) (ha : abs PR G ρ S lv st h) (hr : aS ρ r w) (hoa : frs np S = true → occE S.1 a = false) : Abs PR G np ρ S2 lv (.int (x / y) :: w) h := by
  unfold dvI at hs
  split at hs
  next he =>
    split at hs
    next hf =>
      cases hs
      have h0 := ent_ok ha.2.2.1 _ _ he
      have hq : (x / y).toInt = ev ρ a / c := by rw [toI_div (by omega) (by omega), hx, hy]
      have hn := i32hi (x / y)
      have g1 : c * (ev ρ a / c) ≤ ev ρ a := Int.mul_ediv_self_le (by omega)
      have g2 : ev ρ a < c * (ev ρ a / c) + c := by
        have := Int.lt_mul_ediv_self_add (x := ev ρ a) (k := c) hc
        omega
      have g3 : 0 ≤ ev ρ a / c := Int.ediv_nonneg h0 (by omega)
      refine ⟨_, up_np hf, abs_nw (x := (x / y).toInt) hf ha ?_ ⟨dV_n, aS_tl hf hsub hr⟩⟩
      intro f hff
      simp only [dvF, List.mem_cons, List.not_mem_nil, or_false] at hff
      rcases hff with rfl | rfl | rfl | rfl
      · rw [ev_sub, ev_mul, ev_v, uV_n, ev_u (hoa hf), hq]; omega
      · rw [ev_add, ev_sub, ev_mul, ev_v, uV_n, ev_u (hoa hf), hq, ev_c]; omega
      · rw [ev_v, uV_n, hq]; exact g3
      · show 0 ≤ 2147483647 + (-1 * uV ρ S.1 (x / y).toInt S.1 + 0)
        rw [uV_n]; omega
    next => cases hs
  next => exact unI_ok hs hsub ha hr
theorem rmI_ok {S2 : sS} {a : LE} {c : Int} {r : List sV} {w : List Value} {x y : Int32} (hc : 0 < c) (hs : rmI np d S a c r = some S2) (hx : x.toInt = ev ρ a) (hy : y.toInt = c) (hsub : ∃ pre, S.2.2.1 = pre ++ r) (ha : abs PR G ρ S lv st h) (hr : aS ρ r w) : Abs PR G np ρ S2 lv (.int (x - x / y * y) :: w) h := by
  unfold rmI at hs
  split at hs
  next he =>
    have h0 := ent_ok ha.2.2.1 _ _ he
    have hq : (x - x / y * y).toInt = ev ρ a % c := by rw [toI_rem (by omega) (by omega), hx, hy]
    refine unR_ok hs ?_ ?_ hsub ha hr
    · rw [hq]; exact Int.emod_nonneg _ (by omega)
    · rw [hq]; have := Int.emod_lt_of_pos (ev ρ a) hc; omega
  next => exact unI_ok hs hsub ha hr
theorem occ_st {a b : LE} {r : List sV} (hst : S.2.2.1 = (0, b) :: (0, a) :: r) (hf : frs np S = true) : occE S.1 a = false := by
  have ho := (frs_ok hf).2
  unfold occS at ho
  simp only [Bool.or_eq_false_iff] at ho
  have h2 := ho.2.1
  rw [hst] at h2
  simp only [List.any_cons, Bool.or_eq_false_iff] at h2
  exact h2.2.1
theorem nz_of {y : Int32} {b : LE} (hy : y.toInt = ev ρ b) (h : 0 < ev ρ b) : ¬ y = 0 := by
  intro e
  rw [e] at hy
  have : (0 : Int32).toInt = 0 := by decide
  omega
set_option maxHeartbeats 8000000 in
theorem sxA_ok {S2 : sS} (hs : sxA np d i S = some S2) (ha : abs PR G ρ S lv st h) : StpA PR G np ρ df nL pc i len lk lv st h (pc + 1, S2) := by
  have ha2 := ha.2.1
  unfold sxA at hs
  split at hs
  next b a r hst =>
    rw [hst] at ha2
    obtain ⟨x, y, w, rfl, hx, hy, hr⟩ := ii_of ha2
    exact ⟨_, _, of_A (fun _ _ => rfl) rfl, arI_ok hs (fun h1 h2 => by rw [ev_add, ← hx, ← hy] at h1 h2 ⊢; exact toI_add h1 h2) ⟨[_, _], hst⟩ ha hr⟩
  next b a r hst =>
    rw [hst] at ha2
    obtain ⟨x, y, w, rfl, hx, hy, hr⟩ := ii_of ha2
    exact ⟨_, _, of_A (fun _ _ => rfl) rfl, arI_ok hs (fun h1 h2 => by rw [ev_sub, ← hx, ← hy] at h1 h2 ⊢; exact toI_sub h1 h2) ⟨[_, _], hst⟩ ha hr⟩
  next b a r hst =>
    rw [hst] at ha2
    obtain ⟨x, y, w, rfl, hx, hy, hr⟩ := ii_of ha2
    exact ⟨_, _, of_A (fun _ _ => rfl) rfl, mlI_ok hs hx hy ⟨[_, _], hst⟩ ha hr⟩
  next a r hst =>
    rw [hst] at ha2
    obtain ⟨v, w, rfl, hv, hr⟩ := aS_cons ha2
    obtain ⟨x, rfl, hx⟩ := dV0 rfl hv
    have hx : x.toInt = ev ρ a := hx
    exact ⟨_, _, of_A (fun _ _ => rfl) rfl, arI_ok hs (fun h1 h2 => by rw [ev_mul, ← hx] at h1 h2 ⊢; rw [show (-1 : Int) * x.toInt = -x.toInt by omega] at h1 h2 ⊢; exact toI_neg h1 h2) ⟨[_], hst⟩ ha hr⟩
  next b a r hst =>
    rw [hst] at ha2
    obtain ⟨x, y, w, rfl, hx, hy, hr⟩ := ii_of ha2
    split at hs
    next hb =>
      split at hs
      next hc =>
        have hy2 : y.toInt = b.1 := by rw [hy, ev_nil hb]
        exact ⟨_, _, of_A (fun _ _ => rfl) (by show (if y = 0 then none else _) = _; rw [if_neg (nz_of hy (by rw [ev_nil hb]; exact hc))]), dvI_ok hc hs hx hy2 ⟨[_, _], hst⟩ ha hr (occ_st hst)⟩
      next => cases hs
    next =>
      split at hs
      next hc =>
        have h1 := ent_ok ha.2.2.1 _ _ hc
        rw [ev_add, ev_c] at h1
        exact ⟨_, _, of_A (fun _ _ => rfl) (by show (if y = 0 then none else _) = _; rw [if_neg (nz_of hy (by omega))]), unI_ok hs ⟨[_, _], hst⟩ ha hr⟩
      next => cases hs
  next b a r hst =>
    rw [hst] at ha2
    obtain ⟨x, y, w, rfl, hx, hy, hr⟩ := ii_of ha2
    split at hs
    next hb =>
      split at hs
      next hc =>
        have hy2 : y.toInt = b.1 := by rw [hy, ev_nil hb]
        exact ⟨_, _, of_A (fun _ _ => rfl) (by show (if y = 0 then none else _) = _; rw [if_neg (nz_of hy (by rw [ev_nil hb]; exact hc))]), rmI_ok hc hs hx hy2 ⟨[_, _], hst⟩ ha hr⟩
      next => cases hs
    next =>
      split at hs
      next hc =>
        have h1 := ent_ok ha.2.2.1 _ _ hc
        rw [ev_add, ev_c] at h1
        exact ⟨_, _, of_A (fun _ _ => rfl) (by show (if y = 0 then none else _) = _; rw [if_neg (nz_of hy (by omega))]), unI_ok hs ⟨[_, _], hst⟩ ha hr⟩
      next => cases hs
  next b a r hst =>
    rw [hst] at ha2
    obtain ⟨x, y, w, rfl, hx, hy, hr⟩ := ii_of ha2
    split at hs
    next hb =>
      split at hs
      next hc =>
        have hy2 : y.toInt = b.1 := by rw [hy, ev_nil hb]
        have h1 := toI_and (x := x) (y := y) (by omega)
        exact ⟨_, _, of_A (fun _ _ => rfl) rfl, unR_ok hs h1.1 (by omega) ⟨[_, _], hst⟩ ha hr⟩
      next => exact ⟨_, _, of_A (fun _ _ => rfl) rfl, unI_ok hs ⟨[_, _], hst⟩ ha hr⟩
    next => exact ⟨_, _, of_A (fun _ _ => rfl) rfl, unI_ok hs ⟨[_, _], hst⟩ ha hr⟩
  iterate 3
    next b a r hst =>
      rw [hst] at ha2
      obtain ⟨x, y, w, rfl, hx, hy, hr⟩ := ii_of ha2
      exact ⟨_, _, of_A (fun _ _ => rfl) rfl, unI_ok hs ⟨[_, _], hst⟩ ha hr⟩
  next b a r hst =>
    rw [hst] at ha2
    obtain ⟨x, y, w, rfl, hx, hy, hr⟩ := ii_of ha2
    split at hs
    next h0 =>
      cases hs
      have hy0 : y = 0 := Int32.toInt_inj.mp (by rw [hy, eqE_ok h0, ev_c]; rfl)
      subst hy0
      exact ⟨_, .int x :: w, of_A (fun _ _ => rfl) (by show some (pc + 1, Value.int (x >>> ((0 : Int32) &&& 31)) :: w) = _; rw [shr00]), Abs.of (abs_st ha ⟨⟨x, rfl, hx⟩, hr⟩)⟩
    next => exact ⟨_, _, of_A (fun _ _ => rfl) rfl, unI_ok hs ⟨[_, _], hst⟩ ha hr⟩
  iterate 1
    next b a r hst =>
      rw [hst] at ha2
      obtain ⟨x, y, w, rfl, hx, hy, hr⟩ := ii_of ha2
      exact ⟨_, _, of_A (fun _ _ => rfl) rfl, unI_ok hs ⟨[_, _], hst⟩ ha hr⟩
  iterate 3
    next b a r hst =>
      rw [hst] at ha2
      obtain ⟨v, v', w, rfl, h1, h2, hr⟩ := aS_c2 ha2
      obtain ⟨y, rfl⟩ := dV3 rfl h1
      obtain ⟨x, rfl⟩ := dV3 rfl h2
      cases hs
      exact ⟨_, _, of_A (fun _ _ => rfl) rfl, Abs.of (abs_st ha ⟨⟨_, rfl⟩, hr⟩)⟩
  next b a r hst =>
    rw [hst] at ha2
    obtain ⟨v, v', w, rfl, h1, h2, hr⟩ := aS_c2 ha2
    obtain ⟨y, rfl⟩ := dV3 rfl h1
    obtain ⟨x, rfl⟩ := dV3 rfl h2
    exact ⟨_, _, of_A (fun _ _ => rfl) rfl, unI_ok hs ⟨[_, _], hst⟩ ha hr⟩
  next op b a r hst =>
    rw [hst] at ha2
    obtain ⟨v, v', w, rfl, h1, h2, hr⟩ := aS_c2 ha2
    obtain ⟨y, rfl⟩ := dV4 rfl h1
    obtain ⟨x, rfl⟩ := dV4 rfl h2
    exact ⟨_, _, of_A (fun _ _ => rfl) rfl, unI_ok hs ⟨[_, _], hst⟩ ha hr⟩
  next op b a r hst =>
    rw [hst] at ha2
    obtain ⟨v, v', w, rfl, h1, h2, hr⟩ := aS_c2 ha2
    obtain ⟨y, rfl⟩ := dV5 rfl h1
    obtain ⟨x, rfl⟩ := dV5 rfl h2
    exact ⟨_, _, of_A (fun _ _ => rfl) rfl, unI_ok hs ⟨[_, _], hst⟩ ha hr⟩
  next a r hst =>
    rw [hst] at ha2
    obtain ⟨v, w, rfl, hv, hr⟩ := aS_cons ha2
    obtain ⟨x, rfl, hx⟩ := dV0 rfl hv
    cases hs
    exact ⟨_, _, of_A (fun _ _ => rfl) rfl, Abs.of (abs_st ha ⟨⟨_, rfl⟩, hr⟩)⟩
  next a r hst =>
    rw [hst] at ha2
    obtain ⟨v, w, rfl, hv, hr⟩ := aS_cons ha2
    obtain ⟨x, rfl, hx⟩ := dV0 rfl hv
    exact ⟨_, _, of_A (fun _ _ => rfl) rfl, unR_ok hs (toI_i2b x).1 (toI_i2b x).2 ⟨[_], hst⟩ ha hr⟩
  next a r hst =>
    rw [hst] at ha2
    obtain ⟨v, w, rfl, hv, hr⟩ := aS_cons ha2
    obtain ⟨x, rfl, hx⟩ := dV0 rfl hv
    exact ⟨_, _, of_A (fun _ _ => rfl) rfl, unR_ok hs (toI_i2c x).1 (toI_i2c x).2 ⟨[_], hst⟩ ha hr⟩
  next a r hst =>
    rw [hst] at ha2
    obtain ⟨v, w, rfl, hv, hr⟩ := aS_cons ha2
    obtain ⟨x, rfl⟩ := dV3 rfl hv
    exact ⟨_, _, of_A (fun _ _ => rfl) rfl, unI_ok hs ⟨[_], hst⟩ ha hr⟩
  next a r hst =>
    rw [hst] at ha2
    obtain ⟨v, w, rfl, hv, hr⟩ := aS_cons ha2
    obtain ⟨x, rfl, hx⟩ := dV0 rfl hv
    cases hs
    exact ⟨_, _, of_A (fun _ _ => rfl) rfl, Abs.of (abs_st ha ⟨⟨_, rfl⟩, hr⟩)⟩
  next a r hst =>
    rw [hst] at ha2
    obtain ⟨v, w, rfl, hv, hr⟩ := aS_cons ha2
    obtain ⟨x, rfl⟩ := dV4 rfl hv
    exact ⟨_, _, of_A (fun _ _ => rfl) rfl, unI_ok hs ⟨[_], hst⟩ ha hr⟩
  next a r hst =>
    rw [hst] at ha2
    obtain ⟨v, w, rfl, hv, hr⟩ := aS_cons ha2
    split at hs
    next hc =>
      cases hs
      exact ⟨_, v :: v :: w, of_A (fun _ _ => rfl) (by show (if v.category = 1 then _ else _) = _; rw [if_pos (by rw [dV_cat hv]; exact hc)]), Abs.of (abs_st ha ⟨hv, hv, hr⟩)⟩
    next => cases hs
  next a r hst =>
    rw [hst] at ha2
    obtain ⟨v, w, rfl, hv, hr⟩ := aS_cons ha2
    split at hs
    next hc =>
      cases hs
      exact ⟨_, _, of_A (fun _ _ => rfl) (by show (if v.category = 1 then _ else _) = _; rw [if_pos (by rw [dV_cat hv]; exact hc)]), Abs.of (abs_st ha hr)⟩
    next => cases hs
  next a b r hst =>
    rw [hst] at ha2
    obtain ⟨v, v', w, rfl, h1, h2, hr⟩ := aS_c2 ha2
    split at hs
    next hc =>
      cases hs
      exact ⟨_, v :: v' :: v :: w, of_A (fun _ _ => rfl) (by show (if v.category = 1 ∧ v'.category = 1 then _ else _) = _; rw [if_pos ⟨by rw [dV_cat h1]; exact hc.1, by rw [dV_cat h2]; exact hc.2⟩]), Abs.of (abs_st ha ⟨h1, h2, h1, hr⟩)⟩
    next => cases hs
  next a b c r hst =>
    rw [hst] at ha2
    obtain ⟨v, v', w, rfl, h1, h2, hr⟩ := aS_c2 ha2
    obtain ⟨v'', w', rfl, h3, hr⟩ := aS_cons hr
    split at hs
    next hc =>
      cases hs
      exact ⟨_, v :: v' :: v'' :: v :: w', of_A (fun _ _ => rfl) (by show (if v.category = 1 ∧ v'.category = 1 ∧ v''.category = 1 then _ else _) = _; rw [if_pos ⟨by rw [dV_cat h1]; exact hc.1, by rw [dV_cat h2]; exact hc.2.1, by rw [dV_cat h3]; exact hc.2.2⟩]), Abs.of (abs_st ha ⟨h1, h2, h3, h1, hr⟩)⟩
    next => cases hs
  next a b r hst =>
    rw [hst] at ha2
    obtain ⟨v, v', w, rfl, h1, h2, hr⟩ := aS_c2 ha2
    split at hs
    next hc =>
      cases hs
      exact ⟨_, v :: v' :: v :: v' :: w, of_A (fun _ _ => rfl) (by show (if v.category = 2 then _ else if v'.category = 1 then _ else _) = _; rw [if_neg (by rw [dV_cat h1]; omega), if_pos (by rw [dV_cat h2]; exact hc.2)]), Abs.of (abs_st ha ⟨h1, h2, h1, h2, hr⟩)⟩
    next => cases hs
  next a r hst =>
    rw [hst] at ha2
    obtain ⟨v, w, rfl, hv, hr⟩ := aS_cons ha2
    split at hs
    next hc =>
      cases hs
      exact ⟨_, w, of_A (fun _ _ => rfl) (by show (if v.category = 2 then _ else _) = _; rw [if_pos (by rw [dV_cat hv]; exact hc)]), Abs.of (abs_st ha hr)⟩
    next => cases hs
  next => cases hs
end SXA
