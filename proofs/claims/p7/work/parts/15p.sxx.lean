/-! Writes into arrays. -/
section SXX
variable {PR : Nat → Int → Int → mH → Prop} {G : Nat → Nat} {gs : Nat → Option gS} {ρ : Va} {S : sS} {lv : mL} {st : List Value} {h : mH} {np d nL pc len : Nat} {i : Instr} {lk : mK} {df : List (List Value)} {md : List (Nat × Nat)} {dp : dT}
def difC (a b : LE) : Bool := match (subE a b).2 with
  | [] => !decide ((subE a b).1 = 0)
  | _ :: _ => false
theorem difC_ok {a b : LE} (hd : difC a b = true) : ev ρ a ≠ ev ρ b := by
  unfold difC at hd
  split at hd
  next h0 =>
    intro e
    have h1 : ev ρ (subE a b) = (subE a b).1 := ev_nil h0
    rw [ev_sub, e] at h1
    simp only [Bool.not_eq_true', decide_eq_false_iff_not] at hd
    exact hd (by omega)
  next => cases hd
/-- indices that differ, by what is known -/
def difI (d : Nat) (F : List LE) (a b : LE) : Bool := difC a b || (ent F d (subE (subE a b) (cE 1)) || ent F d (subE (subE b a) (cE 1)))
theorem difI_ok {F : List LE} {a b : LE} (hF : aF ρ F) (hd : difI d F a b = true) : ev ρ a ≠ ev ρ b := by
  simp only [difI, Bool.or_eq_true] at hd
  rcases hd with hd | hd | hd
  · exact difC_ok hd
  · have h1 := ent_ok hF _ _ hd
    rw [ev_sub, ev_sub, ev_c] at h1
    omega
  · have h1 := ent_ok hF _ _ hd
    rw [ev_sub, ev_sub, ev_c] at h1
    omega
def klA (d : Nat) (F : List LE) (gr : List (LE × Nat)) (g : Nat) (j : LE) (af : List (LE × LE × sV)) : List (LE × LE × sV) := af.filter fun q => ngG gr q.1 g || difI d F q.2.1 j
def dvT (p : Nat) : List (Nat × Int) → Bool
  | [] => true
  | q :: r => decide (q.2 % (p : Int) = 0) && dvT p r
def dvs (p : Nat) (e : LE) : Bool := decide (e.1 % (p : Int) = 0) && dvT p e.2
theorem dvT_ok {p : Nat} : ∀ {l : List (Nat × Int)}, dvT p l = true → evT ρ l % (p : Int) = 0
  | [], _ => by show (0 : Int) % _ = 0; simp
  | q :: r, h => by
    simp only [dvT, Bool.and_eq_true, decide_eq_true_eq] at h
    show (q.2 * ρ q.1 + evT ρ r) % (p : Int) = 0
    have h1 := dvT_ok h.2
    have h2 : (p : Int) ∣ q.2 * ρ q.1 := Int.dvd_mul_of_dvd_left (Int.dvd_of_emod_eq_zero h.1)
    exact Int.emod_eq_zero_of_dvd (Int.dvd_add h2 (Int.dvd_of_emod_eq_zero h1))
theorem dvs_ok {p : Nat} {e : LE} (h : dvs p e = true) : ev ρ e % (p : Int) = 0 := by
  simp only [dvs, Bool.and_eq_true, decide_eq_true_eq] at h
  exact Int.emod_eq_zero_of_dvd (Int.dvd_add (Int.dvd_of_emod_eq_zero h.1) (Int.dvd_of_emod_eq_zero (dvT_ok h.2)))
theorem mod_same {a b : Int} {p : Nat} (ha : 0 ≤ a) (hb : 0 ≤ b) (h : (a - b) % (p : Int) = 0) : a.toNat % p = b.toNat % p := by
  have h1 : a % (p : Int) = b % (p : Int) := Int.emod_eq_emod_iff_emod_sub_eq_zero.mpr h
  have h2 : ((a.toNat % p : Nat) : Int) = ((b.toNat % p : Nat) : Int) := by
    rw [Int.natCast_emod, Int.natCast_emod, Int.toNat_of_nonneg ha, Int.toNat_of_nonneg hb]
    exact h1
  exact Int.ofNat_inj.mp h2
/-- a copy: the value is known as an element of an array of the same segments, at an index that differs by whole periods -/
def cpy (gs : Nat → Option gS) (S : sS) (p : Nat) (sg : List (Nat × kS)) (j : LE) (v : sV) : Bool := Nat.beq v.1 0 && S.2.2.2.2.2.2.1.any fun q => eqV q.2.2 v && (match aGg gs S q.1 with
  | some (_, _, _, p', sg') => decide (p' = p) && (dvs p (subE j q.2.1) && decide (sg' = sg))
  | none => false)
def wrS (d : Nat) (gs : Nat → Option gS) (S : sS) (n p : Nat) (sg : List (Nat × kS)) (j : LE) (v : sV) : Option (List Nat) := match (match sgI d S.2.2.2.1 n p sg j with
    | some (k, f) => if wrO d S.2.2.2.1 S.2.2.2.2.1 f v = true then some k else none
    | none => none) with
  | some k => some [k]
  | none => if sg.all (fun q => wrO d S.2.2.2.1 S.2.2.2.2.1 q.2 v) = true then some (List.range sg.length) else if cpy gs S p sg j v = true then some (List.range sg.length) else none
theorem wrS_ok {n p : Nat} {sg : List (Nat × kS)} {j : LE} {v : sV} {w : Value} {ks : List Nat} (hw : wrS d gs S n p sg j v = some ks) (hT : TI G gs h) (ha : abs PR G ρ S lv st h) (hv : dV ρ v w) (h0 : 0 ≤ ev ρ j) (hn : ev ρ j < n) {c : mC} (hall : ∀ i, i < n → ∃ k f, segAt sg (i % p) 0 = some (k, f) ∧ fOK G f (elV c i)) :
    ∃ k f, segAt sg ((ev ρ j).toNat % p) 0 = some (k, f) ∧ fOK G f w ∧ k ∈ ks := by
  unfold wrS at hw
  split at hw
  next k0 hs0 =>
    cases hw
    split at hs0
    next k f hs =>
      split at hs0
      next ho => cases hs0; exact ⟨_, f, sgI_ok hs ha.2.2.1 h0 hn, wrO_ok ho ha hv, List.mem_cons_self⟩
      next => cases hs0
    next => cases hs0
  next =>
  obtain ⟨k, f, h1, -⟩ := hall (ev ρ j).toNat (by omega)
  obtain ⟨⟨e, hm⟩, -, hk⟩ := segAt_k h1
  split at hw
  next hA =>
    cases hw
    exact ⟨k, f, h1, wrO_ok (List.all_eq_true.mp hA _ hm) ha hv, List.mem_range.mpr (by omega)⟩
  next =>
  split at hw
  next hc =>
    cases hw
    refine ⟨k, f, h1, ?_, List.mem_range.mpr (by omega)⟩
    unfold cpy at hc
    simp only [Bool.and_eq_true] at hc
    obtain ⟨hv0, hc⟩ := hc
    obtain ⟨q, hq, hc⟩ := List.any_eq_true.mp hc
    simp only [Bool.and_eq_true] at hc
    obtain ⟨he, hc⟩ := hc
    have he := eqV_ok he
    split at hc
    next g' t' n' p' sg' ho =>
      simp only [Bool.and_eq_true, decide_eq_true_eq] at hc
      obtain ⟨rfl, hd, rfl⟩ := hc
      obtain ⟨-, -, hgs⟩ := aGg_ok ho ha
      obtain ⟨c2, hx2, hk2, hall2⟩ := TI_arr hT hgs (aGg_ex ho ha)
      obtain ⟨t3, n3, c3, g1, g2, g3, g4⟩ := ha.2.2.2.2.2.1 q hq
      cases hx2.symm.trans g1
      obtain ⟨k4, f4, f5, f6⟩ := hall2 (ev ρ q.2.1).toNat (by omega)
      have hd := dvs_ok (ρ := ρ) hd
      rw [ev_sub] at hd
      rw [mod_same h0 g2 hd, f5] at h1
      cases h1
      rw [he] at g4
      obtain ⟨x, hx, gx⟩ := dV0 (Nat.eq_of_beq_eq_true hv0) g4
      obtain ⟨y, hy, gy⟩ := dV0 (Nat.eq_of_beq_eq_true hv0) hv
      rw [hy, show y = x from Int32.toInt_inj.mp (by rw [gx, gy]), ← hx]
      exact f6
    next => cases hc
  next => cases hw
/-- the state behind a write into an array -/
def sAs (d : Nat) (dp : dT) (S : sS) (g : Nat) (ks : List Nat) (r j : LE) (new : List (LE × LE × sV)) (st' : List sV) : sS :=
  (S.1, S.2.1, st', S.2.2.2.1, S.2.2.2.2.1, S.2.2.2.2.2.1, new ++ klA d S.2.2.2.1 S.2.2.2.2.1 g j S.2.2.2.2.2.2.1, klQ d S.2.2.2.1 dp g ks j S.2.2.2.2.2.2.2)
theorem aH_set {hf : List (LE × Nat × sV)} {x : Nat} {e e' : Nat × vp_A} (hA : aH ρ hf h) (hx : h[x]? = some (.inl e)) : aH ρ hf (h.set x (.inl e')) := by
  intro q hq
  obtain ⟨ci, fs, v, h1, h2⟩ := hA q hq
  refine ⟨ci, fs, v, ?_, h2⟩
  rw [List.getElem?_set_ne (fun e => by rw [← e, hx] at h1; cases h1)]
  exact h1
theorem abs_as {g t n p : Nat} {sg : List (Nat × kS)} {ks : List Nat} {r j : LE} {v : sV} {new : List (LE × LE × sV)} {st' : List sV} {w : List Value} {c c' : mC} {k : Nat} {f : kS} (hPR : PRk PR G gs dp) (hT : TI G gs h) (ha : abs PR G ρ S lv st h) (ho : aGg gs S r = some (g, t, n, p, sg)) (hx : h[(ev ρ r).toNat]? = some (.inl (t, n, c)))
    (h0 : 0 ≤ ev ρ j) (hn : ev ρ j < n) (hs : segAt sg ((ev ρ j).toNat % p) 0 = some (k, f)) (hfv : fOK G f (elV c' (ev ρ j).toNat)) (hk : k ∈ ks) (hkd : kdC c' = kdC c) (hoth : ∀ i, i ≠ (ev ρ j).toNat → elV c' i = elV c i) (hm : ks.all (mdI md g) = true)
    (hnew : new = [] ∨ (new = [(r, j, v)] ∧ dV ρ v (elV c' (ev ρ j).toNat))) (hr : aS ρ st' w) :
    abs PR G ρ (sAs d dp S g ks r j new st') lv w (h.set (ev ρ r).toNat (.inl (t, n, c'))) ∧ TI G gs (h.set (ev ρ r).toNat (.inl (t, n, c'))) ∧ fr G gs md h (h.set (ev ρ r).toNat (.inl (t, n, c'))) := by
  obtain ⟨-, hg, hgs⟩ := aGg_ok ho ha
  have hlt := (List.getElem?_eq_some_iff.mp hx).1
  obtain ⟨t1, t2⟩ := TI_put_arr (c' := c') hT hgs hx (by omega) hs hkd hfv hoth
  rw [hg] at t2
  obtain ⟨a1, a2, a3, a4, a5, a6, a7⟩ := ha
  refine ⟨⟨a1, hr, a3, a4, aH_set a5 hx, fun q hq => ?_, klQ_ok hPR a3 a7 hT t1 hg hgs hx hkd h0 hn hs hk hoth⟩, t1, fr_mono (fun q hq => by rw [List.mem_singleton.mp hq]; exact mdI_ok (List.all_eq_true.mp hm _ hk)) t2⟩
  rcases List.mem_append.mp hq with hq | hq
  · rcases hnew with rfl | ⟨rfl, hdv⟩
    · exact absurd hq List.not_mem_nil
    · obtain rfl := List.mem_singleton.mp hq
      exact ⟨t, n, c', List.getElem?_set_self hlt, h0, hn, hdv⟩
  · obtain ⟨hm2, hn2⟩ := List.mem_filter.mp hq
    obtain ⟨t3, n3, c3, g1, g2, g3, g4⟩ := a6 q hm2
    by_cases hxy : (ev ρ r).toNat = (ev ρ q.1).toNat
    · rw [← hxy] at g1 ⊢
      cases hx.symm.trans g1
      refine ⟨t, n, c', List.getElem?_set_self hlt, g2, g3, ?_⟩
      simp only [Bool.or_eq_true] at hn2
      rcases hn2 with hn2 | hn2
      · exact absurd (by rw [← hxy]; exact hg) (ngG_ok hn2 a4)
      · have hne := difI_ok (ρ := ρ) a3 hn2
        rw [hoth _ (by omega)]
        exact g4
    · exact ⟨t3, n3, c3, by rw [List.getElem?_set_ne hxy]; exact g1, g2, g3, g4⟩
def wrA (d : Nat) (gs : Nat → Option gS) (dp : dT) (md : List (Nat × Nat)) (ok : Nat → Bool) (S : sS) (v : sV) (j r : LE) (st' : List sV) : Option sS := match aGg gs S r with
  | some (g, t, n, p, sg) => if ok t = true ∧ inB d S.2.2.2.1 n j = true then (match wrS d gs S n p sg j v with
    | some ks => if ks.all (mdI md g) = true then some (sAs d dp S g ks r j [(r, j, v)] st') else none
    | none => none) else none
  | none => none
theorem wrA_ok {ok : Nat → Bool} {S2 : sS} {v : sV} {j r : LE} {st' : List sV} {w : List Value} {u : Value} (hPR : PRk PR G gs dp) (hs : wrA d gs dp md ok S v j r st' = some S2) (hT : TI G gs h) (ha : abs PR G ρ S lv st h) (hv : dV ρ v u) (hr : aS ρ st' w) :
    ∃ t n c, h[(ev ρ r).toNat]? = some (.inl (t, n, c)) ∧ kdC c = kdN t n ∧ ok t = true ∧ 0 ≤ ev ρ j ∧ ev ρ j < n ∧ ∀ c', kdC c' = kdC c → elV c' (ev ρ j).toNat = u → (∀ i, i ≠ (ev ρ j).toNat → elV c' i = elV c i) →
      abs PR G ρ S2 lv w (h.set (ev ρ r).toNat (.inl (t, n, c'))) ∧ TI G gs (h.set (ev ρ r).toNat (.inl (t, n, c'))) ∧ fr G gs md h (h.set (ev ρ r).toNat (.inl (t, n, c'))) := by
  unfold wrA at hs
  split at hs
  next g t n p sg ho =>
    obtain ⟨-, hg, hgs⟩ := aGg_ok ho ha
    obtain ⟨c, hx, hk, hall⟩ := TI_arr hT hgs (aGg_ex ho ha)
    split at hs
    next hc =>
      obtain ⟨j0, jn⟩ := inB_ok hc.2 ha.2.2.1
      split at hs
      next ks hw =>
        split at hs
        next hm =>
          cases hs
          obtain ⟨k, f, g1, g2, g3⟩ := wrS_ok hw hT ha hv j0 jn hall
          exact ⟨t, n, c, hx, hk, hc.1, j0, jn, fun c' e1 e2 e3 => abs_as hPR hT ha ho hx j0 jn g1 (by rw [e2]; exact g2) g3 e1 e3 hm (Or.inr ⟨rfl, by rw [e2]; exact hv⟩) hr⟩
        next => cases hs
      next => cases hs
    next => cases hs
  next => cases hs
/-- segments that take any byte -/
def byS (sg : List (Nat × kS)) : Bool := sg.all fun q => Nat.beq q.2.1 0 && (decide (q.2.2.1 ≤ -128) && decide (127 ≤ q.2.2.2))
def boS (sg : List (Nat × kS)) : Bool := sg.all fun q => Nat.beq q.2.1 0 && (decide (q.2.2.1 ≤ 0) && decide (1 ≤ q.2.2.2))
def wrB (d : Nat) (gs : Nat → Option gS) (dp : dT) (md : List (Nat × Nat)) (S : sS) (v j r : LE) (st' : List sV) : Option sS := match aGg gs S r with
  | some (g, t, n, p, sg) => if inB d S.2.2.2.1 n j = true ∧ (List.range sg.length).all (mdI md g) = true ∧ ((t = 1 ∧ byS sg = true) ∨ (t = 2 ∧ boS sg = true ∧ (eqE v (cE 0) || eqE v (cE 1)) = true)) then some (sAs d dp S g (List.range sg.length) r j (if t = 2 ∨ (ent S.2.2.2.1 d (addE v (cE 128)) && ent S.2.2.2.1 d (subE (cE 127) v)) = true then [(r, j, (0, v))] else []) st') else none
  | none => none
def sxX (d : Nat) (gs : Nat → Option gS) (dp : dT) (md : List (Nat × Nat)) (i : Instr) (S : sS) : Option sS := match i, S.2.2.1 with
  | .iastore, (0, v) :: (0, j) :: (1, r) :: st' => wrA d gs dp md (fun t => Nat.beq t 0) S (0, v) j r st'
  | .lastore, (3, v) :: (0, j) :: (1, r) :: st' => wrA d gs dp md (fun t => Nat.beq t 4) S (3, v) j r st'
  | .lastore, (7, v) :: (0, j) :: (1, r) :: st' => wrA d gs dp md (fun t => Nat.beq t 4) S (7, v) j r st'
  | .fastore, (4, v) :: (0, j) :: (1, r) :: st' => wrA d gs dp md (fun t => Nat.beq t 5) S (4, v) j r st'
  | .dastore, (5, v) :: (0, j) :: (1, r) :: st' => wrA d gs dp md (fun t => Nat.beq t 6) S (5, v) j r st'
  | .bastore, (0, v) :: (0, j) :: (1, r) :: st' => wrB d gs dp md S v j r st'
  | .aastore, (1, v) :: (0, j) :: (1, r) :: st' => match lkG S.2.2.2.2.1 v with
    | some g => match gs g with
      | some (.inl (ci, _)) => wrA d gs dp md (fun t => decide (t = ci + 8 ∧ t < 900)) S (1, v) j r st'
      | _ => none
    | none => none
  | _, _ => none
theorem vjr_of {t : Nat} {v j r : LE} {st' : List sV} (ha : aS ρ ((t, v) :: (0, j) :: (1, r) :: st') st) : ∃ (u : Value) (x : Int32) (w : List Value), st = u :: .int x :: .ref (ev ρ r).toNat :: w ∧ dV ρ (t, v) u ∧ x.toInt = ev ρ j ∧ 0 ≤ ev ρ r ∧ aS ρ st' w := by
  obtain ⟨u, w', rfl, h1, h2⟩ := aS_cons ha
  obtain ⟨x, w, rfl, hx, h0, h3⟩ := jr_of h2
  exact ⟨u, x, w, rfl, h1, hx, h0, h3⟩
theorem el_upd {f : Nat → Int32} {k : Nat} {y : Int32} : elV (.inl (upd f k y)) k = .int y := by show Value.int (upd f k y k) = _; unfold upd; rw [if_pos rfl]
theorem el_upd' {f : Nat → Int32} {k i : Nat} {y : Int32} (h : i ≠ k) : elV (.inl (upd f k y)) i = elV (.inl f) i := by show Value.int (upd f k y i) = .int (f i); unfold upd; rw [if_neg h]
theorem no_W {i : Instr} (h1 : (∀ lv st, actC i pc lv st = none) ∧ (∀ st, actA i pc st = none) ∧ (∀ st, actR i lk st h = none) ∧ (∀ st, actB i pc st = none) ∧ ∀ lv st, actS nL i pc lv st = none) : (∀ lv st, actC i pc lv st = none) ∧ (∀ st, actA i pc st = none) ∧ (∀ st, actR i lk st h = none) ∧ (∀ st, actB i pc st = none) ∧ ∀ lv st, actS nL i pc lv st = none := h1
set_option maxHeartbeats 4000000 in
theorem sxX_ok {S2 : sS} (hPR : PRk PR G gs dp) (hs : sxX d gs dp md i S = some S2) (hT : TI G gs h) (ha : abs PR G ρ S lv st h) : StpW PR G gs md ρ df nL pc i len lk lv st h (pc + 1, S2) := by
  have ha2 := ha.2.1
  unfold sxX at hs
  split at hs
  next v j r st' hst =>
    rw [hst] at ha2
    obtain ⟨u, x, w, rfl, hu, hx, h0, hr⟩ := vjr_of ha2
    obtain ⟨y, rfl, hy⟩ := dV0 rfl hu
    obtain ⟨t, n, c, g1, g2, g3, g4, g5, g6⟩ := wrA_ok hPR hs hT ha hu hr
    have g3 := Nat.eq_of_beq_eq_true g3
    subst g3
    obtain ⟨f, rfl⟩ := kd0 (show kdC c = 0 from g2)
    have hc := (clampI hx g4).1
    refine ⟨w, _, of_W ⟨fun _ _ => rfl, fun _ => rfl, fun _ => rfl, fun _ => rfl, fun _ _ => rfl⟩ (q := (w, (ev ρ r).toNat, .inl (0, n, .inl (upd f (ev ρ j).toNat y)))) (by simp only [actW, g1]; rw [if_pos ⟨trivial, idx_in hx g4 g5⟩, hc]), g6 _ rfl el_upd fun i hi => el_upd' hi⟩
  next v j r st' hst =>
    rw [hst] at ha2
    obtain ⟨u, x, w, rfl, hu, hx, h0, hr⟩ := vjr_of ha2
    obtain ⟨y, rfl⟩ := dV3 rfl hu
    obtain ⟨t, n, c, g1, g2, g3, g4, g5, g6⟩ := wrA_ok hPR hs hT ha hu hr
    have g3 := Nat.eq_of_beq_eq_true g3
    subst g3
    obtain ⟨f, rfl⟩ := kd4 (show kdC c = 4 from g2)
    have hc := (clampI hx g4).1
    refine ⟨w, _, of_W ⟨fun _ _ => rfl, fun _ => rfl, fun _ => rfl, fun _ => rfl, fun _ _ => rfl⟩ (q := (w, (ev ρ r).toNat, .inl (4, n, .inr (.inl (vp_updL f (ev ρ j).toNat y))))) (by simp only [actW, g1]; rw [if_pos ⟨trivial, idx_in hx g4 g5⟩, hc]), g6 _ rfl ?_ fun i hi => ?_⟩
    · show Value.long (vp_updL f _ y _) = _; unfold vp_updL; rw [if_pos rfl]
    · show Value.long (vp_updL f _ y i) = .long (f i); unfold vp_updL; rw [if_neg hi]
  next v j r st' hst =>
    rw [hst] at ha2
    obtain ⟨u, x, w, rfl, hu, hx, h0, hr⟩ := vjr_of ha2
    obtain ⟨y, rfl, -⟩ := dV7 rfl hu
    obtain ⟨t, n, c, g1, g2, g3, g4, g5, g6⟩ := wrA_ok hPR hs hT ha hu hr
    have g3 := Nat.eq_of_beq_eq_true g3
    subst g3
    obtain ⟨f, rfl⟩ := kd4 (show kdC c = 4 from g2)
    have hc := (clampI hx g4).1
    refine ⟨w, _, of_W ⟨fun _ _ => rfl, fun _ => rfl, fun _ => rfl, fun _ => rfl, fun _ _ => rfl⟩ (q := (w, (ev ρ r).toNat, .inl (4, n, .inr (.inl (vp_updL f (ev ρ j).toNat y))))) (by simp only [actW, g1]; rw [if_pos ⟨trivial, idx_in hx g4 g5⟩, hc]), g6 _ rfl ?_ fun i hi => ?_⟩
    · show Value.long (vp_updL f _ y _) = _; unfold vp_updL; rw [if_pos rfl]
    · show Value.long (vp_updL f _ y i) = .long (f i); unfold vp_updL; rw [if_neg hi]
  next v j r st' hst =>
    rw [hst] at ha2
    obtain ⟨u, x, w, rfl, hu, hx, h0, hr⟩ := vjr_of ha2
    obtain ⟨y, rfl⟩ := dV4 rfl hu
    obtain ⟨t, n, c, g1, g2, g3, g4, g5, g6⟩ := wrA_ok hPR hs hT ha hu hr
    have g3 := Nat.eq_of_beq_eq_true g3
    subst g3
    obtain ⟨f, rfl⟩ := kd5 (show kdC c = 5 from g2)
    have hc := (clampI hx g4).1
    refine ⟨w, _, of_W ⟨fun _ _ => rfl, fun _ => rfl, fun _ => rfl, fun _ => rfl, fun _ _ => rfl⟩ (q := (w, (ev ρ r).toNat, .inl (5, n, .inr (.inr (.inl (vf_upd f (ev ρ j).toNat y)))))) (by simp only [actW, g1]; rw [if_pos ⟨trivial, idx_in hx g4 g5⟩, hc]), g6 _ rfl ?_ fun i hi => ?_⟩
    · show Value.float (vf_upd f _ y _) = _; unfold vf_upd; rw [if_pos rfl]
    · show Value.float (vf_upd f _ y i) = .float (f i); unfold vf_upd; rw [if_neg hi]
  next v j r st' hst =>
    rw [hst] at ha2
    obtain ⟨u, x, w, rfl, hu, hx, h0, hr⟩ := vjr_of ha2
    obtain ⟨y, rfl⟩ := dV5 rfl hu
    obtain ⟨t, n, c, g1, g2, g3, g4, g5, g6⟩ := wrA_ok hPR hs hT ha hu hr
    have g3 := Nat.eq_of_beq_eq_true g3
    subst g3
    obtain ⟨f, rfl⟩ := kd6 (show kdC c = 6 from g2)
    have hc := (clampI hx g4).1
    refine ⟨w, _, of_W ⟨fun _ _ => rfl, fun _ => rfl, fun _ => rfl, fun _ => rfl, fun _ _ => rfl⟩ (q := (w, (ev ρ r).toNat, .inl (6, n, .inr (.inr (.inr (.inl (vf_upd f (ev ρ j).toNat y))))))) (by simp only [actW, g1]; rw [if_pos ⟨trivial, idx_in hx g4 g5⟩, hc]), g6 _ rfl ?_ fun i hi => ?_⟩
    · show Value.double (vf_upd f _ y _) = _; unfold vf_upd; rw [if_pos rfl]
    · show Value.double (vf_upd f _ y i) = .double (f i); unfold vf_upd; rw [if_neg hi]
  next v j r st' hst =>
    rw [hst] at ha2
    obtain ⟨u, x, w, rfl, hu, hx, h0, hr⟩ := vjr_of ha2
    obtain ⟨y, rfl, hy⟩ := dV0 rfl hu
    have hy : y.toInt = ev ρ v := hy
    unfold wrB at hs
    split at hs
    next g t n p sg ho =>
      split at hs
      next hc =>
        cases hs
        obtain ⟨hb, hm, hk⟩ := hc
        obtain ⟨j0, jn⟩ := inB_ok hb ha.2.2.1
        obtain ⟨-, hg, hgs⟩ := aGg_ok ho ha
        obtain ⟨c, hxx, hkd, hall⟩ := TI_arr hT hgs (aGg_ex ho ha)
        have hcl := (clampI hx j0).1
        obtain ⟨k, fs, s1, s2⟩ := hall (ev ρ j).toNat (by omega)
        obtain ⟨⟨e, sm⟩, -, sk⟩ := segAt_k s1
        have fin : ∀ (f : Nat → Int32) (z : Int32), c = .inl f → fOK G fs (.int z) → ((t = 2 ∨ (ent S.2.2.2.1 d (addE v (cE 128)) && ent S.2.2.2.1 d (subE (cE 127) v)) = true) → z.toInt = ev ρ v) → abs PR G ρ (sAs d dp S g (List.range sg.length) r j (if t = 2 ∨ (ent S.2.2.2.1 d (addE v (cE 128)) && ent S.2.2.2.1 d (subE (cE 127) v)) = true then [(r, j, (0, v))] else []) st') lv w (h.set (ev ρ r).toNat (.inl (t, n, .inl (upd f (ev ρ j).toNat z)))) ∧ TI G gs (h.set (ev ρ r).toNat (.inl (t, n, .inl (upd f (ev ρ j).toNat z)))) ∧ fr G gs md h (h.set (ev ρ r).toNat (.inl (t, n, .inl (upd f (ev ρ j).toNat z)))) := fun f z hcf hz hzv => by
          subst hcf
          refine abs_as (v := (0, v)) (c' := .inl (upd f (ev ρ j).toNat z)) hPR hT ha ho hxx j0 jn s1 (by rw [el_upd]; exact hz) (List.mem_range.mpr (by omega)) rfl (fun i hi => el_upd' hi) hm ?_ hr
          by_cases h2 : t = 2 ∨ (ent S.2.2.2.1 d (addE v (cE 128)) && ent S.2.2.2.1 d (subE (cE 127) v)) = true
          · rw [if_pos h2]
            exact Or.inr ⟨rfl, by rw [el_upd]; exact ⟨z, rfl, hzv h2⟩⟩
          · rw [if_neg h2]
            exact Or.inl rfl
        rcases hk with ⟨rfl, hby⟩ | ⟨rfl, hbo, hval⟩
        · obtain ⟨f, rfl⟩ := kd0 (show kdC c = 0 from hkd)
          have hsg := List.all_eq_true.mp hby _ sm
          simp only [Bool.and_eq_true, decide_eq_true_eq] at hsg
          refine ⟨w, _, of_W ⟨fun _ _ => rfl, fun _ => rfl, fun _ => rfl, fun _ => rfl, fun _ _ => rfl⟩ (q := (w, (ev ρ r).toNat, .inl (1, n, .inl (upd f (ev ρ j).toNat (vp_nar .byte y))))) (by simp only [actW, hxx]; rw [if_pos ⟨trivial, idx_in hx j0 jn⟩, hcl]), fin f _ rfl ?_ (fun e => ?_)⟩
          rotate_left
          · rcases e with e | e
            · exact absurd e (by decide)
            · simp only [Bool.and_eq_true] at e
              have e1 := ent_ok ha.2.2.1 _ _ e.1
              have e2 := ent_ok ha.2.2.1 _ _ e.2
              rw [ev_add, ev_c] at e1
              rw [ev_sub, ev_c] at e2
              rw [vp_nar_byte, Int8.toInt_toInt32, Int32.toInt_toInt8, hy]
              exact Int.bmod_eq_of_le (by omega) (by omega)
          unfold fOK
          rw [Nat.eq_of_beq_eq_true hsg.1]
          refine ⟨_, rfl, ?_, ?_⟩ <;> rw [vp_nar_byte] <;> have := toI_i2b y <;> omega
        · obtain ⟨f, rfl⟩ := kd0 (show kdC c = 0 from hkd)
          have hsg := List.all_eq_true.mp hbo _ sm
          simp only [Bool.and_eq_true, decide_eq_true_eq] at hsg
          refine ⟨w, _, of_W ⟨fun _ _ => rfl, fun _ => rfl, fun _ => rfl, fun _ => rfl, fun _ _ => rfl⟩ (q := (w, (ev ρ r).toNat, .inl (2, n, .inl (upd f (ev ρ j).toNat (vp_nar .boolean y))))) (by simp only [actW, hxx]; rw [if_neg (by omega), if_pos ⟨trivial, idx_in hx j0 jn⟩, hcl]), fin f _ rfl ?_ fun _ => ?_⟩
          rotate_left
          · simp only [Bool.or_eq_true] at hval
            rcases hval with hval | hval
            · have e1 := eqE_ok hval
              subst e1
              rw [ev_c] at hy ⊢
              rw [show y = 0 from Int32.toInt_inj.mp (by rw [hy]; decide)]
              decide
            · have e1 := eqE_ok hval
              subst e1
              rw [ev_c] at hy ⊢
              rw [show y = 1 from Int32.toInt_inj.mp (by rw [hy]; decide)]
              decide
          have h01 : y = 0 ∨ y = 1 := by
            simp only [Bool.or_eq_true] at hval
            rcases hval with hval | hval
            · have e1 := eqE_ok hval
              subst e1
              rw [ev_c] at hy
              exact Or.inl (Int32.toInt_inj.mp (by rw [hy]; decide))
            · have e1 := eqE_ok hval
              subst e1
              rw [ev_c] at hy
              exact Or.inr (Int32.toInt_inj.mp (by rw [hy]; decide))
          unfold fOK
          rw [Nat.eq_of_beq_eq_true hsg.1]
          rcases h01 with rfl | rfl
          · exact ⟨_, rfl, by rw [show (vp_nar .boolean (0 : Int32)).toInt = 0 by decide]; exact hsg.2.1, by rw [show (vp_nar .boolean (0 : Int32)).toInt = 0 by decide]; omega⟩
          · exact ⟨_, rfl, by rw [show (vp_nar .boolean (1 : Int32)).toInt = 1 by decide]; omega, by rw [show (vp_nar .boolean (1 : Int32)).toInt = 1 by decide]; exact hsg.2.2⟩
      next => cases hs
    next => cases hs
  next v j r st' hst =>
    rw [hst] at ha2
    obtain ⟨u, x, w, rfl, hu, hx, h0, hr⟩ := vjr_of ha2
    obtain ⟨hv0, rfl⟩ := dV1 rfl hu
    split at hs
    next g hg =>
      have hg2 := lkG_ok ha.2.2.2.1 hg
      split at hs
      next ci fs hgs =>
        obtain ⟨t, n, c, g1, g2, g3, g4, g5, g6⟩ := wrA_ok hPR hs hT ha hu hr
        have g3 : t = ci + 8 ∧ t < 900 := of_decide_eq_true g3
        obtain ⟨f, rfl⟩ := kd7 (c := c) (by rw [g2]; unfold kdN kdT; rw [if_neg (by omega), if_neg (by omega), if_neg (by omega)])
        have hc := (clampI hx g4).1
        obtain ⟨vs, hvx, -⟩ := TI_obj hT (by rw [hg2.2]; exact hgs)
        have hvx : h[(ev ρ v).toNat]? = some (.inr (ci, vs)) := hvx
        refine ⟨w, _, of_W ⟨fun _ _ => rfl, fun _ => rfl, fun _ => rfl, fun _ => rfl, fun _ _ => rfl⟩ (q := (w, (ev ρ r).toNat, .inl (t, n, .inr (.inr (.inr (.inr (va_up f (ev ρ j).toNat (some (ev ρ v).toNat)))))))) (by simp only [actW, g1, hvx]; rw [if_pos ⟨g3, idx_in hx g4 g5⟩, hc]), g6 _ rfl ?_ fun i hi => ?_⟩
        · show va_rf (va_up f _ _ _) = _; unfold va_up; rw [if_pos rfl]; rfl
        · show va_rf (va_up f _ _ i) = va_rf (f i); unfold va_up; rw [if_neg hi]
      next => cases hs
    next => cases hs
  next => cases hs
def catL : List sV → Nat
  | [] => 0
  | s :: r => catS s + catL r
theorem catL_ok : ∀ {r : List sV} {w : List Value}, aS ρ r w → (w.map fun v => v.category).sum = catL r
  | [], [], _ => rfl
  | s :: r, v :: w, h => by
    show (v.category :: w.map _).sum = catS s + catL r
    rw [List.sum_cons, dV_cat h.1, catL_ok h.2]
  | [], _ :: _, h => h.elim
  | _ :: _, [], h => h.elim
/-! the library's copy of a stretch of an array onto another of the same form -/
theorem TI_put_all (hT : TI G gs h) {x t n p : Nat} {sg : List (Nat × kS)} {c c' : mC} {md : List (Nat × Nat)} (hg : gs (G x) = some (.inr (t, n, p, sg))) (hx : h[x]? = some (.inl (t, n, c))) (hk : kdC c' = kdC c)
    (hv : ∀ i, i < n → ∃ k f, segAt sg (i % p) 0 = some (k, f) ∧ fOK G f (elV c' i)) (hm : ∀ k, k < sg.length → (G x, k) ∈ md) : TI G gs (h.set x (.inl (t, n, c'))) ∧ fr G gs md h (h.set x (.inl (t, n, c'))) := by
  obtain ⟨c0, hx0, hl, hall⟩ := TI_arr hT hg (Or.inr ⟨_, hx⟩)
  cases hx.symm.trans hx0
  have hlt := (List.getElem?_eq_some_iff.mp hx).1
  constructor
  · intro y sp hy
    by_cases hxy : x = y
    · subst hxy
      cases hg.symm.trans hy
      refine ⟨fun _ => ⟨_, List.getElem?_set_self hlt⟩, fun e9 he9 => ?_⟩
      rw [List.getElem?_set_self hlt] at he9
      cases he9
      exact ⟨rfl, rfl, hk.trans hl, hv⟩
    · rw [List.getElem?_set_ne hxy]
      exact hT y sp hy
  · refine ⟨⟨Nat.le_of_eq List.length_set.symm, fun _ => List.length_set⟩, fun y e e' h1 h2 => ?_⟩
    by_cases hxy : x = y
    · subst hxy
      cases hx.symm.trans h1
      rw [List.getElem?_set_self hlt] at h2
      cases h2
      refine ⟨_, rfl, hk, fun j hj hk' => ?_⟩
      obtain ⟨k, f, s1, -⟩ := hall j hj
      refine absurd (hm k (by have := (segAt_k s1).2.2; omega)) (hk' k ?_)
      unfold sgK
      rw [hg]
      dsimp only
      rw [s1]
      rfl
    · rw [List.getElem?_set_ne hxy] at h2
      cases h1.symm.trans h2
      exact frC_rf
def sxY (d : Nat) (gs : Nat → Option gS) (dp : dT) (md : List (Nat × Nat)) (lk : mK) (S : sS) : Option sS := match S.2.2.1 with
  | (0, c) :: (0, b) :: (1, r) :: (0, a) :: (1, r0) :: st' => match aGg gs S r, aGg gs S r0 with
    | some (g, t, n, p, sg), some (_, t0, n0, p0, sg0) => if (lk.1 = 16 ∧ t0 = t ∧ t ≤ 1 ∧ catL st' ≤ 8) ∧ (n0 = n ∧ p0 = p ∧ sg0 = sg) ∧ eqE a b = true ∧ ent S.2.2.2.1 d c = true ∧ ent S.2.2.2.1 d b = true ∧ ent S.2.2.2.1 d (subE (subE (cE n) b) c) = true ∧ (sg.length ≠ 0 ∧ (List.range sg.length).all (mdI md g) = true) then
        some (S.1, S.2.1, st', S.2.2.2.1, S.2.2.2.2.1, S.2.2.2.2.2.1, S.2.2.2.2.2.2.1.filter (fun q => ngG S.2.2.2.2.1 q.1 g), klP dp g (List.range sg.length) S.2.2.2.2.2.2.2) else none
    | _, _ => none
  | _ => none
set_option maxHeartbeats 1000000 in
theorem sxY_ok {S2 : sS} {idx : Nat} (hPR : PRk PR G gs dp) (hs : sxY d gs dp md lk S = some S2) (hT : TI G gs h) (ha : abs PR G ρ S lv st h) : StpW PR G gs md ρ df nL pc (.invokestatic idx) len lk lv st h (pc + 3, S2) := by
  have ha2 := ha.2.1
  unfold sxY at hs
  split at hs
  next c b r a r0 st' hst =>
    rw [hst] at ha2
    obtain ⟨v1, w1, rfl, hv1, hb1⟩ := aS_cons ha2
    obtain ⟨z1, rfl, e1⟩ := dV0 rfl hv1
    have e1 : z1.toInt = ev ρ c := e1
    obtain ⟨v2, w2, rfl, hv2, hb2⟩ := aS_cons hb1
    obtain ⟨z2, rfl, e2⟩ := dV0 rfl hv2
    have e2 : z2.toInt = ev ρ b := e2
    obtain ⟨v3, w3, rfl, hv3, hb3⟩ := aS_cons hb2
    obtain ⟨h3, rfl⟩ := dV1 rfl hv3
    obtain ⟨v4, w4, rfl, hv4, hb4⟩ := aS_cons hb3
    obtain ⟨z4, rfl, e4⟩ := dV0 rfl hv4
    have e4 : z4.toInt = ev ρ a := e4
    obtain ⟨v5, w, rfl, hv5, hr⟩ := aS_cons hb4
    obtain ⟨h5, rfl⟩ := dV1 rfl hv5
    split at hs
    next g t n p sg g0 t0 n0 p0 sg0 ho ho0 =>
      split at hs
      next hc =>
        cases hs
        obtain ⟨⟨k1, rfl, k2, k3⟩, ⟨rfl, rfl, rfl⟩, k4, k5, k6, k7, k8, k9⟩ := hc
        have k4 := eqE_ok k4
        subst k4
        have f1 := ent_ok ha.2.2.1 _ _ k5
        have f2 := ent_ok ha.2.2.1 _ _ k6
        have f3 := ent_ok ha.2.2.1 _ _ k7
        rw [ev_sub, ev_sub, ev_c] at f3
        obtain ⟨-, hg, hgs⟩ := aGg_ok ho ha
        obtain ⟨-, hg0, hgs0⟩ := aGg_ok ho0 ha
        obtain ⟨c1, hx, hk, hall⟩ := TI_arr hT hgs (aGg_ex ho ha)
        obtain ⟨c0, hx0, hk0, hall0⟩ := TI_arr hT hgs0 (aGg_ex ho0 ha)
        have hkd : kdN t0 n0 = 0 := by unfold kdN kdT; rw [if_neg (by omega), if_pos (by omega)]
        obtain ⟨f, rfl⟩ := kd0 (hk.trans hkd)
        obtain ⟨f0, rfl⟩ := kd0 (hk0.trans hkd)
        obtain ⟨y1, y2⟩ := clampI e1 f1
        obtain ⟨y3, y4⟩ := clampI e2 f2
        obtain ⟨y5, y6⟩ := clampI e4 f2
        have hv : ∀ i, i < n0 → ∃ k ff, segAt sg0 (i % p0) 0 = some (k, ff) ∧ fOK G ff (elV (.inl (va_cpy f0 f z4.toNatClampNeg z2.toNatClampNeg z1.toNatClampNeg)) i) := fun i hi => by
          show ∃ k ff, _ ∧ fOK G ff (.int (va_cpy f0 f z4.toNatClampNeg z2.toNatClampNeg z1.toNatClampNeg i))
          unfold va_cpy
          split
          next hin =>
            rw [y3, y5, show (ev ρ a).toNat + (i - (ev ρ a).toNat) = i by rw [y3] at hin; omega]
            exact hall0 i hi
          next => exact hall i hi
        have hmd : ∀ k, k < sg0.length → (G (ev ρ r).toNat, k) ∈ md := fun k hk => by
          rw [hg]
          exact mdI_ok (List.all_eq_true.mp k9 k (List.mem_range.mpr hk))
        have hmd1 : ∀ k, k < sg0.length → (G (ev ρ r).toNat, k) ∈ (List.range sg0.length).map (fun k => (g, k)) := fun k hk => by
          rw [hg]
          exact List.mem_map.mpr ⟨k, List.mem_range.mpr hk, rfl⟩
        obtain ⟨t1, t2⟩ := TI_put_all (c' := .inl (va_cpy f0 f z4.toNatClampNeg z2.toNatClampNeg z1.toNatClampNeg)) hT hgs hx rfl hv hmd
        obtain ⟨-, t3⟩ := TI_put_all (c' := .inl (va_cpy f0 f z4.toNatClampNeg z2.toNatClampNeg z1.toNatClampNeg)) hT hgs hx rfl hv hmd1
        have hlt := (List.getElem?_eq_some_iff.mp hx).1
        have hsum : (w.map fun v => v.category).sum ≤ 8 := by rw [catL_ok hr]; exact k3
        refine ⟨w, _, of_W ⟨fun _ _ => rfl, fun _ => rfl, fun _ => rfl, fun _ => rfl, fun _ _ => rfl⟩ (q := (w, (ev ρ r).toNat, .inl (t0, n0, .inl (va_cpy f0 f z4.toNatClampNeg z2.toNatClampNeg z1.toNatClampNeg)))) (by
          simp only [actW, hx0, hx]
          rw [if_pos ⟨⟨k1, trivial, k2, hsum⟩, y6, y4, y2, by rw [y5, y1]; omega, by rw [y3, y1]; omega⟩]), ?_, t1, t2⟩
        obtain ⟨a1, a2, a3, a4, a5, a6, a7⟩ := ha
        refine ⟨a1, hr, a3, a4, aH_set a5 hx, fun q hq => ?_, fun q hq => ?_⟩
        · obtain ⟨hm2, hn2⟩ := List.mem_filter.mp hq
          obtain ⟨t3, n3, c3, g1, g2, g3, g4⟩ := a6 q hm2
          have hne : (ev ρ r).toNat ≠ (ev ρ q.1).toNat := fun e => ngG_ok hn2 a4 (by rw [← e]; exact hg)
          exact ⟨t3, n3, c3, by rw [List.getElem?_set_ne hne]; exact g1, g2, g3, g4⟩
        · obtain ⟨hm, hn⟩ := List.mem_filter.mp hq
          refine hPR.1 _ _ _ h _ _ (a7 q hm) hT t1 t3 fun z hz hz2 => ?_
          obtain ⟨k, hk, hz3⟩ := List.mem_map.mp hz2
          have e1 : g = z.1 := (Prod.mk.inj hz3).1
          have e2 : k = z.2.1 := (Prod.mk.inj hz3).2
          simp only [Bool.not_eq_true'] at hn
          have h3 := any_no hn _ hz
          rw [← e1] at h3
          simp only [Nat.beq_refl, Bool.true_and] at h3
          have h4 := any_no h3 k hk
          rw [← e2, Nat.beq_refl] at h4
          cases h4
      next => cases hs
    next => cases hs
  next => cases hs
/-- the same over two rows of one kind, of different lengths -/
def sxY2 (d : Nat) (gs : Nat → Option gS) (dp : dT) (md : List (Nat × Nat)) (lk : mK) (S : sS) : Option sS := match S.2.2.1 with
  | (0, c) :: (0, b) :: (1, r) :: (0, a) :: (1, r0) :: st' => match aGg gs S r, aGg gs S r0 with
    | some (g, t, n, p, [(e, ff)]), some (_, t0, n0, p0, [(e0, ff0)]) => if (lk.1 = 16 ∧ t0 = t ∧ t ≤ 1 ∧ catL st' ≤ 8) ∧ ((n = p ∧ n = e) ∧ (n0 = p0 ∧ n0 = e0) ∧ ff0 = ff) ∧ ent S.2.2.2.1 d a = true ∧ ent S.2.2.2.1 d c = true ∧ ent S.2.2.2.1 d b = true ∧ ent S.2.2.2.1 d (subE (subE (cE n) b) c) = true ∧ ent S.2.2.2.1 d (subE (subE (cE n0) a) c) = true ∧ mdI md g 0 = true then
        some (S.1, S.2.1, st', S.2.2.2.1, S.2.2.2.2.1, S.2.2.2.2.2.1, S.2.2.2.2.2.2.1.filter (fun q => ngG S.2.2.2.2.1 q.1 g || (eqE q.1 r && ent S.2.2.2.1 d (subE (subE q.2.1 b) c))), klP dp g (List.range 1) S.2.2.2.2.2.2.2) else none
    | _, _ => none
  | _ => none
set_option maxHeartbeats 1000000 in
theorem sxY2_ok {S2 : sS} {idx : Nat} (hPR : PRk PR G gs dp) (hs : sxY2 d gs dp md lk S = some S2) (hT : TI G gs h) (ha : abs PR G ρ S lv st h) : StpW PR G gs md ρ df nL pc (.invokestatic idx) len lk lv st h (pc + 3, S2) := by
  have ha2 := ha.2.1
  unfold sxY2 at hs
  split at hs
  next c b r a r0 st' hst =>
    rw [hst] at ha2
    obtain ⟨v1, w1, rfl, hv1, hb1⟩ := aS_cons ha2
    obtain ⟨z1, rfl, e1⟩ := dV0 rfl hv1
    have e1 : z1.toInt = ev ρ c := e1
    obtain ⟨v2, w2, rfl, hv2, hb2⟩ := aS_cons hb1
    obtain ⟨z2, rfl, e2⟩ := dV0 rfl hv2
    have e2 : z2.toInt = ev ρ b := e2
    obtain ⟨v3, w3, rfl, hv3, hb3⟩ := aS_cons hb2
    obtain ⟨h3, rfl⟩ := dV1 rfl hv3
    obtain ⟨v4, w4, rfl, hv4, hb4⟩ := aS_cons hb3
    obtain ⟨z4, rfl, e4⟩ := dV0 rfl hv4
    have e4 : z4.toInt = ev ρ a := e4
    obtain ⟨v5, w, rfl, hv5, hr⟩ := aS_cons hb4
    obtain ⟨h5, rfl⟩ := dV1 rfl hv5
    split at hs
    next g t n p e ff g0 t0 n0 p0 e0 ff0 ho ho0 =>
      split at hs
      next hc =>
        cases hs
        obtain ⟨⟨k1, rfl, k2, k3⟩, ⟨⟨rfl, rfl⟩, ⟨rfl, rfl⟩, rfl⟩, k4, k5, k6, k7, k8, k9⟩ := hc
        have f0' := ent_ok ha.2.2.1 _ _ k4
        have f1 := ent_ok ha.2.2.1 _ _ k5
        have f2 := ent_ok ha.2.2.1 _ _ k6
        have f3 := ent_ok ha.2.2.1 _ _ k7
        rw [ev_sub, ev_sub, ev_c] at f3
        have f4 := ent_ok ha.2.2.1 _ _ k8
        rw [ev_sub, ev_sub, ev_c] at f4
        obtain ⟨-, hg, hgs⟩ := aGg_ok ho ha
        obtain ⟨-, hg0, hgs0⟩ := aGg_ok ho0 ha
        obtain ⟨c1, hx, hk, hall⟩ := TI_arr hT hgs (aGg_ex ho ha)
        obtain ⟨c0, hx0, hk0, hall0⟩ := TI_arr hT hgs0 (aGg_ex ho0 ha)
        have hkd : kdN t0 n = 0 := by unfold kdN kdT; rw [if_neg (by omega), if_pos (by omega)]
        have hkd0 : kdN t0 n0 = 0 := by unfold kdN kdT; rw [if_neg (by omega), if_pos (by omega)]
        obtain ⟨f, rfl⟩ := kd0 (hk.trans hkd)
        obtain ⟨f0, rfl⟩ := kd0 (hk0.trans hkd0)
        obtain ⟨y1, y2⟩ := clampI e1 f1
        obtain ⟨y3, y4⟩ := clampI e2 f2
        obtain ⟨y5, y6⟩ := clampI e4 f0'
        have hv : ∀ i, i < n → ∃ k f9, segAt [(n, ff0)] (i % n) 0 = some (k, f9) ∧ fOK G f9 (elV (.inl (va_cpy f0 f z4.toNatClampNeg z2.toNatClampNeg z1.toNatClampNeg)) i) := fun i hi => by
          show ∃ k f9, _ ∧ fOK G f9 (.int (va_cpy f0 f z4.toNatClampNeg z2.toNatClampNeg z1.toNatClampNeg i))
          unfold va_cpy
          split
          next hin =>
            have hj : z4.toNatClampNeg + (i - z2.toNatClampNeg) < n0 := by rw [y3, y1] at hin; rw [y5, y3]; omega
            obtain ⟨k, f9, s1, s2⟩ := hall0 _ hj
            refine ⟨0, ff0, by unfold segAt; rw [if_pos (Nat.mod_lt _ (by omega))], ?_⟩
            unfold segAt at s1
            rw [if_pos (Nat.mod_lt _ (by omega))] at s1
            cases s1
            exact s2
          next => exact hall i hi
        have hmd : ∀ k, k < [(n, ff0)].length → (G (ev ρ r).toNat, k) ∈ md := fun k hk => by
          have hk : k = 0 := by
            have : k < 1 := hk
            omega
          subst hk
          rw [hg]
          exact mdI_ok k9
        have hmd1 : ∀ k, k < [(n, ff0)].length → (G (ev ρ r).toNat, k) ∈ (List.range 1).map (fun k => (g, k)) := fun k hk => by
          rw [hg]
          exact List.mem_map.mpr ⟨k, List.mem_range.mpr hk, rfl⟩
        obtain ⟨t1, t2⟩ := TI_put_all (c' := .inl (va_cpy f0 f z4.toNatClampNeg z2.toNatClampNeg z1.toNatClampNeg)) hT hgs hx rfl hv hmd
        obtain ⟨-, t3⟩ := TI_put_all (c' := .inl (va_cpy f0 f z4.toNatClampNeg z2.toNatClampNeg z1.toNatClampNeg)) hT hgs hx rfl hv hmd1
        have hlt := (List.getElem?_eq_some_iff.mp hx).1
        have hsum : (w.map fun v => v.category).sum ≤ 8 := by rw [catL_ok hr]; exact k3
        refine ⟨w, _, of_W ⟨fun _ _ => rfl, fun _ => rfl, fun _ => rfl, fun _ => rfl, fun _ _ => rfl⟩ (q := (w, (ev ρ r).toNat, .inl (t0, n, .inl (va_cpy f0 f z4.toNatClampNeg z2.toNatClampNeg z1.toNatClampNeg)))) (by
          simp only [actW, hx0, hx]
          rw [if_pos ⟨⟨k1, trivial, k2, hsum⟩, y6, y4, y2, by rw [y5, y1]; omega, by rw [y3, y1]; omega⟩]), ?_, t1, t2⟩
        obtain ⟨a1, a2, a3, a4, a5, a6, a7⟩ := ha
        refine ⟨a1, hr, a3, a4, aH_set a5 hx, fun q hq => ?_, fun q hq => ?_⟩
        · obtain ⟨hm2, hn2⟩ := List.mem_filter.mp hq
          obtain ⟨t3, n3, c3, g1, g2, g3, g4⟩ := a6 q hm2
          rcases (Bool.or_eq_true _ _).mp hn2 with hn2 | hn2
          case inr =>
            simp only [Bool.and_eq_true] at hn2
            have e9 := eqE_ok hn2.1
            have f9 := ent_ok a3 _ _ hn2.2
            rw [ev_sub, ev_sub] at f9
            rw [e9] at g1
            cases g1.symm.trans hx
            refine ⟨_, _, _, by rw [e9]; exact List.getElem?_set_self hlt, g2, g3, ?_⟩
            have h9 : elV (.inl (va_cpy f0 f z4.toNatClampNeg z2.toNatClampNeg z1.toNatClampNeg)) (ev ρ q.2.1).toNat = elV (.inl f) (ev ρ q.2.1).toNat := by
              show Value.int (va_cpy f0 f z4.toNatClampNeg z2.toNatClampNeg z1.toNatClampNeg (ev ρ q.2.1).toNat) = .int (f (ev ρ q.2.1).toNat)
              unfold va_cpy
              rw [if_neg (by rw [y3, y1]; omega)]
            rw [h9]
            exact g4
          have hne : (ev ρ r).toNat ≠ (ev ρ q.1).toNat := fun e => ngG_ok hn2 a4 (by rw [← e]; exact hg)
          exact ⟨t3, n3, c3, by rw [List.getElem?_set_ne hne]; exact g1, g2, g3, g4⟩
        · obtain ⟨hm, hn⟩ := List.mem_filter.mp hq
          refine hPR.1 _ _ _ h _ _ (a7 q hm) hT t1 t3 fun z hz hz2 => ?_
          obtain ⟨k, hk, hz3⟩ := List.mem_map.mp hz2
          have e1 : g = z.1 := (Prod.mk.inj hz3).1
          have e2 : k = z.2.1 := (Prod.mk.inj hz3).2
          simp only [Bool.not_eq_true'] at hn
          have h3 := any_no hn _ hz
          rw [← e1] at h3
          simp only [Nat.beq_refl, Bool.true_and] at h3
          have h4 := any_no h3 k hk
          rw [← e2, Nat.beq_refl] at h4
          cases h4
      next => cases hs
    next => cases hs
  next => cases hs
end SXX
