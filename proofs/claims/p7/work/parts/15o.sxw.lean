/-! Elements read, lengths; writes; constants of the pool, the library's own small methods. -/
section SXW
variable {PR : Nat → Int → Int → mH → Prop} {G : Nat → Nat} {gs : Nat → Option gS} {ρ : Va} {S : sS} {lv : mL} {st : List Value} {h : mH} {np d nL pc len : Nat} {i : Instr} {lk : mK} {df : List (List Value)} {md : List (Nat × Nat)} {dp : dT}
theorem nbt {a b : Nat} : (Nat.beq a b = true) = (a = b) := propext ⟨Nat.eq_of_beq_eq_true, fun e => by rw [e]; exact Nat.beq_refl b⟩
def sxR (np d : Nat) (gs : Nat → Option gS) (i : Instr) (S : sS) : Option sS := match i, S.2.2.1 with
  | .iaload, (0, j) :: (1, r) :: st' => rdA np d gs (fun t _ => Nat.beq t 0) S j r st'
  | .baload, (0, j) :: (1, r) :: st' => rdA np d gs (fun t n => Nat.beq t 1 || (Nat.beq t 2 || (Nat.beq t 999 && !(Nat.beq n 1)))) S j r st'
  | .laload, (0, j) :: (1, r) :: st' => rdA np d gs (fun t _ => Nat.beq t 4) S j r st'
  | .faload, (0, j) :: (1, r) :: st' => rdA np d gs (fun t _ => Nat.beq t 5) S j r st'
  | .daload, (0, j) :: (1, r) :: st' => rdA np d gs (fun t _ => Nat.beq t 6) S j r st'
  | .aaload, (0, j) :: (1, r) :: st' => rdA np d gs (fun t _ => decide (7 ≤ t ∧ t < 900)) S j r st'
  | .arraylength, (1, r) :: st' => match aGg gs S r with
    | some (_, t, n, _, _) => if (t < 900 ∨ (t = 999 ∧ n ≠ 1)) ∧ n < 2147483648 then some (sSt S ((0, cE n) :: st')) else none
    | none => none
  | _, _ => none
theorem jr_of {j r : LE} {st' : List sV} (ha : aS ρ ((0, j) :: (1, r) :: st') st) : ∃ (x : Int32) (w : List Value), st = .int x :: .ref (ev ρ r).toNat :: w ∧ x.toInt = ev ρ j ∧ 0 ≤ ev ρ r ∧ aS ρ st' w := by
  obtain ⟨v, v', w, rfl, h1, h2, h3⟩ := aS_c2 ha
  obtain ⟨x, rfl, hx⟩ := dV0 rfl h1
  obtain ⟨h0, rfl⟩ := dV1 rfl h2
  exact ⟨x, w, rfl, hx, h0, h3⟩
theorem kd0 {c : mC} (h : kdC c = 0) : ∃ f, c = .inl f := by
  obtain f | f | f | f | f := c
  · exact ⟨f, rfl⟩
  · exact absurd h (by show ¬ (4 = 0); omega)
  · exact absurd h (by show ¬ (5 = 0); omega)
  · exact absurd h (by show ¬ (6 = 0); omega)
  · exact absurd h (by show ¬ (7 = 0); omega)
theorem kd4 {c : mC} (h : kdC c = 4) : ∃ f, c = .inr (.inl f) := by
  obtain f | f | f | f | f := c
  · exact absurd h (by show ¬ (0 = 4); omega)
  · exact ⟨f, rfl⟩
  · exact absurd h (by show ¬ (5 = 4); omega)
  · exact absurd h (by show ¬ (6 = 4); omega)
  · exact absurd h (by show ¬ (7 = 4); omega)
theorem kd5 {c : mC} (h : kdC c = 5) : ∃ f, c = .inr (.inr (.inl f)) := by
  obtain f | f | f | f | f := c
  · exact absurd h (by show ¬ (0 = 5); omega)
  · exact absurd h (by show ¬ (4 = 5); omega)
  · exact ⟨f, rfl⟩
  · exact absurd h (by show ¬ (6 = 5); omega)
  · exact absurd h (by show ¬ (7 = 5); omega)
theorem kd6 {c : mC} (h : kdC c = 6) : ∃ f, c = .inr (.inr (.inr (.inl f))) := by
  obtain f | f | f | f | f := c
  · exact absurd h (by show ¬ (0 = 6); omega)
  · exact absurd h (by show ¬ (4 = 6); omega)
  · exact absurd h (by show ¬ (5 = 6); omega)
  · exact ⟨f, rfl⟩
  · exact absurd h (by show ¬ (7 = 6); omega)
theorem kd7 {c : mC} (h : kdC c = 7) : ∃ f, c = .inr (.inr (.inr (.inr f))) := by
  obtain f | f | f | f | f := c
  · exact absurd h (by show ¬ (0 = 7); omega)
  · exact absurd h (by show ¬ (4 = 7); omega)
  · exact absurd h (by show ¬ (5 = 7); omega)
  · exact absurd h (by show ¬ (6 = 7); omega)
  · exact ⟨f, rfl⟩
theorem idx_in {x : Int32} {z : Int} {n : Nat} (hx : x.toInt = z) (h0 : 0 ≤ z) (hn : z < n) : ¬ (x < 0 ∨ n ≤ x.toNatClampNeg) := by
  obtain ⟨h1, h2⟩ := clampI hx h0
  rintro (h3 | h3)
  · exact h2 h3
  · rw [h1] at h3; omega
set_option maxHeartbeats 4000000 in
theorem sxR_ok {S2 : sS} (hs : sxR np d gs i S = some S2) (hT : TI G gs h) (ha : abs PR G ρ S lv st h) : StpA PR G np ρ df nL pc i len lk lv st h (pc + 1, S2) := by
  have ha2 := ha.2.1
  unfold sxR at hs
  split at hs
  next j r st' hst =>
    rw [hst] at ha2
    obtain ⟨x, w, rfl, hx, h0, hr⟩ := jr_of ha2
    obtain ⟨t, n, c, g1, g2, g3, g4, g5, g6⟩ := rdA_ok hs hst hT ha hr
    have g3 := Nat.eq_of_beq_eq_true g3
    subst g3
    obtain ⟨f, rfl⟩ := kd0 (show kdC c = 0 from g2)
    exact ⟨_, _, of_R ⟨fun _ _ => rfl, fun _ => rfl⟩ (by simp only [actR, g1]; rw [if_pos ⟨trivial, idx_in hx g4 g5⟩, (clampI hx g4).1]; rfl), g6⟩
  next j r st' hst =>
    rw [hst] at ha2
    obtain ⟨x, w, rfl, hx, h0, hr⟩ := jr_of ha2
    obtain ⟨t, n, c, g1, g2, g3, g4, g5, g6⟩ := rdA_ok hs hst hT ha hr
    simp only [Bool.or_eq_true, Bool.and_eq_true, Bool.not_eq_true', nbt] at g3
    have g7 : t = 1 ∨ t = 2 ∨ t = 999 := by omega
    obtain ⟨f, rfl⟩ := kd0 (c := c) (by
      rw [g2]
      rcases g3 with rfl | rfl | ⟨rfl, g8⟩
      · rfl
      · rfl
      · show (if n = 1 then 7 else 0) = 0
        rw [if_neg fun e => by rw [e] at g8; cases g8])
    exact ⟨_, _, of_R ⟨fun _ _ => rfl, fun _ => rfl⟩ (by simp only [actR, g1]; rw [if_pos ⟨g7, idx_in hx g4 g5⟩, (clampI hx g4).1]; rfl), g6⟩
  next j r st' hst =>
    rw [hst] at ha2
    obtain ⟨x, w, rfl, hx, h0, hr⟩ := jr_of ha2
    obtain ⟨t, n, c, g1, g2, g3, g4, g5, g6⟩ := rdA_ok hs hst hT ha hr
    have g3 := Nat.eq_of_beq_eq_true g3
    subst g3
    obtain ⟨f, rfl⟩ := kd4 (show kdC c = 4 from g2)
    exact ⟨_, _, of_R ⟨fun _ _ => rfl, fun _ => rfl⟩ (by simp only [actR, g1]; rw [if_pos ⟨trivial, idx_in hx g4 g5⟩, (clampI hx g4).1]; rfl), g6⟩
  next j r st' hst =>
    rw [hst] at ha2
    obtain ⟨x, w, rfl, hx, h0, hr⟩ := jr_of ha2
    obtain ⟨t, n, c, g1, g2, g3, g4, g5, g6⟩ := rdA_ok hs hst hT ha hr
    have g3 := Nat.eq_of_beq_eq_true g3
    subst g3
    obtain ⟨f, rfl⟩ := kd5 (show kdC c = 5 from g2)
    exact ⟨_, _, of_R ⟨fun _ _ => rfl, fun _ => rfl⟩ (by simp only [actR, g1]; rw [if_pos ⟨trivial, idx_in hx g4 g5⟩, (clampI hx g4).1]; rfl), g6⟩
  next j r st' hst =>
    rw [hst] at ha2
    obtain ⟨x, w, rfl, hx, h0, hr⟩ := jr_of ha2
    obtain ⟨t, n, c, g1, g2, g3, g4, g5, g6⟩ := rdA_ok hs hst hT ha hr
    have g3 := Nat.eq_of_beq_eq_true g3
    subst g3
    obtain ⟨f, rfl⟩ := kd6 (show kdC c = 6 from g2)
    exact ⟨_, _, of_R ⟨fun _ _ => rfl, fun _ => rfl⟩ (by simp only [actR, g1]; rw [if_pos ⟨trivial, idx_in hx g4 g5⟩, (clampI hx g4).1]; rfl), g6⟩
  next j r st' hst =>
    rw [hst] at ha2
    obtain ⟨x, w, rfl, hx, h0, hr⟩ := jr_of ha2
    obtain ⟨t, n, c, g1, g2, g3, g4, g5, g6⟩ := rdA_ok hs hst hT ha hr
    have g3 : 7 ≤ t ∧ t < 900 := of_decide_eq_true g3
    obtain ⟨f, rfl⟩ := kd7 (c := c) (by rw [g2]; unfold kdN kdT; rw [if_neg (by omega), if_neg (by omega), if_neg (by omega)])
    exact ⟨_, _, of_R ⟨fun _ _ => rfl, fun _ => rfl⟩ (by simp only [actR, g1]; rw [if_pos ⟨g3, idx_in hx g4 g5⟩, (clampI hx g4).1]; rfl), g6⟩
  next r st' hst =>
    rw [hst] at ha2
    obtain ⟨v, w, rfl, hv, hr⟩ := aS_cons ha2
    obtain ⟨h0, rfl⟩ := dV1 rfl hv
    split at hs
    next g t n p sg ho =>
      obtain ⟨-, hg, hgs⟩ := aGg_ok ho ha
      obtain ⟨c, hx, hk, hall⟩ := TI_arr hT hgs (aGg_ex ho ha)
      split at hs
      next hc =>
        cases hs
        refine ⟨_, .int (Int32.ofNat n) :: w, of_R ⟨fun _ _ => rfl, fun _ => rfl⟩ (by
          simp only [actR, hx]
          rw [if_pos]
          rcases hc.1 with h9 | ⟨rfl, h9⟩
          · exact Or.inl h9
          · refine Or.inr ⟨rfl, ?_⟩
            obtain ⟨f, rfl⟩ := kd0 (c := c) (by rw [hk]; show (if n = 1 then 7 else 0) = 0; rw [if_neg h9])
            rfl), Abs.of (abs_st ha ⟨⟨_, rfl, ?_⟩, hr⟩)⟩
        show (Int32.ofNat n).toInt = ev ρ (cE n)
        rw [ev_c]
        exact nI_toInt hc.2
      next => cases hs
    next => cases hs
  next => cases hs
/-- what a String that is there holds -/
def sxG2 (np d : Nat) (gs : Nat → Option gS) (lk : mK) (S : sS) : Option sS := match S.2.2.1 with
  | (1, r) :: st' => if lk.1 = 30 then rdA np d gs (fun t n => Nat.beq t 999 && Nat.beq n 1) (psh S (0, cE 0)) (cE 0) r st' else if lk.1 = 31 ∧ sOK gs S r = true then some (sSt S ((0, cE 0) :: st')) else none
  | _ => none
theorem sxG2_ok {S2 : sS} {idx : Nat} (hs : sxG2 np d gs lk S = some S2) (hT : TI G gs h) (ha : abs PR G ρ S lv st h) : StpA PR G np ρ df nL pc (.getfield idx) len lk lv st h (pc + 3, S2) := by
  have ha2 := ha.2.1
  unfold sxG2 at hs
  split at hs
  next r st' hst =>
    rw [hst] at ha2
    obtain ⟨v0, w, rfl, hv0, hr⟩ := aS_cons ha2
    obtain ⟨h0, rfl⟩ := dV1 rfl hv0
    split at hs
    next hk =>
      have hp : abs PR G ρ (psh S (0, cE 0)) lv (.int 0 :: .ref (ev ρ r).toNat :: w) h := ⟨ha.1, ⟨⟨0, rfl, by show (0 : Int32).toInt = ev ρ (cE 0); rw [ev_c]; rfl⟩, ha.2.1⟩, ha.2.2⟩
      obtain ⟨t, n, c, g1, g2, g3, g4, g5, g6⟩ := rdA_ok hs (by show (0, cE 0) :: S.2.2.1 = _; rw [hst]) hT hp hr
      simp only [Bool.and_eq_true, nbt] at g3
      obtain ⟨rfl, rfl⟩ := g3
      obtain ⟨f, rfl⟩ := kd7 (c := c) g2
      rw [show (ev ρ (cE 0)).toNat = 0 by rw [ev_c]; rfl] at g6
      exact ⟨_, _, of_R ⟨fun _ _ => rfl, fun _ => rfl⟩ (by simp only [actR, g1]; rw [if_pos ⟨trivial, hk⟩]; rfl), g6⟩
    next =>
    split at hs
    next hk =>
      cases hs
      obtain ⟨hk, hs⟩ := hk
      unfold sOK at hs
      split at hs
      next g t n p sg ho =>
        simp only [Bool.and_eq_true, nbt] at hs
        obtain ⟨rfl, rfl⟩ := hs
        obtain ⟨-, hg, hgs⟩ := aGg_ok ho ha
        obtain ⟨c, hx, hk2, hall⟩ := TI_arr hT hgs (aGg_ex ho ha)
        obtain ⟨f, rfl⟩ := kd7 (c := c) hk2
        exact ⟨_, .int 0 :: w, of_R ⟨fun _ _ => rfl, fun _ => rfl⟩ (by simp only [actR, hx]; rw [if_neg (by omega), if_pos ⟨trivial, hk⟩]), Abs.of (abs_st ha ⟨⟨0, rfl, by show (0 : Int32).toInt = ev ρ (cE 0); rw [ev_c]; rfl⟩, hr⟩)⟩
      next => cases hs
    next => cases hs
  next => cases hs
/-! writes -/
/-- a value fits what is held -/
def wrO (d : Nat) (F : List LE) (gr : List (LE × Nat)) (f : kS) (v : sV) : Bool := match f.1 with
  | 0 => Nat.beq v.1 0 && ((decide (f.2.1 ≤ -2147483648) || ent F d (subE v.2 (cE f.2.1))) && (decide (2147483647 ≤ f.2.2) || ent F d (subE (cE f.2.2) v.2)))
  | 1 => Nat.beq v.1 1 && decide (lkG gr v.2 = some f.2.1.toNat)
  | 2 => Nat.beq v.1 2 || (Nat.beq v.1 1 && decide (lkG gr v.2 = some f.2.1.toNat))
  | 3 => Nat.beq v.1 3 || Nat.beq v.1 7
  | 4 => Nat.beq v.1 4
  | 5 => Nat.beq v.1 5
  | _ => true
theorem wrO_ok {f : kS} {v : sV} {w : Value} (hw : wrO d S.2.2.2.1 S.2.2.2.2.1 f v = true) (ha : abs PR G ρ S lv st h) (hv : dV ρ v w) : fOK G f w := by
  obtain ⟨t, lo, hi⟩ := f
  have ref : v.1 = 1 → lkG S.2.2.2.2.1 v.2 = some lo.toNat → ∃ a, w = .ref a ∧ G a = lo.toNat := fun h1 h2 => by
    obtain ⟨g0, rfl⟩ := dV1 h1 hv
    exact ⟨_, rfl, (lkG_ok ha.2.2.2.1 h2).2⟩
  unfold wrO at hw
  unfold fOK
  dsimp only at hw ⊢
  split at hw
  · simp only [Bool.and_eq_true, Bool.or_eq_true, decide_eq_true_eq] at hw
    obtain ⟨h1, h2, h3⟩ := hw
    obtain ⟨x, rfl, hx⟩ := dV0 (Nat.eq_of_beq_eq_true h1) hv
    refine ⟨x, rfl, ?_, ?_⟩
    · rcases h2 with h2 | h2
      · have := i32lo x; omega
      · have := ent_ok ha.2.2.1 _ _ h2; rw [ev_sub, ev_c] at this; omega
    · rcases h3 with h3 | h3
      · have := i32hi x; omega
      · have := ent_ok ha.2.2.1 _ _ h3; rw [ev_sub, ev_c] at this; omega
  · simp only [Bool.and_eq_true, decide_eq_true_eq] at hw
    exact ref (Nat.eq_of_beq_eq_true hw.1) hw.2
  · simp only [Bool.and_eq_true, Bool.or_eq_true, decide_eq_true_eq] at hw
    rcases hw with hw | hw
    · exact Or.inl (dV2 (Nat.eq_of_beq_eq_true hw) hv)
    · exact Or.inr (ref (Nat.eq_of_beq_eq_true hw.1) hw.2)
  · rcases (Bool.or_eq_true _ _).mp hw with hw | hw
    · exact dV3 (Nat.eq_of_beq_eq_true hw) hv
    · obtain ⟨x, hx, -⟩ := dV7 (Nat.eq_of_beq_eq_true hw) hv
      exact ⟨x, hx⟩
  · exact dV4 (Nat.eq_of_beq_eq_true hw) hv
  · exact dV5 (Nat.eq_of_beq_eq_true hw) hv
  · split <;> first | exact trivial | (exfalso; simp_all)
def zOK (z : Int) (f : kS) (v : sV) : Bool := if z = 0 then Nat.beq v.1 0 else if z = 1 then (Nat.beq v.1 0 && (Nat.beq f.1 0 && (decide (0 ≤ f.2.1) && decide (f.2.2 ≤ 1)))) else if z = 2 then (Nat.beq v.1 1 || Nat.beq v.1 2) else if z = 3 then Nat.beq v.1 3 else if z = 4 then Nat.beq v.1 4 else false
theorem bool01 {x : Int32} (h0 : 0 ≤ x.toInt) (h1 : x.toInt ≤ 1) : okV 1 (.int x) = true := by
  have hx : x = 0 ∨ x = 1 := by
    by_cases h : x.toInt = 0
    · exact Or.inl (Int32.toInt_inj.mp (by rw [h]; decide))
    · exact Or.inr (Int32.toInt_inj.mp (by rw [show x.toInt = 1 by omega]; decide))
  rcases hx with rfl | rfl <;> decide
theorem zOK_ok {z : Int} {f : kS} {v : sV} {w : Value} (hz : zOK z f v = true) (hf : fOK G f w) (hv : dV ρ v w) : okV z w = true := by
  unfold zOK at hz
  split at hz
  next h0 =>
    obtain ⟨x, rfl, -⟩ := dV0 (Nat.eq_of_beq_eq_true hz) hv
    subst h0
    simp [okV]
  split at hz
  next h0 h1 =>
    simp only [Bool.and_eq_true, decide_eq_true_eq] at hz
    obtain ⟨x, rfl, -⟩ := dV0 (Nat.eq_of_beq_eq_true hz.1) hv
    unfold fOK at hf
    rw [Nat.eq_of_beq_eq_true hz.2.1] at hf
    obtain ⟨y, hy, g1, g2⟩ := hf
    cases hy
    subst h1
    exact bool01 (by omega) (by omega)
  split at hz
  next h0 h1 h2 =>
    simp only [Bool.or_eq_true] at hz
    subst h2
    rcases hz with hz | hz
    · obtain ⟨-, rfl⟩ := dV1 (Nat.eq_of_beq_eq_true hz) hv
      rfl
    · obtain rfl := dV2 (Nat.eq_of_beq_eq_true hz) hv
      rfl
  split at hz
  next h0 h1 h2 h3 =>
    obtain ⟨x, rfl⟩ := dV3 (Nat.eq_of_beq_eq_true hz) hv
    subst h3
    rfl
  split at hz
  next h0 h1 h2 h3 h4 =>
    obtain ⟨x, rfl⟩ := dV4 (Nat.eq_of_beq_eq_true hz) hv
    subst h4
    rfl
  next => cases hz
def mdI (md : List (Nat × Nat)) (g k : Nat) : Bool := md.any fun q => Nat.beq q.1 g && Nat.beq q.2 k
theorem mdI_ok {g k : Nat} (h : mdI md g k = true) : (g, k) ∈ md := by
  obtain ⟨q, hq, h1⟩ := List.any_eq_true.mp h
  simp only [Bool.and_eq_true] at h1
  have e1 := Nat.eq_of_beq_eq_true h1.1
  have e2 := Nat.eq_of_beq_eq_true h1.2
  rw [← e1, ← e2]
  exact hq
/-- the group is known to be another -/
def ngG (gr : List (LE × Nat)) (r : LE) (g : Nat) : Bool := match lkG gr r with
  | some g' => !(Nat.beq g' g)
  | none => false
theorem ngG_ok {gr : List (LE × Nat)} {r : LE} {g : Nat} (hn : ngG gr r g = true) (ha : aG G ρ gr) : G (ev ρ r).toNat ≠ g := by
  unfold ngG at hn
  split at hn
  next g' hg =>
    rw [(lkG_ok ha hg).2]
    intro e
    rw [e, Nat.beq_refl] at hn
    cases hn
  next => cases hn
def klH (gr : List (LE × Nat)) (g k : Nat) (hf : List (LE × Nat × sV)) : List (LE × Nat × sV) := hf.filter fun q => !(Nat.beq q.2.1 k) || ngG gr q.1 g
def klP (dp : dT) (g : Nat) (ks : List Nat) (pr : List (Nat × LE × LE)) : List (Nat × LE × LE) := pr.filter fun q => !((dp q.1).any fun z => Nat.beq z.1 g && ks.any fun k => Nat.beq z.2.1 k)
/-- a write into an array: what it leaves by its index too -/
def klQ (d : Nat) (F : List LE) (dp : dT) (g : Nat) (ks : List Nat) (j : LE) (pr : List (Nat × LE × LE)) : List (Nat × LE × LE) := pr.filter fun q => (dp q.1).all fun z => !(Nat.beq z.1 g && ks.any fun k => Nat.beq z.2.1 k) || z.2.2.any fun l => l.all fun e => ent F d (sbE [q.2.1, q.2.2, j] e)
/-- what a fact beside the cells hangs on -/
def PRk1 (PR : Nat → Int → Int → mH → Prop) (G : Nat → Nat) (gs : Nat → Option gS) (dp : dT) : Prop := ∀ (τ : Nat) (r c : Int) (h h' : mH) (md : List (Nat × Nat)), PR τ r c h → TI G gs h → TI G gs h' → fr G gs md h h' → (∀ q ∈ dp τ, (q.1, q.2.1) ∉ md) → PR τ r c h'
def vL (r c j : Int) : Va := fun i => [r, c, j].getD i 0
def PRx (PR : Nat → Int → Int → mH → Prop) (G : Nat → Nat) (gs : Nat → Option gS) (dp : dT) : Prop := ∀ (τ : Nat) (r c : Int) (h : mH) (x j t n p k : Nat) (sg : List (Nat × kS)) (f : kS) (cc c' : mC), PR τ r c h → TI G gs h → TI G gs (h.set x (.inl (t, n, c'))) → gs (G x) = some (.inr (t, n, p, sg)) → h[x]? = some (.inl (t, n, cc)) → kdC c' = kdC cc → j < n → segAt sg (j % p) 0 = some (k, f) →
  (∀ i, i ≠ j → elV c' i = elV cc i) → (∀ z ∈ dp τ, z.1 = G x → z.2.1 = k → ∃ l ∈ z.2.2, ∀ e ∈ l, 0 ≤ ev (vL r c j) e) → PR τ r c (h.set x (.inl (t, n, c')))
/-- further facts of numbers alone: the last eight bits (184), a byte's value (185), what is shifted right (169), a remainder (130) -/
def PRb (PR : Nat → Int → Int → mH → Prop) : Prop := (∀ (h : mH) (x : Int), PR 184 x (x % 256) h) ∧ (∀ (h : mH) (x : Int), PR 185 x (x.bmod 256) h) ∧ (∀ (h : mH) (x : Int) (k : Nat), 1 ≤ k → k ≤ 31 → -2147483648 ≤ x → x ≤ 2147483647 → PR 169 (x + 1099511627776 * k) (x / (2 ^ k : Nat)) h) ∧ ∀ (h : mH) (x y : Int), 0 ≤ y → y < 8589934592 → PR 130 (8589934592 * x + y) (x % y) h
/-- facts of numbers alone: products (91) and absolute values (77); how many cells there are (90) -/
def PRa (PR : Nat → Int → Int → mH → Prop) : Prop := (∀ (h : mH) (x y : Int), 0 ≤ y → y ≤ 2000 → PR 91 (8589934592 * x + y) (x * y) h) ∧ (∀ (h : mH) (x y q : Int), 0 ≤ y → y ≤ 2000 → PR 91 (8589934592 * x + y) q h → q = x * y) ∧ (∀ (h : mH) (x : Int), PR 77 x (if 0 ≤ x then x else -x) h) ∧
  (∀ (h : mH) (r c : Int), PR 90 r c h → (h.length : Int) = r) ∧ (∀ (h : mH) (r c : Int), (h.length : Int) = r → PR 90 r c h) ∧ (∀ (h : mH) (r c : Int), PR 122 r c h → c = (Int32.ofInt r &&& 63).toInt) ∧ PRb PR
/-- a write into a field: what it leaves by the cell too -/
def PRy (PR : Nat → Int → Int → mH → Prop) (G : Nat → Nat) (gs : Nat → Option gS) (dp : dT) : Prop := ∀ (τ : Nat) (r c : Int) (h : mH) (x ci k : Nat) (fs : List kS) (vs : List Value) (w : Value), PR τ r c h → TI G gs h → TI G gs (h.set x (.inr (ci, vs.set k w))) → gs (G x) = some (.inl (ci, fs)) → h[x]? = some (.inr (ci, vs)) → (∀ z ∈ dp τ, z.1 = G x → z.2.1 = k → ∃ l ∈ z.2.2, ∀ e ∈ l, 0 ≤ ev (vL r c x) e) → PR τ r c (h.set x (.inr (ci, vs.set k w)))
def PRk (PR : Nat → Int → Int → mH → Prop) (G : Nat → Nat) (gs : Nat → Option gS) (dp : dT) : Prop := PRk1 PR G gs dp ∧ (PRx PR G gs dp ∧ PRy PR G gs dp) ∧ PRa PR
theorem klP_ok {h' : mH} {g : Nat} {ks : List Nat} {pr : List (Nat × LE × LE)} (hPR : PRk PR G gs dp) (hp : aP PR ρ pr h) (h1 : TI G gs h) (h2 : TI G gs h') {k0 : Nat} (hk : k0 ∈ ks) (hf : fr G gs [(g, k0)] h h') : aP PR ρ (klP dp g ks pr) h' := by
  intro q hq
  obtain ⟨hm, hn⟩ := List.mem_filter.mp hq
  refine hPR.1 _ _ _ h h' _ (hp q hm) h1 h2 hf fun z hz hz2 => ?_
  have hz2 := List.mem_singleton.mp hz2
  have e1 : z.1 = g := (Prod.mk.inj hz2).1
  have e2 : z.2.1 = k0 := (Prod.mk.inj hz2).2
  simp only [Bool.not_eq_true'] at hn
  have h3 := any_no hn _ hz
  rw [e1] at h3
  simp only [Nat.beq_refl, Bool.true_and] at h3
  have h4 := any_no h3 k0 hk
  rw [e2, Nat.beq_refl] at h4
  cases h4
theorem klQ_ok {g : Nat} {ks : List Nat} {j : LE} {pr : List (Nat × LE × LE)} {x t n p k : Nat} {sg : List (Nat × kS)} {f : kS} {cc c' : mC} {F : List LE} (hPR : PRk PR G gs dp) (hF : aF ρ F) (hp : aP PR ρ pr h) (h1 : TI G gs h) (h2 : TI G gs (h.set x (.inl (t, n, c')))) (hg : G x = g) (hgs : gs (G x) = some (.inr (t, n, p, sg))) (hx : h[x]? = some (.inl (t, n, cc)))
    (hkd : kdC c' = kdC cc) (h0 : 0 ≤ ev ρ j) (hn : ev ρ j < n) (hs : segAt sg ((ev ρ j).toNat % p) 0 = some (k, f)) (hk : k ∈ ks) (hoth : ∀ i, i ≠ (ev ρ j).toNat → elV c' i = elV cc i) : aP PR ρ (klQ d F dp g ks j pr) (h.set x (.inl (t, n, c'))) := by
  intro q hq
  obtain ⟨hm, hq2⟩ := List.mem_filter.mp hq
  refine hPR.2.1.1 _ _ _ h x (ev ρ j).toNat t n p k sg f cc c' (hp q hm) h1 h2 hgs hx hkd (by omega) hs hoth fun z hz z1 z2 => ?_
  have h3 := List.all_eq_true.mp hq2 z hz
  simp only [Bool.or_eq_true, Bool.not_eq_true'] at h3
  rcases h3 with h3 | h3
  · rw [z1, hg, Nat.beq_refl, Bool.true_and] at h3
    have h4 := any_no h3 k hk
    rw [z2, Nat.beq_refl] at h4
    cases h4
  · obtain ⟨l, hl, h4⟩ := List.any_eq_true.mp h3
    refine ⟨l, hl, fun e he => ?_⟩
    have h5 := ent_ok hF _ _ (List.all_eq_true.mp h4 e he)
    rw [ev_sb] at h5
    have hv : (fun i => ev ρ ([q.2.1, q.2.2, j].getD i (0, []))) = vL (ev ρ q.2.1) (ev ρ q.2.2) ((ev ρ j).toNat : Int) := by
      funext i
      unfold vL
      match i with
      | 0 => rfl
      | 1 => rfl
      | 2 => show ev ρ j = ((ev ρ j).toNat : Int); omega
      | i + 3 => rfl
    rw [← hv]
    exact h5
theorem klF_ok {g k : Nat} {r : LE} {pr : List (Nat × LE × LE)} {x ci : Nat} {fs : List kS} {vs : List Value} {w : Value} {F : List LE} (hPR : PRk PR G gs dp) (hF : aF ρ F) (hp : aP PR ρ pr h) (h1 : TI G gs h) (h2 : TI G gs (h.set x (.inr (ci, vs.set k w)))) (hg : G x = g) (hgs : gs (G x) = some (.inl (ci, fs))) (hx : h[x]? = some (.inr (ci, vs))) (hr : ev ρ r = (x : Int)) : aP PR ρ (klQ d F dp g [k] r pr) (h.set x (.inr (ci, vs.set k w))) := by
  intro q hq
  obtain ⟨hm, hq2⟩ := List.mem_filter.mp hq
  refine hPR.2.1.2 _ _ _ h x ci k fs vs w (hp q hm) h1 h2 hgs hx fun z hz z1 z2 => ?_
  have h3 := List.all_eq_true.mp hq2 z hz
  simp only [Bool.or_eq_true, Bool.not_eq_true'] at h3
  rcases h3 with h3 | h3
  · rw [z1, hg, Nat.beq_refl, Bool.true_and] at h3
    have h4 := any_no h3 k List.mem_cons_self
    rw [z2, Nat.beq_refl] at h4
    cases h4
  · obtain ⟨l, hl, h4⟩ := List.any_eq_true.mp h3
    refine ⟨l, hl, fun e he => ?_⟩
    have h5 := ent_ok hF _ _ (List.all_eq_true.mp h4 e he)
    rw [ev_sb] at h5
    have hv : (fun i => ev ρ ([q.2.1, q.2.2, r].getD i (0, []))) = vL (ev ρ q.2.1) (ev ρ q.2.2) (x : Int) := by
      funext i
      unfold vL
      match i with
      | 0 => rfl
      | 1 => rfl
      | 2 => exact hr
      | i + 3 => rfl
    rw [← hv]
    exact h5
def sxF (d : Nat) (gs : Nat → Option gS) (dp : dT) (md : List (Nat × Nat)) (lk : mK) (S : sS) : Option sS := match S.2.2.1 with
  | v :: (1, r) :: st' => match oG gs S r lk.2.1 with
    | some (g, fs) => match fs[lk.2.2.1]? with
      | some f => if wrO d S.2.2.2.1 S.2.2.2.2.1 f v = true ∧ zOK lk.2.2.2 f v = true ∧ mdI md g lk.2.2.1 = true then
          some (S.1, S.2.1, st', S.2.2.2.1, S.2.2.2.2.1, (r, lk.2.2.1, v) :: klH S.2.2.2.2.1 g lk.2.2.1 S.2.2.2.2.2.1, S.2.2.2.2.2.2.1, klQ d S.2.2.2.1 dp g [lk.2.2.1] r S.2.2.2.2.2.2.2)
        else none
      | none => none
    | none => none
  | _ => none
/-- a step that writes -/
def StpW (PR : Nat → Int → Int → mH → Prop) (G : Nat → Nat) (gs : Nat → Option gS) (md : List (Nat × Nat)) (ρ : Va) (df : List (List Value)) (nL pc : Nat) (i : Instr) (len : Nat) (lk : mK) (lv : mL) (st : List Value) (h : mH) (q : Nat × sS) : Prop :=
  ∃ st2 h2, stp none df nL pc i len lk lv st h = some (q.1, lv, st2, h2, 0, 0) ∧ abs PR G ρ q.2 lv st2 h2 ∧ TI G gs h2 ∧ fr G gs md h h2
theorem of_W {q : List Value × Nat × mE} (hi : (∀ lv st, actC i pc lv st = none) ∧ (∀ st, actA i pc st = none) ∧ (∀ st, actR i lk st h = none) ∧ (∀ st, actB i pc st = none) ∧ ∀ lv st, actS nL i pc lv st = none) (hW : actW i lk st h = some q) : stp none df nL pc i len lk lv st h = some (pc + lnI i len, lv, q.1, h.set q.2.1 q.2.2, 0, 0) := by
  unfold stp
  rw [hi.1, hi.2.1, hi.2.2.1, hi.2.2.2.1, hi.2.2.2.2, hW]
theorem aA_set {af : List (LE × LE × sV)} {x ci : Nat} {vs vs' : List Value} (hA : aA ρ af h) (hx : h[x]? = some (.inr (ci, vs))) : aA ρ af (h.set x (.inr (ci, vs'))) := by
  intro q hq
  obtain ⟨t, n, c, h1, h2⟩ := hA q hq
  refine ⟨t, n, c, ?_, h2⟩
  rw [List.getElem?_set_ne (fun e => by rw [← e, hx] at h1; cases h1)]
  exact h1
set_option maxHeartbeats 1000000 in
theorem sxF_ok {S2 : sS} {idx : Nat} (hPR : PRk PR G gs dp) (hs : sxF d gs dp md lk S = some S2) (hT : TI G gs h) (ha : abs PR G ρ S lv st h) : StpW PR G gs md ρ df nL pc (.putfield idx) len lk lv st h (pc + 3, S2) := by
  have ha2 := ha.2.1
  unfold sxF at hs
  split at hs
  next v r st' hst =>
    rw [hst] at ha2
    obtain ⟨w1, w2, w, rfl, hv, hv2, hr⟩ := aS_c2 ha2
    obtain ⟨h0, rfl⟩ := dV1 rfl hv2
    split at hs
    next g fs ho =>
      obtain ⟨-, hg, hgs⟩ := oG_ok ho ha
      obtain ⟨vs, hx, hlen, hall⟩ := TI_obj hT hgs
      split at hs
      next f hf =>
        split at hs
        next hc =>
          cases hs
          have hfv := wrO_ok hc.1 ha hv
          have hz := zOK_ok hc.2.1 hfv hv
          have hmd := mdI_ok hc.2.2
          have hk : lk.2.2.1 < vs.length := by rw [hlen]; exact (List.getElem?_eq_some_iff.mp hf).1
          have hlt := (List.getElem?_eq_some_iff.mp hx).1
          obtain ⟨t1, t2⟩ := TI_put hT hgs hx hf hfv
          rw [hg] at t2
          refine ⟨w, _, of_W ⟨fun _ _ => rfl, fun _ => rfl, fun _ => rfl, fun _ => rfl, fun _ _ => rfl⟩ (q := (w, (ev ρ r).toNat, .inr (lk.2.1, vs.set lk.2.2.1 w1))) (by simp only [actW, hx]; rw [if_pos ⟨trivial, hk, hz⟩]), ?_, t1, fr_mono (fun q hq => by rw [List.mem_singleton.mp hq]; exact hmd) t2⟩
          obtain ⟨a1, a2, a3, a4, a5, a6, a7⟩ := ha
          refine ⟨a1, hr, a3, a4, fun q hq => ?_, aA_set a6 hx, klF_ok hPR a3 a7 hT t1 hg hgs hx (Int.toNat_of_nonneg h0).symm⟩
          rcases List.mem_cons.mp hq with rfl | hq
          · exact ⟨_, _, w1, List.getElem?_set_self hlt, List.getElem?_set_self hk, hv⟩
          · obtain ⟨hm, hn⟩ := List.mem_filter.mp hq
            obtain ⟨ci, fs', u, g1, g2, g3⟩ := a5 q hm
            by_cases hxy : (ev ρ r).toNat = (ev ρ q.1).toNat
            · rw [← hxy] at g1 ⊢
              cases hx.symm.trans g1
              refine ⟨_, _, u, List.getElem?_set_self hlt, ?_, g3⟩
              rw [List.getElem?_set_ne]
              · exact g2
              · intro e
                simp only [Bool.or_eq_true, Bool.not_eq_true'] at hn
                rcases hn with hn | hn
                · rw [e, Nat.beq_refl] at hn; cases hn
                · exact ngG_ok hn a4 (by rw [← hxy]; exact hg)
            · exact ⟨ci, fs', u, by rw [List.getElem?_set_ne hxy]; exact g1, g2, g3⟩
        next => cases hs
      next => cases hs
    next => cases hs
  next => cases hs
end SXW
