/-! Constants of the pool, Math's small methods, float arithmetic. -/
section SXK
variable {PR : Nat → Int → Int → mH → Prop} {G : Nat → Nat} {gs : Nat → Option gS} {ρ : Va} {S : sS} {lv : mL} {st : List Value} {h : mH} {np d nL pc len : Nat} {i : Instr} {lk : mK} {df : List (List Value)}
def unF (np : Nat) (S : sS) (fs : List LE) (r : List sV) : Option sS := if frs np S = true then some (sNw S (fs ++ i32 S.1) ((0, vE S.1) :: r)) else none
theorem unF_ok {S2 : sS} {fs : List LE} {r : List sV} {w : List Value} {x : Int32} (hs : unF np S fs r = some S2) (hfs : frs np S = true → ∀ f ∈ fs, 0 ≤ ev (uV ρ S.1 x.toInt) f) (hsub : ∃ pre, S.2.2.1 = pre ++ r) (ha : abs PR G ρ S lv st h) (hr : aS ρ r w) : Abs PR G np ρ S2 lv (.int x :: w) h := by
  unfold unF at hs
  split at hs
  next hf =>
    cases hs
    exact ⟨_, up_np hf, abs_nw (x := x.toInt) hf ha (fun f hff => (List.mem_append.mp hff).elim (hfs hf f) (i32_ok (x := x) uV_n f)) ⟨dV_n, aS_tl hf hsub hr⟩⟩
  next => cases hs
def mnF (d : Nat) (F : List LE) (n : Nat) (a b : LE) : List LE := subE a (vE n) :: subE b (vE n) :: ((if ent F d a = true ∧ ent F d b = true then [vE n] else []) ++ ((if ent F d (subE b a) = true then [subE (vE n) a] else []) ++ (if ent F d (subE a b) = true then [subE (vE n) b] else [])))
def mxF (n : Nat) (a b : LE) : List LE := [subE (vE n) a, subE (vE n) b]
def abF (d : Nat) (F : List LE) (n : Nat) (a : LE) : List LE := if inR d F (mulE (-1) a) = true then [vE n, subE (vE n) a, addE (vE n) a] else []
def sxK (np d ns : Nat) (i : Instr) (lk : mK) (S : sS) : Option sS := match i, S.2.2.1 with
  | .ldc _, r => if lk.1 = 0 then (if -2147483648 ≤ lk.2.2.2 ∧ lk.2.2.2 ≤ 2147483647 then some (psh S (0, cE lk.2.2.2)) else none) else if lk.1 = 1 then some (psh S (4, cE 0)) else if lk.1 = 2 ∧ lk.2.1 < ns then some (S.1, S.2.1, (1, cE lk.2.1) :: r, S.2.2.2.1, (cE lk.2.1, 300 + lk.2.1) :: S.2.2.2.2.1, S.2.2.2.2.2) else none
  | .ldc_w _, r => if lk.1 = 0 then (if -2147483648 ≤ lk.2.2.2 ∧ lk.2.2.2 ≤ 2147483647 then some (psh S (0, cE lk.2.2.2)) else none) else if lk.1 = 2 ∧ lk.2.1 < ns then some (S.1, S.2.1, (1, cE lk.2.1) :: r, S.2.2.2.1, (cE lk.2.1, 300 + lk.2.1) :: S.2.2.2.2.1, S.2.2.2.2.2) else none
  | .getstatic _, r => if lk.1 = 3 then some (psh S (0, cE 1)) else if lk.1 = 4 ∧ lk.2.1 < ns then some (S.1, S.2.1, (1, cE lk.2.1) :: r, S.2.2.2.1, (cE lk.2.1, 300 + lk.2.1) :: S.2.2.2.2.1, S.2.2.2.2.2) else if lk.1 = 5 then some (psh S (6, cE 0)) else none
  | .invokestatic _, (0, b) :: r => if lk.1 = 12 then (if catL r ≤ 8 then unF np S (abF d S.2.2.2.1 S.1 b) r else none) else match r with
    | (0, a) :: r => if catL r ≤ 8 then (if lk.1 = 10 then unF np S (mnF d S.2.2.2.1 S.1 a b) r else if lk.1 = 11 then unF np S (mxF S.1 a b) r else none) else none
    | _ => none
  | _, _ => none
theorem of_K {q : List Value} (hi : (∀ lv st, actC i pc lv st = none) ∧ (∀ st, actA i pc st = none) ∧ (∀ st, actR i lk st h = none) ∧ (∀ st, actB i pc st = none) ∧ (∀ lv st, actS nL i pc lv st = none) ∧ ∀ st, actW i lk st h = none) (hK : actK i lk st = some q) : stp none df nL pc i len lk lv st h = some (pc + lnI i len, lv, q, h, 0, 0) := by
  unfold stp
  rw [hi.1, hi.2.1, hi.2.2.1, hi.2.2.2.1, hi.2.2.2.2.1, hi.2.2.2.2.2, hK]
theorem abs_str {k : Nat} {r : List sV} {w : List Value} (hG : G k = 300 + k) (ha : abs PR G ρ S lv st h) (hr : aS ρ r w) : abs PR G ρ (S.1, S.2.1, (1, cE (k : Int)) :: r, S.2.2.2.1, (cE (k : Int), 300 + k) :: S.2.2.2.2.1, S.2.2.2.2.2) lv (.ref k :: w) h := by
  obtain ⟨a1, a2, a3, a4, a5⟩ := ha
  refine ⟨a1, ⟨⟨by show 0 ≤ ev ρ (cE _); rw [ev_c]; omega, by show _ = Value.ref (ev ρ (cE _)).toNat; rw [ev_c]; rfl⟩, hr⟩, a3, fun q hq => ?_, a5⟩
  rcases List.mem_cons.mp hq with rfl | hq
  · rw [ev_c]
    exact ⟨by omega, hG⟩
  · exact a4 q hq
set_option maxHeartbeats 4000000 in
theorem sxK_ok {ns : Nat} {S2 : sS} (hG : ∀ k, k < ns → G k = 300 + k) (hs : sxK np d ns i lk S = some S2) (ha : abs PR G ρ S lv st h) : StpA PR G np ρ df nL pc i len lk lv st h (pc + lnI i len, S2) := by
  have ha2 := ha.2.1
  unfold sxK at hs
  split at hs
  next idx r hst =>
    split at hs
    next h0 =>
      split at hs
      next hc => cases hs; exact ⟨_, _, of_K ⟨fun _ _ => rfl, fun _ => rfl, fun _ => rfl, fun _ => rfl, fun _ _ => rfl, fun _ => rfl⟩ (by simp only [actK]; rw [if_pos h0]), psh_ok ha (dV_c (toI_ofI hc.1 hc.2))⟩
      next => cases hs
    split at hs
    next h0 h1 => cases hs; exact ⟨_, _, of_K ⟨fun _ _ => rfl, fun _ => rfl, fun _ => rfl, fun _ => rfl, fun _ _ => rfl, fun _ => rfl⟩ (by simp only [actK]; rw [if_neg h0, if_pos h1]), psh_ok ha ⟨_, rfl⟩⟩
    split at hs
    next h0 h1 h2 => cases hs; exact ⟨_, _, of_K ⟨fun _ _ => rfl, fun _ => rfl, fun _ => rfl, fun _ => rfl, fun _ _ => rfl, fun _ => rfl⟩ (by simp only [actK]; rw [if_neg h0, if_neg h1, if_pos h2.1]), Abs.of (abs_str (hG _ h2.2) ha ha2)⟩
    next => cases hs
  next idx r hst =>
    split at hs
    next h0 =>
      split at hs
      next hc => cases hs; exact ⟨_, _, of_K ⟨fun _ _ => rfl, fun _ => rfl, fun _ => rfl, fun _ => rfl, fun _ _ => rfl, fun _ => rfl⟩ (by simp only [actK]; rw [if_pos h0]), psh_ok ha (dV_c (toI_ofI hc.1 hc.2))⟩
      next => cases hs
    split at hs
    next h0 h2 => cases hs; exact ⟨_, _, of_K ⟨fun _ _ => rfl, fun _ => rfl, fun _ => rfl, fun _ => rfl, fun _ _ => rfl, fun _ => rfl⟩ (by simp only [actK]; rw [if_neg h0, if_pos h2.1]), Abs.of (abs_str (hG _ h2.2) ha ha2)⟩
    next => cases hs
  next idx r hst =>
    split at hs
    next h0 => cases hs; exact ⟨_, _, of_K ⟨fun _ _ => rfl, fun _ => rfl, fun _ => rfl, fun _ => rfl, fun _ _ => rfl, fun _ => rfl⟩ (by simp only [actK]; rw [if_pos h0]), psh_ok ha (dV_c (by decide))⟩
    split at hs
    next h0 h1 => cases hs; exact ⟨_, _, of_K ⟨fun _ _ => rfl, fun _ => rfl, fun _ => rfl, fun _ => rfl, fun _ _ => rfl, fun _ => rfl⟩ (by simp only [actK]; rw [if_neg h0, if_pos h1.1]), Abs.of (abs_str (hG _ h1.2) ha ha2)⟩
    split at hs
    next h0 h2 h1 => cases hs; exact ⟨_, _, of_K ⟨fun _ _ => rfl, fun _ => rfl, fun _ => rfl, fun _ => rfl, fun _ _ => rfl, fun _ => rfl⟩ (by simp only [actK]; rw [if_neg h0, if_neg (by omega), if_pos h1]), psh_ok ha ⟨_, rfl⟩⟩
    next => cases hs
  next idx b r hst =>
    rw [hst] at ha2
    obtain ⟨y, w, rfl, hy, hr⟩ := i_of ha2
    have no : lk.1 ≠ 16 → (∀ lv st, actC (.invokestatic idx) pc lv st = none) ∧ (∀ st, actA (.invokestatic idx) pc st = none) ∧ (∀ st, actR (.invokestatic idx) lk st h = none) ∧ (∀ st, actB (.invokestatic idx) pc st = none) ∧ (∀ lv st, actS nL (.invokestatic idx) pc lv st = none) ∧ ∀ st, actW (.invokestatic idx) lk st h = none := fun h16 => ⟨fun _ _ => rfl, fun _ => rfl, fun _ => rfl, fun _ => rfl, fun _ _ => rfl, fun _ => actW_st h16⟩
    split at hs
    next h12 =>
      split at hs
      next hc =>
        refine ⟨_, _, of_K (no (by omega)) (actK12 h12 (by rw [catL_ok hr]; exact hc)), unF_ok hs (fun hf f hff => ?_) ⟨[_], hst⟩ ha hr⟩
        unfold abF at hff
        split at hff
        next hi =>
          have h1 := inR_ok ha.2.2.1 hi
          rw [ev_mul] at h1
          have ob : occE S.1 b = false := frs_r hst hf
          have hn : (if 0 ≤ y then y else 0 - y).toInt = if 0 ≤ ev ρ b then ev ρ b else -ev ρ b := by
            by_cases h0 : 0 ≤ ev ρ b
            · rw [if_pos h0, if_pos (by rw [Int32.le_iff_toInt_le, z00, hy]; exact h0), hy]
            · rw [if_neg h0, if_neg (by rw [Int32.le_iff_toInt_le, z00, hy]; exact h0), toI_sub (by rw [z00, hy]; omega) (by rw [z00, hy]; omega), z00, hy]
              omega
          simp only [List.mem_cons, List.not_mem_nil, or_false] at hff
          rcases hff with rfl | rfl | rfl
          · rw [ev_v, uV_n, hn]; split <;> omega
          · rw [ev_sub, ev_v, uV_n, hn, ev_u ob]; split <;> omega
          · rw [ev_add, ev_v, uV_n, hn, ev_u ob]; split <;> omega
        next => exact absurd hff List.not_mem_nil
      next => cases hs
    next h12 =>
    split at hs
    next a r2 =>
      obtain ⟨x, w2, rfl, hx, hr2⟩ := i_of hr
      split at hs
      next hc =>
        have hcs : (w2.map fun v => v.category).sum ≤ 8 := by rw [catL_ok hr2]; exact hc
        split at hs
        next h10 =>
          refine ⟨_, _, of_K (no (by omega)) (q := .int (if y < x then y else x) :: w2) (by simp only [actK]; rw [if_pos hcs, if_pos h10]), unF_ok hs (fun hf f hff => ?_) ⟨[_, _], hst⟩ ha hr2⟩
          have ob : occE S.1 b = false := frs_r hst hf
          have oa : occE S.1 a = false := occ_st' hst hf
          have hn : (if y < x then y else x).toInt = if ev ρ b < ev ρ a then ev ρ b else ev ρ a := by
            by_cases h0 : ev ρ b < ev ρ a
            · rw [if_pos h0, if_pos (by rw [Int32.lt_iff_toInt_lt, hx, hy]; exact h0), hy]
            · rw [if_neg h0, if_neg (by rw [Int32.lt_iff_toInt_lt, hx, hy]; exact h0), hx]
          simp only [mnF, List.mem_cons] at hff
          rcases hff with rfl | rfl | hff
          · rw [ev_sub, ev_v, uV_n, hn, ev_u oa]; split <;> omega
          · rw [ev_sub, ev_v, uV_n, hn, ev_u ob]; split <;> omega
          · rcases List.mem_append.mp hff with hff | hff
            · split at hff
              next hp =>
                have p1 := ent_ok ha.2.2.1 _ _ hp.1
                have p2 := ent_ok ha.2.2.1 _ _ hp.2
                obtain rfl := List.mem_singleton.mp hff
                rw [ev_v, uV_n, hn]; split <;> omega
              next => exact absurd hff List.not_mem_nil
            · rcases List.mem_append.mp hff with hff | hff
              · split at hff
                next hp =>
                  have p1 := ent_ok ha.2.2.1 _ _ hp
                  rw [ev_sub] at p1
                  obtain rfl := List.mem_singleton.mp hff
                  rw [ev_sub, ev_v, uV_n, hn, ev_u oa]; split <;> omega
                next => exact absurd hff List.not_mem_nil
              · split at hff
                next hp =>
                  have p1 := ent_ok ha.2.2.1 _ _ hp
                  rw [ev_sub] at p1
                  obtain rfl := List.mem_singleton.mp hff
                  rw [ev_sub, ev_v, uV_n, hn, ev_u ob]; split <;> omega
                next => exact absurd hff List.not_mem_nil
        next h10 =>
        split at hs
        next h11 =>
          refine ⟨_, _, of_K (no (by omega)) (q := .int (if x < y then y else x) :: w2) (by simp only [actK]; rw [if_pos hcs, if_neg h10, if_pos h11]), unF_ok hs (fun hf f hff => ?_) ⟨[_, _], hst⟩ ha hr2⟩
          have ob : occE S.1 b = false := frs_r hst hf
          have oa : occE S.1 a = false := occ_st' hst hf
          have hn : (if x < y then y else x).toInt = if ev ρ a < ev ρ b then ev ρ b else ev ρ a := by
            by_cases h0 : ev ρ a < ev ρ b
            · rw [if_pos h0, if_pos (by rw [Int32.lt_iff_toInt_lt, hx, hy]; exact h0), hy]
            · rw [if_neg h0, if_neg (by rw [Int32.lt_iff_toInt_lt, hx, hy]; exact h0), hx]
          simp only [mxF, List.mem_cons, List.not_mem_nil, or_false] at hff
          rcases hff with rfl | rfl
          · rw [ev_sub, ev_v, uV_n, hn, ev_u oa]; split <;> omega
          · rw [ev_sub, ev_v, uV_n, hn, ev_u ob]; split <;> omega
        next => cases hs
      next => cases hs
    next => cases hs
  next => cases hs
/-- float arithmetic: what it comes to isn't said -/
def sxL (i : Instr) (S : sS) : Option sS := match i, S.2.2.1 with
  | .fadd, (4, _) :: (4, _) :: r => some (sSt S ((4, cE 0) :: r))
  | .fsub, (4, _) :: (4, _) :: r => some (sSt S ((4, cE 0) :: r))
  | .fmul, (4, _) :: (4, _) :: r => some (sSt S ((4, cE 0) :: r))
  | .fdiv, (4, _) :: (4, _) :: r => some (sSt S ((4, cE 0) :: r))
  | .f2d, (4, _) :: r => some (sSt S ((5, cE 0) :: r))
  | _, _ => none
theorem sxL_ok {S2 : sS} (hs : sxL i S = some S2) (ha : abs PR G ρ S lv st h) : stNo i lk ∧ (∀ rt, fin rt i st = none) ∧ ((∃ x w, flo i st = some (.inl x, w) ∧ ∀ z, abs PR G ρ S2 lv (.float z :: w) h) ∨ ∃ x w, flo i st = some (.inr x, w) ∧ ∀ z, abs PR G ρ S2 lv (.double z :: w) h) := by
  have ha2 := ha.2.1
  unfold sxL at hs
  split at hs
  iterate 4
    next hst =>
      rw [hst] at ha2
      obtain ⟨v, v', w, rfl, h1, h2, hr⟩ := aS_c2 ha2
      obtain ⟨y, rfl⟩ := dV4 rfl h1
      obtain ⟨x, rfl⟩ := dV4 rfl h2
      cases hs
      exact ⟨stp_no (fun _ _ _ => rfl) (fun _ _ => rfl) (fun _ _ => rfl) (fun _ _ => rfl) (fun _ _ _ _ => rfl) (fun _ _ => rfl) (fun _ => rfl) (fun sc _ => by cases sc <;> rfl) (Or.inr fun _ _ _ => rfl), fun _ => rfl, Or.inl ⟨_, w, rfl, fun z => abs_st ha ⟨⟨z, rfl⟩, hr⟩⟩⟩
  next hst =>
    rw [hst] at ha2
    obtain ⟨v, w, rfl, h1, hr⟩ := aS_cons ha2
    obtain ⟨y, rfl⟩ := dV4 rfl h1
    cases hs
    exact ⟨stp_no (fun _ _ _ => rfl) (fun _ _ => rfl) (fun _ _ => rfl) (fun _ _ => rfl) (fun _ _ _ _ => rfl) (fun _ _ => rfl) (fun _ => rfl) (fun sc _ => by cases sc <;> rfl) (Or.inr fun _ _ _ => rfl), fun _ => rfl, Or.inr ⟨_, w, rfl, fun z => abs_st ha ⟨⟨z, rfl⟩, hr⟩⟩⟩
  next => cases hs
end SXK
