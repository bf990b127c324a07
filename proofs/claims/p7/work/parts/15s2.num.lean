/-! Products, quotients below zero, absolute values; rows that are made; the law's own script. -/
section NUM
variable {PR : Nat → Int → Int → mH → Prop} {G : Nat → Nat} {gs : Nat → Option gS} {ρ : Va} {S : sS} {lv : mL} {st : List Value} {h h0 : mH} {np d nL pc len ns : Nat} {i : Instr} {lk : mK} {df : List (List Value)} {md : List (Nat × Nat)} {dp : dT}
def sPr (S : sS) (pr : List (Nat × LE × LE)) : sS := (S.1, S.2.1, S.2.2.1, S.2.2.2.1, S.2.2.2.2.1, S.2.2.2.2.2.1, S.2.2.2.2.2.2.1, pr ++ S.2.2.2.2.2.2.2)
theorem abs_pr {pr : List (Nat × LE × LE)} (ha : abs PR G ρ S lv st h) (hp : aP PR ρ pr h) : abs PR G ρ (sPr S pr) lv st h := by
  obtain ⟨a1, a2, a3, a4, a5, a6, a7⟩ := ha
  exact ⟨a1, a2, a3, a4, a5, a6, fun q hq => (List.mem_append.mp hq).elim (hp q) (a7 q)⟩
/-- a product whose first factor is greater by one -/
def fnM (K : LE) : List (Nat × LE × LE) → Option LE
  | [] => none
  | z :: r => if (Nat.beq z.1 91 && eqE (subE z.2.1 K) (cE 8589934592)) = true then some z.2.2 else fnM K r
theorem fnM_ok {K q : LE} : ∀ {l : List (Nat × LE × LE)}, fnM K l = some q → ∃ z ∈ l, z.1 = 91 ∧ eqE (subE z.2.1 K) (cE 8589934592) = true ∧ z.2.2 = q
  | [], hq => by cases hq
  | z :: r, hq => by
    unfold fnM at hq
    split at hq
    next hc =>
      cases hq
      simp only [Bool.and_eq_true] at hc
      exact ⟨z, List.mem_cons_self, Nat.eq_of_beq_eq_true hc.1, hc.2, rfl⟩
    next =>
      obtain ⟨w, h1, h2⟩ := fnM_ok hq
      exact ⟨w, List.mem_cons_of_mem _ h1, h2⟩
def sxM (np d : Nat) (S : sS) : Option sS := match S.2.2.1 with
  | (0, b) :: (0, a) :: r => match b.2, a.2 with
    | _ :: _, _ :: _ => if ((ent S.2.2.2.1 d a && ent S.2.2.2.1 d (subE (cE 1000000) a)) && (ent S.2.2.2.1 d b && ent S.2.2.2.1 d (subE (cE 2000) b))) = true then (match fnM (addE (mulE 8589934592 a) b) S.2.2.2.2.2.2.2 with
        | some q => some (sFa S [subE q b] ((0, subE q b) :: r))
        | none => if frs np S = true then some (sPr (sNw S (rng S.1 0 2000000000) ((0, vE S.1) :: r)) [(91, addE (mulE 8589934592 a) b, vE S.1)]) else none)
      else none
    | _, _ => none
  | _ => none
theorem sxM_ok {S2 : sS} (hPR : PRk PR G gs dp) (hs : sxM np d S = some S2) (ha : abs PR G ρ S lv st h) : StpA PR G np ρ df nL pc .imul len lk lv st h (pc + 1, S2) := by
  have ha2 := ha.2.1
  unfold sxM at hs
  split at hs
  next b a r hst =>
    rw [hst] at ha2
    obtain ⟨x, y, w, rfl, hx, hy, hr⟩ := ii_of ha2
    split at hs
    next =>
      split at hs
      next hc =>
        simp only [Bool.and_eq_true] at hc
        obtain ⟨⟨c1, c2⟩, c3, c4⟩ := hc
        have e1 := ent_ok ha.2.2.1 _ _ c1
        have e2 := ent_ok ha.2.2.1 _ _ c2
        have e3 := ent_ok ha.2.2.1 _ _ c3
        have e4 := ent_ok ha.2.2.1 _ _ c4
        rw [ev_sub, ev_c] at e2 e4
        have p0 : 0 ≤ ev ρ a * ev ρ b := Int.mul_nonneg e1 e3
        have p1 : ev ρ a * ev ρ b ≤ 2000000000 := by
          have h1 : ev ρ a * ev ρ b ≤ 1000000 * ev ρ b := Int.mul_le_mul_of_nonneg_right (by omega) e3
          omega
        have hxy : (x * y).toInt = ev ρ a * ev ρ b := by rw [toI_mul (by rw [hx, hy]; omega) (by rw [hx, hy]; omega), hx, hy]
        split at hs
        next q hq =>
          cases hs
          obtain ⟨z, hz, z1, z2, rfl⟩ := fnM_ok hq
          have g1 := ha.2.2.2.2.2.2 z hz
          have g2 : ev ρ z.2.1 = 8589934592 * (ev ρ a + 1) + ev ρ b := by
            have g3 : ev ρ (subE z.2.1 (addE (mulE 8589934592 a) b)) = 8589934592 := by rw [eqE_ok z2, ev_c]
            rw [ev_sub, ev_add, ev_mul] at g3
            omega
          rw [z1, g2] at g1
          have g4 := hPR.2.2.2.1 _ _ _ _ e3 (by omega) g1
          have g5 : ev ρ (subE z.2.2 b) = (x * y).toInt := by
            rw [ev_sub, g4, hxy, Int.add_mul, Int.one_mul]
            omega
          exact ⟨_, _, of_A (fun _ _ => rfl) rfl, Abs.of (abs_fa ha (fun f hf => by obtain rfl := List.mem_singleton.mp hf; rw [g5, hxy]; exact p0) ⟨⟨x * y, rfl, g5.symm⟩, hr⟩)⟩
        next =>
          split at hs
          next hf =>
            cases hs
            have oa : occE S.1 a = false := occ_st hst hf
            have ob : occE S.1 b = false := frs_r hst hf
            refine ⟨_, .int (x * y) :: w, of_A (fun _ _ => rfl) rfl, _, up_np hf, abs_pr (abs_nw (x := (x * y).toInt) hf ha (rng_ok (by rw [uV_n, hxy]; exact p0) (by rw [uV_n, hxy]; exact p1)) ⟨dV_n, aS_tl hf ⟨[_, _], hst⟩ hr⟩) fun q hq => ?_⟩
            obtain rfl := List.mem_singleton.mp hq
            dsimp only
            rw [ev_add, ev_mul, ev_v, uV_n, ev_u oa, ev_u ob, hxy]
            exact hPR.2.2.1 _ _ _ e3 (by omega)
          next => cases hs
      next => cases hs
    next => cases hs
  next => cases hs
theorem tdn {a c : Int} (ha : a ≤ 0) (hc : 0 < c) : a.tdiv c = -((-a) / c) := by
  rw [show a = -(-a) by omega, Int.neg_tdiv, Int.tdiv_eq_ediv_of_nonneg (by omega)]
  simp
def sxDn (np d : Nat) (S : sS) : Option sS := match S.2.2.1 with
  | (0, b) :: (0, a) :: r => match b.2 with
    | [] => if (decide (0 < b.1) && ent S.2.2.2.1 d (mulE (-1) a)) = true then (if frs np S = true then some (sNw S [subE (mulE b.1 (vE S.1)) a, addE (subE a (mulE b.1 (vE S.1))) (cE (b.1 - 1)), mulE (-1) (vE S.1), (2147483648, [(S.1, 1)])] ((0, vE S.1) :: r)) else none) else none
    | _ :: _ => none
  | _ => none
theorem sxDn_ok {S2 : sS} (hs : sxDn np d S = some S2) (ha : abs PR G ρ S lv st h) : StpA PR G np ρ df nL pc .idiv len lk lv st h (pc + 1, S2) := by
  have ha2 := ha.2.1
  unfold sxDn at hs
  split at hs
  next b a r hst =>
    rw [hst] at ha2
    obtain ⟨x, y, w, rfl, hx, hy, hr⟩ := ii_of ha2
    split at hs
    next hb =>
      split at hs
      next hc =>
        split at hs
        next hf =>
          cases hs
          simp only [Bool.and_eq_true, decide_eq_true_eq] at hc
          obtain ⟨hc0, hc1⟩ := hc
          have e1 := ent_ok ha.2.2.1 _ _ hc1
          rw [ev_mul] at e1
          have hy2 : y.toInt = b.1 := by rw [hy, ev_nil hb]
          have oa : occE S.1 a = false := occ_st hst hf
          have hq0 : x.toInt.tdiv y.toInt = -((-(ev ρ a)) / b.1) := by rw [hx, hy2]; exact tdn (by omega) hc0
          have d1 : 0 ≤ (-(ev ρ a)) / b.1 := Int.ediv_nonneg (by omega) (by omega)
          have d2 : (-(ev ρ a)) / b.1 ≤ -(ev ρ a) := Int.ediv_le_self _ (by omega)
          have d3 : b.1 * ((-(ev ρ a)) / b.1) ≤ -(ev ρ a) := Int.mul_ediv_self_le (by omega)
          have d4 : -(ev ρ a) < b.1 * ((-(ev ρ a)) / b.1) + b.1 := by
            have := Int.lt_mul_ediv_self_add (x := -(ev ρ a)) (k := b.1) hc0
            omega
          have hlo := i32lo x
          have hq : (x / y).toInt = -((-(ev ρ a)) / b.1) := by
            rw [Int32.toInt_div, hq0]
            exact bm (by omega) (by omega)
          refine ⟨_, .int (x / y) :: w, of_A (fun _ _ => rfl) (by show (if y = 0 then none else _) = _; rw [if_neg (nz_of hy (by rw [ev_nil hb]; exact hc0))]), _, up_np hf, abs_nw (x := (x / y).toInt) hf ha (fun f hff => ?_) ⟨dV_n, aS_tl hf ⟨[_, _], hst⟩ hr⟩⟩
          have hn := i32lo (x / y)
          have d5 : b.1 * (-((-(ev ρ a)) / b.1)) = -(b.1 * ((-(ev ρ a)) / b.1)) := by rw [Int.mul_neg]
          simp only [List.mem_cons, List.not_mem_nil, or_false] at hff
          rcases hff with rfl | rfl | rfl | rfl
          · rw [ev_sub, ev_mul, ev_v, uV_n, ev_u oa, hq, d5]; omega
          · rw [ev_add, ev_sub, ev_mul, ev_v, uV_n, ev_u oa, hq, d5, ev_c]; omega
          · rw [ev_mul, ev_v, uV_n, hq]; omega
          · show 0 ≤ 2147483648 + (1 * uV ρ S.1 (x / y).toInt S.1 + 0)
            rw [uV_n]; omega
        next => cases hs
      next => cases hs
    next => cases hs
  next => cases hs
theorem shl00 {x : Int32} : x <<< ((0 : Int32) &&& 31) = x := by
  have h : ((0 : Int32) &&& 31) = 0 := by decide
  rw [h]
  exact Int32.shiftLeft_zero
/-- shifts by what is known to be 0, and by 8 of what is below 256 -/
def sxH (d : Nat) (S : sS) : Option sS := match S.2.2.1 with
  | (0, b) :: (0, a) :: r => if (ent S.2.2.2.1 d b && ent S.2.2.2.1 d (mulE (-1) b)) = true then some (sSt S ((0, a) :: r)) else none
  | _ => none
theorem sh_zero {b : LE} {y : Int32} (h0 : (ent S.2.2.2.1 d b && ent S.2.2.2.1 d (mulE (-1) b)) = true) (ha : abs PR G ρ S lv st h) (hy : y.toInt = ev ρ b) : y = 0 := by
  simp only [Bool.and_eq_true] at h0
  have e1 := ent_ok ha.2.2.1 _ _ h0.1
  have e2 := ent_ok ha.2.2.1 _ _ h0.2
  rw [ev_mul] at e2
  exact Int32.toInt_inj.mp (by rw [hy, z00]; omega)
theorem sxH_ok {S2 : sS} (hs : sxH d S = some S2) (ha : abs PR G ρ S lv st h) : StpA PR G np ρ df nL pc .ishl len lk lv st h (pc + 1, S2) := by
  have ha2 := ha.2.1
  unfold sxH at hs
  split at hs
  next b a r hst =>
    rw [hst] at ha2
    obtain ⟨x, y, w, rfl, hx, hy, hr⟩ := ii_of ha2
    split at hs
    next h0 =>
      cases hs
      have hy0 : y = 0 := sh_zero h0 ha hy
      subst hy0
      exact ⟨_, .int x :: w, of_A (fun _ _ => rfl) (by show some (pc + 1, Value.int (x <<< ((0 : Int32) &&& 31)) :: w) = _; rw [shl00]), Abs.of (abs_st ha ⟨⟨x, rfl, hx⟩, hr⟩)⟩
    next => cases hs
  next => cases hs
theorem sxHr_ok {S2 : sS} (hs : sxH d S = some S2) (ha : abs PR G ρ S lv st h) : StpA PR G np ρ df nL pc .ishr len lk lv st h (pc + 1, S2) := by
  have ha2 := ha.2.1
  unfold sxH at hs
  split at hs
  next b a r hst =>
    rw [hst] at ha2
    obtain ⟨x, y, w, rfl, hx, hy, hr⟩ := ii_of ha2
    split at hs
    next h0 =>
      cases hs
      have hy0 : y = 0 := sh_zero h0 ha hy
      subst hy0
      exact ⟨_, .int x :: w, of_A (fun _ _ => rfl) (by show some (pc + 1, Value.int (x >>> ((0 : Int32) &&& 31)) :: w) = _; rw [shr00]), Abs.of (abs_st ha ⟨⟨x, rfl, hx⟩, hr⟩)⟩
    next => cases hs
  next => cases hs
def sxU (d : Nat) (S : sS) : Option sS := match S.2.2.1 with
  | (0, b) :: (0, a) :: r => if (eqE b (cE 8) && (ent S.2.2.2.1 d a && ent S.2.2.2.1 d (subE (cE 255) a))) = true then some (sSt S ((0, cE 0) :: r)) else none
  | _ => none
theorem ushr8_all : ∀ n, n < 256 → ((nI n).toUInt32 >>> ((8 : Int32).toUInt32 &&& Int32.toUInt32 31)).toInt32 = 0 := by decide +kernel
theorem sxU_ok {S2 : sS} (hs : sxU d S = some S2) (ha : abs PR G ρ S lv st h) : StpA PR G np ρ df nL pc .iushr len lk lv st h (pc + 1, S2) := by
  have ha2 := ha.2.1
  unfold sxU at hs
  split at hs
  next b a r hst =>
    rw [hst] at ha2
    obtain ⟨x, y, w, rfl, hx, hy, hr⟩ := ii_of ha2
    split at hs
    next h0 =>
      cases hs
      simp only [Bool.and_eq_true] at h0
      obtain ⟨c0, c1, c2⟩ := h0
      have e1 := ent_ok ha.2.2.1 _ _ c1
      have e2 := ent_ok ha.2.2.1 _ _ c2
      rw [ev_sub, ev_c] at e2
      have hy8 : y = 8 := Int32.toInt_inj.mp (by rw [hy, eqE_ok c0, ev_c]; rfl)
      subst hy8
      have hxn : x = nI x.toInt.toNat := Int32.toInt_inj.mp (by rw [nI_toInt (by omega)]; omega)
      have hz : (x.toUInt32 >>> ((8 : Int32).toUInt32 &&& Int32.toUInt32 31)).toInt32 = 0 := by
        rw [hxn]
        exact ushr8_all _ (by omega)
      exact ⟨_, .int 0 :: w, of_A (fun _ _ => rfl) (by show some (pc + 1, Value.int ((x.toUInt32 >>> ((8 : Int32).toUInt32 &&& Int32.toUInt32 31)).toInt32) :: w) = _; rw [hz]), Abs.of (abs_st ha ⟨⟨0, rfl, by rw [ev_c]; decide⟩, hr⟩)⟩
    next => cases hs
  next => cases hs
/-- the last six bits, where they are known (122) -/
def fnI (j : LE) : List (Nat × LE × LE) → Option LE
  | [] => none
  | z :: r => if (Nat.beq z.1 122 && eqE z.2.1 j) = true then some z.2.2 else fnI j r
theorem fnI_ok {j q : LE} : ∀ {l : List (Nat × LE × LE)}, fnI j l = some q → ∃ z ∈ l, z.1 = 122 ∧ z.2.1 = j ∧ z.2.2 = q
  | [], hq => by cases hq
  | z :: r, hq => by
    unfold fnI at hq
    split at hq
    next hc =>
      cases hq
      simp only [Bool.and_eq_true] at hc
      exact ⟨z, List.mem_cons_self, Nat.eq_of_beq_eq_true hc.1, eqE_ok hc.2, rfl⟩
    next =>
      obtain ⟨w, h1, h2⟩ := fnI_ok hq
      exact ⟨w, List.mem_cons_of_mem _ h1, h2⟩
def sxI (S : sS) : Option sS := match S.2.2.1 with
  | (0, b) :: (0, a) :: r => if eqE b (cE 63) = true then (match fnI a S.2.2.2.2.2.2.2 with
    | some q => some (sSt S ((0, q) :: r))
    | none => none) else none
  | _ => none
theorem sxI_ok {S2 : sS} (hPR : PRk PR G gs dp) (hs : sxI S = some S2) (ha : abs PR G ρ S lv st h) : StpA PR G np ρ df nL pc .iand len lk lv st h (pc + 1, S2) := by
  have ha2 := ha.2.1
  unfold sxI at hs
  split at hs
  next b a r hst =>
    rw [hst] at ha2
    obtain ⟨x, y, w, rfl, hx, hy, hr⟩ := ii_of ha2
    split at hs
    next h0 =>
      split at hs
      next q hq =>
        cases hs
        obtain ⟨z, hz, z1, z2, rfl⟩ := fnI_ok hq
        have g1 := ha.2.2.2.2.2.2 z hz
        rw [z1, z2, ← hx] at g1
        have g2 := hPR.2.2.2.2.2.2.2.1 _ _ _ g1
        have hy0 : y = 63 := Int32.toInt_inj.mp (by rw [hy, eqE_ok h0, ev_c]; decide)
        subst hy0
        rw [Int32.ofInt_toInt] at g2
        exact ⟨_, .int (x &&& 63) :: w, of_A (fun _ _ => rfl) rfl, Abs.of (abs_st ha ⟨⟨_, rfl, g2.symm⟩, hr⟩)⟩
      next => cases hs
    next => cases hs
  next => cases hs
theorem and255 {x : Int32} : (x &&& 255).toInt = x.toInt % 256 := by
  have h2 : (x.toBitVec &&& 255#32).toNat = x.toBitVec.toNat % 256 := by
    rw [BitVec.toNat_and]
    exact Nat.and_two_pow_sub_one_eq_mod _ 8
  have h1 : (x &&& 255).toInt = ((x.toBitVec.toNat % 256 : Nat) : Int) := by
    show (x.toBitVec &&& 255#32).toInt = _
    rw [BitVec.toInt_eq_toNat_of_lt (by omega), h2]
  have h3 := BitVec.toInt_eq_toNat_cond x.toBitVec
  have h4 : x.toInt = x.toBitVec.toInt := rfl
  rw [h1, h4, h3]
  split <;> omega
theorem i2c_same {x : Int32} (h0 : 0 ≤ x.toInt) (h1 : x.toInt ≤ 65535) : (x.toUInt32 % 65536).toInt32 = x := by
  have h2 : (x.toUInt32 % 65536).toNat = x.toBitVec.toNat % 65536 := by
    rw [UInt32.toNat_mod]
    rfl
  have h3 := BitVec.toInt_eq_toNat_cond x.toBitVec
  have h4 : x.toInt = x.toBitVec.toInt := rfl
  have hlt := x.toBitVec.isLt
  have h5 : (x.toUInt32 % 65536).toInt32.toInt = ((x.toUInt32 % 65536).toNat : Int) := by
    show ((x.toUInt32 % 65536).toBitVec).toInt = _
    rw [BitVec.toInt_eq_toNat_of_lt (by show 2 * (x.toUInt32 % 65536).toNat < 2 ^ 32; omega)]
    rfl
  refine Int32.toInt_inj.mp ?_
  rw [h5, h2]
  rw [h4, h3] at h0 h1 ⊢
  split at h0 <;> split <;> omega
theorem shr_k {x y : Int32} {k : Nat} (h1 : 1 ≤ k) (h2 : k ≤ 31) (hy : y.toInt = k) : (x >>> (y &&& 31)).toInt = x.toInt / (2 ^ k : Nat) := by
  have hy2 : y = Int32.ofNat k := Int32.toInt_inj.mp (by rw [hy]; exact (nI_toInt (by omega)).symm)
  have h3 : ∀ k, k < 32 → ((Int32.ofNat k &&& 31).toBitVec.smod 32#32).toNat = k := by decide +kernel
  subst hy2
  show ((x >>> (Int32.ofNat k &&& 31)).toBitVec).toInt = _
  rw [Int32.toBitVec_shiftRight]
  show (x.toBitVec.sshiftRight' ((Int32.ofNat k &&& 31).toBitVec.smod 32#32)).toInt = _
  rw [BitVec.toInt_sshiftRight', h3 k (by omega), Int.shiftRight_eq_div_pow]
  rfl
/-- the last eight bits; a byte's, a char's value; what is shifted; longs that are known -/
def sxQ (np d : Nat) (i : Instr) (S : sS) : Option sS := match i, S.2.2.1 with
  | .iand, (0, b) :: (0, a) :: r => if eqE b (cE 255) = true then (if (ent S.2.2.2.1 d a && ent S.2.2.2.1 d (subE (cE 255) a)) = true then some (sSt S ((0, a) :: r)) else (if frs np S = true then some (sPr (sNw S (rng S.1 0 255) ((0, vE S.1) :: r)) [(184, a, vE S.1)]) else none)) else none
  | .ishr, (0, b) :: (0, a) :: r => match b.2 with
    | [] => if decide (1 ≤ b.1 ∧ b.1 ≤ 31) = true then (if frs np S = true then some (sPr (sNw S (i32 S.1) ((0, vE S.1) :: r)) [(169, addE a (cE (1099511627776 * b.1)), vE S.1)]) else none) else none
    | _ :: _ => none
  | .i2b, (0, a) :: r => if (ent S.2.2.2.1 d (addE a (cE 128)) && ent S.2.2.2.1 d (subE (cE 127) a)) = true then some (sSt S ((0, a) :: r)) else (if (ent S.2.2.2.1 d (subE a (cE 128)) && ent S.2.2.2.1 d (subE (cE 255) a)) = true then some (sSt S ((0, subE a (cE 256)) :: r)) else (if frs np S = true then some (sPr (sNw S (rng S.1 (-128) 127) ((0, vE S.1) :: r)) [(185, a, vE S.1)]) else none))
  | .i2c, (0, a) :: r => if (ent S.2.2.2.1 d a && ent S.2.2.2.1 d (subE (cE 65535) a)) = true then some (sSt S ((0, a) :: r)) else none
  | .i2l, (0, a) :: r => some (sSt S ((7, a) :: r))
  | .lcmp, (7, b) :: (7, a) :: r => if (ent S.2.2.2.1 d (subE a b) && ent S.2.2.2.1 d (mulE (-1) (subE a b))) = true then some (sSt S ((0, cE 0) :: r)) else unI np S r
  | _, _ => none
set_option maxHeartbeats 1000000 in
theorem sxQ_ok {S2 : sS} (hPR : PRk PR G gs dp) (hs : sxQ np d i S = some S2) (ha : abs PR G ρ S lv st h) : StpA PR G np ρ df nL pc i len lk lv st h (pc + 1, S2) := by
  have hPb := hPR.2.2.2.2.2.2.2.2
  have ha2 := ha.2.1
  unfold sxQ at hs
  split at hs
  next b a r hst =>
    rw [hst] at ha2
    obtain ⟨x, y, w, rfl, hx, hy, hr⟩ := ii_of ha2
    split at hs
    next h0 =>
      have hy0 : y = 255 := Int32.toInt_inj.mp (by rw [hy, eqE_ok h0, ev_c]; decide)
      subst hy0
      split at hs
      next hc =>
        cases hs
        simp only [Bool.and_eq_true] at hc
        have e1 := ent_ok ha.2.2.1 _ _ hc.1
        have e2 := ent_ok ha.2.2.1 _ _ hc.2
        rw [ev_sub, ev_c] at e2
        exact ⟨_, .int (x &&& 255) :: w, of_A (fun _ _ => rfl) rfl, Abs.of (abs_st ha ⟨⟨_, rfl, by rw [and255, hx]; show ev ρ a % 256 = ev ρ a; omega⟩, hr⟩)⟩
      next =>
        split at hs
        next hf =>
          cases hs
          have oa : occE S.1 a = false := occ_st hst hf
          refine ⟨_, .int (x &&& 255) :: w, of_A (fun _ _ => rfl) rfl, _, up_np hf, abs_pr (abs_nw (x := (x &&& 255).toInt) hf ha (rng_ok (by rw [uV_n, and255]; omega) (by rw [uV_n, and255]; omega)) ⟨dV_n, aS_tl hf ⟨[_, _], hst⟩ hr⟩) fun q hq => ?_⟩
          obtain rfl := List.mem_singleton.mp hq
          dsimp only
          rw [ev_v, uV_n, ev_u oa, and255, hx]
          exact hPb.1 _ _
        next => cases hs
    next => cases hs
  next b a r hst =>
    rw [hst] at ha2
    obtain ⟨x, y, w, rfl, hx, hy, hr⟩ := ii_of ha2
    split at hs
    next hb =>
      split at hs
      next hc =>
        have hc := of_decide_eq_true hc
        split at hs
        next hf =>
          cases hs
          have oa : occE S.1 a = false := occ_st hst hf
          have hk : y.toInt = (b.1.toNat : Nat) := by rw [hy, ev_nil hb]; omega
          have hsh := shr_k (x := x) (k := b.1.toNat) (by omega) (by omega) hk
          refine ⟨_, .int (x >>> (y &&& 31)) :: w, of_A (fun _ _ => rfl) rfl, _, up_np hf, abs_pr (abs_nw (x := (x >>> (y &&& 31)).toInt) hf ha (i32_ok uV_n) ⟨dV_n, aS_tl hf ⟨[_, _], hst⟩ hr⟩) fun q hq => ?_⟩
          obtain rfl := List.mem_singleton.mp hq
          dsimp only
          rw [ev_v, uV_n, ev_add, ev_u oa, ev_c, hsh, ← hx, show b.1 = (b.1.toNat : Nat) by omega]
          exact hPb.2.2.1 _ _ _ (by omega) (by omega) (i32lo x) (i32hi x)
        next => cases hs
      next => cases hs
    next => cases hs
  next a r hst =>
    rw [hst] at ha2
    obtain ⟨x, w, rfl, hx, hr⟩ := i_of ha2
    have hv : x.toInt8.toInt32.toInt = x.toInt.bmod 256 := by rw [Int8.toInt_toInt32, Int32.toInt_toInt8]
    split at hs
    next hc =>
      cases hs
      simp only [Bool.and_eq_true] at hc
      have e1 := ent_ok ha.2.2.1 _ _ hc.1
      have e2 := ent_ok ha.2.2.1 _ _ hc.2
      rw [ev_add, ev_c] at e1
      rw [ev_sub, ev_c] at e2
      exact ⟨_, .int x.toInt8.toInt32 :: w, of_A (fun _ _ => rfl) rfl, Abs.of (abs_st ha ⟨⟨_, rfl, by rw [hv, hx]; exact Int.bmod_eq_of_le (by omega) (by omega)⟩, hr⟩)⟩
    next =>
    split at hs
    next hc =>
      cases hs
      simp only [Bool.and_eq_true] at hc
      have e1 := ent_ok ha.2.2.1 _ _ hc.1
      have e2 := ent_ok ha.2.2.1 _ _ hc.2
      rw [ev_sub, ev_c] at e1 e2
      exact ⟨_, .int x.toInt8.toInt32 :: w, of_A (fun _ _ => rfl) rfl, Abs.of (abs_st ha ⟨⟨_, rfl, by
        rw [hv, hx, ev_sub, ev_c, Int.bmod_def]
        split <;> omega⟩, hr⟩)⟩
    next =>
      split at hs
      next hf =>
        cases hs
        have oa : occE S.1 a = false := frs_r hst hf
        have hb := toI_i2b x
        refine ⟨_, .int x.toInt8.toInt32 :: w, of_A (fun _ _ => rfl) rfl, _, up_np hf, abs_pr (abs_nw (x := x.toInt8.toInt32.toInt) hf ha (rng_ok (by rw [uV_n]; exact hb.1) (by rw [uV_n]; exact hb.2)) ⟨dV_n, aS_tl hf ⟨[_], hst⟩ hr⟩) fun q hq => ?_⟩
        obtain rfl := List.mem_singleton.mp hq
        dsimp only
        rw [ev_v, uV_n, ev_u oa, hv, hx]
        exact hPb.2.1 _ _
      next => cases hs
  next a r hst =>
    rw [hst] at ha2
    obtain ⟨x, w, rfl, hx, hr⟩ := i_of ha2
    split at hs
    next hc =>
      cases hs
      simp only [Bool.and_eq_true] at hc
      have e1 := ent_ok ha.2.2.1 _ _ hc.1
      have e2 := ent_ok ha.2.2.1 _ _ hc.2
      rw [ev_sub, ev_c] at e2
      exact ⟨_, .int x :: w, of_A (fun _ _ => rfl) (by show some (pc + 1, Value.int (x.toUInt32 % 65536).toInt32 :: w) = _; rw [i2c_same (by omega) (by omega)]), Abs.of (abs_st ha ⟨⟨x, rfl, hx⟩, hr⟩)⟩
    next => cases hs
  next a r hst =>
    cases hs
    rw [hst] at ha2
    obtain ⟨x, w, rfl, hx, hr⟩ := i_of ha2
    exact ⟨_, .long x.toInt64 :: w, of_A (fun _ _ => rfl) rfl, Abs.of (abs_st ha ⟨⟨x.toInt64, rfl, by rw [Int32.toInt_toInt64]; exact hx⟩, hr⟩)⟩
  next b a r hst =>
    rw [hst] at ha2
    obtain ⟨v, v', w, rfl, h1, h2, hr⟩ := aS_c2 ha2
    obtain ⟨y, rfl, hy⟩ := dV7 rfl h1
    obtain ⟨x, rfl, hx⟩ := dV7 rfl h2
    split at hs
    next hc =>
      cases hs
      simp only [Bool.and_eq_true] at hc
      have e1 := ent_ok ha.2.2.1 _ _ hc.1
      have e2 := ent_ok ha.2.2.1 _ _ hc.2
      rw [ev_mul] at e2
      rw [ev_sub] at e1 e2
      dsimp only at hx hy
      have hxy : x = y := Int64.toInt_inj.mp (by omega)
      subst hxy
      refine ⟨_, .int (lg_cmp x x) :: w, of_A (fun _ _ => rfl) rfl, Abs.of (abs_st ha ⟨⟨_, rfl, ?_⟩, hr⟩)⟩
      have hl : lg_cmp x x = 0 := by
        unfold lg_cmp
        rw [if_neg (by rw [gt_iff_lt, Int64.lt_iff_toInt_lt]; omega), if_pos rfl]
      rw [hl, ev_c]
      decide
    next => exact ⟨_, .int (lg_cmp x y) :: w, of_A (fun _ _ => rfl) rfl, unI_ok hs ⟨[_, _], hst⟩ ha hr⟩
  next => cases hs
/-- a long whose number is let go, before what asks no more -/
def wkL (st : List sV) : List sV := st.map fun v => cond (Nat.beq v.1 7) (3, cE 0) v
def wkS (S : sS) : sS := (S.1, S.2.1, wkL S.2.2.1, S.2.2.2)
def isL : Instr → List sV → Bool
  | .ladd, _ | .lsub, _ | .lmul, _ | .l2i, _ | .lstore _, _ | .lstore_n _, _ | .putfield _, _ | .lreturn, _ | .pop2, _ | .dup2, _ | .invokevirtual _, _ | .invokespecial _, _ | .invokestatic _, _ => true
  | .lcmp, (7, _) :: (7, _) :: _ => false
  | .lcmp, _ => true
  | _, _ => false
def wkI (i : Instr) (S : sS) : sS := cond (isL i S.2.2.1) (wkS S) S
theorem aS_wk : ∀ {l : List sV} {st : List Value}, aS ρ l st → aS ρ (wkL l) st
  | [], [], _ => trivial
  | s :: l, v :: st, h => by
    refine ⟨?_, aS_wk (l := l) h.2⟩
    cases hb : Nat.beq s.1 7 with
    | false =>
      show dV ρ (cond (Nat.beq s.1 7) _ _) v
      rw [hb]
      exact h.1
    | true =>
      show dV ρ (cond (Nat.beq s.1 7) _ _) v
      rw [hb]
      obtain ⟨x, hx, -⟩ := dV7 (Nat.eq_of_beq_eq_true hb) h.1
      exact ⟨x, hx⟩
  | [], _ :: _, h => h.elim
  | _ :: _, [], h => h.elim
theorem abs_wk (ha : abs PR G ρ S lv st h) : abs PR G ρ (wkI i S) lv st h := by
  unfold wkI
  cases isL i S.2.2.1 with
  | false => exact ha
  | true => exact ⟨ha.1, aS_wk ha.2.1, ha.2.2⟩
/-- a remainder by what isn't known -/
def sxRm (np d : Nat) (S : sS) : Option sS := match S.2.2.1 with
  | (0, b) :: (0, a) :: r => match b.2 with
    | _ :: _ => if (ent S.2.2.2.1 d (addE b (cE (-1))) && ent S.2.2.2.1 d a) = true then (if frs np S = true then some (sPr (sNw S [vE S.1, subE (addE b (cE (-1))) (vE S.1)] ((0, vE S.1) :: r)) [(130, addE (mulE 8589934592 a) b, vE S.1)]) else none) else none
    | [] => none
  | _ => none
theorem sxRm_ok {S2 : sS} (hPR : PRk PR G gs dp) (hs : sxRm np d S = some S2) (ha : abs PR G ρ S lv st h) : StpA PR G np ρ df nL pc .irem len lk lv st h (pc + 1, S2) := by
  have ha2 := ha.2.1
  unfold sxRm at hs
  split at hs
  next b a r hst =>
    rw [hst] at ha2
    obtain ⟨x, y, w, rfl, hx, hy, hr⟩ := ii_of ha2
    split at hs
    next =>
      split at hs
      next hc =>
        split at hs
        next hf =>
          cases hs
          simp only [Bool.and_eq_true] at hc
          have e1 := ent_ok ha.2.2.1 _ _ hc.1
          have e2 := ent_ok ha.2.2.1 _ _ hc.2
          rw [ev_add, ev_c] at e1
          have oa : occE S.1 a = false := occ_st hst hf
          have ob : occE S.1 b = false := frs_r hst hf
          have hq : (x - x / y * y).toInt = ev ρ a % ev ρ b := by rw [toI_rem (by omega) (by omega), hx, hy]
          have q0 : 0 ≤ ev ρ a % ev ρ b := Int.emod_nonneg _ (by omega)
          have q1 : ev ρ a % ev ρ b < ev ρ b := Int.emod_lt_of_pos _ (by omega)
          have yh := i32hi y
          refine ⟨_, .int (x - x / y * y) :: w, of_A (fun _ _ => rfl) (by show (if y = 0 then none else _) = _; rw [if_neg (nz_of hy (by omega))]), _, up_np hf, abs_pr (abs_nw (x := (x - x / y * y).toInt) hf ha (fun f hf2 => ?_) ⟨dV_n, aS_tl hf ⟨[_, _], hst⟩ hr⟩) fun q hq2 => ?_⟩
          · rcases List.mem_cons.mp hf2 with rfl | hf2
            · rw [ev_v, uV_n, hq]
              exact q0
            · obtain rfl := List.mem_singleton.mp hf2
              rw [ev_sub, ev_add, ev_c, ev_v, uV_n, ev_u ob, hq]
              omega
          · obtain rfl := List.mem_singleton.mp hq2
            dsimp only
            rw [ev_add, ev_mul, ev_v, uV_n, ev_u oa, ev_u ob, hq]
            exact hPR.2.2.2.2.2.2.2.2.2.2.2 _ _ _ (by omega) (by omega)
        next => cases hs
      next => cases hs
    next => cases hs
  next => cases hs
def sxA2 (np d : Nat) (i : Instr) (S : sS) : Option sS := match i with
  | .imul => sxM np d S
  | .irem => sxRm np d S
  | .idiv => sxDn np d S
  | .ishl => sxH d S
  | .ishr => sxH d S
  | .iushr => sxU d S
  | .iand => sxI S
  | _ => none
theorem sxA2_ok {S2 : sS} (hPR : PRk PR G gs dp) (hs : sxA2 np d i S = some S2) (ha : abs PR G ρ S lv st h) : StpA PR G np ρ df nL pc i len lk lv st h (pc + 1, S2) := by
  unfold sxA2 at hs
  split at hs
  · exact sxM_ok hPR hs ha
  · exact sxRm_ok hPR hs ha
  · exact sxDn_ok hs ha
  · exact sxH_ok hs ha
  · exact sxHr_ok hs ha
  · exact sxU_ok hs ha
  · exact sxI_ok hPR hs ha
  · cases hs
/-- the greater one, where the order is known -/
def sxMx (d : Nat) (lk : mK) (S : sS) : Option sS := match S.2.2.1 with
  | (0, b) :: (0, a) :: r => if (Nat.beq lk.1 11 && (Nat.ble (catL r) 8 && ent S.2.2.2.1 d (subE b a))) = true then some (sSt S ((0, b) :: r)) else none
  | _ => none
theorem sxMx_ok {S2 : sS} {idx : Nat} (hs : sxMx d lk S = some S2) (ha : abs PR G ρ S lv st h) : StpA PR G np ρ df nL pc (.invokestatic idx) len lk lv st h (pc + lnI (.invokestatic idx) len, S2) := by
  have ha2 := ha.2.1
  unfold sxMx at hs
  split at hs
  next b a r hst =>
    rw [hst] at ha2
    obtain ⟨x, y, w, rfl, hx, hy, hr⟩ := ii_of ha2
    split at hs
    next hc =>
      cases hs
      simp only [Bool.and_eq_true] at hc
      obtain ⟨c1, c2, c3⟩ := hc
      have c1 := Nat.eq_of_beq_eq_true c1
      have c2 := Nat.le_of_ble_eq_true c2
      have e3 := ent_ok ha.2.2.1 _ _ c3
      rw [ev_sub] at e3
      have hcs : (w.map fun v => v.category).sum ≤ 8 := by rw [catL_ok hr]; exact c2
      have hn : (if x < y then y else x).toInt = ev ρ b := by
        by_cases h0 : ev ρ a < ev ρ b
        · rw [if_pos (by rw [Int32.lt_iff_toInt_lt, hx, hy]; exact h0), hy]
        · rw [if_neg (by rw [Int32.lt_iff_toInt_lt, hx, hy]; exact h0), hx]
          omega
      exact ⟨_, _, of_K ⟨fun _ _ => rfl, fun _ => rfl, fun _ => rfl, fun _ => rfl, fun _ _ => rfl, fun _ => actW_st (by omega)⟩ (q := .int (if x < y then y else x) :: w) (by simp only [actK]; rw [if_pos hcs, if_neg (by omega), if_pos c1]), Abs.of (abs_st ha ⟨⟨_, rfl, hn⟩, hr⟩)⟩
    next => cases hs
  next => cases hs
/-- an absolute value, told beside -/
def sxAb (np d : Nat) (i : Instr) (lk : mK) (S : sS) : Option sS := match i, S.2.2.1 with
  | .invokestatic _, (0, b) :: r => if (Nat.beq lk.1 12 && (Nat.ble (catL r) 8 && (inR d S.2.2.2.1 (mulE (-1) b) && frs np S))) = true then some (sPr (sNw S ((if ent S.2.2.2.1 d b = true then [subE b (vE S.1)] else []) ++ ((if ent S.2.2.2.1 d (mulE (-1) b) = true then [subE (mulE (-1) b) (vE S.1)] else []) ++ ((if (ent S.2.2.2.1 d (subE (cE 99) b) && ent S.2.2.2.1 d (addE (cE 99) b)) = true then [subE (cE 99) (vE S.1)] else []) ++ ([vE S.1, subE (vE S.1) b, addE (vE S.1) b] ++ i32 S.1)))) ((0, vE S.1) :: r)) [(77, b, vE S.1)]) else sxMx d lk S
  | _, _ => none
theorem sxAb_ok {S2 : sS} (hPR : PRk PR G gs dp) (hs : sxAb np d i lk S = some S2) (ha : abs PR G ρ S lv st h) : StpA PR G np ρ df nL pc i len lk lv st h (pc + lnI i len, S2) := by
  have ha0 := ha
  have ha2 := ha.2.1
  unfold sxAb at hs
  split at hs
  next idx b r hst =>
    rw [hst] at ha2
    obtain ⟨y, w, rfl, hy, hr⟩ := i_of ha2
    split at hs
    next hc =>
      cases hs
      simp only [Bool.and_eq_true] at hc
      obtain ⟨c1, c2, c3, hf⟩ := hc
      have c1 := Nat.eq_of_beq_eq_true c1
      have c2 := Nat.le_of_ble_eq_true c2
      have h1 := inR_ok ha.2.2.1 c3
      rw [ev_mul] at h1
      have ob : occE S.1 b = false := frs_r hst hf
      have hn : (if 0 ≤ y then y else 0 - y).toInt = if 0 ≤ ev ρ b then ev ρ b else -ev ρ b := by
        by_cases h0 : 0 ≤ ev ρ b
        · rw [if_pos h0, if_pos (by rw [Int32.le_iff_toInt_le, z00, hy]; exact h0), hy]
        · rw [if_neg h0, if_neg (by rw [Int32.le_iff_toInt_le, z00, hy]; exact h0), toI_sub (by rw [z00, hy]; omega) (by rw [z00, hy]; omega), z00, hy]
          omega
      refine ⟨_, _, of_K ⟨fun _ _ => rfl, fun _ => rfl, fun _ => rfl, fun _ => rfl, fun _ _ => rfl, fun _ => actW_st (by omega)⟩ (actK12 c1 (by rw [catL_ok hr]; exact c2)), _, up_np hf, abs_pr (abs_nw (x := (if 0 ≤ y then y else 0 - y).toInt) hf ha (fun f hff => ?_) ⟨dV_n, aS_tl hf ⟨[_], hst⟩ hr⟩) fun q hq => ?_⟩
      · rcases List.mem_append.mp hff with hff | hff
        · split at hff
          next hb =>
            have b1 := ent_ok ha.2.2.1 _ _ hb
            obtain rfl := List.mem_singleton.mp hff
            rw [ev_sub, ev_v, uV_n, hn, ev_u ob]; split <;> omega
          next => exact absurd hff List.not_mem_nil
        rcases List.mem_append.mp hff with hff | hff
        · split at hff
          next hb =>
            have b1 := ent_ok ha.2.2.1 _ _ hb
            rw [ev_mul] at b1
            obtain rfl := List.mem_singleton.mp hff
            rw [ev_sub, ev_mul, ev_v, uV_n, hn, ev_u ob]; split <;> omega
          next => exact absurd hff List.not_mem_nil
        rcases List.mem_append.mp hff with hff | hff
        · split at hff
          next hb =>
            simp only [Bool.and_eq_true] at hb
            have b1 := ent_ok ha.2.2.1 _ _ hb.1
            have b2 := ent_ok ha.2.2.1 _ _ hb.2
            rw [ev_sub, ev_c] at b1
            rw [ev_add, ev_c] at b2
            obtain rfl := List.mem_singleton.mp hff
            rw [ev_sub, ev_c, ev_v, uV_n, hn]; split <;> omega
          next => exact absurd hff List.not_mem_nil
        rcases List.mem_append.mp hff with hff | hff
        · simp only [List.mem_cons, List.not_mem_nil, or_false] at hff
          rcases hff with rfl | rfl | rfl
          · rw [ev_v, uV_n, hn]; split <;> omega
          · rw [ev_sub, ev_v, uV_n, hn, ev_u ob]; split <;> omega
          · rw [ev_add, ev_v, uV_n, hn, ev_u ob]; split <;> omega
        · exact i32_ok uV_n f hff
      · obtain rfl := List.mem_singleton.mp hq
        dsimp only
        rw [ev_v, uV_n, ev_u ob, hn]
        exact hPR.2.2.2.2.1 _ _
    next => exact sxMx_ok hs ha0
  next => cases hs
/-! a row of bytes that is made -/
def fnN : List (Nat × LE × LE) → Option Int
  | [] => none
  | z :: r => match z.1, z.2.1 with
    | 90, (x, []) => some x
    | _, _ => fnN r
theorem fnN_ok {x : Int} : ∀ {l : List (Nat × LE × LE)}, fnN l = some x → ∃ z ∈ l, z.1 = 90 ∧ z.2.1 = (x, [])
  | [], hq => by cases hq
  | (t, a, b) :: r, hq => by
    unfold fnN at hq
    split at hq
    next h1 h2 =>
      cases hq
      exact ⟨_, List.mem_cons_self, h1, h2⟩
    next =>
      obtain ⟨w, h1, h2⟩ := fnN_ok hq
      exact ⟨w, List.mem_cons_of_mem _ h1, h2⟩
def sxN (gs : Nat → Option gS) (dp : dT) (md : List (Nat × Nat)) (gN : Nat → Option Nat) (i : Instr) (lk : mK) (S : sS) : Option (sS × Nat) := match i, S.2.2.1 with
  | .newarray .byte, (0, (n, [])) :: r => match fnN S.2.2.2.2.2.2.2 with
    | some x => match gN x.toNat with
      | some g => match gs g with
        | some (.inr (t, m, p, [(m2, (0, lo, hi))])) => if decide (lk.1 ≠ 20 ∧ 0 < n ∧ n ≤ 65536 ∧ (m : Int) = n ∧ p = m ∧ m2 = m ∧ t = 1 ∧ lo ≤ 0 ∧ 0 ≤ hi ∧ 0 ≤ x) && mdI md 699 0 then
            some ((S.1, S.2.1, (1, cE x) :: r, S.2.2.2.1, (cE x, g) :: S.2.2.2.2.1, S.2.2.2.2.2.1, (cE x, cE (n - 1), (0, cE 0)) :: (cE x, cE 0, (0, cE 0)) :: S.2.2.2.2.2.2.1, (90, cE (x + 1), cE 0) :: kpP [(699, 0)] dp S.2.2.2.2.2.2.2), m) else none
        | _ => none
      | none => none
    | none => none
  | _, _ => none
theorem fr_app {e : mE} (hm : ((699 : Nat), (0 : Nat)) ∈ md) : fr G gs md h (h ++ [e]) := ⟨⟨by simp, fun hn => absurd hm hn⟩, fun x e1 e2 h1 h2 => by
  rw [List.getElem?_append_left (List.getElem?_eq_some_iff.mp h1).1] at h2
  cases h1.symm.trans h2
  exact frC_rf⟩
set_option maxHeartbeats 1000000 in
theorem sxN_ok {S2 : sS} {k : Nat} {gN : Nat → Option Nat} (hPR : PRk PR G gs dp) (hgN : ∀ x g, gN x = some g → G x = g) (hs : sxN gs dp md gN i lk S = some (S2, k)) (hT : TI G gs h) (ha : abs PR G ρ S lv st h) :
    ∃ st2 h2, stp none df nL pc i len lk lv st h = some (pc + lnI i len, lv, st2, h2, 1, k) ∧ abs PR G ρ S2 lv st2 h2 ∧ TI G gs h2 ∧ fr G gs md h h2 := by
  have ha2 := ha.2.1
  unfold sxN at hs
  split at hs
  next n r hst =>
    rw [hst] at ha2
    obtain ⟨y, w, rfl, hy, hr⟩ := i_of ha2
    have hy : y.toInt = n := by
      rw [hy]
      exact ev_c
    obtain ⟨x, hx⟩ : ∃ x, fnN S.2.2.2.2.2.2.2 = some x := by
      cases h9 : fnN S.2.2.2.2.2.2.2 with
      | none => rw [h9] at hs; cases hs
      | some x => exact ⟨x, rfl⟩
    rw [hx] at hs
    dsimp only at hs
    obtain ⟨g, hg⟩ : ∃ g, gN x.toNat = some g := by
      cases h9 : gN x.toNat with
      | none => rw [h9] at hs; cases hs
      | some g => exact ⟨g, rfl⟩
    rw [hg] at hs
    dsimp only at hs
    split at hs
    next t m0 p m lo hi hgs =>
      split at hs
      next hc =>
        cases hs
        simp only [Bool.and_eq_true, decide_eq_true_eq] at hc
        obtain ⟨⟨k20, n0, n1, hmn, rfl, rfl, rfl, l0, l1, x0⟩, hm⟩ := hc
        have hmd := mdI_ok hm
        obtain ⟨z, hz, z1, z2⟩ := fnN_ok hx
        have hlen := ha.2.2.2.2.2.2 z hz
        rw [z1, z2] at hlen
        have hlen := hPR.2.2.2.2.2.1 _ _ _ hlen
        rw [show ev ρ (x, []) = x from ev_c] at hlen
        have hxl : x.toNat = h.length := by omega
        have hG := hgN _ _ hg
        have hcl : y.toNatClampNeg = m := by
          rw [Int32.toNatClampNeg, hy]
          omega
        have hT2 : TI G gs (h ++ [.inl (1, m, .inl fun _ => 0)]) := by
          intro a sp hsp
          obtain ⟨t1, t2⟩ := hT a sp hsp
          refine ⟨fun he => ?_, fun e he => ?_⟩
          · obtain ⟨e, h1⟩ := t1 he
            exact ⟨e, by rw [List.getElem?_append_left (List.getElem?_eq_some_iff.mp h1).1]; exact h1⟩
          · rcases Nat.lt_or_ge a h.length with hlt | hge
            · rw [List.getElem?_append_left hlt] at he
              exact t2 e he
            · have ha1 := (List.getElem?_eq_some_iff.mp he).1
              have hae : a = h.length := by simp at ha1; omega
              subst hae
              rw [List.getElem?_append_right (Nat.le_refl _), Nat.sub_self] at he
              cases he
              rw [← hxl, hG, hgs] at hsp
              cases hsp
              refine ⟨rfl, rfl, rfl, fun i9 hi9 => ⟨0, (0, lo, hi), by unfold segAt; rw [if_pos (Nat.mod_lt _ (by omega))], (0 : Int32), rfl, by rw [z00]; exact l0, by rw [z00]; exact l1⟩⟩
        have hfr : fr G gs [(699, 0)] h (h ++ [.inl (1, m, .inl fun _ => 0)]) := fr_app (List.mem_singleton.mpr rfl)
        obtain ⟨a1, a2, a3, a4, a5, a6, a7⟩ := ha
        refine ⟨.ref h.length :: w, h ++ [.inl (1, m, .inl fun _ => 0)], ?_, ⟨a1, ⟨⟨by show 0 ≤ ev ρ (cE x); rw [ev_c]; exact x0, by show _ = Value.ref (ev ρ (cE x)).toNat; rw [ev_c, hxl]⟩, hr⟩, a3, fun q hq => ?_, fun q hq => ?_, fun q hq => ?_, fun q hq => ?_⟩, hT2, fr_app hmd⟩
        · have e1 : actN df (.newarray .byte) lk (.int y :: w) h = some (.ref h.length :: w, .inl (1, m, .inl fun _ => 0), m) := by
            have e2 : ¬ y < 0 := by
              rw [Int32.lt_iff_toInt_lt, hy]
              have : (0 : Int32).toInt = 0 := by decide
              omega
            show (if ¬ y < 0 ∧ y.toNatClampNeg ≤ 65536 ∧ tgA .byte < 900 then _ else _) = _
            rw [hcl, if_pos ⟨e2, by omega, by decide⟩]
            rfl
          have e3 : actX none (.newarray .byte) (.int y :: w) = none := rfl
          unfold stp
          rw [show actC (.newarray .byte) pc lv (.int y :: w) = none from rfl, show actA (.newarray .byte) pc (.int y :: w) = none from rfl, show actR (.newarray .byte) lk (.int y :: w) h = none from rfl, show actB (.newarray .byte) pc (.int y :: w) = none from rfl, show actS nL (.newarray .byte) pc lv (.int y :: w) = none from rfl, show actW (.newarray .byte) lk (.int y :: w) h = none from rfl, show actK (.newarray .byte) lk (.int y :: w) = none from rfl, e3, e1]
          dsimp only
          rw [if_neg k20]
        · rcases List.mem_cons.mp hq with rfl | hq
          · rw [ev_c]
            exact ⟨x0, hG⟩
          · exact a4 q hq
        · obtain ⟨ci, fs, v, g1, g2⟩ := a5 q hq
          exact ⟨ci, fs, v, by rw [List.getElem?_append_left (List.getElem?_eq_some_iff.mp g1).1]; exact g1, g2⟩
        · rcases List.mem_cons.mp hq with rfl | hq
          · refine ⟨1, m, .inl fun _ => 0, ?_, by rw [ev_c]; omega, by rw [ev_c]; omega, ⟨0, rfl, by rw [ev_c]; rfl⟩⟩
            rw [ev_c, hxl, List.getElem?_append_right (Nat.le_refl _), Nat.sub_self]
            rfl
          rcases List.mem_cons.mp hq with rfl | hq
          · refine ⟨1, m, .inl fun _ => 0, ?_, by rw [ev_c]; omega, by rw [ev_c]; omega, ⟨0, rfl, by rw [ev_c]; rfl⟩⟩
            rw [ev_c, hxl, List.getElem?_append_right (Nat.le_refl _), Nat.sub_self]
            rfl
          · obtain ⟨t', n', c', g1, g2⟩ := a6 q hq
            exact ⟨t', n', c', by rw [List.getElem?_append_left (List.getElem?_eq_some_iff.mp g1).1]; exact g1, g2⟩
        · rcases List.mem_cons.mp hq with rfl | hq
          · refine hPR.2.2.2.2.2.2.1 _ _ _ ?_
            dsimp only
            rw [ev_c]
            rw [List.length_append, List.length_singleton]
            omega
          · exact kpP_ok hPR hT hT2 hfr a7 q hq
      next => cases hs
    next => cases hs
  next => cases hs
/-! the law's script: what was read is remembered (120) -/
def fnS (j : LE) : List (Nat × LE × LE) → Option LE
  | [] => none
  | z :: r => if (Nat.beq z.1 120 && eqE z.2.1 j) = true then some z.2.2 else fnS j r
theorem fnS_ok {j q : LE} : ∀ {l : List (Nat × LE × LE)}, fnS j l = some q → ∃ z ∈ l, z.1 = 120 ∧ z.2.1 = j ∧ z.2.2 = q
  | [], hq => by cases hq
  | z :: r, hq => by
    unfold fnS at hq
    split at hq
    next hc =>
      cases hq
      simp only [Bool.and_eq_true] at hc
      exact ⟨z, List.mem_cons_self, Nat.eq_of_beq_eq_true hc.1, eqE_ok hc.2, rfl⟩
    next =>
      obtain ⟨w, h1, h2⟩ := fnS_ok hq
      exact ⟨w, List.mem_cons_of_mem _ h1, h2⟩
def sxX0 (x0 np d : Nat) (i : Instr) (S : sS) : Option sS := match i, S.2.2.1 with
  | .arraylength, (1, e) :: r => if eqE e (cE x0) = true then some (sSt S ((0, vE 0) :: r)) else none
  | .iaload, (0, j) :: (1, e) :: r => if (eqE e (cE x0) && (ent S.2.2.2.1 d j && ent S.2.2.2.1 d (subE (subE (vE 0) (cE 1)) j))) = true then (match fnS j S.2.2.2.2.2.2.2 with
    | some v => some (sSt S ((0, v) :: r))
    | none => if frs np S = true then some (sPr (sNw S (i32 S.1) ((0, vE S.1) :: r)) [(120, j, vE S.1)]) else none) else none
  | _, _ => none
theorem sxX0_ok {x0 n : Nat} {f : Nat → Int32} {z : Nat → Int64} {S2 : sS} (hPS : ∀ (j v : Int) (h : mH), PR 120 j v h ↔ v = (f j.toNat).toInt) (hs : sxX0 x0 np d i S = some S2) (hx0 : h[x0]? = some (.inl (999, 0, .inr (.inl z)))) (hn : ρ 0 = n) (hn2 : n < 2 ^ 31) (ha : abs PR G ρ S lv st h) :
    ∃ st2, stp (some (x0, n, f)) df nL pc i len lk lv st h = some (pc + 1, lv, st2, h, 0, 0) ∧ Abs PR G np ρ S2 lv st2 h := by
  have ha2 := ha.2.1
  unfold sxX0 at hs
  split at hs
  next e r hst =>
    split at hs
    next hc =>
      cases hs
      rw [hst] at ha2
      obtain ⟨v, w, rfl, hv, hr⟩ := aS_cons ha2
      obtain ⟨h1, rfl⟩ := dV1 rfl hv
      have he : (ev ρ e).toNat = x0 := by rw [eqE_ok hc, ev_c]; rfl
      rw [he]
      refine ⟨.int (Int32.ofNat n) :: w, ?_, Abs.of (abs_st ha ⟨⟨_, rfl, ?_⟩, hr⟩)⟩
      · have e1 : actR .arraylength lk (.ref x0 :: w) h = none := by
          unfold actR
          simp only [hx0]
          rfl
        have e2 : actX (some (x0, n, f)) .arraylength (.ref x0 :: w) = some (.int (Int32.ofNat n) :: w) := by
          unfold actX
          simp only [if_true]
        unfold stp
        rw [show actC .arraylength pc lv (.ref x0 :: w) = none from rfl, show actA .arraylength pc (.ref x0 :: w) = none from rfl, e1, show actB .arraylength pc (.ref x0 :: w) = none from rfl, show actS nL .arraylength pc lv (.ref x0 :: w) = none from rfl, show actW .arraylength lk (.ref x0 :: w) h = none from rfl, show actK .arraylength lk (.ref x0 :: w) = none from rfl, e2]
        rfl
      · show (Int32.ofNat n).toInt = ev ρ (vE 0)
        rw [ev_v, hn]
        exact nI_toInt hn2
    next => cases hs
  next j e r hst =>
    split at hs
    next hc =>
      simp only [Bool.and_eq_true] at hc
      obtain ⟨c1, c2, c3⟩ := hc
      rw [hst] at ha2
      obtain ⟨y, w1, rfl, hy, hr1⟩ := i_of ha2
      obtain ⟨v, w, rfl, hv, hr⟩ := aS_cons hr1
      obtain ⟨h1, rfl⟩ := dV1 rfl hv
      have he : (ev ρ e).toNat = x0 := by rw [eqE_ok c1, ev_c]; rfl
      rw [he] at *
      have j0 := ent_ok ha.2.2.1 _ _ c2
      have j1 := ent_ok ha.2.2.1 _ _ c3
      rw [ev_sub, ev_sub, ev_v, ev_c, hn] at j1
      have hcl : y.toNatClampNeg = (ev ρ j).toNat := by rw [Int32.toNatClampNeg, hy]
      have hA : Abs PR G np ρ S2 lv (.int (f y.toNatClampNeg) :: w) h := by
        split at hs
        next v hv =>
          cases hs
          obtain ⟨z9, hz, z1, z2, rfl⟩ := fnS_ok hv
          have g1 := ha.2.2.2.2.2.2 z9 hz
          rw [z1, z2] at g1
          have g2 := (hPS _ _ _).mp g1
          exact Abs.of (abs_st ha ⟨⟨_, rfl, by rw [hcl]; exact g2.symm⟩, hr⟩)
        next =>
          split at hs
          next hf =>
            cases hs
            have oj : occE S.1 j = false := frs_r hst hf
            refine ⟨_, up_np hf, abs_pr (abs_nw (x := (f y.toNatClampNeg).toInt) hf ha (i32_ok (x := f y.toNatClampNeg) uV_n) ⟨dV_n, aS_tl hf ⟨[_, _], hst⟩ hr⟩) fun q hq => ?_⟩
            obtain rfl := List.mem_singleton.mp hq
            refine (hPS _ _ _).mpr ?_
            dsimp only
            rw [ev_v, uV_n, ev_u oj, hcl]
          next => cases hs
      refine ⟨.int (f y.toNatClampNeg) :: w, ?_, hA⟩
      have e1 : actR .iaload lk (.int y :: .ref x0 :: w) h = none := by
        unfold actR
        simp only [hx0]
      have e0 : ¬ (y < 0 ∨ n ≤ y.toNatClampNeg) := by
        rintro (h9 | h9)
        · rw [Int32.lt_iff_toInt_lt, hy] at h9
          have : (0 : Int32).toInt = 0 := by decide
          omega
        · omega
      have e2 : actX (some (x0, n, f)) .iaload (.int y :: .ref x0 :: w) = some (.int (f y.toNatClampNeg) :: w) := by
        unfold actX
        dsimp only
        rw [if_pos ⟨rfl, e0⟩]
      unfold stp
      rw [show actC .iaload pc lv (.int y :: .ref x0 :: w) = none from rfl, show actA .iaload pc (.int y :: .ref x0 :: w) = none from rfl, e1, show actB .iaload pc (.int y :: .ref x0 :: w) = none from rfl, show actS nL .iaload pc lv (.int y :: .ref x0 :: w) = none from rfl, show actW .iaload lk (.int y :: .ref x0 :: w) h = none from rfl, show actK .iaload lk (.int y :: .ref x0 :: w) = none from rfl, e2]
      rfl
    next => cases hs
  next => cases hs
/-- what goes without the script goes with it -/
theorem stp_sc {sc : mSc} {a : Nat} {b : mL} {c : List Value} {e : mH} {k : Nat} (hs : stp none df nL pc i len lk lv st h = some (a, b, c, e, 0, k)) : stp sc df nL pc i len lk lv st h = some (a, b, c, e, 0, k) := by
  unfold stp at hs ⊢
  split at hs
  next => exact hs
  next =>
  split at hs
  next => exact hs
  next =>
  split at hs
  next => exact hs
  next =>
  split at hs
  next => exact hs
  next =>
  split at hs
  next => exact hs
  next =>
  split at hs
  next => exact hs
  next =>
  split at hs
  next => exact hs
  next =>
  split at hs
  next q hq => cases hq
  next =>
  split at hs
  next => cases hs
  next =>
    split at hs
    next => cases hs
    next => cases hs
/-- making a row, with a script or without -/
theorem stp_scN {sc : mSc} {a : Nat} {b : mL} {c : List Value} {e : mH} {k : Nat} {at0 : ArrayType} (hs : stp none df nL pc (.newarray at0) len lk lv st h = some (a, b, c, e, 1, k)) : stp sc df nL pc (.newarray at0) len lk lv st h = some (a, b, c, e, 1, k) := by
  have e3 : actX sc (.newarray at0) st = none := by cases sc <;> rfl
  have e4 : actX none (.newarray at0) st = none := rfl
  unfold stp at hs ⊢
  rw [e4] at hs
  rw [e3]
  exact hs
end NUM
