/-! The law's loop: round after round. -/
section LWP
variable {G C : Nat → Nat} {D : Nat} {xs : Nat → Int32}
theorem lw_k63 (v : Int32) : 0 ≤ (v &&& 63).toInt ∧ (v &&& 63).toInt < 64 := by
  have h1 : (v &&& 63).toBitVec.toNat < 64 := by
    show (v.toBitVec &&& (63 : Int32).toBitVec).toNat < 64
    rw [BitVec.toNat_and]
    exact Nat.lt_of_le_of_lt Nat.and_le_right (by decide)
  have h2 : (v &&& 63).toInt = ((v &&& 63).toBitVec.toNat : Int) := by
    show (v &&& 63).toBitVec.toInt = _
    exact BitVec.toInt_eq_toNat_of_lt (by omega)
  omega
/-- what the law's run is to come to -/
def lwP0 (G : Nat → Nat) (h0 : mH) : mPost := fun e v h => TI G rgs h ∧ fr G rgs lwMd h0 h ∧ e = none ∧ v = some (.int 1)
theorem lw_to {np : Nat} {c : Ctr} {PR : Nat → Int → Int → mH → Prop} {ρ : Va} {h0 : mH} (hc : c = ((np, [], [], [], [], [], [], []), [(np, [], [(0, cE 1)], [], [], [], [], [])], lwMd, [])) (e : Option Nat) (v : Option Value) (h : mH) : ctrP PR G rgs c ρ h0 e v h ↔ lwP0 G h0 e v h := by
  subst hc
  constructor
  · rintro ⟨t1, t2, t3⟩
    refine ⟨t1, t2, ?_⟩
    cases e with
    | none =>
      obtain ⟨P, hP, ρ', r1, y1, y2, -⟩ := t3
      obtain rfl := List.mem_singleton.mp hP
      refine ⟨rfl, ?_⟩
      cases v with
      | none => exact y2.elim
      | some w =>
        obtain ⟨⟨x, hx, hx1⟩, -⟩ := y2
        have hx1 : x.toInt = 1 := by rw [hx1]; exact ev_c
        have : x = 1 := Int32.toInt_inj.mp (by rw [hx1]; decide)
        subst this
        rw [hx]
    | some E =>
      obtain ⟨z, hz, -⟩ := t3
      exact absurd hz List.not_mem_nil
  · rintro ⟨t1, t2, rfl, rfl⟩
    refine ⟨t1, t2, _, List.mem_cons_self, ρ, fun _ _ => rfl, fun q hq => absurd hq List.not_mem_nil, ⟨⟨1, rfl, by rw [ev_c]; decide⟩, trivial⟩, fun q hq => absurd hq List.not_mem_nil, fun q hq => absurd hq List.not_mem_nil, fun q hq => absurd hq List.not_mem_nil, fun q hq => absurd hq List.not_mem_nil, fun q hq => absurd hq List.not_mem_nil⟩
/-- the round's start out of a cut -/
theorem lwSt_ok {PR : Nat → Int → Int → mH → Prop} {q : Cut} {i : Nat} {k v : Int} {ρ : Va} {lv : mL} {h : mH} (ho : occS q.2.1.1 q.2.1 = false) (hi : i < q.2.1.1) (ha : abs PR G ρ q.2.1 lv [] h) (h1 : PR 120 (ρ i) v h) (h2 : PR 122 v k h) :
    abs PR G (uV ρ q.2.1.1 v) (lwSt q i k) lv [] h := by
  obtain ⟨a1, a2, a3, a4, a5, a6, a7⟩ := abs_u (x := v) ho ha
  refine ⟨a1, a2, a3, a4, a5, a6, fun z hz => ?_⟩
  rcases List.mem_cons.mp hz with rfl | hz
  · dsimp only
    rw [ev_v, ev_v, uV_n, uV_o (by omega)]
    exact h1
  rcases List.mem_cons.mp hz with rfl | hz
  · dsimp only
    rw [ev_v, uV_n, ev_c]
    exact h2
  · exact a7 z hz
/-- the forms of the builder: its row's cell, its group, its length -/
def lwbX (f : Nat) : Nat := cond (Nat.beq f 0) 757 (789 + f)
def lwbG (f : Nat) : Nat := cond (Nat.beq f 0) 149 (600 + f)
def lwbN : Nat → Nat
  | 0 => 16
  | f + 1 => 2 * lwbN f + 2
/-- a state of the loop, with so many rounds to go -/
def lwI (PR : Nat → Int → Int → mH → Prop) (G : Nat → Nat) (Ln M : Nat) (lv : mL) (h : mH) : Prop := ∃ (f : Nat) (q : Cut) (ρ : Va), lwF[f]? = some q ∧ abs PR G ρ q.2.1 lv [] h ∧ ρ 0 = Ln ∧ ev ρ q.2.2.2.1 = M
end LWP
section LWQ
variable {G C : Nat → Nat} {D : Nat}
def lwTh (f : Nat) : List LE := [vE 0, cE (lwbX f), cE (790 + f), vE 10, vE 1, vE 2, vE 3, vE 4, vE 5, vE 6, vE 7, vE 8, vE 9, vE 11, vE 12, vE 13, vE 14, vE 15, vE 16, vE 17, vE 18, vE 19, vE 21, vE 22, vE 23, vE 24, vE 25, vE 26, vE 27, vE 28]
def lwTb : List LE := [vE 0, vE 4, vE 5, vE 6, vE 7, vE 8, vE 9, vE 10, vE 11, vE 12, vE 3, vE 13, vE 14, vE 15, vE 16, vE 17, vE 18, vE 19, vE 20, vE 21, vE 30, vE 22, vE 23, vE 24, vE 25, vE 26, vE 27, vE 28, vE 29]
/-- the general state with what is known of the builder -/
def lwE (f : Nat) : sS := (31, lwG.2.1.2.1, [], vE 3 :: subE (cE (lwbN f)) (vE 3) :: addE (vE 30) (cE 128) :: subE (cE 127) (vE 30) :: lwG.2.1.2.2.2.1, (cE (lwbX f), lwbG f) :: lwG.2.1.2.2.2.2.1, (cE 756, 0, (1, cE (lwbX f))) :: lwG.2.1.2.2.2.2.2.1, (cE (lwbX f), cE 0, (0, vE 30)) :: lwG.2.1.2.2.2.2.2.2.1, (90, cE (790 + f), cE 0) :: lwG.2.1.2.2.2.2.2.2.2)
def lwOK (f : Nat) (q : Cut) : Bool := Nat.beq q.1 28 && (Nat.beq q.2.1.1 29 && (!(occS 29 q.2.1) && (eqE q.2.2.2.1 (512, [(21, -1)]) && (Nat.beq q.2.2.2.2.1 657 && (Nat.beq q.2.2.2.2.2 50952 && (ent q.2.1.2.2.2.1 1 q.2.2.2.1 && (ent q.2.1.2.2.2.1 1 (subE (cE 512) q.2.2.2.1) && (ent q.2.1.2.2.2.1 1 (vE 10) && (ent q.2.1.2.2.2.1 1 (subE (cE (lwbN f)) (vE 10)) &&
  (fits 1 q.2.1 (lwTh f) [] lwG.2.1 && (fitL 30 (lwTh f) q.2.1.2.1 lwG.2.1.2.1 && (fits 1 (lwE f) lwTb [] q.2.1 && (fitL 29 lwTb lwG.2.1.2.1 q.2.1.2.1 && q.2.1.2.2.1.isEmpty)))))))))))))
theorem lwF_ok : ∀ (f : Nat) (q : Cut), lwF[f]? = some q → f < 7 ∧ lwOK f q = true
  | 0, q, h => by cases h; exact ⟨by omega, by decide +kernel⟩
  | 1, q, h => by cases h; exact ⟨by omega, by decide +kernel⟩
  | 2, q, h => by cases h; exact ⟨by omega, by decide +kernel⟩
  | 3, q, h => by cases h; exact ⟨by omega, by decide +kernel⟩
  | 4, q, h => by cases h; exact ⟨by omega, by decide +kernel⟩
  | 5, q, h => by cases h; exact ⟨by omega, by decide +kernel⟩
  | 6, q, h => by cases h; exact ⟨by omega, by decide +kernel⟩
  | n + 7, q, h => by cases h
theorem lwb_gs (f : Nat) (hf : f < 7) : rgs (lwbG f) = some (.inr (1, lwbN f, lwbN f, [(lwbN f, (0, -128, 127))])) := by
  have hb : ∀ f, f < 7 → (match rgs (lwbG f) with | some (.inr (t, n, p, [(m, (z, lo, hi))])) => decide (t = 1 ∧ n = lwbN f ∧ p = lwbN f ∧ m = lwbN f ∧ z = 0 ∧ lo = -128 ∧ hi = 127) | _ => false) = true := by decide +kernel
  have h := hb f hf
  split at h
  next t n p m z lo hi he =>
    obtain ⟨rfl, rfl, rfl, rfl, rfl, rfl, rfl⟩ := of_decide_eq_true h
    exact he
  next => cases h
theorem lwb_n : ∀ f, f < 7 → 0 < lwbN f := by decide +kernel
/-- an element of the builder's row -/
theorem lwb_el {h : mH} {f : Nat} (hf : f < 7) (hT : TI G rgs h) (hGs : ∀ f, f < 7 → G (lwbX f) = lwbG f) (hl : h.length = 790 + f) : ∃ (c : mC) (z : Int32), h[lwbX f]? = some (.inl (1, lwbN f, c)) ∧ elV c 0 = .int z ∧ -128 ≤ z.toInt ∧ z.toInt ≤ 127 := by
  have hlt : lwbX f < h.length := by
    rw [hl]
    unfold lwbX
    cases hb : Nat.beq f 0 with
    | true => dsimp only [cond_true]; omega
    | false => dsimp only [cond_false]; omega
  have hgs := lwb_gs f hf
  rw [← hGs f hf] at hgs
  obtain ⟨c, h1, h2, h3⟩ := TI_arr hT hgs (Or.inr ⟨_, List.getElem?_eq_getElem hlt⟩)
  obtain ⟨k, ff, h4, h5⟩ := h3 0 (lwb_n f hf)
  unfold segAt at h4
  rw [if_pos (Nat.mod_lt _ (lwb_n f hf))] at h4
  cases h4
  obtain ⟨z, z1, z2, z3⟩ := h5
  exact ⟨c, z, h1, z1, z2, z3⟩
/-- back from the general state -/
theorem lw_back {xs : Nat → Int32} {h : mH} {lv : mL} {st : List Value} {f M : Nat} {q : Cut} {ρ : Va} {Ln : Nat} (hq : lwF[f]? = some q) (hT : TI G rgs h) (hGs : ∀ f, f < 7 → G (lwbX f) = lwbG f) (ha : abs (PRd G C D xs) G ρ lwG.2.1 lv st h) (h0 : ρ 0 = Ln) (h1 : ρ 1 = (lwbX f : Int)) (h2 : ρ 2 = ((790 + f : Nat) : Int)) (h3 : 0 ≤ ρ 3 ∧ ρ 3 ≤ (lwbN f : Int)) (hM : ev ρ lwG.2.2.2.1 = M) : st = [] ∧ lwI (PRd G C D xs) G Ln M lv h := by
  obtain ⟨hf, hok⟩ := lwF_ok f q hq
  unfold lwOK at hok
  simp only [Bool.and_eq_true] at hok
  obtain ⟨-, -, -, o4, -, -, -, -, -, -, -, -, o13, o14, o15⟩ := hok
  have hst : st = [] := by
    have h9 := ha.2.1
    cases st with
    | nil => rfl
    | cons _ _ => exact h9.elim
  subst hst
  refine ⟨rfl, ?_⟩
  have hlen : h.length = 790 + f := by
    have h9 : PRd G C D xs 90 (ev ρ (vE 2)) (ev ρ (cE 0)) h := ha.2.2.2.2.2.2 (90, vE 2, cE 0) List.mem_cons_self
    have h10 : (h.length : Int) = ev ρ (vE 2) := h9
    rw [ev_v, h2] at h10
    omega
  obtain ⟨c, z, e1, e2, e3, e4⟩ := lwb_el hf hT hGs hlen
  have hocc : occS 30 lwG.2.1 = false := by decide +kernel
  obtain ⟨a1, a2, a3, a4, a5, a6, a7⟩ := abs_u (x := z.toInt) hocc ha
  have s1 : uV ρ 30 z.toInt 1 = (lwbX f : Int) := by rw [uV_o (by omega), h1]
  have s3 : uV ρ 30 z.toInt 3 = ρ 3 := uV_o (by omega)
  have hE : abs (PRd G C D xs) G (uV ρ 30 z.toInt) (lwE f) lv [] h := by
    refine ⟨a1, trivial, fun g hg => ?_, fun g hg => ?_, fun g hg => ?_, fun g hg => ?_, fun g hg => ?_⟩
    · rcases List.mem_cons.mp hg with rfl | hg
      · rw [ev_v, s3]; exact h3.1
      rcases List.mem_cons.mp hg with rfl | hg
      · rw [ev_sub, ev_c, ev_v, s3]; omega
      rcases List.mem_cons.mp hg with rfl | hg
      · rw [ev_add, ev_c, ev_v, uV_n]; omega
      rcases List.mem_cons.mp hg with rfl | hg
      · rw [ev_sub, ev_c, ev_v, uV_n]; omega
      · exact a3 g hg
    · rcases List.mem_cons.mp hg with rfl | hg
      · dsimp only
        rw [ev_c]
        exact ⟨by omega, hGs f hf⟩
      · exact a4 g hg
    · rcases List.mem_cons.mp hg with rfl | hg
      · obtain ⟨ci, fs, v, g1, g2, g3⟩ := a5 (cE 756, 0, (1, vE 1)) List.mem_cons_self
        refine ⟨ci, fs, v, g1, g2, ?_⟩
        obtain ⟨g4, g5⟩ := g3
        dsimp only at g4 g5
        rw [ev_v, s1] at g5
        refine ⟨by dsimp only; rw [ev_c]; omega, ?_⟩
        rw [g5]
        dsimp only
        rw [ev_c]
      · exact a5 g hg
    · rcases List.mem_cons.mp hg with rfl | hg
      · dsimp only
        refine ⟨1, lwbN f, c, by rw [ev_c]; exact e1, by rw [ev_c]; omega, by rw [ev_c]; have := lwb_n f hf; omega, ⟨z, by rw [ev_c]; exact e2, by rw [ev_v, uV_n]⟩⟩
      · exact a6 g hg
    · rcases List.mem_cons.mp hg with rfl | hg
      · show (h.length : Int) = ev _ (cE (790 + f))
        rw [ev_c, hlen]
        omega
      · exact a7 g hg
  have hb := fits_ok (lv' := lv) o13 (fitL_ok o14 hE.1) hE (show aS _ [] [] from trivial)
  refine ⟨f, q, thE lwTb (uV ρ 30 z.toInt), hq, hb, ?_, ?_⟩
  · show ev (uV ρ 30 z.toInt) (vE 0) = Ln
    rw [ev_v, uV_o (by omega), h0]
  · rw [eqE_ok o4]
    show 512 + (-1 * ev (uV ρ 30 z.toInt) (vE 22) + 0) = (M : Int)
    rw [ev_v, uV_o (by omega), ← hM]
    show _ = 512 + (-1 * ρ 22 + 0)
    rfl
end LWQ
section LWR
variable {G C : Nat → Nat} {D : Nat}
theorem ckG_all : ∀ k : Nat, k < 64 → ¬ (k = 44 ∨ k = 45) → ckG (k : Int) = true
  | 0, _, h => ckG_0
  | 1, _, h => ckG_1
  | 2, _, h => ckG_2
  | 3, _, h => ckG_3
  | 4, _, h => ckG_4
  | 5, _, h => ckG_5
  | 6, _, h => ckG_6
  | 7, _, h => ckG_7
  | 8, _, h => ckG_8
  | 9, _, h => ckG_9
  | 10, _, h => ckG_10
  | 11, _, h => ckG_11
  | 12, _, h => ckG_12
  | 13, _, h => ckG_13
  | 14, _, h => ckG_14
  | 15, _, h => ckG_15
  | 16, _, h => ckG_16
  | 17, _, h => ckG_17
  | 18, _, h => ckG_18
  | 19, _, h => ckG_19
  | 20, _, h => ckG_20
  | 21, _, h => ckG_21
  | 22, _, h => ckG_22
  | 23, _, h => ckG_23
  | 24, _, h => ckG_24
  | 25, _, h => ckG_25
  | 26, _, h => ckG_26
  | 27, _, h => ckG_27
  | 28, _, h => ckG_28
  | 29, _, h => ckG_29
  | 30, _, h => ckG_30
  | 31, _, h => ckG_31
  | 32, _, h => ckG_32
  | 33, _, h => ckG_33
  | 34, _, h => ckG_34
  | 35, _, h => ckG_35
  | 36, _, h => ckG_36
  | 37, _, h => ckG_37
  | 38, _, h => ckG_38
  | 39, _, h => ckG_39
  | 40, _, h => ckG_40
  | 41, _, h => ckG_41
  | 42, _, h => ckG_42
  | 43, _, h => ckG_43
  | 44, _, h => absurd (by omega) h
  | 45, _, h => absurd (by omega) h
  | 46, _, h => ckG_46
  | 47, _, h => ckG_47
  | 48, _, h => ckG_48
  | 49, _, h => ckG_49
  | 50, _, h => ckG_50
  | 51, _, h => ckG_51
  | 52, _, h => ckG_52
  | 53, _, h => ckG_53
  | 54, _, h => ckG_54
  | 55, _, h => ckG_55
  | 56, _, h => ckG_56
  | 57, _, h => ckG_57
  | 58, _, h => ckG_58
  | 59, _, h => ckG_59
  | 60, _, h => ckG_60
  | 61, _, h => ckG_61
  | 62, _, h => ckG_62
  | 63, _, h => ckG_63
  | n + 64, h, _ => absurd h (by omega)
theorem ckF_all {f : Nat} {q : Cut} (hq : lwF[f]? = some q) {k : Nat} (hk : k = 44 ∨ k = 45) : ckF q (k : Int) = true := by
  match f, hq with
  | 0, hq =>
    cases hq
    rcases hk with rfl | rfl
    · exact ckF_0_44
    · exact ckF_0_45
  | 1, hq =>
    cases hq
    rcases hk with rfl | rfl
    · exact ckF_1_44
    · exact ckF_1_45
  | 2, hq =>
    cases hq
    rcases hk with rfl | rfl
    · exact ckF_2_44
    · exact ckF_2_45
  | 3, hq =>
    cases hq
    rcases hk with rfl | rfl
    · exact ckF_3_44
    · exact ckF_3_45
  | 4, hq =>
    cases hq
    rcases hk with rfl | rfl
    · exact ckF_4_44
    · exact ckF_4_45
  | 5, hq =>
    cases hq
    rcases hk with rfl | rfl
    · exact ckF_5_44
    · exact ckF_5_45
  | 6, hq =>
    cases hq
    rcases hk with rfl | rfl
    · exact ckF_6_44
    · exact ckF_6_45
  | n + 7, hq => cases hq
theorem lw_mu {PR : Nat → Int → Int → mH → Prop} {q : Cut} (hq : q ∈ lwF ∨ q = lwG) : ∀ ρ lv st h, abs PR G ρ q.2.1 lv st h → 0 ≤ ev ρ q.2.2.2.1 ∧ ev ρ q.2.2.2.1 ≤ 512 := by
  intro ρ lv st h ha
  have hb : ent q.2.1.2.2.2.1 1 q.2.2.2.1 = true ∧ ent q.2.1.2.2.2.1 1 (subE (cE 512) q.2.2.2.1) = true := by
    rcases hq with hq | rfl
    · obtain ⟨f, hf⟩ := List.getElem?_of_mem hq
      obtain ⟨-, hok⟩ := lwF_ok f q hf
      unfold lwOK at hok
      simp only [Bool.and_eq_true] at hok
      exact ⟨hok.2.2.2.2.2.2.1, hok.2.2.2.2.2.2.2.1⟩
    · exact ⟨by decide +kernel, by decide +kernel⟩
  have h1 := ent_ok ha.2.2.1 _ _ hb.1
  have h2 := ent_ok ha.2.2.1 _ _ hb.2
  rw [ev_sub, ev_c] at h2
  exact ⟨h1, by omega⟩
set_option maxHeartbeats 4000000 in
/-- the loop, from its head on -/
theorem lw_loop {L d0 : Nat} {f0 : Nat → Int32} {h0 : mH} {z0 : Nat → Int64} (hU : uqG G C) (hG : ∀ k, k < 65 → G k = 300 + k) (hGs : ∀ f, f < 7 → G (lwbX f) = lwbG f) (hd : 5 ≤ d0) (hL : L < 2 ^ 31) (hz : h0[132]? = some (.inl (999, 0, .inr (.inl z0))))
    (hCL : ∀ ci y c2, lkCL lwCL ci = some (y, c2) → c2.1.2.1 = [] ∧ ctrOK (PRd G C D f0) G rgs (wpM mDf mt d0) y c2) :
    ∀ (M : Nat) (lv : mL) (h : mH), lwI (PRd G C D f0) G L M lv h → TI G rgs h → fr G rgs lwMd h0 h → ∀ n, 3000 * (M + 1) ≤ n → run (some (132, L, f0)) mDf mt (wpM mDf mt d0) m_law d0 n 28 lv [] h (657 + 66 * (512 - M)) (50952 + 12812 * (512 - M)) (lwP0 G h0) := by
  intro M
  induction M using Nat.strongRecOn with
  | _ M ih =>
    intro lv h hI hT hfr n hn
    obtain ⟨f, q, ρ, hq, ha, hρ0, hmu⟩ := hI
    obtain ⟨hf, hok⟩ := lwF_ok f q hq
    have hqm : q ∈ lwF := List.mem_of_getElem? hq
    have hMB := lw_mu (Or.inl hqm) ρ lv [] h ha
    rw [hmu] at hMB
    have hok2 := hok
    unfold lwOK at hok2
    simp only [Bool.and_eq_true, Bool.not_eq_true'] at hok2
    obtain ⟨o1, o2, o3, o4, o5, o6, -, -, o9, o10, o11, o12, -, -, -⟩ := hok2
    have o1 := Nat.eq_of_beq_eq_true o1
    have o2 := Nat.eq_of_beq_eq_true o2
    have o4 := eqE_ok o4
    have o5 := Nat.eq_of_beq_eq_true o5
    have o6 := Nat.eq_of_beq_eq_true o6
    have hsc : ∀ (npm : Nat) (ρm : Va), 1 ≤ npm → ρm 0 = (L : Int) → ∀ x0, lwX.1 = some x0 → ∃ (n : Nat) (f : Nat → Int32) (z : Nat → Int64), (some (132, L, f0) : mSc) = some (x0, n, f) ∧ h0[x0]? = some (.inl (999, 0, .inr (.inl z))) ∧ ρm 0 = n ∧ n < 2 ^ 31 ∧ 1 ≤ npm ∧ ∀ (j v : Int) (h : mH), PRd G C D f0 120 j v h ↔ v = (f j.toNat).toInt := by
      intro npm ρm h1 h2 x0 hx0
      cases hx0
      exact ⟨L, f0, z0, rfl, hz, h2, hL, h1, fun j v h => PRd_s j v h⟩
    obtain ⟨v, hv⟩ : ∃ v : Int, v = (f0 (ρ 1).toNat).toInt := ⟨_, rfl⟩
    have hv2 : Int32.ofInt v = f0 (ρ 1).toNat := by rw [hv]; exact Int32.ofInt_toInt _
    have hk := lw_k63 (f0 (ρ 1).toNat)
    obtain ⟨k, hk1⟩ : ∃ k : Nat, (f0 (ρ 1).toNat &&& 63).toInt = (k : Int) := ⟨((f0 (ρ 1).toNat &&& 63).toInt).toNat, by omega⟩
    have hk64 : k < 64 := by omega
    have hP122 : PRd G C D f0 122 v (k : Int) h := by
      show (k : Int) = (Int32.ofInt v &&& 63).toInt
      rw [hv2, hk1]
    have hP120 : PRd G C D f0 120 (ρ 1) v h := (PRd_s _ _ _).mpr hv
    by_cases hk45 : k = 44 ∨ k = 45
    · have hs := lwSt_ok (q := q) (i := 1) (k := (k : Int)) (v := v) (by rw [o2]; exact o3) (by omega) ha hP120 hP122
      have hck := ckF_all hq hk45
      unfold ckF at hck
      have hr := ex_ok (np := 30) (npm := 1) (K := M) (xa := lwX) (sc := some (132, L, f0)) (D := m_law) (c := lw1) (CL := lkCL lwCL) (mv := some q.2.2.2.1) (call := wpM mDf mt d0) (ρm := uV ρ q.2.1.1 v) (ρ0 := uV ρ q.2.1.1 v) (h0 := h0) (df := mDf) (PRd_k hU) hG (by omega) hd (fun P hP => by obtain rfl := List.mem_singleton.mp hP; rfl) (rLLh_ok hU) hCL rfl (wpM_mono d0) (fun _ _ h => by cases h)
        (hsc 1 _ (Nat.le_refl _) (by rw [uV_o (by omega)]; exact hρ0))
        (fun q' hq' ρ2 lv2 st2 h2 x1 x2 x3 x4 M' x5 x6 n' hn' => by
          obtain ⟨f', hf'⟩ := List.getElem?_of_mem hq'
          obtain ⟨-, hok'⟩ := lwF_ok f' q' hf'
          unfold lwOK at hok'
          simp only [Bool.and_eq_true] at hok'
          have p1 := Nat.eq_of_beq_eq_true hok'.1
          have p5 := Nat.eq_of_beq_eq_true hok'.2.2.2.2.1
          have p6 := Nat.eq_of_beq_eq_true hok'.2.2.2.2.2.1
          have p7 := hok'.2.2.2.2.2.2.2.2.2.2.2.2.2.2
          have hst : st2 = [] := by
            have h9 := x1.2.1
            rw [List.isEmpty_iff.mp p7] at h9
            cases st2 with
            | nil => rfl
            | cons _ _ => exact h9.elim
          subst hst
          have h9 := ih M' x6 lv2 h2 ⟨f', q', ρ2, hf', x1, by rw [x4 0 (by omega), uV_o (by omega)]; exact hρ0, x5⟩ x2 x3 n' hn'
          rw [p1, p5, p6]
          refine run_mono (wpM_mono d0) (fun e v h => (lw_to (c := lw1) rfl e v h).mpr) _ _ _ _ _ _ _ ?_
          exact h9)
        (fun q' hq' ρ2 lv2 st2 h2 x1 => lw_mu (Or.inl hq') ρ2 lv2 st2 h2 x1)
        ⟨by rw [o4]; decide, by rw [o4] at hmu ⊢; rw [← hmu, o2]; exact ev_u (by decide), by show M ≤ 512; omega⟩ 3000 hck (uV ρ q.2.1.1 v) lv [] h (fun _ _ => rfl) (fun _ _ => rfl) hs hT hfr n (by omega) (657 + 66 * (512 - M)) (50952 + 12812 * (512 - M)) rfl rfl
      exact run_mono (wpM_mono d0) (fun e v h => (lw_to (c := lw1) rfl e v h).mp) _ _ _ _ _ _ _ hr
    · have haG := fits_ok (lv' := lv) o11 (fitL_ok o12 ha.1) ha (show aS _ [] [] from trivial)
      have g0 : thE (lwTh f) ρ 0 = (L : Int) := by show ev ρ (vE 0) = _; rw [ev_v, hρ0]
      have g1 : thE (lwTh f) ρ 1 = (lwbX f : Int) := by show ev ρ (cE _) = _; rw [ev_c]
      have g2 : thE (lwTh f) ρ 2 = ((790 + f : Nat) : Int) := by show ev ρ (cE (790 + f)) = _; rw [ev_c]; omega
      have g3 : thE (lwTh f) ρ 3 = ρ 10 := by show ev ρ (vE 10) = _; rw [ev_v]
      have g4 : thE (lwTh f) ρ 4 = ρ 1 := by show ev ρ (vE 1) = _; rw [ev_v]
      have g9 : thE (lwTh f) ρ 22 = ρ 21 := by show ev ρ (vE 21) = _; rw [ev_v]
      have c1 := ent_ok ha.2.2.1 _ _ o9
      have c2 := ent_ok ha.2.2.1 _ _ o10
      rw [ev_v] at c1
      rw [ev_sub, ev_c, ev_v] at c2
      have hs := lwSt_ok (q := lwG) (i := 4) (k := (k : Int)) (v := v) (by decide +kernel) (by decide +kernel) haG (by rw [g4]; exact hP120) hP122
      have hck := ckG_all k hk64 hk45
      unfold ckG at hck
      have hr := ex_ok (np := 31) (npm := 4) (K := M) (xa := lwX) (sc := some (132, L, f0)) (D := m_law) (c := lw4) (CL := lkCL lwCL) (mv := some lwG.2.2.2.1) (call := wpM mDf mt d0) (ρm := uV (thE (lwTh f) ρ) lwG.2.1.1 v) (ρ0 := uV (thE (lwTh f) ρ) lwG.2.1.1 v) (h0 := h0) (df := mDf) (PRd_k hU) hG (by omega) hd (fun P hP => by obtain rfl := List.mem_singleton.mp hP; rfl) (rLLh_ok hU) hCL rfl (wpM_mono d0) (fun _ _ h => by cases h)
        (hsc 4 _ (by omega) (by rw [uV_o (by decide)]; exact g0))
        (fun q' hq' ρ2 lv2 st2 h2 x1 x2 x3 x4 M' x5 x6 n' hn' => by
          obtain rfl := List.mem_singleton.mp hq'
          obtain ⟨rfl, hI2⟩ := lw_back (Ln := L) (M := M') hq x2 hGs x1 (by rw [x4 0 (by omega), uV_o (by decide), g0]) (by rw [x4 1 (by omega), uV_o (by decide), g1]) (by rw [x4 2 (by omega), uV_o (by decide), g2]) (by rw [x4 3 (by omega), uV_o (by decide), g3]; omega) x5
          have h9 := ih M' x6 lv2 h2 hI2 x2 x3 n' hn'
          refine run_mono (wpM_mono d0) (fun e v h => (lw_to (c := lw4) rfl e v h).mpr) _ _ _ _ _ _ _ ?_
          exact h9)
        (fun q' hq' ρ2 lv2 st2 h2 x1 => lw_mu (Or.inr (List.mem_singleton.mp hq')) ρ2 lv2 st2 h2 x1)
        ⟨by decide, by
          rw [o4] at hmu
          show 512 + (-1 * uV (thE (lwTh f) ρ) lwG.2.1.1 v 22 + 0) = (M : Int)
          rw [uV_o (by decide), g9, ← hmu]
          rfl, by show M ≤ 512; omega⟩ 3000 hck (uV (thE (lwTh f) ρ) lwG.2.1.1 v) lv [] h (fun _ _ => rfl) (fun _ _ => rfl) hs hT hfr n (by omega) (657 + 66 * (512 - M)) (50952 + 12812 * (512 - M)) rfl rfl
      exact run_mono (wpM_mono d0) (fun e v h => (lw_to (c := lw4) rfl e v h).mp) _ _ _ _ _ _ _ hr
end LWR
