section LWT
def h00 : mH := (List.range 133).map fun k => .inl (999, (cstZ k).getD (0, .inl fun _ => 0))
theorem cst_some : ∀ x, x < 133 → (cstZ x).isSome = true := by decide +kernel
theorem cst_none {x : Nat} (h : 133 ≤ x) : cstZ x = none := by
  unfold cstZ
  rw [if_neg (by omega), List.getElem?_eq_none (Nat.le_trans (show strL.length ≤ 67 by decide +kernel) (by omega))]
  dsimp only
  rw [if_neg (by omega)]
theorem h00_at {x : Nat} {z : vp_A} (hx : x < 133) (hz : cstZ x = some z) : h00[x]? = some (.inl (999, z)) := by
  unfold h00
  rw [List.getElem?_map, List.getElem?_range hx]
  show some ((.inl (999, (cstZ x).getD (0, .inl fun _ => 0))) : mE) = _
  rw [hz]
  rfl
theorem rD_00 : rD (133, []) h00 := by
  refine ⟨by simp [h00], fun x => ?_⟩
  show (match (cstZ x).map fun z => (.inl (999, z) : mE) with | none => h00[x]? = none | some e => if clean e = true then h00[x]? = some e else _)
  by_cases hx : x < 133
  · obtain ⟨z, hz⟩ := Option.isSome_iff_exists.mp (cst_some x hx)
    rw [hz]
    dsimp only [Option.map_some]
    rw [if_pos (by rfl)]
    exact h00_at hx hz
  · rw [cst_none (by omega)]
    dsimp only [Option.map_none]
    exact List.getElem?_eq_none (by simp [h00]; omega)
theorem jF_ok {j : jH} {h : mH} {x k : Nat} {p : Value → Bool} (hr : rD j h) (hj : jF j.2 x k p = true) : ∃ ci fs v, h[x]? = some (.inr (ci, fs)) ∧ fs[k]? = some v ∧ p v = true := by
  unfold jF at hj
  rw [gjB_eq] at hj
  split at hj
  next ci fs hg =>
    split at hj
    next v hv => exact ⟨ci, fs, v, rD_get hr hg rfl, hv, hj⟩
    next => cases hj
  next => cases hj
theorem is0_ok {v : Value} (h : is0 v = true) : v = .int 0 := by
  unfold is0 at h
  split at h
  next x => rw [of_decide_eq_true h]
  next => cases h
theorem isM_ok {v : Value} (h : isM v = true) : v = .int (-1) := by
  unfold isM at h
  split at h
  next x => rw [of_decide_eq_true h]
  next => cases h
theorem isR_ok {a : Nat} {v : Value} (h : isR a v = true) : v = .ref a := by
  unfold isR at h
  split at h
  next x => rw [Nat.eq_of_beq_eq_true h]
  next => cases h
theorem glB_ok {lv : mL} {k : Nat} {p : Value → Bool} (h : glB lv k p = true) : ∃ v, gl lv k = some v ∧ p v = true := by
  unfold glB at h
  split at h
  next v hv => exact ⟨v, hv, h⟩
  next => cases h
/-- an array of zeros -/
theorem jZ_ok {j : jH} {h : mH} {x n : Nat} (hr : rD j h) (hT : TI lwGr rgs h) (hj : jZ j.2 x n = true) (hc : jCk j.2 x = true) : ∃ t f, h[x]? = some (.inl (t, n, .inl f)) ∧ ∀ i, i < n → f i = 0 := by
  unfold jCk at hc
  unfold jZ at hj
  rw [gjB_eq] at hj hc
  split at hj
  next t n' f hg =>
    rw [hg] at hc
    simp only [Bool.and_eq_true] at hj hc
    have h1 := Nat.eq_of_beq_eq_true hj.1
    subst h1
    exact ⟨t, f, rD_get hr hg hc.1, fun i hi => of_decide_eq_true (allN_ok hj.2 i hi)⟩
  next => cases hj
theorem jA_ok {j : jH} {h : mH} {x i a : Nat} (hr : rD j h) (hj : jA j.2 x i a = true) (hc : jCk j.2 x = true) : elv h x i = some (.ref a) := by
  unfold jCk at hc
  unfold jA at hj
  rw [gjB_eq] at hj hc
  split at hj
  next t n f hg =>
    rw [hg] at hc
    simp only [Bool.and_eq_true, decide_eq_true_eq] at hj hc
    refine elv_of (rD_get hr hg hc.1) (Nat.le_of_ble_eq_true hj.1) ?_
    show va_rf (f i) = .ref a
    rw [hj.2]
    rfl
  next => cases hj
theorem vw_z {h : mH} {g x t n : Nat} {f : Nat → Int32} (hC : lwC g = x) (hx : h[x]? = some (.inl (t, n, .inl f))) (hf : ∀ i, i < n → f i = 0) (i : Nat) (hi : i < n) : vw lwC h g i = 0 := by
  unfold vw
  rw [hC, el_of hx, hf i hi]
  rfl
/-- the first state, in numbers -/
def lwT0 : List LE := [vE 0, cE 0, cE 0, cE 0, cE 0, cE 0, cE 0, cE (-1), cE 0, cE (-1), cE 0, cE 144, cE 153, cE 0, cE 162, cE 0, cE 0, cE 0, cE 0, cE 0, cE 0, cE 0, cE 0, cE 0, cE 0, cE 0, cE 0, cE 0, cE 0]
def lwS0 : sS := (1, [(0, (1, cE 132)), (1, (1, cE 133)), (2, (1, cE 758)), (3, (1, cE 788)), (4, (1, cE 789)), (5, (0, cE 0))], [], [vE 0, subE (cE 3072) (vE 0)], lwF_0.2.1.2.2.2.2.1.map (fun q => (sbE lwT0 q.1, q.2)),
  [(cE 133, 10, (1, cE 280)), (cE 280, 1, (0, cE 0)), (cE 133, 7, (0, cE 0)), (cE 133, 8, (1, cE 162)), (cE 133, 9, (1, cE 221)), (cE 133, 5, (1, cE 144)), (cE 133, 6, (1, cE 153)), (cE 758, 28, (0, cE 0)), (cE 758, 10, (1, cE 760)), (cE 133, 1, (0, cE 0)), (cE 758, 2, (0, cE 0)), (cE 758, 34, (0, cE 0)), (cE 758, 27, (0, cE 0)), (cE 133, 13, (1, cE 756)), (cE 756, 0, (1, cE 757)), (cE 756, 3, (0, cE 0)), (cE 133, 2, (1, cE 135)), (cE 135, 3, (0, cE 0)), (cE 135, 4, (0, cE (-1))), (cE 758, 5, (0, cE 0)), (cE 758, 6, (0, cE (-1)))], [(cE 760, cE 7, (0, cE 0)), (cE 760, cE 6, (0, cE 0)), (cE 760, cE 50, (0, cE 0)), (cE 757, cE 0, (0, cE 0))],
  [(206, cE 0, cE 0), (253, cE 0, cE 0), (241, cE 162, cE 0), (210, cE 162, cE 0), (255, cE 162, cE 0), (250, cE 637, cE 0), (250, cE 696, cE 0), (252, cE 133, cE 162), (207, cE 0, cE 0), (396, cE 0, cE 0), (404, cE 0, cE 0), (408, cE 0, cE 0), (408, cE 1, cE 0), (370, cE 3, cE 0), (258, cE 0, cE 0), (258, cE 1, cE 0), (429, cE 0, cE 0), (429, cE 1, cE 0), (370, cE 0, cE 0), (203, cE 0, cE 0), (204, cE 133, cE 144), (201, cE 144, cE 0), (202, cE 144, cE 0), (90, cE 790, cE 0), (121, cE 0, cE 0), (40, cE 0, cE 1777), (42, cE 0, cE 0), (50, cE 0, cE 0), (65, cE 0, cE 0), (170, cE 0, cE 0)])
theorem lwS0_fits : fits 1 lwS0 lwT0 [] lwF_0.2.1 = true ∧ fitL 29 lwT0 lwS0.2.1 lwF_0.2.1.2.1 = true := by decide +kernel
theorem lwS0_gr : (lwS0.2.2.2.2.1.all fun q => match q.1.2 with | [] => decide (0 ≤ q.1.1) && Nat.beq (lwGr q.1.1.toNat) q.2 | _ => false) = true := by decide +kernel
set_option maxHeartbeats 4000000 in
/-- the law's start: on to its loop -/
theorem lw_go {L : Nat} {f0 : Nat → Int32} {Post : mPost} (hL : L ≤ 3072) (hck : lwJc = true) (hk : ∀ lv h, TI lwGr rgs h → lwI (PRd lwGr lwC 700 f0) lwGr L 512 lv h → (∃ z0, h[132]? = some (.inl (999, 0, .inr (.inl z0)))) → ∀ n, 3000 * 513 ≤ n → run (some (132, L, f0)) mDf mt (wpM mDf mt 1999) m_law 1999 n 28 lv [] h 657 50952 Post) :
    run (some (132, L, f0)) mDf mt (wpM mDf mt 1999) m_law 1999 (2 ^ 40) 0 [(0, .ref 132)] [] h00 0 0 Post := by
  unfold lwJc at hck
  split at hck
  next pc lv st j uc us hJ =>
    simp only [Bool.and_eq_true] at hck
    obtain ⟨c1, c2, c3, c4, c5, ⟨l0, l1, l2, l3, l4, l5⟩, c6, ⟨n0, n1, n2, n3, n4, n5, n6, n7, n8, e1, e2, e3, e4, e5, e6, e7, e8, e9, e10, e11, e12⟩, z1, z2, z3, z4, zS⟩ := hck
    have c1 := Nat.eq_of_beq_eq_true c1
    have c2 := List.isEmpty_iff.mp c2
    have c3 := Nat.eq_of_beq_eq_true c3
    have c4 := Nat.le_of_ble_eq_true c4
    have c5 := Nat.le_of_ble_eq_true c5
    subst c1 c2
    have hx : xJ f0 (some (132, L, f0)) mDf mt (wpM mDf mt 1999) m_law 1999 (3000 * 513) (.inl (28, lv, [], j, uc, us)) Post := by
      intro h hr m hm
      have hlen : h.length = 790 := by rw [← hr.1]; exact c3
      have hcell : ∀ x, x < 790 → ∃ e, h[x]? = some e ∧ gjB j.2 x = some e ∧ ∀ sp, rgs (lwGr x) = some sp → cellOK lwGr sp e := by
        intro x hx
        have h1 := allN_ok c6 x hx
        unfold jCk at h1
        split at h1
        next => cases h1
        next e hg =>
          simp only [Bool.and_eq_true] at h1
          refine ⟨e, rD_get hr (by rw [← gjB_eq]; exact hg) h1.1, hg, fun sp hsp => ?_⟩
          have h2 := h1.2
          rw [show lkGS rgL (lwGr x) = some sp from hsp] at h2
          exact cellB_ok h2
      have hT : TI lwGr rgs h := by
        intro x sp hsp
        by_cases hx : x < 790
        · obtain ⟨e, h1, -, h2⟩ := hcell x hx
          exact ⟨fun _ => ⟨e, h1⟩, fun e' he' => by cases h1.symm.trans he'; exact h2 sp hsp⟩
        · have hno : h[x]? = none := List.getElem?_eq_none (by omega)
          refine ⟨fun hex => ?_, fun e he => by rw [hno] at he; cases he⟩
          exfalso
          by_cases hx2 : x < 796
          · obtain ⟨i, rfl⟩ : ∃ i, x = 790 + i := ⟨x - 790, by omega⟩
            have hg : lwGr (790 + i) = 601 + i := by
              have : ∀ i, i < 6 → lwGr (790 + i) = 601 + i := by decide +kernel
              exact this i (by omega)
            have hin : ∃ q, sp = .inr q := by
              rw [hg] at hsp
              have : ∀ i, i < 6 → (match rgs (601 + i) with | some (.inr _) => true | _ => false) = true := by decide +kernel
              have h9 := this i (by omega)
              rw [hsp] at h9
              cases sp with
              | inl _ => cases h9
              | inr q => exact ⟨q, rfl⟩
            obtain ⟨q, rfl⟩ := hin
            have h9 : lwGr (790 + i) < 600 := hex
            omega
          · have : lwGr x = 0 := by
              unfold lwGr
              rw [List.getD_eq_getElem?_getD, List.getElem?_eq_none (Nat.le_trans lwGl_n (Nat.not_lt.mp hx2))]
              rfl
            rw [this] at hsp
            have h9 : (rgs 0).isNone = true := by decide +kernel
            rw [hsp] at h9
            cases h9
      obtain ⟨t1, f1, y1, y2⟩ := jZ_ok hr hT z1 (allN_ok c6 757 (by omega))
      obtain ⟨t2, f2, y3, y4⟩ := jZ_ok hr hT z2 (allN_ok c6 760 (by omega))
      obtain ⟨t3, f3, y5, y6⟩ := jZ_ok hr hT z3 (allN_ok c6 762 (by omega))
      obtain ⟨t4, f4, y7, y8⟩ := jZ_ok hr hT z4 (allN_ok c6 776 (by omega))
      have v1 := vw_z (g := 123) (by decide +kernel) y3 y4
      have v2 := vw_z (g := 118) (by decide +kernel) y5 y6
      have v3 := vw_z (g := 135) (by decide +kernel) y7 y8
      unfold jST at n0
      simp only [Bool.and_eq_true] at n0
      obtain ⟨st1, st2, st3, st4, st5, st6, st7, st8, sd0, sd1, sd2, sd7, sdL⟩ := n0
      obtain ⟨t5, f5, y9, y10⟩ := jZ_ok hr hT st8 (allN_ok c6 755 (by omega))
      have hloc : ∀ {k : Nat} {p : Value → Bool}, glB lv k p = true → ∃ v, gl (sgL f0 lv) k = some (sg f0 v) ∧ p v = true := by
        intro k p hp
        obtain ⟨v, h1, h2⟩ := glB_ok hp
        exact ⟨v, by rw [gl_sg, h1]; rfl, h2⟩
      have hA : abs (PRd lwGr lwC 700 f0) lwGr (fun _ => (L : Int)) lwS0 (sgL f0 lv) [] h := by
        refine ⟨fun q hq => ?_, trivial, fun q hq => ?_, fun q hq => ?_, fun q hq => ?_, fun q hq => ?_, fun q hq => ?_⟩
        · have R : ∀ {k a : Nat}, glB lv k (isR a) = true → ∃ v, gl (sgL f0 lv) k = some v ∧ dV (fun _ => (L : Int)) (1, cE (a : Int)) v := by
            intro k a hp
            obtain ⟨v, h1, h2⟩ := hloc hp
            rw [isR_ok h2] at h1
            exact ⟨_, h1, ⟨by dsimp only; rw [ev_c]; omega, by dsimp only; rw [ev_c]; rfl⟩⟩
          rcases List.mem_cons.mp hq with rfl | hq
          · exact R l0
          rcases List.mem_cons.mp hq with rfl | hq
          · exact R l1
          rcases List.mem_cons.mp hq with rfl | hq
          · exact R l2
          rcases List.mem_cons.mp hq with rfl | hq
          · exact R l3
          rcases List.mem_cons.mp hq with rfl | hq
          · exact R l4
          · obtain rfl := List.mem_singleton.mp hq
            obtain ⟨v, h1, h2⟩ := hloc l5
            rw [is0_ok h2] at h1
            exact ⟨_, h1, ⟨0, rfl, by dsimp only; rw [ev_c]; rfl⟩⟩
        · rcases List.mem_cons.mp hq with rfl | hq
          · rw [ev_v]; omega
          · obtain rfl := List.mem_singleton.mp hq
            rw [ev_sub, ev_c, ev_v]; omega
        · have h1 := List.all_eq_true.mp lwS0_gr q hq
          split at h1
          next he =>
            simp only [Bool.and_eq_true, decide_eq_true_eq] at h1
            have h2 : ev (fun _ => (L : Int)) q.1 = q.1.1 := ev_nil he
            rw [h2]
            exact ⟨h1.1, Nat.eq_of_beq_eq_true h1.2⟩
          next => cases h1
        · have R : ∀ {x k : Nat}, jF j.2 x k is0 = true → ∃ ci fs v, h[(ev (fun _ => (L : Int)) (cE (x : Int))).toNat]? = some (.inr (ci, fs)) ∧ fs[k]? = some v ∧ dV (fun _ => (L : Int)) (0, cE 0) v := by
            intro x k hp
            obtain ⟨ci, fs, v, g1, g2, g3⟩ := jF_ok hr hp
            rw [is0_ok g3] at g2
            exact ⟨ci, fs, _, by rw [ev_c]; exact g1, g2, ⟨0, rfl, by dsimp only; rw [ev_c]; rfl⟩⟩
          have R3 : ∀ {x k : Nat}, jF j.2 x k isM = true → ∃ ci fs v, h[(ev (fun _ => (L : Int)) (cE (x : Int))).toNat]? = some (.inr (ci, fs)) ∧ fs[k]? = some v ∧ dV (fun _ => (L : Int)) (0, cE (-1)) v := by
            intro x k hp
            obtain ⟨ci, fs, v, g1, g2, g3⟩ := jF_ok hr hp
            rw [isM_ok g3] at g2
            exact ⟨ci, fs, _, by rw [ev_c]; exact g1, g2, ⟨-1, rfl, by dsimp only; rw [ev_c]; decide⟩⟩
          have R2 : ∀ {x k a : Nat}, jF j.2 x k (isR a) = true → ∃ ci fs v, h[(ev (fun _ => (L : Int)) (cE (x : Int))).toNat]? = some (.inr (ci, fs)) ∧ fs[k]? = some v ∧ dV (fun _ => (L : Int)) (1, cE (a : Int)) v := by
            intro x k a hp
            obtain ⟨ci, fs, v, g1, g2, g3⟩ := jF_ok hr hp
            rw [isR_ok g3] at g2
            exact ⟨ci, fs, _, by rw [ev_c]; exact g1, g2, ⟨by dsimp only; rw [ev_c]; omega, by dsimp only; rw [ev_c]; rfl⟩⟩
          rcases List.mem_cons.mp hq with rfl | hq
          · exact R2 st3
          rcases List.mem_cons.mp hq with rfl | hq
          · exact R st4
          rcases List.mem_cons.mp hq with rfl | hq
          · exact R sd7
          rcases List.mem_cons.mp hq with rfl | hq
          · exact R2 st1
          rcases List.mem_cons.mp hq with rfl | hq
          · exact R2 st2
          rcases List.mem_cons.mp hq with rfl | hq
          · exact R2 n1
          rcases List.mem_cons.mp hq with rfl | hq
          · exact R2 n2
          rcases List.mem_cons.mp hq with rfl | hq
          · exact R n3
          rcases List.mem_cons.mp hq with rfl | hq
          · exact R2 n4
          rcases List.mem_cons.mp hq with rfl | hq
          · exact R e1
          rcases List.mem_cons.mp hq with rfl | hq
          · exact R e2
          rcases List.mem_cons.mp hq with rfl | hq
          · exact R e3
          rcases List.mem_cons.mp hq with rfl | hq
          · exact R e4
          rcases List.mem_cons.mp hq with rfl | hq
          · exact R2 e5
          rcases List.mem_cons.mp hq with rfl | hq
          · exact R2 e6
          rcases List.mem_cons.mp hq with rfl | hq
          · exact R e7
          rcases List.mem_cons.mp hq with rfl | hq
          · exact R2 e8
          rcases List.mem_cons.mp hq with rfl | hq
          · exact R e9
          rcases List.mem_cons.mp hq with rfl | hq
          · exact R3 e10
          rcases List.mem_cons.mp hq with rfl | hq
          · exact R e11
          · obtain rfl := List.mem_singleton.mp hq
            exact R3 e12
        · rcases List.mem_cons.mp hq with rfl | hq
          · refine ⟨t2, 55, .inl f2, by rw [ev_c]; exact y3, by rw [ev_c]; omega, by rw [ev_c]; omega, ⟨f2 7, by rw [ev_c]; rfl, by dsimp only; rw [ev_c, y4 7 (by omega)]; rfl⟩⟩
          rcases List.mem_cons.mp hq with rfl | hq
          · refine ⟨t2, 55, .inl f2, by rw [ev_c]; exact y3, by rw [ev_c]; omega, by rw [ev_c]; omega, ⟨f2 6, by rw [ev_c]; rfl, by dsimp only; rw [ev_c, y4 6 (by omega)]; rfl⟩⟩
          rcases List.mem_cons.mp hq with rfl | hq
          · refine ⟨t2, 55, .inl f2, by rw [ev_c]; exact y3, by rw [ev_c]; omega, by rw [ev_c]; omega, ⟨f2 50, by rw [ev_c]; rfl, by dsimp only; rw [ev_c, y4 50 (by omega)]; rfl⟩⟩
          obtain rfl := List.mem_singleton.mp hq
          refine ⟨t1, 16, .inl f1, by rw [ev_c]; exact y1, by rw [ev_c]; omega, by rw [ev_c]; omega, ⟨f1 0, by rw [ev_c]; rfl, by dsimp only; rw [ev_c, y2 0 (by omega)]; rfl⟩⟩
        · have RF : ∀ {x k a : Nat}, jF j.2 x k (isR a) = true → rfv h x k = some (.ref a) := by
            intro x k a hp
            obtain ⟨ci, fs, v, g1, g2, g3⟩ := jF_ok hr hp
            rw [isR_ok g3] at g2
            exact rfv_of g1 g2
          have RI : ∀ {x k : Nat}, jF j.2 x k is0 = true → rfv h x k = some (.int 0) := by
            intro x k hp
            obtain ⟨ci, fs, v, g1, g2, g3⟩ := jF_ok hr hp
            rw [is0_ok g3] at g2
            exact rfv_of g1 g2
          have RA : ∀ {x i a : Nat}, x < 790 → jA j.2 x i a = true → elv h x i = some (.ref a) := fun {x i a} hx hj => jA_ok hr hj (allN_ok c6 x hx)
          have s6 : ∀ i, i < 6 → elv h 281 i = some (.ref (282 + 59 * i)) := fun i hi => RA (by omega) (allN_ok st6 i hi)
          have hs162 : SHc 162 := Or.inl rfl
          have q41 : q241 lwGr 162 (elv h) := by
            refine ⟨lwLG, by omega, hs162, fun i => 282 + 59 * i, ⟨fun i hi => ?_, fun i j _ _ hij => ?_⟩, s6⟩
            · have hs : SHc (282 + 59 * i) := Or.inr ⟨by omega, by omega, by rw [show 282 + 59 * i - 282 = 59 * i by omega, Nat.mul_mod_right]⟩
              have hn : 282 + 59 * i ≠ 162 := by omega
              exact ⟨hs, hn⟩
            · dsimp only at hij
              omega
          have lay : q207 lwGr (rfv h) (elv h) := by
            refine ⟨lwLG, fun x hx => ?_⟩
            obtain ⟨i, hi, rfl⟩ := stC_of hx
            have hc : stC i ≤ 696 := by
              unfold stC
              repeat' split
              all_goals omega
            have h1 := allN_ok sdL i hi
            rw [Bool.and_eq_true] at h1
            refine ⟨RF h1.1, fun m hm => ?_⟩
            have h2 := allN_ok h1.2 m hm
            rw [Bool.and_eq_true, Bool.and_eq_true] at h2
            exact ⟨RA (by omega) h2.1, RF h2.2.1, fun j hj => RA (by omega) (allN_ok h2.2.2 j hj)⟩
          have hr0 : HR lwGr 162 0 (rfv h) := by
            refine ⟨lwLG, hs162.sc, ⟨RB_pos, by rw [cp_0]; omega, fun m _ => by rw [cp_0]; omega, fun k _ _ => cp_0⟩, fun k hk _ ht => ?_⟩
            unfold thr at ht
            rw [cp_0] at ht ⊢
            have hk4 : k = 0 ∨ k = 1 ∨ k = 2 ∨ k = 3 := by omega
            rcases hk4 with rfl | rfl | rfl | rfl
            · exact ⟨0, RI sd0, rfl⟩
            · exact ⟨0, RI sd1, rfl⟩
            · exact ⟨0, RI sd2, rfl⟩
            · exact ⟨0, RI st5, rfl⟩
          have b755 : ∀ i, i < 2 → elv h 755 i = some (.int 0) := fun i hi => elv_of y9 hi (show (.int (f5 i) : Value) = .int 0 by rw [y10 i hi])
          rcases List.mem_cons.mp hq with rfl | hq
          · show q206 lwGr
            exact lwLG
          rcases List.mem_cons.mp hq with rfl | hq
          · show q253 lwGr (elv h)
            exact ⟨lwLG, fun i hi => RA (by omega) (allN_ok st7 i hi)⟩
          rcases List.mem_cons.mp hq with rfl | hq
          · show q241 lwGr (ev _ (cE 162)) (elv h)
            rw [ev_c]
            exact q41
          rcases List.mem_cons.mp hq with rfl | hq
          · show q210 lwGr (ev _ (cE 162)) (ev _ (cE 0)) (rfv h)
            rw [ev_c, ev_c]
            exact ⟨by omega, hs162, by omega, hr0⟩
          rcases List.mem_cons.mp hq with rfl | hq
          · show q255 lwGr (ev _ (cE 162)) (ev _ (cE 0)) (rfv h) (elv h)
            rw [ev_c, ev_c]
            exact ⟨lwLG, by omega, hs162, by omega, 0, 0, RF st3, RI st4, rfl, by omega, by show 0 < RB ^ 0; decide, fun i hi => absurd hi (by omega)⟩
          rcases List.mem_cons.mp hq with rfl | hq
          · show q250 lwGr (ev _ (cE 637)) (ev _ (cE 0)) (rfv h) (elv h)
            rw [ev_c, ev_c]
            exact ⟨lwLG, Or.inl rfl, by omega, 0, b755 0 (by omega), fun h9 => absurd rfl h9⟩
          rcases List.mem_cons.mp hq with rfl | hq
          · show q250 lwGr (ev _ (cE 696)) (ev _ (cE 0)) (rfv h) (elv h)
            rw [ev_c, ev_c]
            exact ⟨lwLG, Or.inr rfl, by omega, 0, b755 1 (by omega), fun h9 => absurd rfl h9⟩
          rcases List.mem_cons.mp hq with rfl | hq
          · show q252 lwGr (ev _ (cE 133)) (ev _ (cE 162)) (rfv h)
            rw [ev_c, ev_c]
            exact ⟨by omega, by decide +kernel, by omega, RF st1⟩
          rcases List.mem_cons.mp hq with rfl | hq
          · show q207 lwGr (rfv h) (elv h)
            exact lay
          rcases List.mem_cons.mp hq with rfl | hq
          · show q396 (vw lwC h) (ev _ (cE 0))
            rw [ev_c]
            refine ⟨⟨by omega, RB_pos⟩, fun k hk hp _ => ?_, fun k hk hp _ => ?_⟩
            · show vw lwC h 118 (0 + ri k) = ((cp 0 k : Nat) : Int)
              rw [cp_0, v2 _ (by have := ri_lt hk; omega)]
              rfl
            · show vw lwC h 123 (pi k) = ((cp 0 k : Nat) : Int)
              rw [cp_0, v1 _ (pi_lt hp)]
              rfl
          rcases List.mem_cons.mp hq with rfl | hq
          · show q404 (vw lwC h) (ev _ (cE 0)) (ev _ (cE 0))
            rw [ev_c]
            exact r_404_0
          rcases List.mem_cons.mp hq with rfl | hq
          · show q408 (vw lwC h) (ev _ (cE 0)) (ev _ (cE 0))
            rw [ev_c]
            exact r_i0 (by omega) (by omega) rfl (v3 0 (by omega))
          rcases List.mem_cons.mp hq with rfl | hq
          · show q408 (vw lwC h) (ev _ (cE 1)) (ev _ (cE 0))
            rw [ev_c, ev_c]
            exact r_i0 (by omega) (by omega) rfl (v3 1 (by omega))
          rcases List.mem_cons.mp hq with rfl | hq
          · show qCp (ev _ (cE 3)) (ev _ (cE 0))
            rw [ev_c, ev_c]
            exact oCp (V := 0) (k := 3) rfl (by omega) (by show (0 : Int) = ((cp 0 3 : Nat) : Int); rw [cp_0]; rfl)
          rcases List.mem_cons.mp hq with rfl | hq
          · show q258 lwGr (ev _ (cE 0)) (ev _ (cE 0)) (elv h)
            rw [ev_c]
            exact ⟨lwLG.e.2.2.1, by omega, by omega, 0, b755 0 (by omega), rfl⟩
          rcases List.mem_cons.mp hq with rfl | hq
          · show q258 lwGr (ev _ (cE 1)) (ev _ (cE 0)) (elv h)
            rw [ev_c, ev_c]
            exact ⟨lwLG.e.2.2.1, by omega, by omega, 0, b755 1 (by omega), rfl⟩
          rcases List.mem_cons.mp hq with rfl | hq
          · show q429 (vw lwC h) (ev _ (cE 0)) (ev _ (cE 0))
            rw [ev_c]
            exact ⟨by omega, by omega, v3 0 (by omega)⟩
          rcases List.mem_cons.mp hq with rfl | hq
          · show q429 (vw lwC h) (ev _ (cE 1)) (ev _ (cE 0))
            rw [ev_c, ev_c]
            exact ⟨by omega, by omega, v3 1 (by omega)⟩
          rcases List.mem_cons.mp hq with rfl | hq
          · show qCp (ev _ (cE 0)) (ev _ (cE 0))
            rw [ev_c]
            exact oCp (V := 0) (k := 0) rfl (by omega) (by show (0 : Int) = ((cp 0 0 : Nat) : Int); rw [cp_0]; rfl)
          rcases List.mem_cons.mp hq with rfl | hq
          · show q203 lwGr (rfv h)
            intro f hf
            have hb : ∀ x, x < 796 → lwGr x = 11 → x = 144 ∨ x = 153 := by decide +kernel
            have hf2 : f < 796 := by
              by_cases hlt : f < 796
              · exact hlt
              · have : lwGr f = 0 := by
                  unfold lwGr
                  rw [List.getD_eq_getElem?_getD, List.getElem?_eq_none (Nat.le_trans lwGl_n (Nat.not_lt.mp hlt))]
                  rfl
                omega
            rcases hb f hf2 hf with rfl | rfl
            · exact RF n7
            · exact RF n8
          rcases List.mem_cons.mp hq with rfl | hq
          · show q204 lwGr (ev _ (cE 133)) (ev _ (cE 144)) (rfv h)
            rw [ev_c, ev_c]
            exact ⟨by omega, by decide +kernel, by omega, by omega, RF n1, RF n2⟩
          rcases List.mem_cons.mp hq with rfl | hq
          · show q201 lwGr (ev _ (cE 144)) (ev _ (cE 0)) (rfv h)
            rw [ev_c, ev_c]
            exact ⟨by omega, by decide +kernel, 0, RI n5, rfl⟩
          rcases List.mem_cons.mp hq with rfl | hq
          · show q202 lwGr (ev _ (cE 144)) (ev _ (cE 0)) (rfv h)
            rw [ev_c, ev_c]
            exact ⟨by omega, by decide +kernel, 0, RI n6, rfl⟩
          rcases List.mem_cons.mp hq with rfl | hq
          · show (h.length : Int) = ev _ (cE 790)
            rw [ev_c, hlen]
            rfl
          rcases List.mem_cons.mp hq with rfl | hq
          · show ev _ (cE 0) = 6 * ev _ (cE 0)
            rw [ev_c]
            rfl
          rcases List.mem_cons.mp hq with rfl | hq
          · show GDv (vw lwC h) 118 123 1777 (ev _ (cE 0)) (ev _ (cE 1777))
            intro i _ _ hi
            refine ⟨fun m jj m1 j1 e hc => ?_, fun _ _ => by rw [v2 i hi]; omega⟩
            dsimp only at hc
            rw [v1 (24 + m) (by omega)] at hc
            omega
          rcases List.mem_cons.mp hq with rfl | hq
          · show GDv (vw lwC h) 121 123 10662 (ev _ (cE 0)) (ev _ (cE 0))
            intro i i1 i2 _
            rw [ev_c] at i1 i2
            omega
          rcases List.mem_cons.mp hq with rfl | hq
          · show P50 (vw lwC h)
            intro b hb h1
            rw [v3 b hb] at h1
            omega
          rcases List.mem_cons.mp hq with rfl | hq
          · show rts (vw lwC h) 123 (ev _ (cE 0))
            rw [ev_c]
            refine ⟨0, by omega, by omega, by omega, fun n n1 n2 => by omega, fun i _ i2 => ?_⟩
            rw [v1 50 (by omega)] at i2
            omega
          · obtain rfl := List.mem_singleton.mp hq
            show P170 (vw lwC h) (ev _ (cE 0))
            rw [ev_c]
            exact fun i i1 _ => by omega
      have hb := fits_ok (lv' := sgL f0 lv) lwS0_fits.1 (fitL_ok lwS0_fits.2 hA.1) hA (show aS _ [] [] from trivial)
      have h132 : ∃ z0, h[132]? = some (.inl (999, 0, .inr (.inl z0))) := by
        unfold jS at zS
        split at zS
        next t n z0 hg =>
          simp only [Bool.and_eq_true] at zS
          have s1 := Nat.eq_of_beq_eq_true zS.1
          have s2 := Nat.eq_of_beq_eq_true zS.2
          subst s1 s2
          exact ⟨z0, rD_get hr (by rw [← gjB_eq]; exact hg) rfl⟩
        next => cases zS
      refine run_uc (wpM_mono 1999) m 28 _ _ h 657 50952 uc us (hk (sgL f0 lv) h hT ⟨0, lwF_0, thE lwT0 fun _ => (L : Int), rfl, hb, ?_, ?_⟩ h132 m hm) c4 c5
      · show ev (fun _ => (L : Int)) (vE 0) = (L : Int)
        rw [ev_v]
      · show 512 + (-1 * ev (fun _ => (L : Int)) (cE 0) + 0) = ((512 : Nat) : Int)
        rw [ev_c]
        rfl
    have hfin := ejs_run (f := f0) (sc := some (132, L, f0)) (call := wpM mDf mt 1999) (d := 1999) (D := m_law) (Post := Post) (ejM_ok (Nat.le_of_ble_eq_true rfl) 30 1999 (by omega)) (by omega) (M := 3000 * 513) (x := .inl (28, lv, [], j, uc, us)) hx hJ h00 rD_00 (2 ^ 40) (Nat.le_of_ble_eq_true rfl)
    exact hfin
  next => cases hck
end LWT
