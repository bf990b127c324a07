section MT
theorem row20 {cl : List vw_C} {df : List (List Value)} {G : List Cond} {ar : List String} {sx : List (String × Nat × String × Nat)} {ns : Nat} {mt : Nat → Option mM} {D : mM} {pc len : Nat} {i : Instr} {lk : mK} (h : okRow cl df G ar sx ns mt D (pc, i, len, lk)) (h20 : lk.1 = 20) : ∃ idx, i = .new idx ∧ okThr G sx D pc idx lk.2.1 := by
  obtain ⟨-, h⟩ := h
  cases i <;> first
    | exact absurd h20 h
    | exact absurd h20 h.1
    | (exfalso; have h1 := h.1; dsimp only at h1; omega)
    | (rename_i idx; rcases h with h | h
       · exact ⟨idx, rfl, h.2⟩
       · exact absurd h20 h.1)
    | (exfalso; rcases h with h | h <;> (have h1 := h.1; dsimp only at h1; omega))
    | (exfalso; rcases h with h | h | h <;> (have h1 := h.1; dsimp only at h1; omega))
    | (exfalso; rcases h with h | h | h | h <;> (have h1 := h.1; dsimp only at h1; omega))
theorem rowG {cl : List vw_C} {df : List (List Value)} {G : List Cond} {ar : List String} {sx : List (String × Nat × String × Nat)} {ns : Nat} {mt : Nat → Option mM} {D : mM} {pc len : Nat} {i : Instr} {lk : mK} (h : okRow cl df G ar sx ns mt D (pc, i, len, lk)) : ∀ idx, i = .getfield idx → okG cl G (dy D).cls idx lk.2.1 lk.2.2.1 := fun _ e => by subst e; exact h.2.2
theorem rowP {cl : List vw_C} {df : List (List Value)} {G : List Cond} {ar : List String} {sx : List (String × Nat × String × Nat)} {ns : Nat} {mt : Nat → Option mM} {D : mM} {pc len : Nat} {i : Instr} {lk : mK} (h : okRow cl df G ar sx ns mt D (pc, i, len, lk)) : ∀ idx, i = .putfield idx → okPf cl G (dy D).cls ((dy D).name = "<init>") idx lk.2.1 lk.2.2.1 lk.2.2.2 := fun _ e => by subst e; exact h.2.2
theorem rowA {cl : List vw_C} {df : List (List Value)} {G : List Cond} {ar : List String} {sx : List (String × Nat × String × Nat)} {ns : Nat} {mt : Nat → Option mM} {D : mM} {pc len : Nat} {i : Instr} {lk : mK} (h : okRow cl df G ar sx ns mt D (pc, i, len, lk)) : i = .aastore → lk.2.1 = ns := fun e => by subst e; exact h.2.2
theorem rowN {cl : List vw_C} {df : List (List Value)} {G : List Cond} {ar : List String} {sx : List (String × Nat × String × Nat)} {ns : Nat} {mt : Nat → Option mM} {D : mM} {pc len : Nat} {i : Instr} {lk : mK} (h : okRow cl df G ar sx ns mt D (pc, i, len, lk)) (h20 : ¬ lk.1 = 20) : ∀ idx, i = .new idx → okNew cl df G (dy D).cls idx lk.2.1 := fun _ e => by
  subst e
  rcases h.2 with h | h
  · exact absurd h.1 h20
  · exact h.2
theorem rowNa {cl : List vw_C} {df : List (List Value)} {G : List Cond} {ar : List String} {sx : List (String × Nat × String × Nat)} {ns : Nat} {mt : Nat → Option mM} {D : mM} {pc len : Nat} {i : Instr} {lk : mK} (h : okRow cl df G ar sx ns mt D (pc, i, len, lk)) : ∀ at0, i = .newarray at0 → okArr G at0 := fun _ e => by subst e; exact h.2.2
theorem rowNq {cl : List vw_C} {df : List (List Value)} {G : List Cond} {ar : List String} {sx : List (String × Nat × String × Nat)} {ns : Nat} {mt : Nat → Option mM} {D : mM} {pc len : Nat} {i : Instr} {lk : mK} (h : okRow cl df G ar sx ns mt D (pc, i, len, lk)) : ∀ idx, i = .anewarray idx → okANew cl G ar (dy D).cls idx lk.2.1 := fun _ e => by subst e; exact h.2.2
theorem va_ldcSW {p : Program} {l : Launch} {e : Env} {R : Room} {s : State} {m : MethodId} {args : Array Value} {below : List Frame} {meth : Method} {c : Code} {H : Heap} {locs : List Loc} {cells slots : Nat} {Q : State → Prop} {cc : ByteArray} {pc : Nat} {ls : Array Slot} {rest : List Value} (hexec : p.tables.exec = Jvm.exec) (hb : c.code = cc) {own tx : String} {index q : Nat} (hown : s.vm.findClass own = some m.cls) (hZ : vk_R own index tx q s) (hdg : decode cc pc = .ok (.ldc_w index, 3))
    (k : W p l e R s m args below meth c H locs cells slots Q (F0 m (pc + 3) ls (.ref q :: rest))) : W p l e R s m args below meth c H locs cells slots Q (F0 m pc ls rest) := by
  intro T hT X
  obtain ⟨t, a1, b1⟩ := k T hT X
  exact ⟨t, X.ldcStringW hexec hown (text := tx) (a := q) hZ.1 hZ.2 (g := F0 m pc ls rest) rfl (by rw [hb]; exact hdg) t a1, b1⟩
variable {l : Launch} {B : va_G} {cl : List vw_C} {ns : Nat} {A : Nat → Prop} {df : List (List Value)} {G : List Cond} {ar : List String} {sx : List (String × Nat × String × Nat)} {mt : Nat → Option mM} {cs : List Choice}
set_option maxHeartbeats 8000000 in
theorem run_ok (hn : nanBits ∈ cs) (hl : l.stackTraces = false) (hG : ∀ w ∈ G, goodWord w = true) (hmt : ∀ y D, mt y = some D → okD cl df G ar sx ns mt D) {call : mCall} {d : Nat}
    (hcall : ∀ y as h Post D2, mt y = some D2 → call y as h Post → mMet cs l B cl ns A sx ar G d D2 as h Post) {D : mM} (hD : okD cl df G ar sx ns mt D)
    {p : Program} {e : Env} {s : State} {m : MethodId} {args : Array Value} {below : List Frame} {meth : Method} {c : Code} {L0 : List Nat}
    (hx : p.tables.exec = Jvm.exec) (hb : c.code = dcc D) (hml : c.maxLocals = dml D) (hown : s.vm.findClass (dy D).cls = some m.cls) (hts : ∀ w ∈ G, w.before args s = true) (hr : meth.sig.returnType = drt D) (hlocks : meth.locks = false) (htab : c.exceptionTable.toList = tableOf (dhh D)) (hin : meth.name = (dy D).name)
    (hEV : eV A ns L0 sx ar s) (hA : ∀ q, s.heap.size ≤ q → A q) : ∀ (n pc : Nat) (lv : mL) (st : List Value) (h : mH) (uc us : Nat) (Post : mPost), run df mt call D d n pc lv st h uc us Post →
    uc ≤ (dR (d + 1) D).cells → us ≤ (dR (d + 1) D).slots → ∀ (d0 : Drawn) (ls : Array Slot) (lvr : mL) (str : List Value) (H : Heap) (locs : List Loc) (L : List Nat) (tys : List (ClassId × FieldType)) (ws : va_W), s.drawn.sameBut d0 cs → lv_has ls (dml D) lvr → rL L lv lvr → rS L st str → rH cl ns L tys h ws → va_K B cl tys s → va_P B cl ws H → va_D A ws → va_S A s.heap H locs → L0 <+: L →
    W p l e (dR (d + 1) D) (s.setDrawn d0) m args below meth c H locs uc us (mx_MQ cs below (mQc B cl ns A L0 Post) (mXc B cl ns A L0 Post) args s (dkr D) (dnr D) (dkx D) (dnx D) A) (F0 m pc ls str) := by
  intro n
  induction n with
  | zero => intro pc lv st h uc us Post hrun; exact hrun.elim
  | succ n ih =>
    intro pc lv st h uc us Post hrun hu1 hu2 d0 ls lvr str H locs L tys ws hd0 hl0 hL hS hH hK hP hDD hSS hpre
    obtain ⟨hD1, hD2, hD3, hD4, hD5, hD6, hD7, hD8⟩ := id hD
    have hts' : ∀ w ∈ G, w.before args (s.setDrawn d0) = true := dr_words hts d0
    have hown' : (s.setDrawn d0).vm.findClass (dy D).cls = some m.cls := hown
    have hK' : va_K B cl tys (s.setDrawn d0) := hK
    have hEVs : eV A ns L sx ar (s.setDrawn d0) := eV_mono hpre (eV_to (s := s) (U := s.setDrawn d0) (locs := []) (State.WarmedH.refl s) va_S.rf hEV)
    have hlocsA : ∀ q ∈ locs, A q.base := hSS.2.2
    unfold run at hrun
    split at hrun
    · exact hrun.elim
    · rename_i i len lk hrow
      have hokr := hD8 _ (rowAt_mem hrow)
      have hdec : decode (dcc D) pc = .ok (i, lnI i len) := hokr.1
      split at hrun
      · rename_i pc2 lv2 st2 h2 kc ks hs
        obtain ⟨hbud, hrun⟩ := hrun
        unfold stp at hs
        split at hs
        · rename_i q hq
          cases hs
          exact actC_ok hx hb (pc2 := q.1) (lv2 := q.2.1) (st2 := q.2.2) hq hdec hl0 hL hS (fun lvr2 ls2 str2 a1 a2 a3 => ih _ _ _ _ _ _ _ hrun hu1 hu2 d0 ls2 lvr2 str2 H locs L tys ws hd0 a1 a2 a3 hH hK hP hDD hSS hpre)
        · split at hs
          · rename_i q hq
            cases hs
            exact actA_ok hx hb (pc2 := q.1) (st2 := q.2) hq hdec hS (fun str2 a3 => ih _ _ _ _ _ _ _ hrun hu1 hu2 d0 ls lvr str2 H locs L tys ws hd0 hl0 hL a3 hH hK hP hDD hSS hpre)
          · split at hs
            · rename_i q hq
              cases hs
              exact actR_ok hx hb hts' hown' hK' hP hH (rowG hokr) hq hdec hS (fun str2 a3 => ih _ _ _ _ _ _ _ hrun hu1 hu2 d0 ls lvr str2 H locs L tys ws hd0 hl0 hL a3 hH hK hP hDD hSS hpre)
            · split at hs
              · rename_i q hq
                cases hs
                exact actB_ok hx hb (pc2 := q.1) (st2 := q.2) hq hdec hS (fun str2 a3 => ih _ _ _ _ _ _ _ hrun hu1 hu2 d0 ls lvr str2 H locs L tys ws hd0 hl0 hL a3 hH hK hP hDD hSS hpre)
              · split at hs
                · rename_i q hq
                  cases hs
                  exact actS_ok hx hb (pc2 := q.1) (lv2 := q.2.1) (st2 := q.2.2) hq hdec hl0 hL hS (fun lvr2 ls2 str2 a1 a2 a3 => ih _ _ _ _ _ _ _ hrun hu1 hu2 d0 ls2 lvr2 str2 H locs L tys ws hd0 a1 a2 a3 hH hK hP hDD hSS hpre)
                · split at hs
                  · rename_i q hq
                    cases hs
                    exact actW_ok (st2 := q.1) (x := q.2.1) (y := q.2.2) hx hb hts' hown' hK' hP hDD hSS hEVs.2.2.2.1 hH (fun idx e0 => by rw [hin]; exact rowP hokr idx e0) (rowA hokr) hq hdec hS (fun H1 locs1 ws1 str2 b1 b2 b3 b4 b5 => ih _ _ _ _ _ _ _ hrun hu1 hu2 d0 ls lvr str2 H1 locs1 L tys ws1 hd0 hl0 hL b5 b4 hK b1 b2 b3 hpre)
                  · split at hs
                    · rename_i q hq
                      cases hs
                      have go : ∀ str2, rS L st2 str2 → W p l e (dR (d + 1) D) (s.setDrawn d0) m args below meth c H locs uc us (mx_MQ cs below (mQc B cl ns A L0 Post) (mXc B cl ns A L0 Post) args s (dkr D) (dnr D) (dkx D) (dnx D) A) (F0 m (pc + lnI i len) ls str2) := fun str2 a3 => ih _ _ _ _ _ _ _ hrun hu1 hu2 d0 ls lvr str2 H locs L tys ws hd0 hl0 hL a3 hH hK hP hDD hSS hpre
                      have hRf : 1 ≤ (dR (d + 1) D).frames := Nat.succ_le_succ (Nat.zero_le d)
                      have hRl : ∀ z, z ≤ 8 → z + 13 ≤ (dR (d + 1) D).locals := fun z hz => by show z + 13 ≤ 42 * (d + 1); omega
                      have hsz : c.maxLocals = ls.size := by rw [hml]; exact hl0.1.symm
                      unfold actK at hq
                      split at hq
                      · have hrw := hokr.2
                        dsimp only at hrw
                        split at hq
                        · rename_i z0
                          cases hq
                          rcases hrw with ⟨-, hrw⟩ | ⟨z1, -⟩ | ⟨z1, -⟩
                          · exact lv_ldc hx hb hown' (hts' _ hrw) hdec (go _ ⟨rfl, hS⟩)
                          · omega
                          · omega
                        · split at hq
                          · rename_i z0
                            cases hq
                            rcases hrw with ⟨z1, -⟩ | ⟨-, hrw⟩ | ⟨z1, -⟩
                            · omega
                            · exact lv_ldcf hx hb hown' (hts' _ hrw) hdec (go _ ⟨rfl, hS⟩)
                            · omega
                          · split at hq
                            · rename_i z0
                              cases hq
                              rcases hrw with ⟨z1, -⟩ | ⟨z1, -⟩ | ⟨-, tx, hrw⟩
                              · omega
                              · omega
                              · obtain ⟨a, g1, g2⟩ := hEVs.2.2.2.2.1 _ hrw
                                exact va_ldcS hx hb hown' g2 hdec (go _ ⟨⟨a, g1, rfl⟩, hS⟩)
                            · cases hq
                      · have hrw := hokr.2
                        dsimp only at hrw
                        split at hq
                        · cases hq
                          obtain ⟨-, tx, hrw⟩ := hrw
                          obtain ⟨a, g1, g2⟩ := hEVs.2.2.2.2.1 _ hrw
                          exact va_ldcSW hx hb hown' g2 hdec (go _ ⟨⟨a, g1, rfl⟩, hS⟩)
                        · cases hq
                      · have hrw := hokr.2
                        dsimp only at hrw
                        obtain ⟨a, r1, g1, rfl, hS1⟩ := rS_R hS
                        split at hq
                        · rename_i z0
                          cases hq
                          rcases hrw with ⟨-, w1, w2, w3⟩ | ⟨z1, -⟩
                          · refine W.objInit hx hb hown' (hts' _ w1) (hts' _ w2) (hts' _ w3) (g := F0 m pc ls (.ref a :: r1)) rfl (hl0.1.trans hml.symm) rfl hdec hRf ?_ (go _ hS1)
                            have z2 := z0.2
                            rw [← rS_cats hS1] at z2
                            show 2 * (F0 m pc ls (.ref a :: r1)).monitorRoom + (r1.map fun v => v.category).sum + 12 ≤ 42 * (d + 1)
                            have z3 := lv_room (m := m) (pc := pc) (ls := ls) (rest := Value.ref a :: r1) z2
                            omega
                          · omega
                        · cases hq
                      · have hrw := hokr.2
                        dsimp only at hrw
                        obtain ⟨r1, rfl, hS1⟩ := rS_I hS
                        obtain ⟨r2, rfl, hS2⟩ := rS_I hS1
                        split at hq
                        · rename_i z0
                          rw [← rS_cats hS2] at z0
                          split at hq
                          · cases hq
                            rcases hrw with ⟨z1, -⟩ | ⟨-, w1, w2, w3, w4⟩ | ⟨z1, -⟩ | ⟨z1, -⟩
                            · omega
                            · exact va_mmin hx hb hsz hown' (hts' _ w1) (hts' _ w2) (hts' _ w3) (hts' _ w4) hRf (hRl _ z0) hu1 hu2 hdec (go _ ⟨rfl, hS2⟩)
                            · omega
                            · omega
                          · split at hq
                            · cases hq
                              rcases hrw with ⟨z1, -⟩ | ⟨z1, -⟩ | ⟨-, w1, w2, w3, w4⟩ | ⟨z1, -⟩
                              · omega
                              · omega
                              · exact va_mmax hx hb hsz hown' (hts' _ w1) (hts' _ w2) (hts' _ w3) (hts' _ w4) hRf (hRl _ z0) hu1 hu2 hdec (go _ ⟨rfl, hS2⟩)
                              · omega
                            · split at hq
                              · cases hq
                                rcases hrw with ⟨z1, -⟩ | ⟨z1, -⟩ | ⟨z1, -⟩ | ⟨-, w1, w2, w3, w4⟩
                                · omega
                                · omega
                                · omega
                                · refine va_mabs hx hb hsz hown' (hts' _ w1) (hts' _ w2) (hts' _ w3) (hts' _ w4) hRf ?_ hu1 hu2 hdec (go _ ⟨rfl, rfl, hS2⟩)
                                  show 1 + (r2.map fun v => v.category).sum + 13 ≤ 42 * (d + 1)
                                  omega
                              · cases hq
                        · cases hq
                      · have hrw := hokr.2
                        dsimp only at hrw
                        obtain ⟨r1, rfl, hS1⟩ := rS_I hS
                        split at hq
                        · rename_i z0
                          obtain ⟨z0, z9⟩ := z0
                          rw [← rS_cats hS1] at z0
                          cases hq
                          rcases hrw with ⟨z1, -⟩ | ⟨z1, -⟩ | ⟨z1, -⟩ | ⟨-, w1, w2, w3, w4⟩
                          · omega
                          · omega
                          · omega
                          · exact va_mabs hx hb hsz hown' (hts' _ w1) (hts' _ w2) (hts' _ w3) (hts' _ w4) hRf (hRl _ z0) hu1 hu2 hdec (go _ ⟨rfl, hS1⟩)
                        · cases hq
                      · cases hq
                    · split at hs
                      · cases hs
                      · rename_i h20
                        split at hs
                        · rename_i q hq
                          cases hs
                          have hbud : uc + 1 ≤ dkr D ∧ us + q.2.2 ≤ dnr D := hbud.resolve_left (by decide)
                          exact actN_ok (st2 := q.1) (y := q.2.1) (n := q.2.2) hx hb hts' hown' hK' hP hDD hSS hA hEVs.2.2.1 hH (rowN hokr h20) (rowNa hokr) (rowNq hokr) hq (Nat.le_trans hbud.1 (Nat.le_max_left _ _)) (Nat.le_trans hbud.2 (Nat.le_max_left _ _)) hdec hS
                            (fun H1 ws1 L1 tys1 str2 b1 b2 b3 b4 b5 b6 b7 => ih _ _ _ _ _ _ _ hrun (Nat.le_trans hbud.1 (Nat.le_max_left _ _)) (Nat.le_trans hbud.2 (Nat.le_max_left _ _)) d0 ls lvr str2 H1 locs L1 tys1 ws1 hd0 hl0 (rL_mono b1 hL) b7 b6 b2 b3 b4 b5 (hpre.trans b1))
                        · cases hs
      · sorry
end MT
