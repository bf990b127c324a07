section MT
theorem row20 {cl : List vw_C} {df : List (List Value)} {G : List Cond} {ar : List String} {sx : List (String × Nat × String × Nat)} {ns : Nat} {mt : Nat → Option mM} {D : mM} {pc len : Nat} {i : Instr} {lk : mK} (h : okRow cl df G ar sx ns mt D (pc, i, len, lk)) (h20 : lk.1 = 20) : ∃ idx, i = .new idx ∧ okThr G sx D pc idx lk.2.1 := by
  obtain ⟨-, h⟩ := h
  cases i <;> first
    | exact absurd h20 h
    | exact absurd h20 h.1
    | (rename_i idx; rcases h with h | h
       · exact ⟨idx, rfl, h.2⟩
       · exact absurd h20 h.1)
theorem rowG {cl : List vw_C} {df : List (List Value)} {G : List Cond} {ar : List String} {sx : List (String × Nat × String × Nat)} {ns : Nat} {mt : Nat → Option mM} {D : mM} {pc len : Nat} {i : Instr} {lk : mK} (h : okRow cl df G ar sx ns mt D (pc, i, len, lk)) : ∀ idx, i = .getfield idx → okGK cl G (dy D).cls idx lk := fun _ e => by subst e; exact h.2.2
theorem rowP {cl : List vw_C} {df : List (List Value)} {G : List Cond} {ar : List String} {sx : List (String × Nat × String × Nat)} {ns : Nat} {mt : Nat → Option mM} {D : mM} {pc len : Nat} {i : Instr} {lk : mK} (h : okRow cl df G ar sx ns mt D (pc, i, len, lk)) : ∀ idx, i = .putfield idx → okPf cl G (dy D).cls ((dy D).name = "<init>") idx lk.2.1 lk.2.2.1 lk.2.2.2 := fun _ e => by subst e; exact h.2.2
theorem rowA {cl : List vw_C} {df : List (List Value)} {G : List Cond} {ar : List String} {sx : List (String × Nat × String × Nat)} {ns : Nat} {mt : Nat → Option mM} {D : mM} {pc len : Nat} {i : Instr} {lk : mK} (h : okRow cl df G ar sx ns mt D (pc, i, len, lk)) : i = .aastore → lk.2.1 = ns := fun e => by subst e; exact h.2.2
theorem rowN {cl : List vw_C} {df : List (List Value)} {G : List Cond} {ar : List String} {sx : List (String × Nat × String × Nat)} {ns : Nat} {mt : Nat → Option mM} {D : mM} {pc len : Nat} {i : Instr} {lk : mK} (h : okRow cl df G ar sx ns mt D (pc, i, len, lk)) (h20 : ¬ lk.1 = 20) : ∀ idx, i = .new idx → okNew cl df G (dy D).cls idx lk.2.1 := fun _ e => by
  subst e
  rcases h.2 with h | h
  · exact absurd h.1 h20
  · exact h.2
theorem rowNa {cl : List vw_C} {df : List (List Value)} {G : List Cond} {ar : List String} {sx : List (String × Nat × String × Nat)} {ns : Nat} {mt : Nat → Option mM} {D : mM} {pc len : Nat} {i : Instr} {lk : mK} (h : okRow cl df G ar sx ns mt D (pc, i, len, lk)) : ∀ at0, i = .newarray at0 → okArr G at0 := fun _ e => by subst e; exact h.2.2
theorem rowNq {cl : List vw_C} {df : List (List Value)} {G : List Cond} {ar : List String} {sx : List (String × Nat × String × Nat)} {ns : Nat} {mt : Nat → Option mM} {D : mM} {pc len : Nat} {i : Instr} {lk : mK} (h : okRow cl df G ar sx ns mt D (pc, i, len, lk)) : ∀ idx, i = .anewarray idx → okANew cl G ar (dy D).cls idx lk.2.1 := fun _ e => by subst e; exact h.2.2
theorem rowC {cl : List vw_C} {df : List (List Value)} {G : List Cond} {ar : List String} {sx : List (String × Nat × String × Nat)} {ns : Nat} {mt : Nat → Option mM} {D : mM} {pc len : Nat} {i : Instr} {lk : mK} (h : okRow cl df G ar sx ns mt D (pc, i, len, lk)) : ∀ idx, i = .invokestatic idx → lk.1 = 16 → okCopy G (dy D).cls idx := fun _ e => by subst e; exact h.2.2.2.2.2.2
theorem va_ldcSW {p : Program} {l : Launch} {e : Env} {R : Room} {s : State} {m : MethodId} {args : Array Value} {below : List Frame} {meth : Method} {c : Code} {H : Heap} {locs : List Loc} {cells slots : Nat} {Q : State → Prop} {cc : ByteArray} {pc : Nat} {ls : Array Slot} {rest : List Value} (hexec : p.tables.exec = Jvm.exec) (hb : c.code = cc) {own tx : String} {index q : Nat} (hown : s.vm.findClass own = some m.cls) (hZ : vk_R own index tx q s) (hdg : decode cc pc = .ok (.ldc_w index, 3))
    (k : W p l e R s m args below meth c H locs cells slots Q (F0 m (pc + 3) ls (.ref q :: rest))) : W p l e R s m args below meth c H locs cells slots Q (F0 m pc ls rest) := by
  intro T hT X
  obtain ⟨t, a1, b1⟩ := k T hT X
  exact ⟨t, X.ldcStringW hexec hown (text := tx) (a := q) hZ.1 hZ.2 (g := F0 m pc ls rest) rfl (by rw [hb]; exact hdg) t a1, b1⟩
theorem cal_spec {mt : Nat → Option mM} {i : Instr} {lk : mK} {st as r : List Value} {h : mH} {D2 : mM} (hc : cal mt i lk st h = some (D2, as, r)) : lk.1 = 1 ∧ mt lk.2.1 = some D2 ∧ (r.map fun v => v.category).sum ≤ 8 ∧ ∃ as0 r0, popN (dna D2) st = some (as0, r0) ∧
    ((∃ idx, i = .invokestatic idx ∧ as = as0 ∧ r0 = r) ∨ (∃ idx x, i = .invokespecial idx ∧ as = .ref x :: as0 ∧ r0 = .ref x :: r ∧ (lk.2.2.1 = 1 → ∃ fs, h[x]? = some (.inr (dci D2, fs)))) ∨ (∃ idx x fs, i = .invokevirtual idx ∧ as = .ref x :: as0 ∧ r0 = .ref x :: r ∧ h[x]? = some (.inr (dci D2, fs))) ∨ (∃ idx x n f, i = .invokevirtual idx ∧ as = .ref x :: as0 ∧ r0 = .ref x :: r ∧ h[x]? = some (.inl (999, n, .inr (.inr (.inr (.inr f))))) ∧ lk.2.2.1 = 7)) := by
  unfold cal at hc
  split at hc
  · rename_i h1
    split at hc
    · cases hc
    · rename_i D' hD'
      split at hc
      · cases hc
      · rename_i as0 r0 hp
        split at hc
        · rename_i idx
          split at hc
          · rename_i h2
            cases hc
            exact ⟨h1, hD', h2, _, _, hp, Or.inl ⟨_, rfl, rfl, rfl⟩⟩
          · cases hc
        · split at hc
          · split at hc
            · split at hc
              · rename_i hx
                split at hc
                · rename_i h2
                  cases hc
                  obtain ⟨h2, rfl⟩ := h2
                  exact ⟨h1, hD', h2, _, _, hp, Or.inr (Or.inl ⟨_, _, rfl, rfl, rfl, fun _ => ⟨_, hx⟩⟩)⟩
                · cases hc
              · cases hc
            · rename_i h3
              split at hc
              · rename_i h2
                cases hc
                exact ⟨h1, hD', h2, _, _, hp, Or.inr (Or.inl ⟨_, _, rfl, rfl, rfl, fun h4 => absurd h4 h3⟩)⟩
              · cases hc
          · cases hc
        · split at hc
          · split at hc
            · rename_i hx
              split at hc
              · rename_i h2
                cases hc
                obtain ⟨h2, rfl⟩ := h2
                exact ⟨h1, hD', h2, _, _, hp, Or.inr (Or.inr (Or.inl ⟨_, _, _, rfl, rfl, rfl, hx⟩))⟩
              · cases hc
            · rename_i hx
              split at hc
              · rename_i h2
                cases hc
                obtain ⟨h2, rfl, h3⟩ := h2
                exact ⟨h1, hD', h2, _, _, hp, Or.inr (Or.inr (Or.inr ⟨_, _, _, _, rfl, rfl, rfl, hx, h3⟩))⟩
              · cases hc
            · cases hc
          · cases hc
        · cases hc
  · cases hc
theorem good_sW {cl : List vw_C} {df : List (List Value)} {G : List Cond} {ar : List String} {sx : List (String × Nat × String × Nat)} {ns : Nat} {mt : Nat → Option mM} {D : mM} (hG : ∀ w ∈ G, goodWord w = true) (h : okD cl df G ar sx ns mt D) : GoodIn G (sW D G) := fun w hw => (List.mem_cons.mp hw).elim (fun e => by rw [e]; exact ⟨h.2.1, good_of_word (hG _ h.2.1)⟩) (fun h => ⟨h, good_of_word (hG _ h)⟩)
theorem castE {s : State} (h : ∀ w ∈ ngW, va_Nw w s) {args : Array Value} : ∀ k : Nat, k ≤ 2 → (Cond.castable (eNm k) (eNm k)).before args s = true
  | 0, _ => va_Nw.use rfl (h _ List.mem_cons_self)
  | 1, _ => va_Nw.use rfl (h _ (List.mem_cons_of_mem _ List.mem_cons_self))
  | 2, _ => va_Nw.use rfl (h _ (List.mem_cons_of_mem _ (List.mem_cons_of_mem _ List.mem_cons_self)))
  | n + 3, h => absurd h (by omega)
theorem ngW_use {s : State} (h : ∀ w ∈ ngW, va_Nw w s) {args : Array Value} : ∀ w ∈ ngW, w.before args s = true := by
  intro w hw
  have h0 := h w hw
  simp only [ngW, List.mem_cons, List.not_mem_nil, or_false] at hw
  rcases hw with rfl | rfl | rfl | rfl | rfl | rfl <;> exact va_Nw.use rfl h0
variable {l : Launch} {B : va_G} {cl : List vw_C} {ns n1 : Nat} {A : Nat → Prop} {df : List (List Value)} {G : List Cond} {ar : List String} {sx : List (String × Nat × String × Nat)} {mt : Nat → Option mM} {cs : List Choice}
set_option maxHeartbeats 8000000 in
theorem run_ok {sc : mSc} {R : Room} (hn : nanBits ∈ cs) (hl : l.stackTraces = false) (hG : ∀ w ∈ G, goodWord w = true) (hmt : ∀ y D, mt y = some D → okD cl df G ar sx n1 mt D) {call : mCall} {d : Nat}
    (hcall : ∀ y as h Post D2, mt y = some D2 → call y as h Post → mMet cs l B cl ns n1 A sx ar G d D2 as h Post) {D : mM} (hD7 : okHs G (dy D).cls (dhh D) (dhx D)) (hD8 : ∀ r ∈ drw D, okRow cl df G ar sx n1 mt D r)
    {p : Program} {e : Env} {s : State} {m : MethodId} {args : Array Value} {below : List Frame} {meth : Method} {c : Code} {L0 : List Nat}
    (hx : p.tables.exec = Jvm.exec) (hb : c.code = dcc D) (hml : c.maxLocals = dml D) (hown : s.vm.findClass (dy D).cls = some m.cls) (hts : ∀ w ∈ G, w.before args s = true) (hr : meth.sig.returnType = drt D) (hlocks : meth.locks = false) (htab : c.exceptionTable.toList = tableOf (dhh D)) (hin : meth.name = (dy D).name)
    (hEV : eV A n1 L0 sx ar s) (hA : ∀ q, s.heap.size ≤ q → A q) (hSC : ∀ x n f, sc = some (x, n, f) → ∃ b, L0[x]? = some b ∧ va_X b n f s s.heap ∧ b < s.heap.size ∧ ¬ A b) (hRF : d + 1 ≤ R.frames) (hRL : 42 * (d + 1) ≤ R.locals) (hRC : max (dkr D) (dkx D) ≤ R.cells) (hRS : max (dnr D) (dnx D) ≤ R.slots) : ∀ (n pc : Nat) (lv : mL) (st : List Value) (h : mH) (uc us : Nat) (Post : mPost), run sc df mt call D d n pc lv st h uc us Post →
    uc ≤ R.cells → us ≤ R.slots → ∀ (d0 : Drawn) (ls : Array Slot) (lvr : mL) (str : List Value) (H : Heap) (locs : List Loc) (L : List Nat) (tys : List (ClassId × FieldType)) (ws : va_W), s.drawn.sameBut d0 cs → lv_has ls (dml D) lvr → rL L lv lvr → rS L st str → rH cl ns L tys h ws → va_K B cl tys s → va_P B cl ws H → va_D A ws → va_S A s.heap H locs → L0 <+: L →
    W p l e R (s.setDrawn d0) m args below meth c H locs uc us (mx_MQ cs below (mQc B cl ns A L0 Post) (mXc B cl ns A L0 Post) args s (dkr D) (dnr D) (dkx D) (dnx D) A) (F0 m pc ls str) := by
  intro n
  induction n with
  | zero => intro pc lv st h uc us Post hrun; exact hrun.elim
  | succ n ih =>
    intro pc lv st h uc us Post hrun hu1 hu2 d0 ls lvr str H locs L tys ws hd0 hl0 hL hS hH hK hP hDD hSS hpre
    have hts' : ∀ w ∈ G, w.before args (s.setDrawn d0) = true := dr_words hts d0
    have hown' : (s.setDrawn d0).vm.findClass (dy D).cls = some m.cls := hown
    have hK' : va_K B cl tys (s.setDrawn d0) := hK
    have hEVs : eV A n1 L sx ar (s.setDrawn d0) := eV_mono hpre (eV_to (s := s) (U := s.setDrawn d0) (locs := []) (State.WarmedH.refl s) va_S.rf hEV)
    have hlocsA : ∀ q ∈ locs, A q.base := hSS.2.2
    unfold run at hrun
    split at hrun
    · exact hrun.elim
    · rename_i i len lk hrow
      have hokr := hD8 _ (rowAt_mem hrow)
      have hdec : decode (dcc D) pc = .ok (i, lnI i len) := hokr.1
      split at hrun
      · rename_i pc2 lv2 st2 h2 kc ks hs
        obtain ⟨hbud, hrun⟩ := hrun
        unfold stp at hs
        split at hs
        · rename_i q hq
          cases hs
          exact actC_ok hx hb (pc2 := q.1) (lv2 := q.2.1) (st2 := q.2.2) hq hdec hl0 hL hS (fun lvr2 ls2 str2 a1 a2 a3 => ih _ _ _ _ _ _ _ hrun hu1 hu2 d0 ls2 lvr2 str2 H locs L tys ws hd0 a1 a2 a3 hH hK hP hDD hSS hpre)
        · split at hs
          · rename_i q hq
            cases hs
            exact actA_ok hx hb (pc2 := q.1) (st2 := q.2) hq hdec hS (fun str2 a3 => ih _ _ _ _ _ _ _ hrun hu1 hu2 d0 ls lvr str2 H locs L tys ws hd0 hl0 hL a3 hH hK hP hDD hSS hpre)
          · split at hs
            · rename_i q hq
              cases hs
              exact actR_ok (s := s.setDrawn d0) hx hb hts' hown' hK' hP hH hEVs.2.2.2.2.2.2.2.2.2.1 hSS (rowG hokr) hq hdec hS (fun str2 a3 => ih _ _ _ _ _ _ _ hrun hu1 hu2 d0 ls lvr str2 H locs L tys ws hd0 hl0 hL a3 hH hK hP hDD hSS hpre)
            · split at hs
              · rename_i q hq
                cases hs
                exact actB_ok hx hb (pc2 := q.1) (st2 := q.2) hq hdec hS (fun str2 a3 => ih _ _ _ _ _ _ _ hrun hu1 hu2 d0 ls lvr str2 H locs L tys ws hd0 hl0 hL a3 hH hK hP hDD hSS hpre)
              · split at hs
                · rename_i q hq
                  cases hs
                  exact actS_ok hx hb (pc2 := q.1) (lv2 := q.2.1) (st2 := q.2.2) hq hdec hl0 hL hS (fun lvr2 ls2 str2 a1 a2 a3 => ih _ _ _ _ _ _ _ hrun hu1 hu2 d0 ls2 lvr2 str2 H locs L tys ws hd0 a1 a2 a3 hH hK hP hDD hSS hpre)
                · split at hs
                  · rename_i q hq
                    cases hs
                    exact actW_ok (st2 := q.1) (x := q.2.1) (y := q.2.2) hx hb hts' hown' hK' hP hDD hSS hEVs.2.2.2.1 hH (fun idx e0 => by rw [hin]; exact rowP hokr idx e0) (rowA hokr) (rowC hokr) (hml.trans hl0.1.symm) (by omega) (by omega) hq hdec hS (fun H1 locs1 ws1 str2 b1 b2 b3 b4 b5 => ih _ _ _ _ _ _ _ hrun hu1 hu2 d0 ls lvr str2 H1 locs1 L tys ws1 hd0 hl0 hL b5 b4 hK b1 b2 b3 hpre)
                  · split at hs
                    · rename_i q hq
                      cases hs
                      have go : ∀ str2, rS L st2 str2 → W p l e R (s.setDrawn d0) m args below meth c H locs uc us (mx_MQ cs below (mQc B cl ns A L0 Post) (mXc B cl ns A L0 Post) args s (dkr D) (dnr D) (dkx D) (dnx D) A) (F0 m (pc + lnI i len) ls str2) := fun str2 a3 => ih _ _ _ _ _ _ _ hrun hu1 hu2 d0 ls lvr str2 H locs L tys ws hd0 hl0 hL a3 hH hK hP hDD hSS hpre
                      have hRf : 1 ≤ R.frames := by omega
                      have hRl : ∀ z, z ≤ 8 → z + 13 ≤ R.locals := fun z hz => by omega
                      have hsz : c.maxLocals = ls.size := by rw [hml]; exact hl0.1.symm
                      unfold actK at hq
                      split at hq
                      · have hrw := hokr.2
                        dsimp only at hrw
                        split at hq
                        · rename_i z0
                          cases hq
                          exact lv_ldc hx hb hown' (hts' _ (hrw.2.1 z0)) hdec (go _ ⟨rfl, hS⟩)
                        · split at hq
                          · rename_i z0
                            cases hq
                            exact lv_ldcf hx hb hown' (hts' _ (hrw.2.2.1 z0)) hdec (go _ ⟨rfl, hS⟩)
                          · split at hq
                            · rename_i z0
                              cases hq
                              obtain ⟨tx, hrw⟩ := hrw.2.2.2 z0
                              obtain ⟨a, g1, g2⟩ := hEVs.2.2.2.2.1 _ hrw
                              exact va_ldcS hx hb hown' g2 hdec (go _ ⟨⟨a, g1, rfl⟩, hS⟩)
                            · cases hq
                      · have hrw := hokr.2
                        dsimp only at hrw
                        split at hq
                        · rename_i z0
                          cases hq
                          exact va_gets (s := s.setDrawn d0) hx hb hEVs.2.2.2.2.2.2.2.1 hSS hown' (hts' _ (hrw.2.1 z0)) (fun _ z => z) hdec (go _ ⟨rfl, hS⟩)
                        · split at hq
                          · rename_i z0
                            cases hq
                            obtain ⟨nm, w1, w2⟩ := hrw.2.2.1 z0
                            obtain ⟨a, g1, g2⟩ := hEVs.2.2.2.2.2.2.2.2.2.2.1 _ w1
                            exact va_gets (s := s.setDrawn d0) hx hb g2 hSS hown' (hts' _ w2) (fun _ z => z) hdec (go _ ⟨⟨a, g1, rfl⟩, hS⟩)
                          · split at hq
                            · rename_i z0
                              cases hq
                              rcases hEVs.2.2.2.2.2.2.2.2.2.2.2 with g2 | ⟨a, g2⟩
                              · exact va_gets (s := s.setDrawn d0) hx hb g2 hSS hown' (hts' _ (hrw.2.2.2 z0)) (fun _ z => z) hdec (go _ ⟨⟨none, rfl⟩, hS⟩)
                              · exact va_gets (s := s.setDrawn d0) hx hb g2 hSS hown' (hts' _ (hrw.2.2.2 z0)) (fun _ z => z) hdec (go _ ⟨⟨some a, rfl⟩, hS⟩)
                            · cases hq
                      · have hrw := hokr.2
                        dsimp only at hrw
                        split at hq
                        · rename_i z0
                          cases hq
                          exact lv_ldcw hx hb hown' (hts' _ (hrw.2.1 z0)) hdec (go _ ⟨rfl, hS⟩)
                        · split at hq
                          · rename_i z0
                            cases hq
                            obtain ⟨tx, hrw⟩ := hrw.2.2 z0
                            obtain ⟨a, g1, g2⟩ := hEVs.2.2.2.2.1 _ hrw
                            exact va_ldcSW hx hb hown' g2 hdec (go _ ⟨⟨a, g1, rfl⟩, hS⟩)
                          · cases hq
                      · have hrw := hokr.2
                        dsimp only at hrw
                        obtain ⟨a, r1, g1, rfl, hS1⟩ := rS_R hS
                        split at hq
                        · rename_i z0
                          cases hq
                          obtain ⟨w1, w2, w3⟩ := hrw.2.1 z0.1
                          · refine W.objInit hx hb hown' (hts' _ w1) (hts' _ w2) (hts' _ w3) (g := F0 m pc ls (.ref a :: r1)) rfl (hl0.1.trans hml.symm) rfl hdec hRf ?_ (go _ hS1)
                            have z2 := z0.2
                            rw [← rS_cats hS1] at z2
                            have z3 := lv_room (m := m) (pc := pc) (ls := ls) (rest := Value.ref a :: r1) z2
                            omega
                        · cases hq
                      · have hrw := hokr.2
                        dsimp only at hrw
                        obtain ⟨r1, rfl, hS1⟩ := rS_I hS
                        obtain ⟨r2, rfl, hS2⟩ := rS_I hS1
                        split at hq
                        · rename_i z0
                          rw [← rS_cats hS2] at z0
                          split at hq
                          · rename_i z1
                            cases hq
                            obtain ⟨w1, w2, w3, w4⟩ := hrw.2.2.1 z1
                            exact va_mmin hx hb hsz hown' (hts' _ w1) (hts' _ w2) (hts' _ w3) (hts' _ w4) hRf (hRl _ z0) hu1 hu2 hdec (go _ ⟨rfl, hS2⟩)
                          · split at hq
                            · rename_i z1
                              cases hq
                              obtain ⟨w1, w2, w3, w4⟩ := hrw.2.2.2.1 z1
                              exact va_mmax hx hb hsz hown' (hts' _ w1) (hts' _ w2) (hts' _ w3) (hts' _ w4) hRf (hRl _ z0) hu1 hu2 hdec (go _ ⟨rfl, hS2⟩)
                            · split at hq
                              · rename_i z1
                                cases hq
                                obtain ⟨w1, w2, w3, w4⟩ := hrw.2.2.2.2.1 z1
                                · refine va_mabs hx hb hsz hown' (hts' _ w1) (hts' _ w2) (hts' _ w3) (hts' _ w4) hRf ?_ hu1 hu2 hdec (go _ ⟨rfl, rfl, hS2⟩)
                                  have h9 : ∀ z : Int32, ((Value.int z :: r2).map fun v => v.category).sum = 1 + (r2.map fun v => v.category).sum := fun _ => rfl
                                  rw [h9]
                                  omega
                              · cases hq
                        · cases hq
                      · have hrw := hokr.2
                        dsimp only at hrw
                        obtain ⟨r1, rfl, hS1⟩ := rS_I hS
                        split at hq
                        · rename_i z0
                          obtain ⟨z0, z9⟩ := z0
                          rw [← rS_cats hS1] at z0
                          cases hq
                          obtain ⟨w1, w2, w3, w4⟩ := hrw.2.2.2.2.1 z9
                          exact va_mabs hx hb hsz hown' (hts' _ w1) (hts' _ w2) (hts' _ w3) (hts' _ w4) hRf (hRl _ z0) hu1 hu2 hdec (go _ ⟨rfl, hS1⟩)
                        · cases hq
                      · cases hq
                    · split at hs
                      · rename_i q hq
                        cases hs
                        unfold actX at hq
                        split at hq
                        · rename_i x0 n0 f0 j x r
                          obtain ⟨r1, rfl, hS1⟩ := rS_I hS
                          obtain ⟨a, r2, g1, rfl, hS2⟩ := rS_R hS1
                          split at hq
                          · rename_i z0
                            cases hq
                            obtain ⟨rfl, hvin⟩ := z0
                            obtain ⟨b, f1, f2, f3, f4⟩ := hSC _ _ _ rfl
                            have f1 := (show ∀ k : Nat, L0[k]? = some b → L[k]? = some b from fun k f1 => by obtain ⟨t9, rfl⟩ := hpre; rw [List.getElem?_append_left (List.getElem?_eq_some_iff.mp f1).1]; exact f1) _ f1
                            cases g1.symm.trans f1
                            exact va_sld (s := s.setDrawn d0) hx hb f2 f3 f4 hSS hvin hdec (ih _ _ _ _ _ _ _ hrun hu1 hu2 d0 ls lvr _ H locs L tys ws hd0 hl0 hL ⟨rfl, hS2⟩ hH hK hP hDD hSS hpre)
                          · cases hq
                        · rename_i x0 n0 f0 x r
                          obtain ⟨a, r2, g1, rfl, hS2⟩ := rS_R hS
                          split at hq
                          · rename_i z0
                            cases hq
                            subst z0
                            obtain ⟨b, f1, f2, f3, f4⟩ := hSC _ _ _ rfl
                            have f1 := (show ∀ k : Nat, L0[k]? = some b → L[k]? = some b from fun k f1 => by obtain ⟨t9, rfl⟩ := hpre; rw [List.getElem?_append_left (List.getElem?_eq_some_iff.mp f1).1]; exact f1) _ f1
                            cases g1.symm.trans f1
                            exact va_slen (s := s.setDrawn d0) hx hb f2 f3 f4 hSS hdec (ih _ _ _ _ _ _ _ hrun hu1 hu2 d0 ls lvr _ H locs L tys ws hd0 hl0 hL ⟨rfl, hS2⟩ hH hK hP hDD hSS hpre)
                          · cases hq
                        · cases hq
                      · split at hs
                        · cases hs
                        · rename_i h20
                          split at hs
                          · rename_i q hq
                            cases hs
                            have hbud : uc + 1 ≤ dkr D ∧ us + q.2.2 ≤ dnr D := hbud.resolve_left (by decide)
                            exact actN_ok (st2 := q.1) (y := q.2.1) (n := q.2.2) hx hb hts' hown' hK' hP hDD hSS hA hEVs.2.2.1 hH (rowN hokr h20) (rowNa hokr) (rowNq hokr) hq (Nat.le_trans hbud.1 (Nat.le_trans (Nat.le_max_left _ _) hRC)) (Nat.le_trans hbud.2 (Nat.le_trans (Nat.le_max_left _ _) hRS)) hdec hS
                              (fun H1 ws1 L1 tys1 str2 b1 b2 b3 b4 b5 b6 b7 => ih _ _ _ _ _ _ _ hrun (Nat.le_trans hbud.1 (Nat.le_trans (Nat.le_max_left _ _) hRC)) (Nat.le_trans hbud.2 (Nat.le_trans (Nat.le_max_left _ _) hRS)) d0 ls lvr str2 H1 locs L1 tys1 ws1 hd0 hl0 (rL_mono b1 hL) b7 b6 b2 b3 b4 b5 (hpre.trans b1))
                          · cases hs
      · split at hrun
        · rename_i v hf
          obtain ⟨hk1, hk2, hpost⟩ := hrun
          have hAt : ∀ t : State, t.heap = H → (s.setDrawn d0).WarmedH t.vm → mAt B cl ns A L0 h L t := fun t ht hW => ⟨tys, ws, hpre, va_K.moved hW.alike hK', by rw [ht]; exact hP, hDD, hH⟩
          have hF : ∀ t : State, t.heap = H → va_F A (s.setDrawn d0) t := fun t ht => va_S.F (s := s.setDrawn d0) hSS ht
          unfold fin at hf
          split at hf
          · rename_i hrt
            cases hf
            obtain rfl := rS_nil hS
            exact mx_end hd0 hk1 hk2 (W.vret hx hb (hr.trans (by assumption)) (fun t ht hW => ⟨⟨none, none, h, L, rfl, hpost, rfl, hAt t ht hW⟩, hF t ht⟩) hlocsA hdec hlocks)
          · rename_i z ty hrt
            split at hf
            · rename_i hc
              cases hf
              obtain ⟨r1, rfl, hS1⟩ := rS_I hS
              obtain rfl := rS_nil hS1
              exact mx_end hd0 hk1 hk2 (W.zret hx hb (hr.trans (by assumption)) hc.1 (fun t ht hW => ⟨⟨_, _, h, L, rfl, hpost, ⟨_, rfl, rfl⟩, hAt t ht hW⟩, hF t ht⟩) hlocsA hdec hlocks)
            · cases hf
          · rename_i z hrt
            cases hf
            obtain ⟨r1, rfl, hS1⟩ := rS_J hS
            obtain rfl := rS_nil hS1
            exact mx_end hd0 hk1 hk2 (W.lret hx hb (hr.trans (by assumption)) (fun t ht hW => ⟨⟨_, _, h, L, rfl, hpost, ⟨_, rfl, rfl⟩, hAt t ht hW⟩, hF t ht⟩) hlocsA hdec hlocks)
          · rename_i z hrt
            cases hf
            obtain ⟨r1, rfl, hS1⟩ := rS_F hS
            obtain rfl := rS_nil hS1
            exact mx_end hd0 hk1 hk2 (W.fret hx hb (hr.trans (by assumption)) (fun t ht hW => ⟨⟨_, _, h, L, rfl, hpost, ⟨_, rfl, rfl⟩, hAt t ht hW⟩, hF t ht⟩) hlocsA hdec hlocks)
          · rename_i z ty hrt
            cases hf
            obtain ⟨a, r1, ha, rfl, hS1⟩ := rS_R hS
            obtain rfl := rS_nil hS1
            exact mx_end hd0 hk1 hk2 (W.aret hx hb (hr.trans (by assumption)) (Or.inl ⟨_, rfl⟩) (Or.inr ⟨_, rfl⟩) (fun t ht hW => ⟨⟨_, _, h, L, rfl, hpost, ⟨_, rfl, ⟨a, ha, rfl⟩⟩, hAt t ht hW⟩, hF t ht⟩) hlocsA hdec hlocks)
          · rename_i ty hrt
            cases hf
            obtain ⟨r1, rfl, hS1⟩ := rS_N hS
            obtain rfl := rS_nil hS1
            exact mx_end hd0 hk1 hk2 (W.aret hx hb (hr.trans (by assumption)) (Or.inl ⟨_, rfl⟩) (Or.inl rfl) (fun t ht hW => ⟨⟨_, _, h, L, rfl, hpost, ⟨_, rfl, rfl⟩, hAt t ht hW⟩, hF t ht⟩) hlocsA hdec hlocks)
          · rename_i z ty hrt
            cases hf
            obtain ⟨a, r1, ha, rfl, hS1⟩ := rS_R hS
            obtain rfl := rS_nil hS1
            exact mx_end hd0 hk1 hk2 (W.aret hx hb (hr.trans (by assumption)) (Or.inr ⟨_, rfl⟩) (Or.inr ⟨_, rfl⟩) (fun t ht hW => ⟨⟨_, _, h, L, rfl, hpost, ⟨_, rfl, ⟨a, ha, rfl⟩⟩, hAt t ht hW⟩, hF t ht⟩) hlocsA hdec hlocks)
          · cases hf
        · split at hrun
          · rename_i x r hf
            unfold flo at hf
            split at hf
            · cases hf
              obtain ⟨r1, rfl, hS1⟩ := rS_F hS
              obtain ⟨r2, rfl, hS2⟩ := rS_F hS1
              exact lv_fadd_any hd0 hn hx hb hdec (fun z d1 hal hd1 => ih _ _ _ _ _ _ _ (hrun z hal) hu1 hu2 d1 ls lvr _ H locs L tys ws hd1 hl0 hL ⟨rfl, hS2⟩ hH hK hP hDD hSS hpre)
            · cases hf
              obtain ⟨r1, rfl, hS1⟩ := rS_F hS
              obtain ⟨r2, rfl, hS2⟩ := rS_F hS1
              exact lv_fsub_any hd0 hn hx hb hdec (fun z d1 hal hd1 => ih _ _ _ _ _ _ _ (hrun z hal) hu1 hu2 d1 ls lvr _ H locs L tys ws hd1 hl0 hL ⟨rfl, hS2⟩ hH hK hP hDD hSS hpre)
            · cases hf
              obtain ⟨r1, rfl, hS1⟩ := rS_F hS
              obtain ⟨r2, rfl, hS2⟩ := rS_F hS1
              exact lv_fmul_any hd0 hn hx hb hdec (fun z d1 hal hd1 => ih _ _ _ _ _ _ _ (hrun z hal) hu1 hu2 d1 ls lvr _ H locs L tys ws hd1 hl0 hL ⟨rfl, hS2⟩ hH hK hP hDD hSS hpre)
            · cases hf
              obtain ⟨r1, rfl, hS1⟩ := rS_F hS
              obtain ⟨r2, rfl, hS2⟩ := rS_F hS1
              exact lv_fdiv_any hd0 hn hx hb hdec (fun z d1 hal hd1 => ih _ _ _ _ _ _ _ (hrun z hal) hu1 hu2 d1 ls lvr _ H locs L tys ws hd1 hl0 hL ⟨rfl, hS2⟩ hH hK hP hDD hSS hpre)
            · cases hf
            · cases hf
          · rename_i x r hf
            unfold flo at hf
            split at hf
            · cases hf
            · cases hf
            · cases hf
            · cases hf
            · cases hf
              obtain ⟨r1, rfl, hS1⟩ := rS_F hS
              exact lv_f2d_any hd0 hn hx hb hdec (fun z d1 hal hd1 => ih _ _ _ _ _ _ _ (hrun z hal) hu1 hu2 d1 ls lvr _ H locs L tys ws hd1 hl0 hL ⟨rfl, hS1⟩ hH hK hP hDD hSS hpre)
            · cases hf
          · split at hrun
            · rename_i D0 as r hc
              obtain ⟨y2, D2, hmt3, ⟨s1, s2, s3, s4, s5⟩, hb1, hb2, hcl⟩ := hrun
              obtain ⟨hk1, hmt2, hsum, as0, r0, hpop, hkind⟩ := cal_spec hc
              rw [← s2] at hpop
              rw [← s3] at hkind
              have hD2' := hmt _ _ hmt3
              obtain ⟨e1, e2, e3, e4, e5, e6, e7, e8⟩ := id hD2'
              obtain ⟨as0r, rr0, rfl, ha1, ha2, ha3⟩ := popN_spec hpop hS
              obtain ⟨P1, hP1, hcl⟩ : ∃ P1 : mPost, (∀ (ex : Option Nat) (v : Option Value) (h2 : mH), P1 ex v h2 → (match ex with
                | none => run sc df mt call D d n (pc + 3) lv (v.toList ++ r) h2 (uc + dkr D2) (us + dnr D2) Post
                | some E => match hdl (dhh D) (dhx D) pc E with
                  | some hp => run sc df mt call D d n hp lv [.retAddr 0] h2 (uc + dkx D2) (us + dnx D2) Post
                  | none => uc + dkx D2 ≤ dkx D ∧ us + dnx D2 ≤ dnx D ∧ Post (some E) none h2)) ∧ call y2 as h P1 := ⟨_, fun _ _ _ z => z, hcl⟩
              have on : ∀ (asF rr : List Value), rS L as asF → rS L r rr → mx_Met cs l (dy D2) (sW D2 G) (dR d D2) (mPc B cl n1 A sx ar L tys ws asF) (mQc B cl ns A L P1) (mXc B cl ns A L P1) (dkr D2) (dnr D2) (dkx D2) (dnx D2) A ∧
                  mx_On cs p l e R (s.setDrawn d0) m args below meth c H locs uc us (dkr D2) (dnr D2) (dkx D2) (dnx D2) A s.heap (mx_MQ cs below (mQc B cl ns A L0 Post) (mXc B cl ns A L0 Post) args s (dkr D) (dnr D) (dkx D) (dnx D) A) pc ls rr (mQc B cl ns A L P1 asF.toArray) (mXc B cl ns A L P1) := by
                intro asF rr hasF hrr
                refine ⟨hcall _ _ _ _ _ hmt3 hcl L tys ws asF hasF hH, ?_, ?_⟩
                · intro v st₀ t locs1 d1 hd1 hal hQ hS1
                  obtain ⟨⟨v', vr, h2, L2, hv0, hp, hrv, tys2, ws2, hL2, hK2, hP2, hD2a, hH2⟩, hF⟩ := hQ
                  cases hv0
                  have hp := hP1 _ _ _ hp
                  refine ih _ _ _ _ _ _ _ hp (by omega) (by omega) d1 ls lvr _ t.heap locs1 L2 tys2 ws2 (Drawn.sameBut.trans hd0 hd1) hl0 (rL_mono hL2 hL) ?_ hH2 (va_K.moved hal.symm hK2) hP2 hD2a hS1 (hpre.trans hL2)
                  cases v' with
                  | none => have hrv : v = none := hrv; subst hrv; exact rS_mono hL2 hrr
                  | some x => obtain ⟨y, rfl, hy⟩ := hrv; exact ⟨hy, rS_mono hL2 hrr⟩
                · intro E ce q st₀ t locs1 d1 hd1 hal hX hS1 hce hcv hcle
                  obtain ⟨⟨k, h2, L2, rfl, hk, hp, tys2, ws2, hL2, hK2, hP2, hD2a, hH2⟩, hF⟩ := hX
                  have hEV1 : ∀ w ∈ ngW, va_Nw w (s.setDrawn d1) := ngW_warm (s := s) (U := s.setDrawn d1) (State.WarmedH.refl s) hEV.2.2.2.2.2.1
                  have hNc : ∀ a b : Nat, a ≤ 2 → b ≤ 2 → a ≠ b → va_Nc (eNm a) (eNm b) (s.setDrawn d1) := fun a b x y n => va_Nc.moved (u := s) (U := s.setDrawn d1) (Vm.Alike.refl s.vm) (hEV.2.2.2.2.2.2.1 a b x y n)
                  have hts1 : ∀ w ∈ G, w.before args (s.setDrawn d1) = true := dr_words hts d1
                  have hcl1 : (s.setDrawn d1).vm.findClass (eNm k) = some ce.cls := hcle
                  have hown1 : (s.setDrawn d1).vm.findClass (dy D).cls = some m.cls := hown
                  show vx_W p l e R (s.setDrawn d1) m args below meth c t.heap locs1 (uc + dkx D2) (us + dnx D2) _ (F0 m pc ls rr) q
                  have hp := hP1 _ _ _ hp
                  dsimp only at hp
                  split at hp
                  · rename_i hpc hh
                    obtain ⟨pre, q0, suf, f1, f2, f3, f4, f5, f6⟩ := hdl_some hD7 hh
                    refine vx_catch (own := (dy D).cls) (name := eNm k) hown1 (tableOf pre) ⟨q0.1, q0.2.1, q0.2.2.1, q0.2.2.2⟩ (tableOf suf) (by rw [htab, f1]; simp [tableOf]) ?_ (by simp [covers, f2.1, f2.2]) f4 (hts1 _ f5) (castE hEV1 k hk) hce hcv hcl1 ?_
                    · intro z hz
                      obtain ⟨z', hz', rfl⟩ := List.mem_map.mp hz
                      rcases f6 z' hz' with g | ⟨g1, x, g2, g3, g4⟩
                      · exact Or.inl (covers_no g)
                      · exact Or.inr ⟨g1, eNm x, hts1 _ g4, hNc k x hk g2 g3⟩
                    · show W p l e R (s.setDrawn d1) m args below meth c t.heap locs1 (uc + dkx D2) (us + dnx D2) _ (F0 m q0.2.2.1 ls [.ref q])
                      rw [f3]
                      exact ih _ _ _ _ _ _ _ hp (by omega) (by omega) d1 ls lvr _ t.heap locs1 L2 tys2 ws2 (Drawn.sameBut.trans hd0 hd1) hl0 (rL_mono hL2 hL) ⟨⟨some q, rfl⟩, trivial⟩ hH2 (va_K.moved hal.symm hK2) hP2 hD2a hS1 (hpre.trans hL2)
                  · rename_i hh
                    obtain ⟨u1, u2, hp⟩ := hp
                    have f6 := hdl_none hD7 hh
                    refine mx_outX (Drawn.sameBut.trans hd0 hd1) (vx_outP (own := (dy D).cls) hown1 hlocks ?_ hce hcv hcl1 (fun t' ht' hW' => ⟨⟨k, h2, L2, rfl, hk, hp, tys2, ws2, hpre.trans hL2, va_K.moved hW' (va_K.moved (U := s.setDrawn d1) hal.symm hK2), by rw [ht']; exact hP2, hD2a, hH2⟩, va_S.F (s := s.setDrawn d1) hS1 ht'⟩) hS1.2.2 u1 u2)
                    intro z hz
                    rw [htab] at hz
                    obtain ⟨z', hz', rfl⟩ := List.mem_map.mp hz
                    rcases f6 z' hz' with g | ⟨g1, x, g2, g3, g4⟩
                    · exact Or.inl (covers_no g)
                    · exact Or.inr ⟨g1, eNm x, hts1 _ g4, hNc k x hk g2 g3⟩
              have hlo : 8 + (dml D2 + 11) + (dR d D2).locals ≤ R.locals := by show 8 + (dml D2 + 11) + 42 * d ≤ R.locals; omega
              have hPc : ∀ asF : List Value, ∀ U : State, U.heap = H → (s.setDrawn d0).WarmedH U.vm → mPc B cl n1 A sx ar L tys ws asF asF.toArray U := fun asF U hU hW => ⟨rfl, va_K.moved hW.alike hK', by rw [hU]; exact hP, hDD, eV_to hW (by rw [hU]; exact hSS) hEVs, fun q hq => hA q (Nat.le_trans hSS.1 (by rw [← hU]; exact hq))⟩
              have hsz : ls.size = c.maxLocals := hl0.1.trans hml.symm
              have hcW : (cdW (dy D2) (dcc D2) (dml D2) (drt D2) (dhh D2)).before args (s.setDrawn d0) = true := hts' _ e2
              rcases hkind with ⟨idx, rfl, rfl, rfl⟩ | ⟨idx, x, rfl, rfl, rfl, hxs⟩ | ⟨idx, x, fs, rfl, rfl, rfl, hxo⟩ | ⟨idx, x, n9, f9, rfl, rfl, rfl, hxo, h79⟩
              · have hrw := hokr.2
                dsimp only at hrw
                · obtain ⟨w1, w2⟩ := hrw.2.1 hk1 _ hmt2
                  rw [← s1] at w1 w2
                  obtain ⟨hM, hon⟩ := on _ _ ha1 ha2
                  exact mx_go hM mPc_blind hRF hlo (pay_in hts' (good_sW hG hD2')) List.mem_cons_self (hts' _ e3) (hPc _) (Nat.le_trans hb1 hRC) (Nat.le_trans hb2 hRS) hsz (by rw [rS_cats ha2]; exact hsum) (by rw [hb]; exact hdec) hSS (fun _ _ _ z => z.2) (fun _ _ _ z => z.2) hon
                    (mx_goS hx hown' (hts' _ w1) (hts' _ w2) (hts' _ e3) hcW e4 e5 ha3 (by rw [hb]; exact hdec))
              · have hrw := hokr.2
                dsimp only at hrw
                obtain ⟨a, rr, g1, rfl, ha4⟩ := rS_R ha2
                · obtain ⟨w4, w9⟩ := hrw.2.2 hk1 _ hmt2
                  rw [← s1, ← s4, ← s5] at w9
                  rw [← s1] at w4
                  obtain ⟨hM, hon⟩ := on (.ref a :: as0r) rr ⟨⟨a, g1, rfl⟩, ha1⟩ ha4
                  rcases w9 with ⟨t1, w0, w1, w2, w3⟩ | ⟨w0, w1, w2, w3⟩
                  · obtain ⟨fs, hxo⟩ := hxs t1
                    obtain ⟨a2, gs, f1, f2, f3, f4⟩ := rH_obj hH hxo
                    cases g1.symm.trans f1
                    obtain ⟨r9, hr9, -⟩ := hP _ _ f2
                    have hr9 : cl[dci D2]? = some r9 := hr9
                    obtain ⟨cellB, u1, u2, u3⟩ := va_recv hK' hP hr9 f2
                    obtain ⟨hfc, kB, hkB, -⟩ := (hK'.1 _ _ hr9).2
                    rw [Option.some.inj (hfc.symm.trans u3)] at hkB
                    exact mx_go hM mPc_blind hRF hlo (pay_in hts' (good_sW hG hD2')) List.mem_cons_self (hts' _ e3) (hPc _) (Nat.le_trans hb1 hRC) (Nat.le_trans hb2 hRS) hsz (by rw [rS_cats ha4]; exact hsum) (by rw [hb]; exact hdec) hSS (fun _ _ _ z => z.2) (fun _ _ _ z => z.2) hon
                      (mx_goSU hx hown' w0 (hts' _ w1) (hts' _ w2) (hts' _ w3) (hts' _ w4) hcW u1 u2 hkB e5 ha3 (by rw [hb]; exact hdec))
                  rw [w1, w2] at hcW
                  rcases w3 with w3 | ⟨host, w3⟩
                  · exact mx_go hM mPc_blind hRF hlo (pay_in hts' (good_sW hG hD2')) List.mem_cons_self (hts' _ e3) (hPc _) (Nat.le_trans hb1 hRC) (Nat.le_trans hb2 hRS) hsz (by rw [rS_cats ha4]; exact hsum) (by rw [hb]; exact hdec) hSS (fun _ _ _ z => z.2) (fun _ _ _ z => z.2) hon
                      (mx_goI hx hown' w0 (hts' _ w3) (hts' _ w4) hcW e4 e5 ha3 (by rw [hb]; exact hdec))
                  · exact mx_go hM mPc_blind hRF hlo (pay_in hts' (good_sW hG hD2')) List.mem_cons_self (hts' _ e3) (hPc _) (Nat.le_trans hb1 hRC) (Nat.le_trans hb2 hRS) hsz (by rw [rS_cats ha4]; exact hsum) (by rw [hb]; exact hdec) hSS (fun _ _ _ z => z.2) (fun _ _ _ z => z.2) hon
                      (mx_goIN hx hown' w0 (va_Nw.use rfl (hEVs.2.2.2.2.2.2.2.2.1 _ w3)) (hts' _ w4) hcW e4 e5 ha3 (by rw [hb]; exact hdec))
              · have hrw := hokr.2
                dsimp only at hrw
                obtain ⟨a, rr, g1, rfl, ha4⟩ := rS_R ha2
                obtain ⟨C9, w1, w2, w3, w4⟩ := hrw.2 hk1 _ hmt2
                rw [← s1] at w1 w2 w3
                rw [← s3] at w4
                obtain ⟨hM, hon⟩ := on (.ref a :: as0r) rr ⟨⟨a, g1, rfl⟩, ha1⟩ ha4
                obtain ⟨a2, gs, f1, f2, f3, f4⟩ := rH_obj hH hxo
                cases g1.symm.trans f1
                obtain ⟨r9, hr9, -⟩ := hP _ _ f2
                have hr9 : cl[dci D2]? = some r9 := hr9
                obtain ⟨cellB, u1, u2, u3⟩ := va_recv hK' hP hr9 f2
                rcases w4 with ⟨-, w4⟩ | ⟨w4, -⟩
                rotate_left
                · rw [hr9] at w4; cases w4
                rw [hr9] at w4
                have w4 : r9.1 = C9 := Option.some.inj w4
                rw [w4] at u3
                exact mx_go hM mPc_blind hRF hlo (pay_in hts' (good_sW hG hD2')) List.mem_cons_self (hts' _ e3) (hPc _) (Nat.le_trans hb1 hRC) (Nat.le_trans hb2 hRS) hsz (by rw [rS_cats ha4]; exact hsum) (by rw [hb]; exact hdec) hSS (fun _ _ _ z => z.2) (fun _ _ _ z => z.2) hon
                  (mx_goV hx hown' (hts' _ w1) (hts' _ w2) (hts' _ w3) hcW e4 u1 u2 u3 e5 ha3 (by rw [hb]; exact hdec))
              · have hrw := hokr.2
                dsimp only at hrw
                obtain ⟨a, rr, g1, rfl, ha4⟩ := rS_R ha2
                obtain ⟨C9, w1, w2, w3, w4⟩ := hrw.2 hk1 _ hmt2
                rw [← s1] at w1 w2 w3
                obtain ⟨hM, hon⟩ := on (.ref a :: as0r) rr ⟨⟨a, g1, rfl⟩, ha1⟩ ha4
                obtain ⟨a2, f1, f2⟩ := hEVs.2.2.2.2.2.2.2.2.2.1 _ _ (rH_cst hH hxo)
                cases g1.symm.trans f1
                obtain ⟨f3, -⟩ := f2
                obtain ⟨cellB, u1, u2, u3, -⟩ := f3.kept hSS.2.1
                rcases w4 with ⟨w4, -⟩ | ⟨-, w4⟩
                · exact absurd h79 w4
                subst w4
                exact mx_go hM mPc_blind hRF hlo (pay_in hts' (good_sW hG hD2')) List.mem_cons_self (hts' _ e3) (hPc _) (Nat.le_trans hb1 hRC) (Nat.le_trans hb2 hRS) hsz (by rw [rS_cats ha4]; exact hsum) (by rw [hb]; exact hdec) hSS (fun _ _ _ z => z.2) (fun _ _ _ z => z.2) hon
                  (mx_goV hx hown' (hts' _ w1) (hts' _ w2) (hts' _ w3) hcW e4 u1 u2 u3 e5 ha3 (by rw [hb]; exact hdec))
            · obtain ⟨h20, hk2, rfl, hhh, hd5, hc1, hc2, hpost⟩ := hrun
              obtain ⟨idx, rfl, is, ic, tx, sid, t1, t2, t3, t4, t5, t6, t7, t8⟩ := row20 hokr h20
              obtain rfl := rS_nil hS
              obtain ⟨sa, -, hstr⟩ := hEVs.2.2.2.2.1 _ t3
              have hat : ∀ w ∈ vx_atS (dy D).cls ic (eNm lk.2.1) eSup, w.before args (s.setDrawn d0) = true := vx_hat (fun w hw => hts' _ (t4 w hw)) t5 (ngW_use hEVs.2.2.2.2.2.1)
              have hnil : ∀ pc', ∀ x ∈ c.exceptionTable.toList, covers x pc' = false := fun pc' x hx9 => by rw [htab, hhh] at hx9; cases hx9
              have hfit : Bundle.fit (eNm lk.2.1) = true := by
                match lk.2.1, hk2 with
                | 0, _ => decide +kernel
                | 1, _ => decide +kernel
                | 2, _ => decide +kernel
                | n + 3, h => exact absurd h (by omega)
              have hnm : ∀ n ∈ eSup, Bundle.fit n = true := by decide +kernel
              have hsz : ls.size = c.maxLocals := hl0.1.trans hml.symm
              have hRf : eSup.length + 3 < R.frames := by show 2 + 3 < R.frames; omega
              have hRl : (([] : List Value).map fun v => v.category).sum + (13 * (eSup.length + 1) + 43) ≤ R.locals := by show 0 + (13 * (2 + 1) + 43) ≤ R.locals; omega
              have hRc : uc + 1 ≤ R.cells := Nat.le_trans hc1 (Nat.le_trans (Nat.le_max_right _ _) hRC)
              have hRs : us + 6 ≤ R.slots := Nat.le_trans hc2 (Nat.le_trans (Nat.le_max_right _ _) hRS)
              have hXX : ∀ t : State, (s.setDrawn d0).vm.Alike t.vm → H.size ≤ t.heap.size → (∀ q : Nat, q < H.size → t.heap[q]? = H[q]?) → mXc B cl ns A L0 Post (eNm lk.2.1) (s.setDrawn d0) t := fun t hal hz hk => ⟨⟨lk.2.1, h, L, rfl, hk2, hpost, tys, ws, hpre, va_K.moved hal hK', hP.kept fun k q hq => hk _ (hP k q hq).lt, hDD, hH⟩, Nat.le_trans hSS.1 hz, fun q g1 g2 => by rw [hk q (Nat.lt_of_lt_of_le g1 hSS.1)]; exact hSS.2.1 q g1 g2⟩
              rcases t8 with ⟨t8, t9, t10⟩ | ⟨t8, t9, t10⟩
              · exact mx_endX hd0 (vx_throwS (A := A) hx hb hl hown' hfit hnm (hts' _ t1) (hts' _ t2) hstr hat t6 hEVs.1 hEVs.2.1 hSS hsz hdec t7 t8 t9 t10 (hnil _) hRf hRl hRc hRs hlocks hXX hlocsA hc1 hc2)
              · exact mx_endX hd0 (vx_throwSW (A := A) hx hb hl hown' hfit hnm (hts' _ t1) (hts' _ t2) hstr hat t6 hEVs.1 hEVs.2.1 hSS hsz hdec t7 t8 t9 t10 (hnil _) hRf hRl hRc hRs hlocks hXX hlocsA hc1 hc2)
set_option maxHeartbeats 1000000 in
/-- WHAT THE SMALL MACHINE SAYS OF A CALL HOLDS OF THE MACHINE -/
theorem wp_ok (hn : nanBits ∈ cs) (hl : l.stackTraces = false) (hG : ∀ w ∈ G, goodWord w = true) (hmt : ∀ y D, mt y = some D → okD cl df G ar sx n1 mt D) : ∀ (d y : Nat) (as : List Value) (h : mH) (Post : mPost) (D : mM), mt y = some D → wpM df mt d y as h Post → mMet cs l B cl ns n1 A sx ar G d D as h Post := by
  intro d
  induction d with
  | zero => intro y as h Post D hy hw; exact hw.elim
  | succ d ih =>
    intro y as h Post D hy hw L tys ws asr has hH
    unfold wpM at hw
    rw [hy] at hw
    obtain ⟨hsum, hrun⟩ := hw
    have hD := hmt _ _ hy
    refine mx_ofW (cc := dcc D) (maxL := dml D) (ret := drt D) (hh := dhh D) (ws' := G) hD.1 rfl ?_
    intro p e s m args below meth c s₁ Bd hml htab hP
    obtain ⟨rfl, hK, hP, hDD, hEV, hA⟩ := hP
    have hts : ∀ w ∈ G, w.before asr.toArray s = true := fun w hw => atoms_spec (ws := sW D G) Bd.pre w (List.mem_cons_of_mem _ hw)
    have hl0 := lv_entry asr (n := dml D) (by rw [lg_sl_len, rS_cats has]; exact hsum)
    rw [lg_entry_eq]
    generalize (lg_sl asr ++ List.replicate (dml D - (lg_sl asr).length) Slot.unset).toArray = ls at hl0 ⊢
    have htab' : c.exceptionTable.toList = tableOf (dhh D) := by rw [← htab, table_eq]
    exact run_ok hn hl hG hmt (fun y as h Post D2 hy2 hc2 => ih y as h Post D2 hy2 hc2) hD.2.2.2.2.2.2.1 hD.2.2.2.2.2.2.2 Bd.exec Bd.bytes hml (findClass_of_methodNamed Bd.named) hts Bd.returns Bd.notSynchronized htab' (name_of_methodNamed Bd.named Bd.method).1 hEV hA (fun _ _ _ z => by cases z) (Nat.le_refl _) (Nat.le_refl _) (Nat.le_refl _) (Nat.le_refl _) _ _ _ _ _ _ _ _ hrun (Nat.zero_le _) (Nat.zero_le _) s.drawn ls _ [] s.heap [] L tys ws (Drawn.sameBut.refl s.drawn cs) hl0 (rL_args 0 has) trivial hH hK hP hDD va_S.rf (List.prefix_refl _)
end MT
