/-! What stands behind a call. -/
section AFT
variable {PR : Nat → Int → Int → mH → Prop} {G : Nat → Nat} {gs : Nat → Option gS} {ρ : Va} {S : sS} {lv : mL} {st : List Value} {h h' : mH} {np d : Nat} {md : List (Nat × Nat)} {dp : dT}
theorem aS_blk {rest : List sV} {w : List Value} (ha : aS ρ rest w) : ∀ {xs : List Int} {n : Nat}, (∀ j, j < xs.length → rest.any (fun s => occE (n + j) s.2) = false) → aS (blk ρ n xs) rest w
  | [], _, _ => ha
  | x :: xs, n, ho => by
    refine aS_u (ho 0 (by simp)) (aS_blk ha fun j hj => ?_)
    rw [show n + 1 + j = n + (j + 1) by omega]
    exact ho (j + 1) (by simp; omega)
theorem aft_ok {θ : List LE} {c : Ctr} {P : sS} {rest : List sV} {ρ' : Va} {v w : List Value} (hPR : PRk PR G gs dp) (hc : aftC np S θ c P = true) (ha : abs PR G ρ S lv st h) (hT : TI G gs h) (hT2 : TI G gs h') (hf : fr G gs c.2.2.1 h h') (hρ : ∀ i, i < c.1.1 → ρ' i = thE θ ρ i) (hp : abs PR G ρ' P [] v h')
    (hsub : ∃ pre, S.2.2.1 = pre ++ rest) (hr : aS ρ rest w) : Abs PR G np ρ (aftS d gs dp S θ c P rest) lv (v ++ w) h' := by
  simp only [aftC, Bool.and_eq_true] at hc
  obtain ⟨c1, c2, c3, c4, c5⟩ := hc
  have c1 : np ≤ S.1 := Nat.le_of_ble_eq_true c1
  have c2 : θ.length = c.1.1 := Nat.eq_of_beq_eq_true c2
  have c3 : c.1.1 ≤ P.1 := Nat.le_of_ble_eq_true c3
  have hocc : ∀ j, j < P.1 - c.1.1 → occS (S.1 + j) S = false ∧ ∀ e ∈ θ, occE (S.1 + j) e = false := fun j hj => by
    have h1 := List.all_eq_true.mp c4 j (List.mem_range.mpr hj)
    simp only [Bool.and_eq_true, Bool.not_eq_true'] at h1
    exact ⟨h1.1, fun e he => by have := List.all_eq_true.mp h1.2 e he; simpa using this⟩
  obtain ⟨xs, hxs⟩ : ∃ xs, xs = (List.range (P.1 - c.1.1)).map fun j => ρ' (c.1.1 + j) := ⟨_, rfl⟩
  have hxl : xs.length = P.1 - c.1.1 := by rw [hxs]; simp
  have hxa : ∀ j, j < P.1 - c.1.1 → xs[j]? = some (ρ' (c.1.1 + j)) := fun j hj => by rw [hxs]; simp [hj]
  have hs : ∀ i, i < P.1 → thE (θ ++ (List.range (P.1 - c.1.1)).map fun j => vE (S.1 + j)) (blk ρ S.1 xs) i = ρ' i := fun i hi => by
    unfold thE
    by_cases h1 : i < c.1.1
    · have hg : (θ ++ (List.range (P.1 - c.1.1)).map fun j => vE (S.1 + j)).getD i (0, []) = θ.getD i (0, []) := by
        rw [List.getD_eq_getElem?_getD, List.getD_eq_getElem?_getD, List.getElem?_append_left (by omega)]
      have hm : θ.getD i (0, []) ∈ θ := by
        rw [List.getD_eq_getElem?_getD, List.getElem?_eq_getElem (by omega)]
        exact List.getElem_mem _
      rw [hg, ev_blk fun j hj => (hocc j (by omega)).2 _ hm, hρ i h1]
      rfl
    · obtain ⟨j, rfl⟩ : ∃ j, i = c.1.1 + j := ⟨i - c.1.1, by omega⟩
      have hj : j < P.1 - c.1.1 := by omega
      have hg : (θ ++ (List.range (P.1 - c.1.1)).map fun j => vE (S.1 + j)).getD (c.1.1 + j) (0, []) = vE (S.1 + j) := by
        rw [List.getD_eq_getElem?_getD, List.getElem?_append_right (by omega), c2, show c.1.1 + j - c.1.1 = j by omega]
        simp [hj]
      rw [hg, ev_v]
      exact blk_at (hxa j hj)
  simp only [wfS, Bool.and_eq_true] at c5
  obtain ⟨w1, w2, w3, w4, w5, w6⟩ := c5
  have ho : ∀ j, j < xs.length → occS (S.1 + j) S = false := fun j hj => (hocc j (by omega)).1
  obtain ⟨a1, a2, a3, a4, a5, a6, a7⟩ := abs_blk (xs := xs) (n := S.1) ha ho
  obtain ⟨p1, p2, p3, p4, p5, p6, p7⟩ := hp
  refine ⟨blk ρ S.1 xs, fun i hi => blk_lo (Nat.lt_of_lt_of_le hi (by omega)), a1, aS_app (b := rest) (aS_sb hs w1 p2) (aS_blk hr fun j hj => ?_), aF_app (fun f hff => ?_) a3, aG_app (fun q hq => ?_) a4, fun q hq => ?_, fun q hq => ?_, fun q hq => ?_⟩
  · have h1 := ho j hj
    unfold occS at h1
    simp only [Bool.or_eq_false_iff] at h1
    obtain ⟨pre, hpre⟩ := hsub
    have h2 := h1.2.1
    rw [hpre, List.any_append, Bool.or_eq_false_iff] at h2
    exact h2.2
  · obtain ⟨e, he, rfl⟩ := List.mem_map.mp hff
    rw [ev_th hs (List.all_eq_true.mp w2 e he)]
    exact p3 e he
  · obtain ⟨e, he, rfl⟩ := List.mem_map.mp hq
    dsimp only
    rw [ev_th hs (List.all_eq_true.mp w3 e he)]
    exact p4 e he
  · rcases List.mem_append.mp hq with hq | hq
    · obtain ⟨e, he, rfl⟩ := List.mem_map.mp hq
      have h2 := List.all_eq_true.mp w4 e he
      simp only [Bool.and_eq_true] at h2
      obtain ⟨ci, fs, u, g1, g2, g3⟩ := p5 e he
      dsimp only
      rw [ev_th hs h2.1]
      exact ⟨ci, fs, u, g1, g2, dV_ev (fun _ => (ev_th hs h2.2).symm) g3⟩
    · exact kpH_ok hT2 hf a4 a5 q hq
  · rcases List.mem_append.mp hq with hq | hq
    · obtain ⟨e, he, rfl⟩ := List.mem_map.mp hq
      have h2 := List.all_eq_true.mp w5 e he
      simp only [Bool.and_eq_true] at h2
      obtain ⟨t, n, c9, g1, g2, g3, g4⟩ := p6 e he
      dsimp only
      rw [ev_th hs h2.1, ev_th hs h2.2.1]
      exact ⟨t, n, c9, g1, g2, g3, dV_ev (fun _ => (ev_th hs h2.2.2).symm) g4⟩
    · exact kpA_ok a3 hT hf a4 a6 q hq
  · rcases List.mem_append.mp hq with hq | hq
    · obtain ⟨e, he, rfl⟩ := List.mem_map.mp hq
      have h2 := List.all_eq_true.mp w6 e he
      simp only [Bool.and_eq_true] at h2
      dsimp only
      rw [ev_th hs h2.1, ev_th hs h2.2]
      exact p7 e he
    · exact kpP_ok hPR hT hT2 hf a7 q hq
theorem thr_ok {c : Ctr} {k : Nat} (hPR : PRk PR G gs dp) (ha : abs PR G ρ S lv st h) (hT : TI G gs h) (hT2 : TI G gs h') (hf : fr G gs c.2.2.1 h h') : abs PR G ρ (thrS d gs dp S c) lv [.retAddr k] h' := by
  obtain ⟨a1, a2, a3, a4, a5, a6, a7⟩ := ha
  exact ⟨a1, ⟨⟨k, rfl⟩, trivial⟩, a3, a4, kpH_ok hT2 hf a4 a5, kpA_ok a3 hT hf a4 a6, kpP_ok hPR hT hT2 hf a7⟩
theorem thrX_ok {c : Ctr} {k z : Nat} {θ : List LE} (hPR : PRk PR G gs dp) (ha : abs PR G ρ S lv st h) (hT : TI G gs h) (hT2 : TI G gs h') (hf : fr G gs c.2.2.1 h h') (hz : exF PR c.1.2.2.2.2.2.2.2 z (thE θ ρ) h') : abs PR G ρ (thrX d gs dp S θ c z) lv [.retAddr k] h' := by
  obtain ⟨a1, a2, a3, a4, a5, a6, a7⟩ := ha
  refine ⟨a1, ⟨⟨k, rfl⟩, trivial⟩, a3, a4, fun q hq => ?_, kpA_ok a3 hT hf a4 a6, fun q hq => ?_⟩
  · rcases List.mem_append.mp hq with hq | hq
    · cases hb : Nat.beq (z / 10 % 100) 0 with
      | true => rw [hb] at hq; exact absurd hq List.not_mem_nil
      | false =>
        rw [hb] at hq
        obtain rfl := List.mem_singleton.mp hq
        rcases hz.1 with h0 | ⟨ci, fs, g1, g2⟩
        · rw [h0] at hb; cases hb
        · exact ⟨ci, fs, .int 0, g1, g2, ⟨0, rfl, by rw [ev_c]; decide⟩⟩
    · exact kpH_ok hT2 hf a4 a5 q hq
  · rcases List.mem_append.mp hq with hq | hq
    · cases hb : Nat.beq (z / 1000 % 1000) 0 with
      | true => rw [hb] at hq; exact absurd hq List.not_mem_nil
      | false =>
        rw [hb] at hq
        obtain rfl := List.mem_singleton.mp hq
        rcases hz.2.1 with h0 | h0
        · rw [h0] at hb; cases hb
        · show PR 199 (ev ρ (cE 0)) _ h'
          rw [ev_c]
          exact h0
    rcases List.mem_append.mp hq with hq | hq
    · cases hb : Nat.beq (z / 1000000) 0 with
      | true => rw [hb] at hq; exact absurd hq List.not_mem_nil
      | false =>
        rw [hb] at hq
        obtain ⟨e, he, rfl⟩ := List.mem_map.mp hq
        rcases hz.2.2 with h0 | h0
        · rw [h0] at hb; cases hb
        · have h1 := h0 e he
          dsimp only
          rw [ev_sb, ev_sb]
          exact h1
    · exact kpP_ok hPR hT hT2 hf a7 q hq
theorem exT_ok {npm z E : Nat} {ρm : Va} {pr : List (Nat × LE × LE)} (hx : exT npm d pr S z E = true) (ha : abs PR G ρ S lv st h) (hρ : ∀ i, i < npm → ρ i = ρm i) : z % 10 = E ∧ exF PR pr z ρm h := by
  unfold exT at hx
  simp only [Bool.and_eq_true] at hx
  refine ⟨Nat.eq_of_beq_eq_true hx.1, ?_, ?_, ?_⟩
  · rcases (Bool.or_eq_true _ _).mp hx.2.1 with h1 | h1
    · exact Or.inl (Nat.eq_of_beq_eq_true h1)
    · simp only [Bool.and_eq_true] at h1
      have h0 := hρ 0 (Nat.le_of_ble_eq_true h1.1)
      have h2 := h1.2
      split at h2
      next e hu =>
        obtain ⟨ci, fs, w, g1, g2, g3⟩ := lkH_ok ha.2.2.2.2.1 hu
        rw [ev_v, h0] at g1
        obtain ⟨x, rfl, hx0⟩ := dV0 rfl g3
        have hx1 : x = 0 := Int32.toInt_inj.mp (by rw [hx0, eqE_ok h2, ev_c]; decide)
        subst hx1
        exact Or.inr ⟨ci, fs, g1, g2⟩
      next => cases h2
  · rcases (Bool.or_eq_true _ _).mp hx.2.2.1 with h1 | h1
    · exact Or.inl (Nat.eq_of_beq_eq_true h1)
    · simp only [Bool.and_eq_true] at h1
      have h0 := hρ (z / 1000 % 1000 - 1) (Nat.le_of_ble_eq_true h1.1)
      have h2 := hasP_ok h1.2 ha.2.2.1 ha.2.2.2.2.2.2
      dsimp only at h2
      rw [ev_c, ev_v, h0] at h2
      exact Or.inr h2
  · rcases (Bool.or_eq_true _ _).mp hx.2.2.2 with h1 | h1
    · exact Or.inl (Nat.eq_of_beq_eq_true h1)
    · refine Or.inr fun q hq => ?_
      have h2 := List.all_eq_true.mp h1 q hq
      simp only [Bool.and_eq_true] at h2
      have h3 := hasP_ok h2.2.2 ha.2.2.1 ha.2.2.2.2.2.2
      rw [ev_same hρ h2.1, ev_same hρ h2.2.1] at h3
      exact h3
end AFT
