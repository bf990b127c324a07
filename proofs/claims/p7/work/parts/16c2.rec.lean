section LMS
variable {G C : Nat → Nat} {h : mH} {D : Nat} {xs : Nat → Int32}
theorem b_aA {ρ : Va} {q : LE × LE × sV} (hq : ∃ t n c, h[(ev ρ q.1).toNat]? = some (.inl (t, n, c)) ∧ 0 ≤ ev ρ q.2.1 ∧ ev ρ q.2.1 < n ∧ dV ρ q.2.2 (elV c (ev ρ q.2.1).toNat)) : 0 ≤ ev ρ q.2.1 := by
  obtain ⟨t, n, c, g1, g2, -⟩ := hq
  exact g2
theorem vw_aA (hU : uqG G C) {ρ : Va} {q : LE × LE × sV} {x v : Int} {g i : Nat} (hq : ∃ t n c, h[(ev ρ q.1).toNat]? = some (.inl (t, n, c)) ∧ 0 ≤ ev ρ q.2.1 ∧ ev ρ q.2.1 < n ∧ dV ρ q.2.2 (elV c (ev ρ q.2.1).toNat)) (h1 : ev ρ q.1 = x) (hg : G x.toNat = g) (l1 : 118 ≤ g ∨ g = 100 ∨ g = 14) (l2 : g ≤ 146) (hi : (i : Int) = ev ρ q.2.1) (h2 : ev ρ q.2.2.2 = v) (h0 : q.2.2.1 = 0 := by rfl) : vw C h g i = v := by
  obtain ⟨t, n, c, g1, g2, g3, g4⟩ := hq
  have hx : x.toNat = C g := (hU g l1 l2).2 _ hg
  rw [h1] at g1
  obtain ⟨r, j, tg, e⟩ := q
  dsimp only at h0 g4 h2 g1 g2 g3 hi ⊢
  subst h0
  rw [← hi] at g4
  obtain ⟨z, hz, hz2⟩ := g4
  unfold vw
  rw [← hx]
  obtain f | f | f | f | f := c
  · rw [el_of g1]
    have hz : Value.int (f _) = Value.int z := hz
    injection hz with hz
    rw [show ((i : Int)).toNat = i by omega] at hz
    rw [hz]
    exact hz2.trans h2
  · cases hz
  · cases hz
  · cases hz
  · have hz : va_rf _ = Value.int z := hz
    unfold va_rf at hz
    split at hz <;> cases hz
/-- what every number of a group's segment is within -/
theorem vw_rg (hU : uqG G C) (hT : TI G rgs h) {g t n p i k : Nat} {sg : List (Nat × kS)} {lo hh : Int} (l1 : 118 ≤ g ∨ g = 100 ∨ g = 14) (l2 : g ≤ 146) (hg : rgs g = some (.inr (t, n, p, sg))) (h0 : kdN t n = 0) (hi : i < n) (hs : segAt sg (i % p) 0 = some (k, (0, lo, hh))) : lo ≤ vw C h g i ∧ vw C h g i ≤ hh := by
  obtain ⟨hG, -⟩ := hU g l1 l2
  obtain ⟨c, h1, h2, h3⟩ := TI_arr hT (x := C g) (by rw [hG]; exact hg) (Or.inl (by rw [hG]; omega))
  obtain ⟨f, rfl⟩ := kd0 (c := c) (h2.trans h0)
  obtain ⟨k', f', s1, s2⟩ := h3 i hi
  rw [hs] at s1
  cases s1
  unfold vw
  rw [el_of h1]
  obtain ⟨z, hz, hz1, hz2⟩ := s2
  have hz : Value.int (f i) = Value.int z := hz
  injection hz with hz
  rw [hz]
  exact ⟨hz1, hz2⟩
theorem rg142 (hU : uqG G C) (hT : TI G rgs h) : ∀ i, i < 8 → 0 ≤ vw C h 142 i ∧ vw C h 142 i ≤ 7 := fun i hi => vw_rg hU hT (k := 0) (by omega) (by omega) rfl rfl hi (by
  rw [Nat.mod_eq_of_lt hi]
  unfold segAt
  rw [if_pos (by omega)])
theorem rg123 (hU : uqG G C) (hT : TI G rgs h) : ∀ i, i < 24 → (i < 2 ∨ 8 ≤ i) → 0 ≤ vw C h 123 i ∧ vw C h 123 i ≤ 99 := fun i h1 h2 => by
  rcases h2 with h2 | h2
  · refine vw_rg hU hT (k := 0) (by omega) (by omega) rfl rfl (by omega) ?_
    rw [Nat.mod_eq_of_lt (by omega)]
    unfold segAt
    rw [if_pos (by omega)]
  · refine vw_rg hU hT (k := 4) (by omega) (by omega) rfl rfl (by omega) ?_
    rw [Nat.mod_eq_of_lt (by omega)]
    unfold segAt
    rw [if_neg (by omega)]
    unfold segAt
    rw [if_neg (by omega)]
    unfold segAt
    rw [if_neg (by omega)]
    unfold segAt
    rw [if_neg (by omega)]
    unfold segAt
    rw [if_pos (by omega)]
theorem lt_aA (hT : TI G rgs h) {ρ : Va} {q : LE × LE × sV} {x : Int} {g i t n p : Nat} {sg : List (Nat × kS)} (hq : ∃ t n c, h[(ev ρ q.1).toNat]? = some (.inl (t, n, c)) ∧ 0 ≤ ev ρ q.2.1 ∧ ev ρ q.2.1 < n ∧ dV ρ q.2.2 (elV c (ev ρ q.2.1).toNat)) (h1 : ev ρ q.1 = x) (hg : G x.toNat = g) (hs : rgs g = some (.inr (t, n, p, sg))) (hi : (i : Int) = ev ρ q.2.1) : i < n := by
  obtain ⟨t', n', c, g1, g2, g3, g4⟩ := hq
  rw [h1] at g1
  obtain ⟨c', h2, -⟩ := TI_arr hT (x := x.toNat) (by rw [hg]; exact hs) (Or.inr ⟨_, g1⟩)
  rw [g1] at h2
  cases h2
  omega
theorem GD_cg2 {V : vV} {g n : Nat} {c : Int} (h1 : GDv V g 124 n 0 c) (h2 : P46 V 55) {c' : Int} (hc : c' = c) : GDv V g 123 n 0 c' := by
  subst hc
  exact fun i a b d => gd_cg (cnt := fun m => V 124 (24 + m)) (fun m hm => h2 (24 + m) (by omega) (by omega)) (fun _ => rfl) (h1 i a b d)
/-- facts of numbers alone -/
theorem pureP {PR : Nat → Int → Int → mH → Prop} {ρ : Va} {n : Nat} {F : List LE} (hF : ∀ f ∈ F, 0 ≤ ev ρ f) : abs PR G ρ (n, [], [], F, [], [], [], []) [] [] h := ⟨fun q hq => absurd hq List.not_mem_nil, trivial, hF, fun q hq => absurd hq List.not_mem_nil, fun q hq => absurd hq List.not_mem_nil, fun q hq => absurd hq List.not_mem_nil, fun q hq => absurd hq List.not_mem_nil⟩
theorem c2 {P : Int → Int → Prop} {r c r' c' : Int} (h : P r c) (e1 : r' = r) (e2 : c' = c) : P r' c' := by
  subst e1 e2
  exact h
/-- what a field's number is within -/
theorem hf_rg (hT : TI G rgs h) {ρ : Va} {q : LE × Nat × sV} {x v : Int} {g ci : Nat} {fs : List kS} {lo hh : Int} (hq : ∃ ci fs w, h[(ev ρ q.1).toNat]? = some (.inr (ci, fs)) ∧ fs[q.2.1]? = some w ∧ dV ρ q.2.2 w) (h1 : ev ρ q.1 = x) (hg : G x.toNat = g) (hgs : rgs g = some (.inl (ci, fs))) (hf : fs[q.2.1]? = some (0, lo, hh)) (h0 : q.2.2.1 = 0) (h2 : ev ρ q.2.2.2 = v) : lo ≤ v ∧ v ≤ hh := by
  obtain ⟨ci', fs', w, g1, g2, g3⟩ := hq
  rw [h1] at g1
  obtain ⟨vs, y1, -, y3⟩ := TI_obj hT (x := x.toNat) (by rw [hg]; exact hgs)
  rw [g1] at y1
  cases y1
  obtain ⟨u, z1, z, hz, hz1, hz2⟩ := y3 _ _ hf
  rw [g2] at z1
  cases z1
  obtain ⟨r, k, t, e⟩ := q
  dsimp only at h0 g3 h2
  subst h0
  obtain ⟨y, hy, hy2⟩ := g3
  rw [hz] at hy
  injection hy with hy
  subst hy
  rw [← h2, ← hy2]
  exact ⟨hz1, hz2⟩
/-- a byte of the class's buffer; of the reference's -/
theorem by_C (hU : uqG G C) (hT : TI G rgs h) {j b : Int} (h0 : 0 ≤ j) (h1 : j < 1200) (ha : vw C h 100 j.toNat = b) : q150 (tB (vw C h)) j b := by
  have hr := vw_rg (lo := -128) (hh := 127) (p := 1200) (t := 1) (sg := [(1200, (0, -128, 127))]) hU hT (g := 100) (n := 1200) (i := j.toNat) (k := 0) (by omega) (by omega) rfl rfl (by omega) (by
    unfold segAt
    rw [if_pos (Nat.mod_lt _ (by omega))])
  rw [ha] at hr
  refine ⟨hr.1, by omega, ?_⟩
  unfold tB
  rw [if_pos (by omega), ha]
theorem by_M {V : vV} {j b r : Int} (hP : P170 V r) (h0 : 0 ≤ j) (h1 : j < r) (h2 : j < 1200) (ha : V 125 j.toNat = b) : q150 (tB V) j b ∧ 0 ≤ b ∧ tB V j.toNat = b := by
  have h3 := hP j.toNat (by omega) (by omega)
  have h4 : tB V j.toNat = V 100 j.toNat % 256 := by
    unfold tB
    rw [if_pos (by omega)]
  unfold q150
  rw [h4, ← h3, ha]
  omega
theorem k182 {r c w : Int} (h : q182 r c) (hr : r = w) : c = ((wd w.toNat).length : Int) := by
  subst hr
  exact h
/-- a letter of a constant -/
theorem let_rg (hT : TI G rgs h) {ρ : Va} {q : LE × LE × sV} {x j c : Int} {g w t n p : Nat} {sg : List (Nat × kS)} (hq : ∃ t n cc, h[(ev ρ q.1).toNat]? = some (.inl (t, n, cc)) ∧ 0 ≤ ev ρ q.2.1 ∧ ev ρ q.2.1 < n ∧ dV ρ q.2.2 (elV cc (ev ρ q.2.1).toNat)) (h1 : ev ρ q.1 = x) (hg : G x.toNat = g) (hs : rgs g = some (.inr (t, n, p, sg))) (hj : j = ev ρ q.2.1) (hj0 : 0 ≤ j) (h2 : ev ρ q.2.2.2 = c)
    (hd : ((List.range n).all fun i => match segAt sg (i % p) 0 with
      | some (_, (0, lo, hi)) => decide (lo = (wd w).getD i 0) && (decide (hi = (wd w).getD i 0) && (decide (97 ≤ lo) && decide (hi ≤ 122)))
      | _ => false) = true) (h0 : q.2.2.1 = 0 := by rfl) : c = (wd w).getD j.toNat 0 ∧ 97 ≤ c ∧ c ≤ 122 := by
  obtain ⟨t', n', cc, g1, g2, g3, g4⟩ := hq
  rw [h1] at g1
  obtain ⟨c', y1, -, y3⟩ := TI_arr hT (x := x.toNat) (by rw [hg]; exact hs) (Or.inr ⟨_, g1⟩)
  rw [g1] at y1
  cases y1
  rw [← hj] at g2 g3 g4
  obtain ⟨k, f, s1, s2⟩ := y3 j.toNat (by omega)
  have hd2 := List.all_eq_true.mp hd j.toNat (List.mem_range.mpr (by omega))
  rw [s1] at hd2
  obtain ⟨r, jj, tg, e⟩ := q
  dsimp only at h0 g4 h2
  subst h0
  obtain ⟨y, hy, hy2⟩ := g4
  split at hd2
  next k0 lo hi he =>
    cases he
    simp only [Bool.and_eq_true, decide_eq_true_eq] at hd2
    obtain ⟨z, hz, hz1, hz2⟩ := s2
    rw [hz] at hy
    injection hy with hy
    subst hy
    have h3 : z.toInt = c := hy2.trans h2
    have hz1 : lo ≤ z.toInt := hz1
    have hz2 : z.toInt ≤ hi := hz2
    omega
  next => cases hd2
theorem k177o {r c j w : Int} (hr : r = j + 64 * w) (h0 : 0 ≤ j ∧ j ≤ 63) (hw : 0 ≤ w) (h : c = (wd w.toNat).getD j.toNat 0) : q177 r c := by
  unfold q177
  rw [show (r / 64).toNat = w.toNat by omega, show (r % 64).toNat = j.toNat by omega]
  exact h
theorem outSet_ok (hU : uqG G C) (hT : TI G rgs h) {ρ : Va} {q1 q2 : LE × Nat × sV} {x e p c : Int} (a1 : ∃ ci fs w, h[(ev ρ q1.1).toNat]? = some (.inr (ci, fs)) ∧ fs[q1.2.1]? = some w ∧ dV ρ q1.2.2 w) (a2 : ∃ ci fs w, h[(ev ρ q2.1).toNat]? = some (.inr (ci, fs)) ∧ fs[q2.2.1]? = some w ∧ dV ρ q2.2.2 w) (h1 : ev ρ q1.1 = x) (hg : G x.toNat = 14) (hq : q2.1 = q1.1) (k1 : q1.2.1 = 3) (k2 : q2.2.1 = 4)
    (t1 : q1.2.2.1 = 0) (e1 : ev ρ q1.2.2.2 = e) (t2 : q2.2.2.1 = 0) (_d : (0 : Nat) = 0) (e2 : ev ρ q2.2.2.2 = p) (p2 : 1 ≤ e) (p0 : 0 ≤ p) (p1 : p ≤ 1200) (ho : q166 (tB (vw C h)) c (4096 * e + p)) : q199 C h c := by
  obtain ⟨ci, fs, w, x1, x2, x3⟩ := a1
  obtain ⟨ci', fs', w', y1, y2, y3⟩ := a2
  have hx : x.toNat = C 14 := (hU 14 (by omega) (by omega)).2 _ hg
  rw [hq, x1] at y1
  cases y1
  rw [h1, hx] at x1
  obtain ⟨vs, z1, -, -⟩ := TI_obj hT (x := x.toNat) (ci := 4) (fs := [(1, 17, 0), (9, 0, 0), (9, 0, 0), (0, -2147483648, 2147483647), (0, -2147483648, 2147483647)]) (by rw [hg]; rfl)
  rw [hx, x1] at z1
  cases z1
  obtain ⟨r1, i1, g1, f1⟩ := q1
  obtain ⟨r2, i2, g2, f2⟩ := q2
  dsimp only at k1 k2 t1 t2 x2 x3 y2 y3 e1 e2
  subst k1 k2 t1 t2
  obtain ⟨u, hu, hu2⟩ := x3
  obtain ⟨v, hv, hv2⟩ := y3
  subst hu hv
  have hu2 : u.toInt = e := hu2.trans e1
  have hv2 : v.toInt = p := hv2.trans e2
  refine ⟨fs, u, v, x1, x2, y2, ?_, by omega, by omega, by omega⟩
  rw [hu2, hv2]
  exact ho
/-- an object's field: a reference, a number -/
theorem ob_rf (hT : TI G rgs h) {ρ : Va} {q : LE × Nat × sV} {x v : Int} {g ci : Nat} {fs0 : List kS} (hq : ∃ ci fs w, h[(ev ρ q.1).toNat]? = some (.inr (ci, fs)) ∧ fs[q.2.1]? = some w ∧ dV ρ q.2.2 w) (h1 : ev ρ q.1 = x) (hg : G x.toNat = g) (hgs : rgs g = some (.inl (ci, fs0))) (h2 : ev ρ q.2.2.2 = v) (h0 : q.2.2.1 = 1 := by rfl) : ∃ fs, h[x.toNat]? = some (.inr (ci, fs)) ∧ fs[q.2.1]? = some (.ref v.toNat) := by
  obtain ⟨ci', fs, w, x1, x2, x3⟩ := hq
  rw [h1] at x1
  obtain ⟨vs, z1, -, -⟩ := TI_obj hT (x := x.toNat) (by rw [hg]; exact hgs)
  rw [x1] at z1
  cases z1
  obtain ⟨r, k, t, e⟩ := q
  dsimp only at h0 x2 x3 h2 ⊢
  subst h0
  obtain ⟨-, hw⟩ := dV1 rfl x3
  subst hw
  exact ⟨fs, x1, by rw [x2]; dsimp only; rw [h2]⟩
theorem ob_in (hT : TI G rgs h) {ρ : Va} {q : LE × Nat × sV} {x v : Int} {g ci : Nat} {fs0 : List kS} (hq : ∃ ci fs w, h[(ev ρ q.1).toNat]? = some (.inr (ci, fs)) ∧ fs[q.2.1]? = some w ∧ dV ρ q.2.2 w) (h1 : ev ρ q.1 = x) (hg : G x.toNat = g) (hgs : rgs g = some (.inl (ci, fs0))) (h2 : ev ρ q.2.2.2 = v) (h0 : q.2.2.1 = 0 := by rfl) : ∃ fs z, h[x.toNat]? = some (.inr (ci, fs)) ∧ fs[q.2.1]? = some (.int z) ∧ z.toInt = v := by
  obtain ⟨ci', fs, w, x1, x2, x3⟩ := hq
  rw [h1] at x1
  obtain ⟨vs, z1, -, -⟩ := TI_obj hT (x := x.toNat) (by rw [hg]; exact hgs)
  rw [x1] at z1
  cases z1
  obtain ⟨r, k, t, e⟩ := q
  dsimp only at h0 x2 x3 h2 ⊢
  subst h0
  obtain ⟨z, hz, hz2⟩ := dV0 rfl x3
  subst hz
  exact ⟨fs, z, x1, x2, hz2.trans h2⟩
theorem ar_rf {ρ : Va} {q : LE × LE × sV} {x j v : Int} (hq : ∃ t n c, h[(ev ρ q.1).toNat]? = some (.inl (t, n, c)) ∧ 0 ≤ ev ρ q.2.1 ∧ ev ρ q.2.1 < n ∧ dV ρ q.2.2 (elV c (ev ρ q.2.1).toNat)) (h1 : ev ρ q.1 = x) (hj : j = ev ρ q.2.1) (h2 : ev ρ q.2.2.2 = v) (h0 : q.2.2.1 = 1 := by rfl) : ∃ t n c, h[x.toNat]? = some (.inl (t, n, c)) ∧ j.toNat < n ∧ elV c j.toNat = .ref v.toNat := by
  obtain ⟨t, n, c, g1, g2, g3, g4⟩ := hq
  rw [h1] at g1
  rw [← hj] at g2 g3 g4
  obtain ⟨r, k, t', e⟩ := q
  dsimp only at h0 g4 h2
  subst h0
  obtain ⟨-, hw⟩ := dV1 rfl g4
  dsimp only at hw
  rw [h2] at hw
  exact ⟨t, n, c, g1, by omega, hw⟩
/-- slots of the last machine -/
theorem sl_new {S A N mc sl r : Int} (hr : r = 16 * S + mc) (S0 : 0 ≤ S) (m1 : 1 ≤ mc) (m8 : mc ≤ 8) (gS : G S.toNat = 20) (gA : G A.toNat = 115) (gN : G N.toNat = 13) (a1 : ∃ fs, h[S.toNat]? = some (.inr (10, fs)) ∧ fs[13]? = some (.ref A.toNat)) (a2 : ∃ t n c, h[A.toNat]? = some (.inl (t, n, c)) ∧ (mc - 1).toNat < n ∧ elV c (mc - 1).toNat = .ref N.toNat) (a3 : ∃ fs z, h[N.toNat]? = some (.inr (3, fs)) ∧ fs[6]? = some (.int z) ∧ z.toInt = sl) : q176 G h r sl := by
  obtain ⟨fs, x1, x2⟩ := a1
  obtain ⟨t, n, c, y1, y2, y3⟩ := a2
  obtain ⟨ms, z, z1, z2, z3⟩ := a3
  have e1 : (r / 16).toNat = S.toNat := by omega
  have e2 : (r % 16 - 1).toNat = (mc - 1).toNat := by omega
  refine Or.inr ⟨by omega, fs, A.toNat, t, n, c, N.toNat, ms, z, ?_⟩
  rw [e1, e2]
  exact ⟨gS, x1, x2, gA, y1, y2, y3, gN, z1, z2, z3⟩
theorem sl_same {S A N mc sl v r : Int} (hr : r = 16 * S + mc) (S0 : 0 ≤ S) (m1 : 1 ≤ mc) (m8 : mc ≤ 8) (a1 : ∃ fs, h[S.toNat]? = some (.inr (10, fs)) ∧ fs[13]? = some (.ref A.toNat)) (a2 : ∃ t n c, h[A.toNat]? = some (.inl (t, n, c)) ∧ (mc - 1).toNat < n ∧ elV c (mc - 1).toNat = .ref N.toNat) (a3 : ∃ fs z, h[N.toNat]? = some (.inr (3, fs)) ∧ fs[6]? = some (.int z) ∧ z.toInt = v) (hq : q176 G h r sl) : v = sl := by
  obtain ⟨fs, x1, x2⟩ := a1
  obtain ⟨t, n, c, y1, y2, y3⟩ := a2
  obtain ⟨ms, z, z1, z2, z3⟩ := a3
  have e1 : (r / 16).toNat = S.toNat := by omega
  have e2 : (r % 16 - 1).toNat = (mc - 1).toNat := by omega
  rcases hq with ⟨h0, -⟩ | ⟨-, fs', a, t', n', c', m, ms', z', -, w1, w2, -, w3, -, w5, -, w6, w7, w8⟩
  · omega
  · rw [e1, x1] at w1
    cases w1
    rw [x2] at w2
    cases w2
    rw [y1] at w3
    cases w3
    rw [e2, y3] at w5
    cases w5
    rw [z1] at w6
    cases w6
    rw [z2] at w7
    cases w7
    omega
theorem k158s {B : Nat → Int} {r n t c : Int} (hr : r = n + 2048 * t) (h0 : 0 ≤ n) (h1 : n ≤ 1200) (h2 : 0 ≤ t) (h3 : t ≤ n) (hc : c = -1) (h : q158 B r c) : tRn isBl B n.toNat 0 = t.toNat := by
  obtain ⟨a, b⟩ := dec2 hr h0 h1 h2 (by omega)
  unfold q158 at h
  rw [a, b] at h
  rcases h with h | h
  · exact h.2.symm
  · omega
theorem rch0 {B : Nat → Int} {n : Nat} : Rch B n (0, tRn isBl B n 0, 0, 0, 0) 0 := ⟨0, rfl⟩
theorem nx_ge {B : Nat → Int} {n s : Nat} : s ≤ tNx B n s := by
  have h2 := @tWh_ge B n isBl n (tEn B n s)
  have h1 : s ≤ tEn B n s := by
    unfold tEn
    split
    · exact Nat.le_refl _
    · split
      · exact tWh_ge
      · split
        · exact tWh_ge
        · omega
  unfold tNx tRn
  omega
theorem q167_9 {r K : Int} (h : q167 r K) (h0 : 0 ≤ r / 2) (h9 : r / 2 ≤ 9) : 0 ≤ K ∧ K ≤ 511 := by
  obtain ⟨a, b, -⟩ := h
  have : (2 : Int) ^ (r / 2).toNat ≤ 512 := by
    have h1 : (r / 2).toNat ≤ 9 := by omega
    generalize (r / 2).toNat = k at h1
    have : k = 0 ∨ k = 1 ∨ k = 2 ∨ k = 3 ∨ k = 4 ∨ k = 5 ∨ k = 6 ∨ k = 7 ∨ k = 8 ∨ k = 9 := by omega
    rcases this with rfl | rfl | rfl | rfl | rfl | rfl | rfl | rfl | rfl | rfl <;> decide
  omega
theorem q167_up {r r2 K c : Int} (h : q167 r K) (h0 : 0 ≤ r / 2) (h2 : r2 / 2 = r / 2 + 1) (hc : c = 2 * K ∨ c = 2 * K + 1) (ho : r2 % 2 = 1 → c % 2 = 1) : q167 r2 c := by
  obtain ⟨a, b, -⟩ := h
  refine ⟨by omega, ?_, fun q => Or.inr (ho q)⟩
  rw [show (r2 / 2).toNat = (r / 2).toNat + 1 by omega, Int.pow_succ]
  generalize (2 : Int) ^ (r / 2).toNat = P at *
  omega
theorem q167_dn {r r2 K : Int} (h : q167 r K) (h2 : r2 / 2 = r / 2) (h3 : r2 % 2 = 0) : q167 r2 K := by
  obtain ⟨a, b, -⟩ := h
  refine ⟨a, ?_, fun q => by omega⟩
  rw [h2]
  exact b
/-- words that are appended -/
theorem k169 {x u : Int} {r : Int} (k : Nat) (hr : r = x + 1099511627776 * k) (h1 : 1 ≤ k) (h2 : k ≤ 31) (x0 : -2147483648 ≤ x) (x1 : x ≤ 2147483647) (h : q169 r u) : u = x / (2 ^ k : Nat) := by
  obtain ⟨x', k', e, a1, a2, a3, a4, a5⟩ := h
  have hk : k' = k := by omega
  subst hk
  have hx : x' = x := by omega
  subst hx
  exact a5
theorem wd4C {V : vV} {e c c' ix x w0 w1 w2 w3 u0 u1 u2 : Int} (h : P194 xs V (e - 4) c) (e1 : 4 ≤ e) (e2 : e ≤ 1200) (c1 : 64 * ix ≤ c) (c2' : c ≤ 64 * ix + 4) (hc : c' = c + 65) (i0 : 0 ≤ ix) (hx : x = (xs ix.toNat).toInt) (a0 : V 100 (e - 4).toNat = w0) (a1 : V 100 (e - 3).toNat = w1) (a2 : V 100 (e - 2).toNat = w2) (a3 : V 100 (e - 1).toNat = w3) (k0 : q169 (x + 1099511627776 * (24 : Nat)) u0) (k1 : q169 (x + 1099511627776 * (16 : Nat)) u1) (k2 : q169 (x + 1099511627776 * (8 : Nat)) u2)
    (b0 : w0 = u0.bmod 256) (b1 : w1 = u1.bmod 256) (b2 : w2 = u2.bmod 256) (b3 : w3 = x.bmod 256) : P194 xs V e c' := by
  have x0 := i32lo (xs ix.toNat)
  have x1 := i32hi (xs ix.toNat)
  have d0 := k169 24 rfl (by omega) (by omega) (by omega) (by omega) k0
  have d1 := k169 16 rfl (by omega) (by omega) (by omega) (by omega) k1
  have d2 := k169 8 rfl (by omega) (by omega) (by omega) (by omega) k2
  refine ⟨e2, fun k hk => ?_⟩
  have f1 : c % 64 = c - 64 * ix := by omega
  have f2 : c' % 64 = c - 64 * ix + 1 := by omega
  have f3 : c' / 64 = ix + 1 := by omega
  have f4 : c / 64 = ix := by omega
  by_cases hk0 : k = 0
  · subst hk0
    refine ⟨by omega, fun j hj => ?_⟩
    have hw : ∀ j, wdy xs (c' / 64) 0 j = x / (2 ^ (8 * (3 - j)) : Nat) := fun j => by
      unfold wdy
      rw [f3, hx]
      have : (ix + 1 - 1 - ((0 : Nat) : Int)).toNat = ix.toNat := by omega
      rw [this]
    rw [hw]
    have hj : j = 0 ∨ j = 1 ∨ j = 2 ∨ j = 3 := by omega
    rcases hj with rfl | rfl | rfl | rfl
    · rw [show (e - 4 * (((0 : Nat) : Int) + 1)).toNat + 0 = (e - 4).toNat by omega, a0, b0, d0]
    · rw [show (e - 4 * (((0 : Nat) : Int) + 1)).toNat + 1 = (e - 3).toNat by omega, a1, b1, d1]
    · rw [show (e - 4 * (((0 : Nat) : Int) + 1)).toNat + 2 = (e - 2).toNat by omega, a2, b2, d2]
    · rw [show (e - 4 * (((0 : Nat) : Int) + 1)).toNat + 3 = (e - 1).toNat by omega, a3, b3]
      simp
  · obtain ⟨k', rfl⟩ : ∃ k', k = k' + 1 := ⟨k - 1, by omega⟩
    obtain ⟨g1, g2⟩ := h.2 k' (by omega)
    refine ⟨by omega, fun j hj => ?_⟩
    have g3 := g2 j hj
    have hw : wdy xs (c' / 64) (k' + 1) j = wdy xs (c / 64) k' j := by
      unfold wdy
      have : (c' / 64 - 1 - ((k' + 1 : Nat) : Int)).toNat = (c / 64 - 1 - (k' : Int)).toNat := by omega
      rw [this]
    rw [hw, ← g3]
    have : (e - 4 * (((k' + 1 : Nat) : Int) + 1)).toNat = (e - 4 - 4 * ((k' : Int) + 1)).toNat := by omega
    rw [this]
theorem wd4M {V : vV} {e c c' ix x w0 w1 w2 w3 u0 u1 u2 : Int} (h : P195 xs V (e - 4) c) (e1 : 4 ≤ e) (e2 : e ≤ 1200) (c1 : 64 * ix ≤ c) (c2' : c ≤ 64 * ix + 4) (hc : c' = c + 65) (i0 : 0 ≤ ix) (hx : x = (xs ix.toNat).toInt) (a0 : V 125 (e - 4).toNat = w0) (a1 : V 125 (e - 3).toNat = w1) (a2 : V 125 (e - 2).toNat = w2) (a3 : V 125 (e - 1).toNat = w3) (k0 : q169 (x + 1099511627776 * (24 : Nat)) u0) (k1 : q169 (x + 1099511627776 * (16 : Nat)) u1) (k2 : q169 (x + 1099511627776 * (8 : Nat)) u2)
    (b0 : w0 = u0 % 256) (b1 : w1 = u1 % 256) (b2 : w2 = u2 % 256) (b3 : w3 = x % 256) : P195 xs V e c' := by
  have x0 := i32lo (xs ix.toNat)
  have x1 := i32hi (xs ix.toNat)
  have d0 := k169 24 rfl (by omega) (by omega) (by omega) (by omega) k0
  have d1 := k169 16 rfl (by omega) (by omega) (by omega) (by omega) k1
  have d2 := k169 8 rfl (by omega) (by omega) (by omega) (by omega) k2
  refine ⟨e2, fun k hk => ?_⟩
  have f1 : c % 64 = c - 64 * ix := by omega
  have f2 : c' % 64 = c - 64 * ix + 1 := by omega
  have f3 : c' / 64 = ix + 1 := by omega
  have f4 : c / 64 = ix := by omega
  by_cases hk0 : k = 0
  · subst hk0
    refine ⟨by omega, fun j hj => ?_⟩
    have hw : ∀ j, wdy xs (c' / 64) 0 j = x / (2 ^ (8 * (3 - j)) : Nat) := fun j => by
      unfold wdy
      rw [f3, hx]
      have : (ix + 1 - 1 - ((0 : Nat) : Int)).toNat = ix.toNat := by omega
      rw [this]
    rw [hw]
    have hj : j = 0 ∨ j = 1 ∨ j = 2 ∨ j = 3 := by omega
    rcases hj with rfl | rfl | rfl | rfl
    · rw [show (e - 4 * (((0 : Nat) : Int) + 1)).toNat + 0 = (e - 4).toNat by omega, a0, b0, d0]
    · rw [show (e - 4 * (((0 : Nat) : Int) + 1)).toNat + 1 = (e - 3).toNat by omega, a1, b1, d1]
    · rw [show (e - 4 * (((0 : Nat) : Int) + 1)).toNat + 2 = (e - 2).toNat by omega, a2, b2, d2]
    · rw [show (e - 4 * (((0 : Nat) : Int) + 1)).toNat + 3 = (e - 1).toNat by omega, a3, b3]
      simp
  · obtain ⟨k', rfl⟩ : ∃ k', k = k' + 1 := ⟨k - 1, by omega⟩
    obtain ⟨g1, g2⟩ := h.2 k' (by omega)
    refine ⟨by omega, fun j hj => ?_⟩
    have g3 := g2 j hj
    have hw : wdy xs (c' / 64) (k' + 1) j = wdy xs (c / 64) k' j := by
      unfold wdy
      have : (c' / 64 - 1 - ((k' + 1 : Nat) : Int)).toNat = (c / 64 - 1 - (k' : Int)).toNat := by omega
      rw [this]
    rw [hw, ← g3]
    have : (e - 4 * (((k' + 1 : Nat) : Int) + 1)).toNat = (e - 4 - 4 * ((k' : Int) + 1)).toNat := by omega
    rw [this]
theorem eqb20_ok {V : vV} {e d ix c c' : Int} (hE : P170 V (e - 20)) (hC : P194 xs V e c) (hM : P195 xs V d c') (h1 : d = e) (hc : c = 64 * ix + 325) (hc' : c' = 64 * ix + 325) (e20 : 20 ≤ e) : P170 V d := fun i i1 i2 => by
  subst h1
  by_cases hi : (i : Int) < d - 20
  · exact hE i hi i2
  · obtain ⟨k, j, hk, hj, hij⟩ : ∃ k j : Nat, k < 5 ∧ j < 4 ∧ (i : Int) = d - 4 * ((k : Int) + 1) + j := ⟨((d - 1 - i) / 4).toNat, (3 - (d - 1 - i) % 4).toNat, by omega, by omega, by omega⟩
    have f1 := (hC.2 k (by omega)).2 j hj
    have f2 := (hM.2 k (by omega)).2 j hj
    have e0 : (d - 4 * ((k : Int) + 1)).toNat + j = i := by omega
    rw [e0] at f1 f2
    rw [f1, f2, show c' = c by omega]
    generalize wdy xs (c / 64) k j = w
    have := Int.emod_bmod (x := w) (n := 256)
    rw [Int.bmod_def]
    split <;> omega
/-- one text, one outcome -/
theorem p199 (hU : uqG G C) {Z e p c : Int} (hg : G Z.toNat = 14) (a1 : ∃ fs z, h[Z.toNat]? = some (.inr (4, fs)) ∧ fs[3]? = some (.int z) ∧ z.toInt = e) (a2 : ∃ fs z, h[Z.toNat]? = some (.inr (4, fs)) ∧ fs[4]? = some (.int z) ∧ z.toInt = p) (hq : q199 C h c) : outB (tB (vw C h)) c.toNat (4096 * e + p) ∧ 0 ≤ p ∧ p ≤ 1200 := by
  obtain ⟨fs1, z1, x1, x2, x3⟩ := a1
  obtain ⟨fs2, z2, y1, y2, y3⟩ := a2
  obtain ⟨fs3, u, v, w1, w2, w3, w4, w5, w6, w7⟩ := hq
  have hx : Z.toNat = C 14 := (hU 14 (by omega) (by omega)).2 _ hg
  rw [hx] at x1 y1
  rw [x1] at y1 w1
  cases y1
  cases w1
  rw [x2] at w2
  cases w2
  rw [y2] at w3
  cases w3
  subst x3 y3
  exact ⟨w4, w6, w7⟩
theorem eq_rf {a b : Nat} (h : (some (.ref a) : Option Value) = some (.ref b)) : a = b := by
  cases h
  rfl
theorem eq_in {a b : Int32} (h : (some (.int a) : Option Value) = some (.int b)) : a = b := by
  cases h
  rfl
/-! what is read of objects and rows, as views -/
theorem ob_v (hT : TI G rgs h) {ρ : Va} {q : LE × Nat × sV} {x v : Int} {g ci : Nat} {fs0 : List kS} (hq : ∃ ci fs w, h[(ev ρ q.1).toNat]? = some (.inr (ci, fs)) ∧ fs[q.2.1]? = some w ∧ dV ρ q.2.2 w) (h1 : ev ρ q.1 = x) (hg : G x.toNat = g) (hgs : rgs g = some (.inl (ci, fs0))) (h2 : ev ρ q.2.2.2 = v) (h0 : q.2.2.1 = 1 := by rfl) : rfv h x.toNat q.2.1 = some (.ref v.toNat) := by
  obtain ⟨fs, a1, a2⟩ := ob_rf hT hq h1 hg hgs h2 h0
  exact rfv_of a1 a2
theorem ob_i (hT : TI G rgs h) {ρ : Va} {q : LE × Nat × sV} {x v : Int} {g ci : Nat} {fs0 : List kS} (hq : ∃ ci fs w, h[(ev ρ q.1).toNat]? = some (.inr (ci, fs)) ∧ fs[q.2.1]? = some w ∧ dV ρ q.2.2 w) (h1 : ev ρ q.1 = x) (hg : G x.toNat = g) (hgs : rgs g = some (.inl (ci, fs0))) (h2 : ev ρ q.2.2.2 = v) (h0 : q.2.2.1 = 0 := by rfl) : hasI (rfv h x.toNat q.2.1) v := by
  obtain ⟨fs, z, a1, a2, a3⟩ := ob_in hT hq h1 hg hgs h2 h0
  exact ⟨z, rfv_of a1 a2, a3⟩
theorem ar_v {ρ : Va} {q : LE × LE × sV} {x j v : Int} (hq : ∃ t n c, h[(ev ρ q.1).toNat]? = some (.inl (t, n, c)) ∧ 0 ≤ ev ρ q.2.1 ∧ ev ρ q.2.1 < n ∧ dV ρ q.2.2 (elV c (ev ρ q.2.1).toNat)) (h1 : ev ρ q.1 = x) (hj : j = ev ρ q.2.1) (h2 : ev ρ q.2.2.2 = v) (h0 : q.2.2.1 = 1 := by rfl) : elv h x.toNat j.toNat = some (.ref v.toNat) := by
  obtain ⟨t, n, c, a1, a2, a3⟩ := ar_rf hq h1 hj h2 h0
  exact elv_of a1 a2 a3
theorem ar_i {ρ : Va} {q : LE × LE × sV} {x j v : Int} (hq : ∃ t n c, h[(ev ρ q.1).toNat]? = some (.inl (t, n, c)) ∧ 0 ≤ ev ρ q.2.1 ∧ ev ρ q.2.1 < n ∧ dV ρ q.2.2 (elV c (ev ρ q.2.1).toNat)) (h1 : ev ρ q.1 = x) (hj : j = ev ρ q.2.1) (h2 : ev ρ q.2.2.2 = v) (h0 : q.2.2.1 = 0 := by rfl) : hasI (elv h x.toNat j.toNat) v := by
  obtain ⟨t, n, c, g1, g2, g3, g4⟩ := hq
  rw [h1] at g1
  rw [← hj] at g2 g3 g4
  obtain ⟨r, k, t', e⟩ := q
  dsimp only at h0 g4 h2
  subst h0
  obtain ⟨z, hz, hz2⟩ := dV0 rfl g4
  dsimp only at hz2
  exact ⟨z, elv_of g1 (by omega) hz, hz2.trans h2⟩
theorem hasI_eq {o : Option Value} {z z' : Int} (a : hasI o z) (b : hasI o z') : z = z' := by
  obtain ⟨v, h1, h2⟩ := a
  obtain ⟨w, h3, h4⟩ := b
  have e := eq_in (h1.symm.trans h3)
  rw [← h2, ← h4, e]
theorem dg1 {a b : Nat} {x y : Int} (ha : a < 1024) (hb : b < 1024) (e : (a : Int) + 1024 * x = b + 1024 * y) : a = b ∧ x = y := by
  constructor <;> omega
theorem pk6i {C0 C1 C2 C3 C4 C5 : Int} {cs : Nat → Nat} (n0 : 0 ≤ C0) (n1 : 0 ≤ C1) (n2 : 0 ≤ C2) (n3 : 0 ≤ C3) (n4 : 0 ≤ C4) (n5 : 0 ≤ C5) (b0 : C0.toNat < 1024) (b1 : C1.toNat < 1024) (b2 : C2.toNat < 1024) (b3 : C3.toNat < 1024) (b5 : C5.toNat < 1024) (k : ∀ i, i < 6 → cs i < 1024)
    (e : C5 + 1024 * C0 + 1048576 * C1 + 1073741824 * C2 + 1099511627776 * C3 + 1125899906842624 * C4 = pk6 cs) : C5.toNat = cs 0 ∧ C0.toNat = cs 1 ∧ C1.toNat = cs 2 ∧ C2.toNat = cs 3 ∧ C3.toNat = cs 4 ∧ C4.toNat = cs 5 := by
  unfold pk6 at e
  have q0 := Int.toNat_of_nonneg n0
  have q1 := Int.toNat_of_nonneg n1
  have q2 := Int.toNat_of_nonneg n2
  have q3 := Int.toNat_of_nonneg n3
  have q4 := Int.toNat_of_nonneg n4
  have q5 := Int.toNat_of_nonneg n5
  obtain ⟨f5, r1⟩ := dg1 (a := C5.toNat) (b := cs 0) (x := C0 + 1024 * (C1 + 1024 * (C2 + 1024 * (C3 + 1024 * C4)))) (y := (cs 1 : Int) + 1024 * ((cs 2 : Int) + 1024 * ((cs 3 : Int) + 1024 * ((cs 4 : Int) + 1024 * (cs 5 : Int))))) b5 (k 0 (by decide)) (by clear q0 q1 q2 q3 q4 b0 b1 b2 b3 b5 k; omega)
  rw [← q0] at r1
  obtain ⟨f0, r2⟩ := dg1 b0 (k 1 (by decide)) r1
  rw [← q1] at r2
  obtain ⟨f1, r3⟩ := dg1 b1 (k 2 (by decide)) r2
  rw [← q2] at r3
  obtain ⟨f2, r4⟩ := dg1 b2 (k 3 (by decide)) r3
  rw [← q3] at r4
  obtain ⟨f3, r5⟩ := dg1 b3 (k 4 (by decide)) r4
  refine ⟨f5, f0, f1, f2, f3, ?_⟩
  rw [r5]
  rfl
/-! records: the class's side -/
theorem RBe : (RB : Int) = 1128430269653696552505663664688505519051893948117725342710709407999638941941219040912833546632301522012495604549678634617312701794930960696933850145274509219899605219518447018369658381698338332600334225533767288503097470829739413943739519714331064178097205003926859545229038622328927117691927971265095131106901145206539640038505022502031780376472027866138952425537536 := by decide +kernel
theorem s_dayS {V W : Int} {i : Nat} (h : W = (dayN V.toNat i : Int)) : ((day1 W.toNat : Nat) : Int) = (dayN V.toNat (i + 1) : Int) := by
  rw [h, Int.toNat_natCast]
  rfl
theorem qCnt_f {r a b : Int} (h1 : qCnt r a) (h2 : qCnt r b) : a = b := by
  unfold qCnt at h1 h2
  rw [h1, h2]
theorem qSet_f {r a b : Int} (h1 : qSet r a) (h2 : qSet r b) : a = b := by
  unfold qSet at h1 h2
  rw [h1, h2]
theorem qTop_f {r a b : Int} (h1 : qTop r a) (h2 : qTop r b) : a = b := by
  unfold qTop at h1 h2
  rw [h1, h2]
theorem qTail_f {r a b : Int} (h1 : qTail r a) (h2 : qTail r b) : a = b := by
  unfold qTail at h1 h2
  rw [h1, h2]
theorem qPush_f {r a b : Int} (h1 : qPush r a) (h2 : qPush r b) : a = b := by
  unfold qPush at h1 h2
  rw [h1, h2]
theorem qDay_f {r a b : Int} (h1 : qDay r a) (h2 : qDay r b) : a = b := by
  unfold qDay at h1 h2
  rw [h1, h2]
section RCS
variable {F A : fvT}
theorem q210.o {r c : Int} (q : q210 G r c F) : q361 G r c F := ⟨q.1, q.2.2.1, q.2.2.2⟩
theorem toN {z : Int} (h : 0 ≤ z) : ((z.toNat : Nat) : Int) = z := Int.toNat_of_nonneg h
/-- a field of a state's own -/
theorem s_f4 {x V d : Int} {k f : Nat} (hk : k < 4) (hf : pf k = f) (q : q361 G x V F) (y : hasI (F x.toNat f) d) : d = (cp V.toNat k : Int) := by
  have h := q.2.2.2.2.2 k (by omega) (fun q => q) (Or.inl hk)
  rw [show po k = 0 by unfold po; rw [if_pos hk], Nat.add_zero, hf] at h
  exact hasI_eq y h
theorem thr_mk {V k m : Nat} (hm : m < cp V 3) (hk : k = 4 + m ∨ k = 12 + m ∨ k = 20 + m ∨ k = 28 + m) (h8 : m < 8) : thr V k := Or.inr (Or.inl ⟨by omega, by rw [show (k - 4) % 8 = m by omega]; exact hm⟩)
theorem thr_sk {V m j : Nat} (hm : m < cp V 3) (hj : j < cp V (12 + m)) (h5 : j < 5) : thr V (36 + 5 * m + j) := Or.inr (Or.inr ⟨by omega, by rw [show (36 + 5 * m + j - 36) / 5 = m by omega]; exact hm, by rw [show (36 + 5 * m + j - 36) / 5 = m by omega, show (36 + 5 * m + j - 36) % 5 = j by omega]; exact hj⟩)
/-- a field of a machine -/
theorem s_mf {x V d : Int} {k f m : Nat} {M : Nat} (h8 : m < 8) (hk : (k = 4 + m ∧ f = 2) ∨ (k = 12 + m ∧ f = 6) ∨ (k = 20 + m ∧ f = 0) ∨ (k = 28 + m ∧ f = 1)) (hm : m < cp V.toNat 3) (e : M = x.toNat + 2 + 7 * m) (q : q361 G x V F) (y : hasI (F M f) d) : d = (cp V.toNat k : Int) := by
  have h := q.2.2.2.2.2 k (by omega) (fun q => q) (thr_mk hm (by omega) h8)
  obtain ⟨p1, p2⟩ := pc_m h8 hk rfl
  rw [p1, p2, show x.toNat + (2 + 7 * m) = M by omega] at h
  exact hasI_eq y h
theorem thr_set {V k v j : Nat} (h3 : k ≠ 3) (h12 : ¬ (12 ≤ k ∧ k < 20)) (hj : j < 76) : thr (setC V k v) j ↔ thr V j := by
  unfold thr
  rw [cp_ne (V := V) (k := k) (v := v) (j := 3) (fun h => h3 h.symm)]
  by_cases h : 36 ≤ j
  · rw [cp_ne (V := V) (k := k) (v := v) (j := 12 + (j - 36) / 5) (by omega)]
  · constructor
    · rintro (a | a | a)
      · exact Or.inl a
      · exact Or.inr (Or.inl a)
      · omega
    · rintro (a | a | a)
      · exact Or.inl a
      · exact Or.inr (Or.inl a)
      · omega
theorem okV_set {V k v : Nat} (hk : k < 76) (h3 : k ≠ 3) (h12 : ¬ (12 ≤ k ∧ k < 20)) (ht : thr V k) (h : okVr V) : okVr (setC V k v) := by
  obtain ⟨a, b, d, e⟩ := h
  refine ⟨setC_lt hk a, by rw [cp_ne (fun q => h3 q.symm)]; exact b, fun m hm => by rw [cp_ne (by omega)]; exact d m hm, fun j hj hn => ?_⟩
  have hn2 : ¬ thr V j := fun q => hn ((thr_set h3 h12 hj).mpr q)
  rw [cp_ne (fun q => hn2 (by rw [q]; exact ht))]
  exact e j hj hn2
theorem Hd_set {x V k v : Nat} (hk : k < 76) (h3 : k ≠ 3) (h12 : ¬ (12 ≤ k ∧ k < 20)) (ht : thr V k) (hv : v < 65536) (h : Hd G (fun j => j = k) x V F) (y : hasI (F (x + po k) (pf k)) (v : Int)) : HR G x (setC V k v) F := by
  obtain ⟨hG, hx, hV, hi⟩ := h
  refine ⟨hG, hx, okV_set hk h3 h12 ht hV, fun j hj _ hn => ?_⟩
  by_cases e : j = k
  · subst e
    rw [cp_eq hv]
    exact y
  · rw [cp_ne e]
    exact hi j hj e ((thr_set h3 h12 hj).mp hn)
/-- level, shift -/
theorem s_v4 {x a v : Int} {k f : Nat} (hk : k < 3) (hf : pf k = f) (v0 : 0 ≤ v) (v1 : v < 65536) (q : qBut G k x a F) (y : hasI (F x.toNat f) v) : q361 G x (setC a.toNat k v.toNat : Nat) F := by
  obtain ⟨h0, hc, hi⟩ := q
  refine ⟨h0, Int.natCast_nonneg _, Hd_set (by omega) (by omega) (by omega) (Or.inl (by omega)) (by omega) hi ?_⟩
  rw [show po k = 0 by unfold po; rw [if_pos (by omega)], Nat.add_zero, hf, toN v0]
  exact y
theorem q361.toS {r c : Int} (q : q361 G r c F) (s : SHc r.toNat) : q210 G r c F := ⟨q.1, s, q.2.1, q.2.2⟩
theorem s_but {x V : Int} (k : Nat) (q : q361 G x V F) : qBut G k x V F := ⟨q.1, q.2.1, q.2.2.ex fun _ _ _ _ h => h⟩
/-- a machine of a state that is there: but for one of its fields -/
theorem s_mX {x V M : Int} {m : Nat} (off : Nat) (m8 : m < 8) (hm : m < cp V.toNat 3) (e : M = x + 2 + 7 * m) (q : q361 G x V F) : qM G off M V F := ⟨q.2.1, x.toNat, m, m8, hm, by rw [toN q.1, e], q.2.2.ex fun _ _ _ _ h => h⟩
theorem s_mV {x a M v : Int} {m off f : Nat} (m8 : m < 8) (hf : (off = 4 ∧ f = 2) ∨ (off = 20 ∧ f = 0) ∨ (off = 28 ∧ f = 1)) (x0 : 0 ≤ x) (gx : G x.toNat = 20) (e : M = x + 2 + 7 * m) (v0 : 0 ≤ v) (v1 : v < 65536) (q : qM G off M a F) (y : hasI (F M.toNat f) v) : q361 G x (setC a.toNat (off + m) v.toNat : Nat) F := by
  obtain ⟨hc, t, n, n8, hn, hr, hi⟩ := q
  have ex : t = x.toNat := scq_eq hi.2.1 (hi.1.s gx) (a := 2 + 7 * n) (b := 2 + 7 * m) (by omega) (by omega) (by omega)
  have en : n = m := by omega
  subst ex en
  obtain ⟨p1, p2⟩ := pc_m (k := off + n) (f := f) n8 (by omega) rfl
  refine ⟨x0, Int.natCast_nonneg _, Hd_set (by omega) (by omega) (by omega) (thr_mk hn (by omega) n8) (by omega) hi ?_⟩
  rw [p1, p2, toN v0, show x.toNat + (2 + 7 * n) = M.toNat by omega]
  exact y
theorem cp3_set {a k v : Nat} (h : k ≠ 3) : cp (setC a k v) 3 = cp a 3 := cp_ne fun q => h q.symm
/-- copies -/
theorem s_cp0 {t x V : Int} (t0 : 0 ≤ t) (gt : G t.toNat = 20) (q : q361 G x V F) : q380 G t V F := ⟨q.2.1, t.toNat, 0, by omega, by rw [toN t0]; omega, q.2.2.1, q.2.2.1.s gt, q.2.2.2.2.1, fun k hk he _ => (he (by by_cases h : k < 4; exact Or.inl h; exact Or.inr (Nat.zero_le _))).elim⟩
theorem s_mh {x V M c : Int} {k : Nat} (gM : G M.toNat = 13) (e : M = x + 2 + 7 * k) (hc : c = (cp V.toNat 3 : Int)) (hk : (k : Int) + 1 ≤ c) (q : q361 G x V F) : q390 G M (8 * V + k) F := by
  obtain ⟨x0, V0, hG, sx, hV, hi⟩ := q
  have hm : k < cp V.toNat 3 := by omega
  have k8 : k < 8 := by have := hV.2.1; omega
  have go : ∀ j f, ((j = 4 + k ∧ f = 2) ∨ (j = 12 + k ∧ f = 6) ∨ (j = 20 + k ∧ f = 0) ∨ (j = 28 + k ∧ f = 1)) → hasI (F M.toNat f) (cp V.toNat j) := fun j f hj => by
    have h := hi j (by omega) (fun q => q) (thr_mk hm (by omega) k8)
    obtain ⟨p1, p2⟩ := pc_m k8 hj rfl
    rwa [p1, p2, show x.toNat + (2 + 7 * k) = M.toNat by omega] at h
  have h5 := hV.2.2.1 k k8
  refine ⟨by omega, hG, gM, V.toNat, k, k8, hV, by omega, go _ 0 (by omega), go _ 1 (by omega), go _ 2 (by omega), go _ 6 (by omega), fun j hj => ?_⟩
  have h := hi (36 + 5 * k + j) (by omega) (fun q => q) (thr_sk hm hj (by omega))
  obtain ⟨p1, p2⟩ := pc_s (k := 36 + 5 * k + j) k8 (show j < 5 by omega) rfl rfl
  rwa [p1, p2, show x.toNat + (4 + 7 * k + j) = M.toNat + 2 + j by omega] at h
theorem s_mh2 {t M V w : Int} {k : Nat} (k8 : k < 8) (t0 : 0 ≤ t) (gt : G t.toNat = 20) (e : M = t + 2 + 7 * k) (ew : w = 8 * V + k) (q1 : q390 G M w F) (q2 : q380 G (t + 7 * k) V F) : q380 G (t + 7 * k + 7) V F := by
  obtain ⟨hc, x, m, m8, hr, hG, sx, hV, hi⟩ := q2
  have ex : x = t.toNat := scq_eq sx (hG.s gt) (a := 7 * m) (b := 7 * k) (by omega) (by omega) (by omega)
  have em : m = k := by omega
  subst ex em
  obtain ⟨M0, -, -, V2, m2, m28, -, e2, p0, p1, p2, p3, p4⟩ := q1
  have eV : V2 = V.toNat := by omega
  have em : m2 = m := by omega
  subst eV em
  refine ⟨hc, t.toNat, m2 + 1, by omega, by rw [toN t0]; omega, hG, sx, hV, fun j hj he ht => ?_⟩
  by_cases hp : pm j < m2
  · exact hi j hj (by omega) ht
  · have hpe : pm j = m2 := by omega
    have h4 : ¬ j < 4 := by omega
    rcases pcase hj with ⟨h, -⟩ | ⟨h, -⟩ | ⟨h, -⟩ | ⟨h, -⟩ | ⟨n, hn, h, -, h2, h3⟩ | ⟨n, hn, h, -, h2, h3⟩ | ⟨n, hn, h, -, h2, h3⟩ | ⟨n, hn, h, -, h2, h3⟩ | ⟨n, hn, i, hi5, h, -, h2, h3⟩
    · omega
    · omega
    · omega
    · omega
    · have en : n = m2 := by unfold pm at hpe; rw [if_pos (by omega)] at hpe; omega
      rw [h2, h3, h, en, show t.toNat + (2 + 7 * m2) = M.toNat by omega]
      exact p2
    · have en : n = m2 := by unfold pm at hpe; rw [if_pos (by omega)] at hpe; omega
      rw [h2, h3, h, en, show t.toNat + (2 + 7 * m2) = M.toNat by omega]
      exact p3
    · have en : n = m2 := by unfold pm at hpe; rw [if_pos (by omega)] at hpe; omega
      rw [h2, h3, h, en, show t.toNat + (2 + 7 * m2) = M.toNat by omega]
      exact p0
    · have en : n = m2 := by unfold pm at hpe; rw [if_pos (by omega)] at hpe; omega
      rw [h2, h3, h, en, show t.toNat + (2 + 7 * m2) = M.toNat by omega]
      exact p1
    · have en : n = m2 := by unfold pm at hpe; rw [if_neg (by omega)] at hpe; omega
      rw [h2, h3, h, en, show t.toNat + (4 + 7 * m2 + i) = M.toNat + 2 + i by omega]
      refine p4 i ?_
      unfold thr at ht
      rw [h, en, show (36 + 5 * m2 + i - 36) / 5 = m2 by omega, show (36 + 5 * m2 + i - 36) % 5 = i by omega] at ht
      omega
theorem s_st9 {t V d l s c : Int} (t0 : 0 ≤ t) (gt : G t.toNat = 20) (y0 : hasI (F t.toNat 0) d) (y1 : hasI (F t.toNat 1) l) (y2 : hasI (F t.toNat 2) s) (y3 : hasI (F t.toNat 12) c) (e0 : d = (cp V.toNat 0 : Int)) (e1 : l = (cp V.toNat 1 : Int)) (e2 : s = (cp V.toNat 2 : Int)) (e3 : c = (cp V.toNat 3 : Int)) (q : q380 G (t + 7 * c) V F) : q361 G t V F := by
  obtain ⟨hc, x, m, m8, hr, hG, sx, hV, hi⟩ := q
  have h8 := hV.2.1
  have ex : x = t.toNat := scq_eq sx (hG.s gt) (a := 7 * m) (b := 7 * cp V.toNat 3) (by omega) (by omega) (by omega)
  have em : m = cp V.toNat 3 := by omega
  subst ex em
  refine ⟨t0, hc, hG, sx, hV, fun k hk _ ht => ?_⟩
  by_cases h4 : k < 4
  · rw [show po k = 0 by unfold po; rw [if_pos h4], Nat.add_zero]
    have hk4 : k = 0 ∨ k = 1 ∨ k = 2 ∨ k = 3 := by omega
    rcases hk4 with rfl | rfl | rfl | rfl
    · rw [← e0]; exact y0
    · rw [← e1]; exact y1
    · rw [← e2]; exact y2
    · rw [← e3]; exact y3
  · exact hi k hk (fun h => h.elim (fun h => h4 h) fun h => by have := thr_m hk ht (by omega) rfl; omega) ht
theorem mp_i {w V : Int} {m i : Nat} {r c : Int} (hr : r = 4 * w + i) (hw : w = 8 * V + m) (hi : i < 4) (hm : m < 8) : qMp r c ↔ c = (cp V.toNat ((if i = 0 then 20 else if i = 1 then 28 else if i = 2 then 4 else 12) + m) : Int) := by
  unfold qMp
  rw [show r / 32 = V by omega, show (r / 4 % 8).toNat = m by omega, show r % 4 = (i : Int) by omega]
  have h : i = 0 ∨ i = 1 ∨ i = 2 ∨ i = 3 := by omega
  rcases h with rfl | rfl | rfl | rfl <;> rfl
theorem s_mp0 {M w f u q c : Int} (y0 : hasI (F M.toNat 0) f) (y1 : hasI (F M.toNat 1) u) (y2 : hasI (F M.toNat 2) q) (y3 : hasI (F M.toNat 6) c) (p : q390 G M w F) : qMp (4 * w) f ∧ qMp (4 * w + 1) u ∧ qMp (4 * w + 2) q ∧ qMp (4 * w + 3) c := by
  obtain ⟨M0, -, -, V, m, m8, hV, e, p0, p1, p2, p3, -⟩ := p
  exact ⟨(mp_i (i := 0) (V := V) (by omega) e (by omega) m8).mpr (hasI_eq y0 p0), (mp_i (i := 1) (V := V) (by omega) e (by omega) m8).mpr (hasI_eq y1 p1), (mp_i (i := 2) (V := V) (by omega) e (by omega) m8).mpr (hasI_eq y2 p2), (mp_i (i := 3) (V := V) (by omega) e (by omega) m8).mpr (hasI_eq y3 p3)⟩
theorem s_sp0 {M N w : Int} (M0 : 0 ≤ M) (gM : G M.toNat = 13) (p : q390 G N w F) : q393 G (M + 2) w F := by
  obtain ⟨-, hG, -, V, m, m8, hV, e, -⟩ := p
  exact ⟨hG, M.toNat, V, m, 0, gM, m8, by omega, hV, e, by omega, fun i hi => by omega⟩
theorem ev_i {w V : Int} {m j : Nat} {r c : Int} (hr : r = 8 * w + j) (hw : w = 8 * V + m) (hj : j < 8) (hm : m < 8) : qEv r c ↔ c = (cp V.toNat (36 + 5 * m + j) : Int) := by
  unfold qEv
  rw [show r / 64 = V by omega, show (r / 8 % 8).toNat = m by omega, show (r % 8).toNat = j by omega]
/-- the slot's number of a record -/
def evW (w j : Int) : Int := (cp (w / 8).toNat (36 + 5 * (w % 8).toNat + j.toNat) : Int)
theorem s_sp1 {N s w c j : Int} (j0 : 0 ≤ j) (hj : j + 1 ≤ c) (s0 : 0 ≤ s) (gs : G s.toNat = 19) (e : s = N + 2 + j) (p : q390 G N w F) (pc : qMp (4 * w + 3) c) : q395 G s (evW w j) F ∧ qEv (8 * w + j) (evW w j) := by
  obtain ⟨M0, -, -, V, m, m8, hV, ew, p0, p1, p2, p3, p4⟩ := p
  have hc := (mp_i (i := 3) (V := V) (by omega) ew (by omega) m8).mp pc
  rw [show (if (3 : Nat) = 0 then 20 else if (3 : Nat) = 1 then 28 else if (3 : Nat) = 2 then 4 else 12) = 12 from rfl, Int.toNat_natCast] at hc
  have h5 := hV.2.2.1 m m8
  have eW : evW w j = (cp V (36 + 5 * m + j.toNat) : Int) := by
    unfold evW
    rw [show (w / 8).toNat = V by omega, show (w % 8).toNat = m by omega]
  have h := p4 j.toNat (by omega)
  rw [show N.toNat + 2 + j.toNat = s.toNat by omega] at h
  exact ⟨⟨s0, gs, by rw [eW]; exact h⟩, (ev_i (j := j.toNat) (V := V) (by omega) ew (by omega) m8).mpr (by rw [eW]; rfl)⟩
theorem s_sp2 {M s w e f j : Int} (j0 : 0 ≤ j) (j4 : j ≤ 4) (M0 : 0 ≤ M) (gM : G M.toNat = 13) (es : s = M + 2 + j) (ef : e = f) (p1 : q395 G s e F) (p2 : q393 G (M + 2 + j) w F) (p3 : qEv (8 * w + j) f) : q393 G (M + 3 + j) w F := by
  obtain ⟨hG, y, V, m, n, gy, m8, n5, hV, ew, er, hi⟩ := p2
  have ey : y = M.toNat := by
    by_cases h : y ≤ M.toNat
    · exact hG.mm gy gM h (by omega)
    · exact (hG.mm gM gy (by omega) (by omega)).symm
  have en : n = j.toNat := by omega
  subst ey en
  have h3 := (ev_i (j := j.toNat) (V := V) (by omega) ew (by omega) m8).mp p3
  rw [Int.toNat_natCast] at h3
  refine ⟨hG, M.toNat, V, m, j.toNat + 1, gy, m8, by omega, hV, ew, by omega, fun i hi2 => ?_⟩
  by_cases h : i < j.toNat
  · exact hi i h
  · have e2 : i = j.toNat := by omega
    rw [e2, ← h3, ← ef, show M.toNat + 2 + j.toNat = s.toNat by omega]
    exact p1.2.2
theorem s_mp9 {M w f u q c : Int} (M0 : 0 ≤ M) (gM : G M.toNat = 13) (y0 : hasI (F M.toNat 0) f) (y1 : hasI (F M.toNat 1) u) (y2 : hasI (F M.toNat 2) q) (y3 : hasI (F M.toNat 6) c) (p : q393 G (M + 2 + c) w F) (e0 : qMp (4 * w) f) (e1 : qMp (4 * w + 1) u) (e2 : qMp (4 * w + 2) q) (e3 : qMp (4 * w + 3) c) : q390 G M w F := by
  obtain ⟨hG, y, V, m, n, gy, m8, n5, hV, ew, er, hi⟩ := p
  have h0 := (mp_i (i := 0) (V := V) (by omega) ew (by omega) m8).mp e0
  have h1 := (mp_i (i := 1) (V := V) (by omega) ew (by omega) m8).mp e1
  have h2 := (mp_i (i := 2) (V := V) (by omega) ew (by omega) m8).mp e2
  have h3 := (mp_i (i := 3) (V := V) (by omega) ew (by omega) m8).mp e3
  rw [Int.toNat_natCast] at h0 h1 h2 h3
  have h5 := hV.2.2.1 m m8
  have h3' : c = (cp V (12 + m) : Int) := h3
  have ey : y = M.toNat := by
    by_cases h : y ≤ M.toNat
    · exact hG.mm gy gM h (by omega)
    · exact (hG.mm gM gy (by omega) (by omega)).symm
  have en : n = cp V (12 + m) := by omega
  subst ey en
  exact ⟨M0, hG, gM, V, m, m8, hV, ew, h0 ▸ y0, h1 ▸ y1, h2 ▸ y2, h3' ▸ y3, hi⟩
/-- days -/
theorem okV_day {W : Nat} (h : okVr W) (hd : cp W 0 + 1 < 65536) : okVr (day1 W) := by
  obtain ⟨a, b, d, e⟩ := h
  have t : ∀ k, k < 76 → (thr (day1 W) k ↔ thr W k) := fun k hk => by
    unfold thr
    rw [cp_day1 (j := 3) hd, if_neg (by omega), if_neg (by omega)]
    by_cases h : 36 ≤ k
    · rw [cp_day1 (j := 12 + (k - 36) / 5) hd, if_neg (by omega), if_neg (by omega)]
    · constructor
      · rintro (x | x | x)
        · exact Or.inl x
        · exact Or.inr (Or.inl x)
        · omega
      · rintro (x | x | x)
        · exact Or.inl x
        · exact Or.inr (Or.inl x)
        · omega
  refine ⟨day1_lt a, by rw [cp_day1 hd, if_neg (by omega), if_neg (by omega)]; exact b, fun m hm => by rw [cp_day1 hd, if_neg (by omega), if_neg (by omega)]; exact d m hm, fun k hk hn => ?_⟩
  have hn2 : ¬ thr W k := fun q => hn ((t k hk).mpr q)
  have h0 : k ≠ 0 := fun q => hn2 (Or.inl (by omega))
  rw [cp_day1 hd, if_neg h0]
  split
  · rfl
  · exact e k hk hn2
theorem thr_day {W k : Nat} (hd : cp W 0 + 1 < 65536) (hk : k < 76) (h : thr (day1 W) k) : thr W k := by
  unfold thr at h ⊢
  rw [cp_day1 (j := 3) hd, if_neg (by omega), if_neg (by omega)] at h
  by_cases h36 : 36 ≤ k
  · rwa [cp_day1 (j := 12 + (k - 36) / 5) hd, if_neg (by omega), if_neg (by omega)] at h
  · rcases h with x | x | x
    · exact Or.inl x
    · exact Or.inr (Or.inl x)
    · omega
theorem s_dyB {s W d e : Int} (d2 : d ≤ 2000) (de : d = e + 1) (y : hasI (F s.toNat 0) d) (he : e = (cp W.toNat 0 : Int)) (q : qBut G 0 s W F) : q385 G s (day1 W.toNat : Nat) F := by
  obtain ⟨s0, W0, hG, sx, hV, hi⟩ := q
  have hd : cp W.toNat 0 + 1 < 65536 := by omega
  refine ⟨Int.natCast_nonneg _, noF_day1 hd, s.toNat, 0, by omega, by rw [toN s0]; omega, hG, sx, okV_day hV hd, fun k hk hx ht => ?_⟩
  rw [Int.toNat_natCast] at ht ⊢
  rw [cp_day1 hd]
  by_cases h0 : k = 0
  · subst h0
    rw [if_pos rfl, show ((cp W.toNat 0 + 1 : Nat) : Int) = d by omega]
    exact y
  · rw [if_neg h0, if_neg (fun h => hx (by omega))]
    exact hi k hk h0 (thr_day hd hk ht)
theorem s_dyC {s M U : Int} {m : Nat} (m8 : m < 8) (s0 : 0 ≤ s) (gs : G s.toNat = 20) (e : M = s + 2 + 7 * m) (q : q385 G (s + 7 * m) U F) : q387 G M U F := by
  obtain ⟨hc, hz, x, n, n8, hr, hi⟩ := q
  have ex : x = s.toNat := scq_eq hi.2.1 (hi.1.s gs) (a := 7 * n) (b := 7 * m) (by omega) (by omega) (by omega)
  have en : n = m := by omega
  subst ex en
  exact ⟨hc, hz, s.toNat, n, m8, by rw [toN s0]; omega, hi⟩
theorem s_dyD {s M U q : Int} {m : Nat} (m8 : m < 8) (s0 : 0 ≤ s) (gs : G s.toNat = 20) (e : M = s + 2 + 7 * m) (q0 : q = 0) (y : hasI (F M.toNat 2) q) (p : q387 G M U F) : q385 G (s + 7 * m + 7) U F := by
  obtain ⟨hc, hz, x, n, n8, hr, hG, sx, hV, hi⟩ := p
  have ex : x = s.toNat := scq_eq sx (hG.s gs) (a := 2 + 7 * n) (b := 2 + 7 * m) (by omega) (by omega) (by omega)
  have en : n = m := by omega
  subst ex en
  refine ⟨hc, hz, s.toNat, n + 1, by omega, by rw [toN s0]; omega, hG, sx, hV, fun k hk hx ht => ?_⟩
  by_cases hk2 : k = 4 + n
  · obtain ⟨p1, p2⟩ := pc_m (k := k) (f := 2) n8 (by omega) rfl
    rw [p1, p2, show s.toNat + (2 + 7 * n) = M.toNat by omega, hz k (by omega) (by omega), show ((0 : Nat) : Int) = q by omega]
    exact y
  · exact hi k hk (by omega) ht
theorem s_dyE {s U c : Int} {m : Nat} (s0 : 0 ≤ s) (gs : G s.toNat = 20) (m8 : m ≤ 8) (hm : c ≤ m) (y : hasI (F s.toNat 12) c) (q : q385 G (s + 7 * m) U F) : q361 G s U F := by
  obtain ⟨hc, hz, x, n, n8, hr, hG, sx, hV, hi⟩ := q
  have ex : x = s.toNat := scq_eq sx (hG.s gs) (a := 7 * n) (b := 7 * m) (by omega) (by omega) (by omega)
  have en : n = m := by omega
  subst ex en
  have h3 := hi 3 (by omega) (by omega) (Or.inl (by omega))
  have h3 : hasI (F s.toNat 12) (cp U.toNat 3) := h3
  have e3 := hasI_eq y h3
  refine ⟨s0, hc, hG, sx, hV, fun k hk _ ht => hi k hk (fun h => ?_) ht⟩
  have hp := thr_m hk ht (by omega) rfl
  unfold pm at hp
  rw [if_pos (by omega)] at hp
  omega
/-- the parse -/
theorem s_beg {T x d l s c : Int} (T0 : 0 ≤ T) (gT : G T.toNat = 20) (d0 : d = 0) (l0 : l = 0) (s0 : s = 0) (c0 : c = 0) (y0 : hasI (F T.toNat 0) d) (y1 : hasI (F T.toNat 1) l) (y2 : hasI (F T.toNat 2) s) (y3 : hasI (F T.toNat 12) c) (q : q241 G x A) : q361 G T 0 F := by
  subst d0 l0 s0 c0
  refine ⟨T0, by omega, q.1, q.1.s gT, ⟨RB_pos, by show cp 0 3 ≤ 8; rw [cp_0]; omega, fun m hm => by show cp 0 (12 + m) ≤ 5; rw [cp_0]; omega, fun k hk _ => cp_0⟩, fun k hk _ ht => ?_⟩
  show hasI (F (T.toNat + po k) (pf k)) ((cp 0 k : Nat) : Int)
  rw [cp_0]
  unfold thr at ht
  rw [show Int.toNat 0 = 0 from rfl, cp_0] at ht
  have hk4 : k = 0 ∨ k = 1 ∨ k = 2 ∨ k = 3 := by omega
  rcases hk4 with rfl | rfl | rfl | rfl
  · exact y0
  · exact y1
  · exact y2
  · exact y3
theorem s_mbA {s M a c : Int} {m : Nat} (hm : c = m) (m8 : m < 8) (e : M = s + 2 + 7 * m) (y : hasI (F s.toNat 12) c) (q : q361 G s a F) : q374 G M a F := by
  have h := s_f4 (k := 3) (by omega) rfl q y
  exact ⟨q.2.1, s.toNat, m, m8, by omega, by rw [toN q.1, e], q.2.2.ex fun _ _ _ _ h => h⟩
theorem thr_nM {a m k : Nat} (m8 : m < 8) (h3 : cp a 3 = m) (hk : k < 76) (hV : okVr a) (h : thr (newM a m) k) (n1 : k ≠ 4 + m) (n2 : k ≠ 12 + m) (n3 : k ≠ 20 + m) (n4 : k ≠ 28 + m) : thr a k := by
  unfold thr at h ⊢
  rw [cp_newM (j := 3) m8, if_pos rfl] at h
  rw [h3]
  by_cases h36 : 36 ≤ k
  · rw [cp_newM (j := 12 + (k - 36) / 5) m8, if_neg (by omega), if_neg (by omega), if_neg (by omega)] at h
    by_cases he : (k - 36) / 5 = m
    · rw [he, hV.2.2.2 (12 + m) (by omega) (fun q => by unfold thr at q; rw [h3] at q; omega)] at h
      omega
    · omega
  · omega
theorem thr_up {a m k : Nat} (m8 : m < 8) (h3 : cp a 3 = m) (hk : k < 76) (h : thr a k) : thr (newM a m) k := by
  unfold thr at h ⊢
  rw [cp_newM (j := 3) m8, if_pos rfl]
  rw [h3] at h
  by_cases h36 : 36 ≤ k
  · rw [cp_newM (j := 12 + (k - 36) / 5) m8, if_neg (by omega), if_neg (by omega), if_neg (by omega)]
    omega
  · omega
theorem okV_nM {a m : Nat} (m8 : m < 8) (h3 : cp a 3 = m) (h : okVr a) : okVr (newM a m) := by
  have hV := h
  obtain ⟨b, d, e, f⟩ := h
  refine ⟨newM_lt m8 b, by rw [cp_newM m8, if_pos rfl]; omega, fun i hi => by rw [cp_newM m8, if_neg (by omega), if_neg (by omega), if_neg (by omega)]; exact e i hi, fun k hk hn => ?_⟩
  have hn2 : ¬ thr a k := fun q => hn (thr_up m8 h3 hk q)
  have k3 : k ≠ 3 := fun q => hn2 (Or.inl (by omega))
  have t0 : ∀ j, (j = 4 + m ∨ j = 12 + m ∨ j = 20 + m ∨ j = 28 + m) → thr (newM a m) j := fun j hj => thr_mk (m := m) (by rw [cp_newM m8, if_pos rfl]; omega) hj m8
  rw [cp_newM m8, if_neg k3, if_neg (fun q => hn (t0 k (by omega))), if_neg (fun q => hn (t0 k (by omega)))]
  exact f k hk hn2
theorem s_mbB {s M a c f u q j : Int} {m : Nat} (s0 : 0 ≤ s) (gs : G s.toNat = 20) (hm : c = m) (m8 : m < 8) (e : M = s + 2 + 7 * m) (f1 : f = 1) (u0 : u = 0) (q0 : q = 0) (j0 : j = 0) (y0 : hasI (F M.toNat 0) f) (y1 : hasI (F M.toNat 1) u) (y2 : hasI (F M.toNat 2) q) (y3 : hasI (F M.toNat 6) j) (p : q374 G M a F) : qBut G 3 s (newM a.toNat m : Nat) F ∧ cp (newM a.toNat m) 3 = m + 1 := by
  obtain ⟨hc, x, n, n8, h3, hr, hG, sx, hV, hi⟩ := p
  have ex : x = s.toNat := scq_eq sx (hG.s gs) (a := 2 + 7 * n) (b := 2 + 7 * m) (by omega) (by omega) (by omega)
  have en : n = m := by omega
  subst ex en f1 u0 q0 j0
  refine ⟨⟨s0, Int.natCast_nonneg _, hG, sx, okV_nM n8 h3 hV, fun k hk hx ht => ?_⟩, by rw [cp_newM n8, if_pos rfl]⟩
  rw [Int.toNat_natCast] at ht ⊢
  have nt : ∀ j, (j = 4 + n ∨ j = 12 + n) → cp a.toNat j = 0 := fun j hj => hV.2.2.2 j (by omega) fun q => by
    unfold thr at q
    rw [h3] at q
    omega
  have eM : s.toNat + (2 + 7 * n) = M.toNat := by omega
  by_cases h1 : k = 4 + n
  · obtain ⟨p1, p2⟩ := pc_m (k := k) (f := 2) n8 (by omega) rfl
    rw [p1, p2, eM, cp_newM n8, if_neg (by omega), if_neg (by omega), if_neg (by omega), nt k (by omega)]
    exact y2
  by_cases h2 : k = 12 + n
  · obtain ⟨p1, p2⟩ := pc_m (k := k) (f := 6) n8 (by omega) rfl
    rw [p1, p2, eM, cp_newM n8, if_neg (by omega), if_neg (by omega), if_neg (by omega), nt k (by omega)]
    exact y3
  by_cases h4 : k = 20 + n
  · obtain ⟨p1, p2⟩ := pc_m (k := k) (f := 0) n8 (by omega) rfl
    rw [p1, p2, eM, cp_newM n8, if_neg (by omega), if_pos h4]
    exact y0
  by_cases h5 : k = 28 + n
  · obtain ⟨p1, p2⟩ := pc_m (k := k) (f := 1) n8 (by omega) rfl
    rw [p1, p2, eM, cp_newM n8, if_neg (by omega), if_neg (by omega), if_pos h5]
    exact y1
  rw [cp_newM n8, if_neg hx, if_neg h4, if_neg h5]
  exact hi k hk hx (thr_nM n8 h3 hk hV ht h1 h2 h4 h5)
theorem s_mcB {s b c : Int} (hc : c = (cp b.toNat 3 : Int)) (y : hasI (F s.toNat 12) c) (q : qBut G 3 s b F) : q361 G s b F := by
  obtain ⟨s0, b0, hG, sx, hV, hi⟩ := q
  refine ⟨s0, b0, hG, sx, hV, fun k hk _ ht => ?_⟩
  by_cases h : k = 3
  · subst h
    rw [← hc]
    exact y
  · exact hi k hk h ht
theorem s_sbA {s M t a c j : Int} {m n : Nat} (hm : c = m + 1) (m8 : m < 8) (hn : j = n) (n5 : n < 5) (e : M = s + 2 + 7 * m) (et : t = M + 2 + j) (y : hasI (F s.toNat 12) c) (z : hasI (F M.toNat 6) j) (q : q361 G s a F) : q377 G t a F := by
  have h := s_f4 (k := 3) (by omega) rfl q y
  have h2 := s_mf (k := 12 + m) (f := 6) (m := m) m8 (by omega) (by omega) (show M.toNat = s.toNat + 2 + 7 * m by have := q.1; omega) q z
  exact ⟨q.2.1, s.toNat, m, n, m8, n5, by omega, by omega, by rw [toN q.1]; omega, q.2.2⟩
theorem thr_nS {a m s v k : Nat} (s5 : s < 5) (m8 : m < 8) (hv : v < 65536) (h3 : cp a 3 = m + 1) (h12 : cp a (12 + m) = s) (hk : k < 76) : thr (newS a m s v) k ↔ thr a k ∨ k = 36 + 5 * m + s := by
  unfold thr
  rw [cp_newS (j := 3) s5 m8 hv, if_neg (by omega), if_neg (by omega), h3]
  by_cases h36 : 36 ≤ k
  · by_cases he : (k - 36) / 5 = m
    · rw [he, cp_newS (j := 12 + m) s5 m8 hv, if_pos rfl, h12]
      omega
    · rw [cp_newS (j := 12 + (k - 36) / 5) s5 m8 hv, if_neg (by omega), if_neg (by omega)]
      omega
  · constructor
    · rintro (x | x | x)
      · exact Or.inl (Or.inl x)
      · exact Or.inl (Or.inr (Or.inl x))
      · omega
    · rintro ((x | x | x) | x)
      · exact Or.inl x
      · exact Or.inr (Or.inl x)
      · omega
      · omega
theorem okV_nS {a m s v : Nat} (s5 : s < 5) (m8 : m < 8) (hv : v < 65536) (h3 : cp a 3 = m + 1) (h12 : cp a (12 + m) = s) (h : okVr a) : okVr (newS a m s v) := by
  obtain ⟨b, d, e, f⟩ := h
  refine ⟨newS_lt s5 m8 b, by rw [cp_newS s5 m8 hv, if_neg (by omega), if_neg (by omega)]; exact d, fun i hi => ?_, fun k hk hn => ?_⟩
  · rw [cp_newS s5 m8 hv]
    split
    · omega
    · rw [if_neg (by omega)]
      exact e i hi
  · have hn2 : ¬ thr a k ∧ ¬ k = 36 + 5 * m + s := ⟨fun q => hn ((thr_nS s5 m8 hv h3 h12 hk).mpr (Or.inl q)), fun q => hn ((thr_nS s5 m8 hv h3 h12 hk).mpr (Or.inr q))⟩
    have h9 : k ≠ 12 + m := fun q => hn2.1 (thr_mk (m := m) (by omega) (by omega) m8)
    rw [cp_newS s5 m8 hv, if_neg h9, if_neg hn2.2]
    exact f k hk hn2.1
theorem s_sbB {s M t a c j e : Int} {m n : Nat} (s0 : 0 ≤ s) (gs : G s.toNat = 20) (hm : c = m + 1) (m8 : m < 8) (hn : j = n) (n5 : n < 5) (eM : M = s + 2 + 7 * m) (et : t = M + 2 + j) (e0 : 0 ≤ e) (e1 : e < 65536) (y : q395 G t e F) (p : q377 G t a F) : qM G 12 M (newS a.toNat m n e.toNat : Nat) F ∧ cp (newS a.toNat m n e.toNat) (12 + m) = n + 1 := by
  obtain ⟨hc, x, m2, n2, m28, n25, h3, h12, hr, hG, sx, hV, hi⟩ := p
  have ex : x = s.toNat := scq_eq sx (hG.s gs) (a := 4 + 7 * m2 + n2) (b := 4 + 7 * m + n) (by omega) (by omega) (by omega)
  have en : m2 = m := by omega
  have en2 : n2 = n := by omega
  subst ex en en2
  have hv : e.toNat < 65536 := by omega
  refine ⟨⟨Int.natCast_nonneg _, s.toNat, m2, m28, ?_, by rw [toN s0]; omega, hG, sx, okV_nS n25 m28 hv h3 h12 hV, fun k hk hx ht => ?_⟩, by rw [cp_newS n25 m28 hv, if_pos rfl]⟩
  · rw [Int.toNat_natCast, cp_newS n25 m28 hv, if_neg (by omega), if_neg (by omega)]
    omega
  · rw [Int.toNat_natCast] at ht ⊢
    rw [cp_newS n25 m28 hv, if_neg hx]
    by_cases h : k = 36 + 5 * m2 + n2
    · obtain ⟨p1, p2⟩ := pc_s (k := k) m28 n25 h rfl
      rw [if_pos h, p1, p2, show s.toNat + (4 + 7 * m2 + n2) = t.toNat by omega, toN e0]
      exact y.2.2
    · rw [if_neg h]
      exact hi k hk (fun q => q) (((thr_nS n25 m28 hv h3 h12 hk).mp ht).resolve_right h)
theorem s_scB {s M b j c : Int} {m : Nat} (s0 : 0 ≤ s) (gs : G s.toNat = 20) (m8 : m < 8) (eM : M = s + 2 + 7 * m) (hj : j = (cp b.toNat (12 + m) : Int)) (y : hasI (F M.toNat 6) j) (p : qM G 12 M b F) : q361 G s b F := by
  obtain ⟨hc, x, n, n8, hn, hr, hG, sx, hV, hi⟩ := p
  have ex : x = s.toNat := scq_eq sx (hG.s gs) (a := 2 + 7 * n) (b := 2 + 7 * m) (by omega) (by omega) (by omega)
  have en : n = m := by omega
  subst ex en
  refine ⟨s0, hc, hG, sx, hV, fun k hk _ ht => ?_⟩
  by_cases h : k = 12 + n
  · obtain ⟨p1, p2⟩ := pc_m (k := k) (f := 6) n8 (by omega) rfl
    rw [p1, p2, show s.toNat + (2 + 7 * n) = M.toNat by omega, h, ← hj]
    exact y
  · exact hi k hk h ht
/-! the class's history -/
theorem s_hd {E X u L : Int} {a : Nat} (gA : G a = 116) (E0 : 0 ≤ E) (u0 : 0 ≤ u) (u5 : u ≤ 5) (z : A a u.toNat = some (.ref E.toNat)) (q1 : q241 G X A) (q2 : q240 G u L F A) : q246 G E (u + 16 * L) F A ∧ 162 ≤ E ∧ E ≤ 577 ∧ (E + 59 ≤ X ∨ X + 59 ≤ E) := by
  obtain ⟨hG, X0, sX, cs, ⟨c1, c2⟩, c3⟩ := q1
  have e := hG.hs gA
  subst e
  have eC := eq_rf (z.symm.trans (c3 u.toNat (by omega)))
  have hc := c1 u.toNat (by omega)
  rw [← eC] at hc
  have hsp := sc_ne hc.1.sc sX.sc hc.2
  have hh := hc.1
  unfold SHc at hh
  obtain ⟨-, L0, -, -, hL, hi⟩ := q2
  refine ⟨⟨hG, E0, hc.1, u.toNat, L.toNat, by omega, by omega, hL, z, fun i hiu => ?_⟩, by omega, by omega, by omega⟩
  obtain ⟨x, x1, x2, -, x4⟩ := hi i hiu
  refine ⟨x, x1, x2, fun hx => ?_, x4⟩
  have ex := eq_rf (x1.symm.trans (c3 i (by omega)))
  have := c2 i u.toNat (by omega) (by omega) (by rw [← ex, ← eC]; exact hx)
  omega
theorem s_ndr {u L : Int} (u5 : u ≤ 5) (q : q240 G u L F A) : qDrop L L := by
  obtain ⟨-, L0, u0, -, hL, -⟩ := q
  unfold qDrop
  rw [drop_eq hL (by omega)]
  omega
theorem s_kp {E w u V L l : Int} (u1 : 1 ≤ u) (u6 : u ≤ 6) (ew : w = 16 * l + u - 1) (hl : qDrop L l) (q1 : q246 G E w F A) (q2 : q361 G E V F) : q240 G u (((L.toNat % RB ^ 5) * RB + V.toNat : Nat) : Int) F A ∧ 0 ≤ V ∧ V.toNat < RB := by
  obtain ⟨hG, E0, sE, n, l2, n5, ew2, hL, ha, hi⟩ := q1
  unfold qDrop at hl
  have en : n = u.toNat - 1 := by omega
  have el : l2 = L.toNat % RB ^ 5 := by omega
  have hVR : V.toNat < RB := q2.2.2.2.2.1.1
  rw [← el]
  refine ⟨⟨hG, Int.natCast_nonneg _, by omega, u6, ?_, fun i hiu => ?_⟩, q2.2.1, hVR⟩
  · rw [Int.toNat_natCast, show u.toNat = n + 1 by omega]
    exact push_lt hL hVR
  · rw [Int.toNat_natCast, show u.toNat - 1 - i = n - i by omega]
    by_cases h : i < n
    · obtain ⟨x, x1, x2, -, x4⟩ := hi i h
      refine ⟨x, x1, x2, trivial, ?_⟩
      rw [show n - i = n - 1 - i + 1 by omega, dig_pS hVR]
      exact x4
    · have e : i = n := by omega
      subst e
      refine ⟨E.toNat, ha, sE, trivial, ?_⟩
      rw [Nat.sub_self, dig_p0 hVR]
      exact q2.2.2
theorem s_do0 {a : Nat} {C0 C1 C2 C3 C4 C5 x L : Int} (gA : G a = 116) (n0 : 0 ≤ C0) (n1 : 0 ≤ C1) (n2 : 0 ≤ C2) (n3 : 0 ≤ C3) (n4 : 0 ≤ C4) (n5 : 0 ≤ C5) (z0 : A a 0 = some (.ref C0.toNat)) (z1 : A a 1 = some (.ref C1.toNat)) (z2 : A a 2 = some (.ref C2.toNat)) (z3 : A a 3 = some (.ref C3.toNat)) (z4 : A a 4 = some (.ref C4.toNat)) (z5 : A a 5 = some (.ref C5.toNat)) (q1 : q241 G x A) (q2 : q240 G 6 L F A) :
    q243 G (C0 + 1024 * C1 + 1048576 * C2 + 1073741824 * C3 + 1099511627776 * C4 + 1125899906842624 * C5) x ∧ q244 G (C0 + 1024 * C1 + 1048576 * C2 + 1073741824 * C3 + 1099511627776 * C4 + 1125899906842624 * C5) L F := by
  obtain ⟨hG, x0, sX, cs, c1, c3⟩ := q1
  have e := hG.hs gA
  subst e
  have e0 := eq_rf (z0.symm.trans (c3 0 (by omega)))
  have e1 := eq_rf (z1.symm.trans (c3 1 (by omega)))
  have e2 := eq_rf (z2.symm.trans (c3 2 (by omega)))
  have e3 := eq_rf (z3.symm.trans (c3 3 (by omega)))
  have e4 := eq_rf (z4.symm.trans (c3 4 (by omega)))
  have e5 := eq_rf (z5.symm.trans (c3 5 (by omega)))
  have ep : C0 + 1024 * C1 + 1048576 * C2 + 1073741824 * C3 + 1099511627776 * C4 + 1125899906842624 * C5 = pk6 cs := by
    unfold pk6
    omega
  obtain ⟨-, L0, -, -, hL, hi⟩ := q2
  refine ⟨⟨hG, x0, sX, cs, c1, ep⟩, hG, L0, hL, cs, ep, fun i hi6 => ?_⟩
  obtain ⟨y, y1, y2, -, y4⟩ := hi i (by show i < Int.toNat 6; omega)
  have ey := eq_rf (y1.symm.trans (c3 i hi6))
  rw [← ey]
  exact ⟨y2, y4⟩
theorem s_do1 {a : Nat} {C0 C1 C2 C3 C4 C5 x L u : Int} (gA : G a = 116) (u5 : u = 5) (n0 : 0 ≤ C0) (n1 : 0 ≤ C1) (n2 : 0 ≤ C2) (n3 : 0 ≤ C3) (n4 : 0 ≤ C4) (n5 : 0 ≤ C5) (g0 : G C0.toNat = 20) (g1 : G C1.toNat = 20) (g2 : G C2.toNat = 20) (g3 : G C3.toNat = 20) (g4 : G C4.toNat = 20) (g5 : G C5.toNat = 20) (z0 : A a 0 = some (.ref C0.toNat)) (z1 : A a 1 = some (.ref C1.toNat)) (z2 : A a 2 = some (.ref C2.toNat)) (z3 : A a 3 = some (.ref C3.toNat)) (z4 : A a 4 = some (.ref C4.toNat)) (z5 : A a 5 = some (.ref C5.toNat))
    (q1 : q243 G (C5 + 1024 * C0 + 1048576 * C1 + 1073741824 * C2 + 1099511627776 * C3 + 1125899906842624 * C4) x) (q2 : q244 G (C5 + 1024 * C0 + 1048576 * C1 + 1073741824 * C2 + 1099511627776 * C3 + 1125899906842624 * C4) L F) : q241 G x A ∧ q240 G u ((L.toNat % RB ^ 5 : Nat) : Int) F A := by
  obtain ⟨hG, x0, sX, cs, ⟨c1, c2⟩, ep⟩ := q1
  obtain ⟨-, L0, hL, ds, dp, d1⟩ := q2
  have e := hG.hs gA
  subst e u5
  have b0 := sc_lt (hG.s g0)
  have b1 := sc_lt (hG.s g1)
  have b2 := sc_lt (hG.s g2)
  have b3 := sc_lt (hG.s g3)
  have b5 := sc_lt (hG.s g5)
  obtain ⟨f5, f0, f1, f2, f3, f4⟩ := pk6i n0 n1 n2 n3 n4 n5 b0 b1 b2 b3 b5 (fun i hi => sc_lt (c1 i hi).1.sc) ep
  obtain ⟨-, h0, h1, h2, h3, h4⟩ := pk6i n0 n1 n2 n3 n4 n5 b0 b1 b2 b3 b5 (fun i hi => sc_lt (d1 i hi).1.sc) dp
  have hz : ∀ i, i < 6 → A 281 i = some (.ref (cs ((i + 1) % 6))) := fun i hi => by
    have hi' : i = 0 ∨ i = 1 ∨ i = 2 ∨ i = 3 ∨ i = 4 ∨ i = 5 := by omega
    rcases hi' with rfl | rfl | rfl | rfl | rfl | rfl
    · rw [z0, f0]
    · rw [z1, f1]
    · rw [z2, f2]
    · rw [z3, f3]
    · rw [z4, f4]
    · rw [z5, f5]
  refine ⟨⟨hG, x0, sX, fun i => cs ((i + 1) % 6), ⟨fun i hi => c1 _ (by omega), fun i j hi hj hij => ?_⟩, hz⟩, hG, Int.natCast_nonneg _, by omega, by omega, by rw [Int.toNat_natCast]; exact drop_lt, fun i hi => ?_⟩
  · have := c2 _ _ (by omega) (by omega) hij
    omega
  · have hi5 : i < 5 := hi
    rw [Int.toNat_natCast]
    have hd : HR G (cs ((i + 1) % 6)) (dig L.toNat (4 - i)) F := by
      have hi' : i = 0 ∨ i = 1 ∨ i = 2 ∨ i = 3 ∨ i = 4 := by omega
      rcases hi' with rfl | rfl | rfl | rfl | rfl
      · have := (d1 1 (by omega)).2
        rwa [← h0, f0] at this
      · have := (d1 2 (by omega)).2
        rwa [← h1, f1] at this
      · have := (d1 3 (by omega)).2
        rwa [← h2, f2] at this
      · have := (d1 4 (by omega)).2
        rwa [← h3, f3] at this
      · have := (d1 5 (by omega)).2
        rwa [← h4, f4] at this
    refine ⟨_, hz i (by omega), (c1 _ (by omega)).1, trivial, ?_⟩
    rw [show (5 : Int).toNat - 1 - i = 4 - i from rfl, dig_drop (by omega)]
    exact hd
theorem s_tb {E X k L : Int} {a : Nat} (gA : G a = 116) (E0 : 0 ≤ E) (X0 : 0 ≤ X) (k0 : 0 ≤ k) (k5 : k ≤ 5) (z : A a k.toNat = some (.ref E.toNat)) (q1 : q241 G X A) (q2 : q240 G (k + 1) L F A) : q210 G E ((L.toNat % RB : Nat) : Int) F ∧ q240 G k ((L.toNat / RB : Nat) : Int) F A ∧ q249 G k (X + 1024 * E) A ∧ 162 ≤ E ∧ E ≤ 577 := by
  obtain ⟨hG, x0, sX, cs, c1, c3⟩ := q1
  have e := hG.hs gA
  subst e
  have eC := eq_rf (z.symm.trans (c3 k.toNat (by omega)))
  obtain ⟨-, L0, -, -, hL, hi⟩ := q2
  obtain ⟨x, x1, x2, -, x4⟩ := hi k.toNat (by omega)
  have ex := eq_rf (x1.symm.trans z)
  subst ex
  rw [show (k + 1).toNat - 1 - k.toNat = 0 by omega, dig_top] at x4
  have hh := x2
  unfold SHc at hh
  refine ⟨⟨E0, x2, Int.natCast_nonneg _, x4⟩, ⟨hG, Int.natCast_nonneg _, k0, by omega, ?_, fun i hik => ?_⟩, ⟨hG, k0, by omega, X.toNat, cs, sX, c1, by omega, fun i hi2 _ => c3 i hi2⟩, by omega, by omega⟩
  · rw [Int.toNat_natCast]
    exact tail_lt (by rw [show k.toNat + 1 = (k + 1).toNat by omega]; exact hL)
  · obtain ⟨y, y1, y2, -, y4⟩ := hi i (by omega)
    refine ⟨y, y1, y2, trivial, ?_⟩
    rw [Int.toNat_natCast, dig_tail, show k.toNat - 1 - i + 1 = (k + 1).toNat - 1 - i by omega]
    exact y4
theorem s_tb2 {E X k w : Int} {a : Nat} (gA : G a = 116) (E0 : 0 ≤ E) (X0 : 0 ≤ X) (gX : G X.toNat = 20) (gE : G E.toNat = 20) (e : w = X + 1024 * E) (z : A a k.toNat = some (.ref X.toNat)) (q1 : q249 G k w A) : q241 G E A := by
  obtain ⟨hG, k0, k6, x, cs, sx, ⟨c1, c2⟩, hc, ha⟩ := q1
  have e1 := hG.hs gA
  subst e1
  have a1 := sc_lt sx.sc
  have a2 := sc_lt (hG.s gX)
  have ex : x = X.toNat := by omega
  have eE : cs k.toNat = E.toNat := by omega
  have hk := c1 k.toNat (by omega)
  rw [eE] at hk
  refine ⟨hG, E0, hk.1, fun i => if i = k.toNat then X.toNat else cs i, ⟨fun i hi => ?_, fun i j hi hj hij => ?_⟩, fun i hi => ?_⟩
  · dsimp only
    split
    · rw [← ex]
      exact ⟨sx, fun h => hk.2 h.symm⟩
    · next hne =>
      refine ⟨(c1 i hi).1, fun h => hne ?_⟩
      rw [← eE] at h
      exact c2 _ _ hi (by omega) h
  · dsimp only at hij
    split at hij
    · next h1 =>
      split at hij
      · next h2 => omega
      · next h2 => exact ((c1 j hj).2 (by rw [← hij, ex])).elim
    · next h1 =>
      split at hij
      · next h2 => exact ((c1 i hi).2 (by rw [hij, ex])).elim
      · next h2 => exact c2 _ _ hi hj hij
  · dsimp only
    split
    · next h1 => rw [h1]; exact z
    · next h1 => exact ha i hi (by omega)
theorem s_get255 {X T H u L : Int} (gT : G T.toNat = 21) (y : F T.toNat 10 = some (.ref H.toNat)) (w : hasI (F H.toNat 1) u) (q : q255 G X L F A) : q240 G u L F A := by
  obtain ⟨hG, X0, sX, L0, n, z, z1, z2, z3, n6, hL, hi⟩ := q
  rw [hG.vr gT] at y
  have e := eq_rf (y.symm.trans z1)
  rw [e] at w
  have e2 := hasI_eq w ⟨z, z2, rfl⟩
  have eu : u.toNat = n := by omega
  refine ⟨hG, L0, by omega, by omega, by rw [eu]; exact hL, fun i hiu => ?_⟩
  rw [eu] at hiu ⊢
  obtain ⟨x, x1, x2, -, x4⟩ := hi i hiu
  exact ⟨x, x1, x2, trivial, x4⟩
theorem s_mk255 {X T H u L : Int} (gT : G T.toNat = 21) (gH : G H.toNat = 12) (y : F T.toNat 10 = some (.ref H.toNat)) (w : hasI (F H.toNat 1) u) (p : q241 G X A) (q : q240 G u L F A) : q255 G X L F A := by
  obtain ⟨hG, X0, sX, cs, ⟨c1, c2⟩, c3⟩ := p
  obtain ⟨n, w1, w2⟩ := w
  obtain ⟨-, L0, u0, u6, hL, hi⟩ := q
  rw [hG.vr gT, hG.hi gH] at y
  rw [hG.hi gH] at w1
  refine ⟨hG, X0, sX, L0, u.toNat, n, y, w1, by omega, by omega, hL, fun i hiu => ?_⟩
  obtain ⟨x, x1, x2, -, x4⟩ := hi i hiu
  have ex := eq_rf (x1.symm.trans (c3 i (by omega)))
  exact ⟨x, x1, x2, by rw [ex]; exact (c1 i (by omega)).2, x4⟩
theorem s_zero {X u : Int} (u0 : u ≤ 0) (u1 : 0 ≤ u) (q : q241 G X A) : q240 G u 0 F A := ⟨q.1, by omega, u1, by omega, by rw [show u.toNat = 0 by omega]; show 0 < RB ^ 0; decide, fun i hi => by omega⟩
theorem s_ord {X : Int} (q : q241 G X A) : 162 ≤ X ∧ X ≤ 577 ∧ (X + 59 ≤ 221 ∨ 280 ≤ X) := by
  have h := q.2.2.1
  have h0 := q.2.1
  unfold SHc at h
  omega
theorem s_pl {a : Nat} {E p : Int} (gA : G a = 117) (E0 : 0 ≤ E) (p0 : 0 ≤ p) (p1 : p ≤ 1) (z : A a p.toNat = some (.ref E.toNat)) (q : q253 G A) : E = 637 + 59 * p := by
  have e := q.1.sv gA
  subst e
  have e := eq_rf (z.symm.trans (q.2 p.toNat (by omega)))
  omega
theorem s_sv {b : Nat} {E p n y : Int} (hG : LG G) (gB : G b = 101) (e : E = 637 + 59 * p) (p0 : 0 ≤ p) (p1 : p ≤ 1) (y0 : 0 ≤ y) (z : hasI (A b p.toNat) n) (q : n ≠ 0 → HR G E.toNat y.toNat F) : q250 G E y F A := by
  have e1 := hG.is gB
  subst e1
  obtain ⟨m, z1, z2⟩ := z
  have ep : plc E = p.toNat := by
    unfold plc
    split <;> omega
  exact ⟨hG, by omega, y0, m, by rw [ep]; exact z1, fun h => q (by omega)⟩
theorem s_rs {b : Nat} {E p n y : Int} (gB : G b = 101) (e : E = 637 + 59 * p) (p0 : 0 ≤ p) (p1 : p ≤ 1) (n1 : n ≠ 0) (z : hasI (A b p.toNat) n) (q : q250 G E y F A) : q361 G E y F := by
  obtain ⟨hG, q0, y0, m, q1, q2⟩ := q
  have e1 := hG.is gB
  subst e1
  have ep : plc E = p.toNat := by
    unfold plc
    split <;> omega
  rw [ep] at q1
  have em := hasI_eq z ⟨m, q1, rfl⟩
  exact ⟨by omega, y0, q2 (by omega)⟩
theorem s_mcS {s M : Int} {a k : Nat} (k8 : k < 8) (s0 : 0 ≤ s) (M0 : 0 ≤ M) (gs : G s.toNat = 20) (y : F s.toNat 13 = some (.ref a)) (z : A a k = some (.ref M.toNat)) (q : q207 G F A) : M = s + 2 + 7 * k := by
  obtain ⟨y1, y2⟩ := q.2 _ (q.1.s gs)
  have e := eq_rf (y.symm.trans y1)
  rw [e] at z
  have e2 := eq_rf (z.symm.trans (y2 k k8).1)
  omega
theorem s_sc2 {M s : Int} {a j : Nat} (j5 : j < 5) (M0 : 0 ≤ M) (s0 : 0 ≤ s) (gM : G M.toNat = 13) (y : F M.toNat 7 = some (.ref a)) (z : A a j = some (.ref s.toNat)) (q : q207 G F A) : s = M + 2 + j := by
  obtain ⟨x, m, sx, m8, e⟩ := q.1.m gM
  obtain ⟨-, y2⟩ := q.2 _ sx
  obtain ⟨-, y3, y4⟩ := y2 m m8
  rw [e] at y
  have e1 := eq_rf (y.symm.trans y3)
  rw [e1] at z
  have e2 := eq_rf (z.symm.trans (y4 j j5))
  omega
/-- what reports asks of a machine, of a slot -/
theorem s_rpM {x V M c f u : Int} {m : Nat} (m8 : m < 8) (gM : G M.toNat = 13) (e : M = x + 2 + 7 * m) (hc : c = (cp V.toNat 3 : Int)) (hk : (m : Int) + 1 ≤ c) (hf : f = (cp V.toNat (20 + m) : Int)) (hu : u = (cp V.toNat (28 + m) : Int)) (q : q361 G x V F) : q390 G M (8 * V + m) F ∧ qMp (32 * V + 4 * m) f ∧ qMp (32 * V + 4 * m + 1) u :=
  ⟨s_mh gM e hc hk q, (mp_i (w := 8 * V + m) (V := V) (m := m) (i := 0) (by omega) rfl (by omega) m8).mpr hf, (mp_i (w := 8 * V + m) (V := V) (m := m) (i := 1) (by omega) rfl (by omega) m8).mpr hu⟩
theorem s_rpS {x V s c n e : Int} {m j : Nat} (m8 : m < 8) (s0 : 0 ≤ s) (gs : G s.toNat = 19) (es : s = x + 4 + 7 * m + j) (hc : c = (cp V.toNat 3 : Int)) (hk : (m : Int) + 1 ≤ c) (hn : n = (cp V.toNat (12 + m) : Int)) (hj : (j : Int) + 1 ≤ n) (he : e = (cp V.toNat (36 + 5 * m + j) : Int)) (q : q361 G x V F) : q395 G s e F := by
  obtain ⟨x0, V0, hG, sx, hV, hi⟩ := q
  have h5 := hV.2.2.1 m m8
  have h := hi (36 + 5 * m + j) (by omega) (fun q => q) (thr_sk (by omega) (by omega) (by omega))
  obtain ⟨p1, p2⟩ := pc_s (k := 36 + 5 * m + j) m8 (show j < 5 by omega) rfl rfl
  rw [p1, p2, show x.toNat + (4 + 7 * m + j) = s.toNat by omega] at h
  exact ⟨s0, gs, by rw [he]; exact h⟩
theorem s_rpF {M w x f : Int} (y : hasI (F M.toNat 0) x) (p : q390 G M w F) (q : qMp (4 * w) f) : x = f := by
  obtain ⟨M0, -, -, V, m, m8, hV, e, p0, p1, p2, p3, -⟩ := p
  exact (hasI_eq y p0).trans ((mp_i (i := 0) (V := V) (by omega) e (by omega) m8).mp q).symm
theorem s_rpU {M w x f : Int} (y : hasI (F M.toNat 1) x) (p : q390 G M w F) (q : qMp (4 * w + 1) f) : x = f := by
  obtain ⟨M0, -, -, V, m, m8, hV, e, p0, p1, p2, p3, -⟩ := p
  exact (hasI_eq y p1).trans ((mp_i (i := 1) (V := V) (by omega) e (by omega) m8).mp q).symm
theorem q130_f {r r' a b : Int} (e : r = r') (h1 : q130 r a) (h2 : q130 r' b) : a = b := by
  subst e
  unfold q130 at h1 h2
  rw [h1, h2]
end RCS
/-! records: the reference's side -/
section RRS
variable {V : vV}
theorem nH_set {g b a k v : Nat} {ex : Nat → Prop} (hk : k < 76) (hp0 : ¬ isP k) (hv : v < 65536) (hx : ∀ q, ex q → q = ri k) (hn : nH V g b a ex) (y : V g (b + ri k) = (v : Int)) : nH V g b (setC a k v) no_ := fun j hj hp _ => by
  by_cases h : j = k
  · subst h
    rw [cp_eq hv]
    exact y
  · rw [cp_ne h]
    exact hn j hj hp fun he => h (ri_inj hj hk hp hp0 (hx _ he))
theorem pH_set {g a k v : Nat} {ey : Nat → Prop} (hp0 : ¬ isP k) (hq : pH V g a ey) : pH V g (setC a k v) ey := fun j hj hP he => by
  rw [cp_ne fun h => hp0 (by rw [← h]; exact hP)]
  exact hq j hj hP he
theorem RV_set {a : Int} {k v : Nat} (hk : k < 76) (h : RV a) : RV ((setC a.toNat k v : Nat) : Int) := ⟨Int.natCast_nonneg _, by rw [Int.toNat_natCast]; exact setC_lt hk h.2⟩
theorem nH_ex {g b a : Nat} {ex ex' : Nat → Prop} (h : ∀ k, k < 76 → ¬ isP k → ¬ ex' (ri k) → ¬ ex (ri k)) (hn : nH V g b a ex) : nH V g b a ex' := fun k hk hp he => hn k hk hp (h k hk hp he)
theorem pH_ex {g a : Nat} {ex ex' : Nat → Prop} (h : ∀ k, k < 76 → isP k → ¬ ex' (pi k) → ¬ ex (pi k)) (hn : pH V g a ex) : pH V g a ex' := fun k hk hp he => hn k hk hp (h k hk hp he)
theorem nP {k : Nat} (h : k < 3 ∨ (4 ≤ k ∧ k < 12) ∨ 20 ≤ k) : ¬ isP k := by
  unfold isP
  omega
theorem ri_lt {k : Nat} (hk : k < 76) : ri k < 257 := by
  unfold ri
  repeat' split
  all_goals omega
theorem pi_lt {k : Nat} (hp : isP k) : pi k < 55 := by
  unfold isP at hp
  unfold pi
  split <;> omega
/-- one cell of now is set: level, shift, forced, gaps -/
theorem r_set {a v : Int} {k q : Nat} (hk : k < 76) (hp : ¬ isP k) (hq : ri k = q) (v0 : 0 ≤ v) (v1 : v < 65536) (h : qNB V (fun j => (j : Int) = q) a) (y : V 118 q = v) : q396 V ((setC a.toNat k v.toNat : Nat) : Int) := by
  obtain ⟨hc, hn, hqp⟩ := h
  refine ⟨RV_set hk hc, ?_, ?_⟩
  · rw [Int.toNat_natCast]
    refine nH_set hk hp (by omega) (fun j hj => ?_) hn ?_
    · have hj : (j : Int) = q := hj
      omega
    · rw [Nat.zero_add, hq, y, toN v0]
  · rw [Int.toNat_natCast]
    exact pH_set hp hqp
/-- what is read of now, of plan -/
theorem r_now {a w : Int} {k q : Nat} (hk : k < 76) (hp : ¬ isP k) (hq : ri k = q) (h : q396 V a) (y : V 118 q = w) : w = (cp a.toNat k : Int) := by
  have e := h.2.1 k hk hp fun q => q
  rw [Nat.zero_add, hq, y] at e
  exact e
theorem r_plan {a w : Int} {k q : Nat} (hk : k < 76) (hp : isP k) (hq : pi k = q) (h : q396 V a) (y : V 123 q = w) : w = (cp a.toNat k : Int) := by
  have e := h.2.2 k hk hp fun q => q
  rw [hq, y] at e
  exact e
theorem isP3 : isP 3 := Or.inl rfl
theorem isP12 {m : Nat} (h : m < 8) : isP (12 + m) := Or.inr (by omega)
theorem pi12 {m : Nat} (h : m < 8) : pi (12 + m) = 24 + m := by
  unfold pi
  rw [if_neg (by omega)]
  omega
theorem ri4 {m : Nat} (h : m < 8) : ri (4 + m) = 9 + m := by
  unfold ri
  rw [if_neg (by omega), if_neg (by omega), if_neg (by omega), if_pos (by omega)]
  omega
theorem ri20 {m : Nat} (h : m < 8) : ri (20 + m) = 41 + m := by
  unfold ri
  rw [if_neg (by omega), if_neg (by omega), if_neg (by omega), if_neg (by omega), if_pos (by omega)]
  omega
theorem ri28 {m : Nat} (h : m < 8) : ri (28 + m) = 49 + m := by
  unfold ri
  rw [if_neg (by omega), if_neg (by omega), if_neg (by omega), if_neg (by omega), if_pos (by omega)]
  omega
theorem ri36 {k : Nat} (h : k < 40) : ri (36 + k) = 217 + k := by
  unfold ri
  rw [if_neg (by omega), if_neg (by omega), if_neg (by omega), if_neg (by omega), if_neg (by omega)]
  omega
/-- a day -/
theorem r_gdB {W d e : Int} (d2 : d ≤ 2000) (de : d = e + 1) (he : e = (cp W.toNat 0 : Int)) (y : V 118 0 = d) (h : (0 : Int) = 0 ∧ qNB V (fun q => q = 0) W) : q420 V 0 ((day1 W.toNat : Nat) : Int) := by
  obtain ⟨-, hc, hn, hq⟩ := h
  have hd : cp W.toNat 0 + 1 < 65536 := by omega
  refine ⟨by rw [Int.toNat_natCast]; exact noF_day1 hd, by omega, ⟨Int.natCast_nonneg _, by rw [Int.toNat_natCast]; exact day1_lt hc.2⟩, fun k hk hp hx => ?_, fun k hk hp _ => ?_⟩
  · have hx : ¬ (9 + (0 : Int) ≤ ((ri k : Nat) : Int) ∧ ri k < 17) := hx
    rw [Int.toNat_natCast, cp_day1 hd]
    by_cases h0 : k = 0
    · subst h0
      rw [if_pos rfl]
      show V 118 0 = _
      omega
    · rw [if_neg h0, if_neg ?_]
      · exact hn k hk hp fun hr => h0 (ri_inj hk (by omega) hp (nP (by omega)) (show ri k = ri 0 from hr))
      · intro h4
        have := ri4 (m := k - 4) (by omega)
        rw [show 4 + (k - 4) = k by omega] at this
        omega
  · rw [Int.toNat_natCast, cp_day1 hd, if_neg (by unfold isP at hp; omega), if_neg (by unfold isP at hp; omega)]
    exact hq k hk hp fun q => q
theorem r_gdC {U q : Int} {m : Nat} (m8 : m < 8) (q0 : q = 0) (y : V 118 (9 + m) = q) (h : q420 V m U) : q420 V (m + 1) U := by
  obtain ⟨hz, h0, hc, hn, hq⟩ := h
  refine ⟨hz, by omega, hc, fun k hk hp hx => ?_, hq⟩
  have hx : ¬ (9 + ((m : Int) + 1) ≤ ((ri k : Nat) : Int) ∧ ri k < 17) := hx
  by_cases he : ri k = 9 + m
  · have ek : k = 4 + m := ri_inj hk (by omega) hp (nP (by omega)) (by rw [he, ri4 m8])
    rw [hz k (by omega) (by omega), Nat.zero_add, he, y, q0]
    rfl
  · exact hn k hk hp fun hh => by
      have hh : 9 + (m : Int) ≤ ((ri k : Nat) : Int) ∧ ri k < 17 := hh
      omega
theorem r_gdD {U : Int} (h : q420 V 8 U) : q396 V U := by
  obtain ⟨hz, h0, hc, hn, hq⟩ := h
  exact ⟨hc, nH_ex (fun k hk hp _ hh => by have hh : 9 + (8 : Int) ≤ ((ri k : Nat) : Int) ∧ ri k < 17 := hh; omega) hn, hq⟩
/-- the parse -/
theorem r_rz0 (h1 : P47 V 55) (h2 : q453 V 1777) : qDr V no_ no_ 0 := by
  refine ⟨⟨by omega, RB_pos⟩, fun k hk hp _ => ?_, fun k hk hp _ => ?_⟩
  · rw [show Int.toNat 0 = 0 from rfl, cp_0]
    exact h2 k hk hp (by have := ri_lt hk; omega)
  · rw [show Int.toNat 0 = 0 from rfl, cp_0]
    exact h1 (pi k) (by have := pi_lt hp; omega) (pi_lt hp)
theorem r_z453 {k v : Int} (k0 : 0 ≤ k) (v0 : v = 0) (y : V 120 k.toNat = v) (h : q453 V k) : q453 V (k + 1) := fun j hj hp hx => by
  by_cases he : ((ri j : Nat) : Int) = k
  · rw [Nat.zero_add, show ri j = k.toNat by omega, y, v0]
  · exact h j hj hp (by omega)
theorem r_drs {a v : Int} {k q : Nat} (hk : k < 76) (hp : ¬ isP k) (hq : ri k = q) (v0 : 0 ≤ v) (v1 : v < 65536) (h : qDr V (fun j => j = q) no_ a) (y : V 120 q = v) : qDr V no_ no_ ((setC a.toNat k v.toNat : Nat) : Int) := by
  obtain ⟨hc, hn, hqp⟩ := h
  refine ⟨RV_set hk hc, ?_, ?_⟩
  · rw [Int.toNat_natCast]
    refine nH_set hk hp (by omega) (fun j hj => ?_) hn ?_
    · have hj : j = q := hj
      omega
    · rw [Nat.zero_add, hq, y, toN v0]
  · rw [Int.toNat_natCast]
    exact pH_set hp hqp
theorem r_rmN {a f u c : Int} {m : Nat} (m8 : m < 8) (cm : c = m + 1) (y1 : V 120 (41 + m) = f) (y2 : V 120 (49 + m) = u) (y3 : V 124 7 = c) (h : (0 : Int) ≤ (m : Int) ∧ qDr V (fun q => (q : Int) = 41 + (m : Int) ∨ (q : Int) = 49 + (m : Int)) (fun q => q = 7) a) {B : Nat} (hB : B < RB) (b20 : f = (cp B (20 + m) : Int)) (b28 : u = (cp B (28 + m) : Int)) (b3 : cp B 3 = m + 1) (bo : ∀ k, k < 76 → k ≠ 3 → k ≠ 20 + m → k ≠ 28 + m → cp B k = cp a.toNat k) : qDr V no_ no_ ((B : Nat) : Int) := by
  obtain ⟨-, hc, hn, hq⟩ := h
  refine ⟨⟨Int.natCast_nonneg _, by rw [Int.toNat_natCast]; exact hB⟩, fun k hk hp _ => ?_, fun k hk hp _ => ?_⟩
  · rw [Int.toNat_natCast]
    by_cases h1 : k = 20 + m
    · rw [h1, ← b20, Nat.zero_add, ri20 m8]
      exact y1
    by_cases h2 : k = 28 + m
    · rw [h2, ← b28, Nat.zero_add, ri28 m8]
      exact y2
    rw [bo k hk (fun h => hp (by rw [h]; exact isP3)) h1 h2]
    refine hn k hk hp fun hh => ?_
    have hh : ((ri k : Nat) : Int) = 41 + (m : Int) ∨ ((ri k : Nat) : Int) = 49 + (m : Int) := hh
    rcases hh with hh | hh
    · exact h1 (ri_inj hk (by omega) hp (nP (by omega)) (by rw [ri20 m8]; omega))
    · exact h2 (ri_inj hk (by omega) hp (nP (by omega)) (by rw [ri28 m8]; omega))
  · rw [Int.toNat_natCast]
    by_cases h3 : k = 3
    · subst h3
      rw [b3]
      show V 124 7 = _
      omega
    · rw [bo k hk h3 (by unfold isP at hp; omega) (by unfold isP at hp; omega)]
      exact hq k hk hp fun hh => h3 (pi_inj hp isP3 (show pi k = pi 3 from hh))
theorem r_rm0 {a f u c : Int} {m : Nat} (m8 : m < 8) (cm : c = m + 1) (f1 : f = 1) (u0 : u = 0) (y1 : V 120 (41 + m) = f) (y2 : V 120 (49 + m) = u) (y3 : V 124 7 = c) (h : (0 : Int) ≤ (m : Int) ∧ qDr V (fun q => (q : Int) = 41 + (m : Int) ∨ (q : Int) = 49 + (m : Int)) (fun q => q = 7) a) : qDr V no_ no_ ((newM a.toNat m : Nat) : Int) :=
  r_rmN m8 cm y1 y2 y3 h (newM_lt m8 h.2.1.2) (by rw [cp_newM m8, if_neg (by omega), if_pos rfl]; omega) (by rw [cp_newM m8, if_neg (by omega), if_neg (by omega), if_pos rfl]; omega) (by rw [cp_newM m8, if_pos rfl]) fun k hk h3 h1 h2 => by rw [cp_newM m8, if_neg h3, if_neg h1, if_neg h2]
theorem r_rm1 {a f u c : Int} {m : Nat} (m8 : m < 8) (cm : c = m + 1) (f0 : 0 ≤ f) (f9 : f ≤ 9999) (u0 : 0 ≤ u) (u9 : u ≤ 9999) (y1 : V 120 (41 + m) = f) (y2 : V 120 (49 + m) = u) (y3 : V 124 7 = c) (h : (0 : Int) ≤ (m : Int) ∧ qDr V (fun q => (q : Int) = 41 + (m : Int) ∨ (q : Int) = 49 + (m : Int)) (fun q => q = 7) a) : qDr V no_ no_ ((setC (setC (newM a.toNat m) (20 + m) f.toNat) (28 + m) u.toNat : Nat) : Int) :=
  r_rmN m8 cm y1 y2 y3 h (setC_lt (by omega) (setC_lt (by omega) (newM_lt m8 h.2.1.2))) (by rw [cp_ne (by omega), cp_eq (by omega)]; omega) (by rw [cp_eq (by omega)]; omega) (by rw [cp_ne (by omega), cp_ne (by omega), cp_newM m8, if_pos rfl]) fun k hk h3 h1 h2 => by rw [cp_ne h2, cp_ne h1, cp_newM m8, if_neg h3, if_neg h1, if_neg h2]
theorem r_rtB {a e : Int} {m s : Nat} (m8 : m < 8) (s5 : s < 5) (e0 : 0 ≤ e) (e1 : e < 65536) (y : V 120 (217 + (5 * m + s)) = e) (h : qDr V (fun q => (q : Int) = 217 + (((5 * m + s : Nat)) : Int)) no_ a) : qDr V no_ (fun q => (q : Int) = 24 + (m : Int)) ((newS a.toNat m s e.toNat : Nat) : Int) := by
  obtain ⟨hc, hn, hq⟩ := h
  have hv : e.toNat < 65536 := by omega
  refine ⟨⟨Int.natCast_nonneg _, by rw [Int.toNat_natCast]; exact newS_lt s5 m8 hc.2⟩, fun k hk hp _ => ?_, fun k hk hp hx => ?_⟩
  · rw [Int.toNat_natCast, cp_newS s5 m8 hv, if_neg (fun h => hp (by rw [h]; exact isP12 m8))]
    by_cases h1 : k = 36 + 5 * m + s
    · rw [if_pos h1, h1, Nat.zero_add, show 36 + 5 * m + s = 36 + (5 * m + s) by omega, ri36 (by omega), y, toN e0]
    · rw [if_neg h1]
      refine hn k hk hp fun hh => h1 ?_
      have hh : ((ri k : Nat) : Int) = 217 + (((5 * m + s : Nat)) : Int) := hh
      have := ri_inj hk (show 36 + (5 * m + s) < 76 by omega) hp (nP (by omega)) (by rw [ri36 (by omega)]; omega)
      omega
  · have hx : ¬ ((pi k : Nat) : Int) = 24 + (m : Int) := hx
    rw [Int.toNat_natCast, cp_newS s5 m8 hv, if_neg (fun h => hx (by rw [h, pi12 m8]; omega)), if_neg (by unfold isP at hp; omega)]
    exact hq k hk hp fun q => q
theorem r_rtC {b s : Int} {m : Nat} (m8 : m < 8) (hs : s = (cp b.toNat (12 + m) : Int)) (y : V 124 (24 + m) = s) (h : qDr V no_ (fun q => (q : Int) = 24 + (m : Int)) b) : qDr V no_ no_ b := by
  obtain ⟨hc, hn, hq⟩ := h
  refine ⟨hc, hn, fun k hk hp _ => ?_⟩
  by_cases hx : k = 12 + m
  · rw [hx, pi12 m8, y, hs]
  · refine hq k hk hp fun hh => hx ?_
    have hh : ((pi k : Nat) : Int) = 24 + (m : Int) := hh
    exact pi_inj hp (isP12 m8) (by rw [pi12 m8]; omega)
/-- load: what comes over -/
theorem r_ldS {k a v w : Int} (k0 : 0 ≤ k) (vw_ : v = w) (y1 : V 118 k.toNat = v) (y2 : V 120 k.toNat = w) (h1 : qDr V no_ no_ a) (h2 : q415 V k a) : q415 V (k + 1) a := by
  refine ⟨h2.1, fun j hj hp hx => ?_⟩
  have hx : ¬ k + 1 ≤ ((ri j : Nat) : Int) := hx
  by_cases he : ((ri j : Nat) : Int) = k
  · have h := h1.2.1 j hj hp fun q => q
    rw [Nat.zero_add, show ri j = k.toNat by omega] at h ⊢
    rw [← h, y1, y2, vw_]
  · exact h2.2 j hj hp fun hh => by
      have hh : k ≤ ((ri j : Nat) : Int) := hh
      omega
theorem r_ldN {a : Int} (h : q415 V 1777 a) : q416 V 0 a := ⟨h.1, nH_ex (fun k hk _ _ hh => by have hh : (1777 : Int) ≤ ((ri k : Nat) : Int) := hh; have := ri_lt hk; omega) h.2, fun k hk hp hx => (hx (show (0 : Int) ≤ ((pi k : Nat) : Int) by omega)).elim⟩
theorem r_ldP {k a v w : Int} (k0 : 0 ≤ k) (vw_ : v = w) (y1 : V 123 k.toNat = v) (y2 : V 124 k.toNat = w) (h1 : qDr V no_ no_ a) (h2 : q416 V k a) : q416 V (k + 1) a := by
  refine ⟨h2.1, h2.2.1, fun j hj hp hx => ?_⟩
  have hx : ¬ k + 1 ≤ ((pi j : Nat) : Int) := hx
  by_cases he : ((pi j : Nat) : Int) = k
  · have h := h1.2.2 j hj hp fun q => q
    rw [show pi j = k.toNat by omega] at h ⊢
    rw [← h, y1, y2, vw_]
  · exact h2.2.2 j hj hp fun hh => by
      have hh : k ≤ ((pi j : Nat) : Int) := hh
      omega
theorem r_ldZ {a : Int} (h : q416 V 55 a) : q396 V a := ⟨h.1, h.2.1, pH_ex (fun k _ hp _ hh => by have hh : (55 : Int) ≤ ((pi k : Nat) : Int) := hh; have := pi_lt hp; omega) h.2.2⟩
theorem r_404_0 : q404 V 0 0 := ⟨by omega, 0, by omega, by omega, by show 0 < RB ^ 0; decide, fun i hi => by omega⟩
/-- keeps, brings -/
theorem r_kp0 {g n p : Nat} {W : Int} (hp : p < n) (h : RV W) : qKp V g n (1777 * (p : Int)) (16 * W + p) := ⟨p, 0, W.toNat, hp, by omega, by omega, by have := h.1; omega, h.2, fun k _ _ hx => (hx (Nat.zero_le _)).elim⟩
theorem r_kpS {g n p : Nat} {W k v w : Int} (n6 : n ≤ 6) (hp : p < n) (k0 : 0 ≤ k) (k7 : k ≤ 1776) (vw_ : v = w) (y1 : V g (1777 * p + k.toNat) = v) (y2 : V 118 k.toNat = w) (h1 : q396 V W) (h2 : qKp V g n (1777 * (p : Int) + k) (16 * W + p)) : qKp V g n (1777 * (p : Int) + k + 1) (16 * W + p) := by
  obtain ⟨p2, u, W2, a1, a2, a3, a4, a5, a6⟩ := h2
  have e1 : p2 = p := by omega
  have e2 : W2 = W.toNat := by have := h1.1.1; omega
  subst e1 e2
  have e3 : (u : Int) = k := by omega
  refine ⟨p2, u + 1, W.toNat, hp, by omega, by omega, a4, a5, fun j hj hq hx => ?_⟩
  have hx : ¬ u + 1 ≤ ri j := hx
  by_cases he : ri j = u
  · have h := h1.2.1 j hj hq fun q => q
    rw [Nat.zero_add, show ri j = k.toNat by omega] at h
    rw [show ri j = k.toNat by omega, y1, vw_, ← h, y2]
  · exact a6 j hj hq fun hh => by
      have hh : u ≤ ri j := hh
      omega
theorem r_kpZ {g n p : Nat} {W : Int} (hp : p < n) (n6 : n ≤ 6) (h1 : q396 V W) (h2 : qKp V g n (1777 * (p : Int) + 1777) (16 * W + p)) : qBlk V g n (1777 * (p : Int)) W := by
  obtain ⟨p2, u, W2, a1, a2, a3, a4, a5, a6⟩ := h2
  have e1 : p2 = p := by omega
  have e2 : W2 = W.toNat := by have := h1.1.1; omega
  subst e1 e2
  have e3 : u = 1777 := by omega
  subst e3
  exact ⟨h1.1, p2, hp, rfl, nH_ex (fun k hk _ _ hh => by have hh : 1777 ≤ ri k := hh; have := ri_lt hk; omega) a6, h1.2.2⟩
theorem r_br0 {g n : Nat} {r W : Int} (h : qBlk V g n r W) : q407 V 0 W := by
  obtain ⟨hc, p, hp, hr, hn, hq⟩ := h
  exact ⟨hc, fun k _ _ hx => (hx (show (0 : Int) ≤ ((ri k : Nat) : Int) by omega)).elim, hq⟩
theorem r_brS {g n p : Nat} {W k v w : Int} (k0 : 0 ≤ k) (vw_ : v = w) (y1 : V g (1777 * p + k.toNat) = v) (y2 : V 118 k.toNat = w) (h1 : qBlk V g n (1777 * (p : Int)) W) (h2 : q407 V k W) : q407 V (k + 1) W := by
  obtain ⟨hc, p2, hp, hr, hn, hq⟩ := h1
  have e1 : p2 = p := by omega
  subst e1
  refine ⟨hc, fun j hj hp hx => ?_, h2.2.2⟩
  have hx : ¬ k + 1 ≤ ((ri j : Nat) : Int) := hx
  by_cases he : ((ri j : Nat) : Int) = k
  · have h := hn j hj hp fun q => q
    rw [show ri j = k.toNat by omega] at h
    rw [Nat.zero_add, show ri j = k.toNat by omega, y2, ← vw_, ← y1, h]
  · exact h2.2.1 j hj hp fun hh => by
      have hh : k ≤ ((ri j : Nat) : Int) := hh
      omega
theorem r_brZ {W : Int} (h : q407 V 1777 W) : q396 V W := ⟨h.1, nH_ex (fun k hk _ _ hh => by have hh : (1777 : Int) ≤ ((ri k : Nat) : Int) := hh; have := ri_lt hk; omega) h.2.1, h.2.2⟩
/-- the history -/
theorem r_rnd {u L : Int} (u5 : u ≤ 5) (h : q404 V (1777 * u) L) : qDrop L L := by
  obtain ⟨L0, n, n6, hr, hL, -⟩ := h
  unfold qDrop
  rw [drop_eq hL (by omega)]
  omega
theorem r_rpu {u l L W : Int} (u0 : 0 ≤ u) (u5 : u ≤ 5) (hd : qDrop L l) (h1 : q404 V (1777 * u) l) (h2 : qBlk V 121 6 (1777 * u) W) : q404 V (1777 * u + 1777) (((L.toNat % RB ^ 5) * RB + W.toNat : Nat) : Int) ∧ 0 ≤ W ∧ W.toNat < RB := by
  obtain ⟨l0, n, n6, hr, hL, hi⟩ := h1
  obtain ⟨hc, p, hp, hr2, hn, hq⟩ := h2
  unfold qDrop at hd
  have e1 : (n : Int) = u := by omega
  have e2 : p = n := by omega
  have el : l.toNat = L.toNat % RB ^ 5 := by omega
  subst e2
  rw [← el]
  refine ⟨⟨Int.natCast_nonneg _, p + 1, by omega, by omega, by rw [Int.toNat_natCast]; exact push_lt hL hc.2, fun i hiu => ?_⟩, hc.1, hc.2⟩
  rw [Int.toNat_natCast, show p + 1 - 1 - i = p - i by omega]
  by_cases h : i < p
  · rw [show p - i = p - 1 - i + 1 by omega, dig_pS hc.2]
    exact hi i h
  · have e : i = p := by omega
    subst e
    rw [Nat.sub_self, dig_p0 hc.2]
    exact ⟨hn, hq⟩
theorem r_rpo {u L : Int} (u0 : 0 ≤ u) (u5 : u ≤ 5) (h : q404 V (1777 * u + 1777) L) : qBlk V 121 6 (1777 * u) ((L.toNat % RB : Nat) : Int) ∧ q404 V (1777 * u) ((L.toNat / RB : Nat) : Int) := by
  obtain ⟨L0, n, n6, hr, hL, hi⟩ := h
  have e1 : (n : Int) = u + 1 := by omega
  obtain ⟨p, rfl⟩ : ∃ p, n = p + 1 := ⟨n - 1, by omega⟩
  have h0 := hi p (by omega)
  rw [show p + 1 - 1 - p = 0 by omega, dig_top] at h0
  refine ⟨⟨⟨Int.natCast_nonneg _, by rw [Int.toNat_natCast]; exact Nat.mod_lt _ RB_pos⟩, p, by omega, by omega, by rw [Int.toNat_natCast]; exact h0.1, by rw [Int.toNat_natCast]; exact h0.2⟩, Int.natCast_nonneg _, p, by omega, by omega, by rw [Int.toNat_natCast]; exact tail_lt hL, fun i hip => ?_⟩
  rw [Int.toNat_natCast, dig_tail, show p - 1 - i + 1 = p + 1 - 1 - i by omega]
  exact hi i (by omega)
theorem r_rsh0 {L : Int} (h : q404 V 10662 L) : q405 V 1777 L := by
  obtain ⟨L0, n, n6, hr, hL, hi⟩ := h
  have e : n = 6 := by omega
  subst e
  exact ⟨L0, hL, 1777, rfl, by omega, by omega, fun i h6 => by have := (hi (5 - i) (by omega)).2; rwa [show 6 - 1 - (5 - i) = i by omega] at this, fun i h5 k hk hp hx => (hx (show 1777 ≤ 1777 * i + ri k + 1777 by omega)).elim, fun i h6 => nH_ex (fun k _ _ _ hh => by have hh : False := hh; exact hh.elim) (hi i h6).1⟩
theorem r_rshS {k v w L : Int} (k1 : 1777 ≤ k) (k2 : k ≤ 10661) (vw_ : v = w) (y1 : V 121 (k - 1777).toNat = v) (y2 : V 121 k.toNat = w) (h : q405 V k L) : q405 V (k + 1) L := by
  obtain ⟨L0, hL, u, hu, u1, u2, h3, h4, h5⟩ := h
  refine ⟨L0, hL, u + 1, by omega, by omega, by omega, h3, fun i i5 j hj hp hx => ?_, fun i i6 => nH_ex (fun j _ _ hh => fun hh2 => hh (by have hh2 : 1777 * i + ri j < u := hh2; show 1777 * i + ri j < u + 1; omega)) (h5 i i6)⟩
  have hx : ¬ u + 1 ≤ 1777 * i + ri j + 1777 := hx
  by_cases he : 1777 * i + ri j + 1777 = u
  · have hh := h5 (i + 1) (by omega) j hj hp (by show ¬ 1777 * (i + 1) + ri j < u; omega)
    rw [show 1777 * (i + 1) + ri j = k.toNat by omega, show 5 - (i + 1) = 4 - i by omega] at hh
    rw [show 1777 * i + ri j = (k - 1777).toNat by omega, y1, vw_, ← y2, hh]
  · exact h4 i i5 j hj hp (by show ¬ u ≤ 1777 * i + ri j + 1777; omega)
theorem r_rshZ {L : Int} (h : q405 V 10662 L) : q404 V 8885 ((L.toNat % RB ^ 5 : Nat) : Int) := by
  obtain ⟨L0, hL, u, hu, u1, u2, h3, h4, h5⟩ := h
  have e : u = 10662 := by omega
  subst e
  refine ⟨Int.natCast_nonneg _, 5, by omega, by omega, by rw [Int.toNat_natCast]; exact drop_lt, fun i i5 => ?_⟩
  rw [Int.toNat_natCast, show 5 - 1 - i = 4 - i by omega, dig_drop (by omega)]
  exact ⟨nH_ex (fun k hk _ _ hh => by have hh : 10662 ≤ 1777 * i + ri k + 1777 := hh; have := ri_lt hk; omega) (h4 i i5), h3 _ (by omega)⟩
/-- places -/
theorem r_rsv {p W : Int} (p0 : 0 ≤ p) (p1 : p ≤ 1) (h : qBlk V 122 2 (1777 * p) W) : q408 V p W := by
  obtain ⟨hc, n, hn, hr, h1, h2⟩ := h
  have e : n = p.toNat := by omega
  subst e
  exact ⟨p0, by omega, hc.1, fun _ => ⟨hc.2, h1, h2⟩⟩
theorem r_rrs {p b W : Int} (b1 : 1 ≤ b) (y : V 135 p.toNat = b) (h : q408 V p W) : qBlk V 122 2 (1777 * p) W := by
  obtain ⟨p0, p2, W0, h1⟩ := h
  obtain ⟨a, b, c⟩ := h1 (by omega)
  exact ⟨⟨W0, a⟩, p.toNat, by omega, by omega, b, c⟩
theorem r_i0 {p b : Int} (p0 : 0 ≤ p) (p2 : p < 2) (b0 : b = 0) (y : V 135 p.toNat = b) : q408 V p 0 := ⟨p0, p2, by omega, fun h => (h (by omega)).elim⟩
end RRS
end LMS
