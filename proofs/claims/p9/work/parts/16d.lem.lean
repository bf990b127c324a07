section LMS
variable {G C : Nat → Nat} {h : mH} {D : Nat} {xs : Nat → Int32}
theorem b_aA {ρ : Va} {q : LE × LE × sV} (hq : ∃ t n c, h[(ev ρ q.1).toNat]? = some (.inl (t, n, c)) ∧ 0 ≤ ev ρ q.2.1 ∧ ev ρ q.2.1 < n ∧ dV ρ q.2.2 (elV c (ev ρ q.2.1).toNat)) : 0 ≤ ev ρ q.2.1 := by
  obtain ⟨t, n, c, g1, g2, -⟩ := hq
  exact g2
theorem vw_aA (hU : uqG G C) {ρ : Va} {q : LE × LE × sV} {x v : Int} {g i : Nat} (hq : ∃ t n c, h[(ev ρ q.1).toNat]? = some (.inl (t, n, c)) ∧ 0 ≤ ev ρ q.2.1 ∧ ev ρ q.2.1 < n ∧ dV ρ q.2.2 (elV c (ev ρ q.2.1).toNat)) (h1 : ev ρ q.1 = x) (hg : G x.toNat = g) (l1 : 118 ≤ g ∨ g = 100 ∨ g = 14) (l2 : g ≤ 146) (hi : (i : Int) = ev ρ q.2.1) (h2 : ev ρ q.2.2.2 = v) (h0 : q.2.2.1 = 0 := by rfl) : vw C h g i = v := by
  obtain ⟨t, n, c, g1, g2, g3, g4⟩ := hq
  have hx : x.toNat = C g := (hU g l1 l2).2 _ hg
  rw [h1] at g1
  obtain ⟨r, j, tg, e⟩ := q
  dsimp only at h0 g4 h2 g1 g2 g3 hi ⊢
  subst h0
  rw [← hi] at g4
  obtain ⟨z, hz, hz2⟩ := g4
  unfold vw
  rw [← hx]
  obtain f | f | f | f | f := c
  · rw [el_of g1]
    have hz : Value.int (f _) = Value.int z := hz
    injection hz with hz
    rw [show ((i : Int)).toNat = i by omega] at hz
    rw [hz]
    exact hz2.trans h2
  · cases hz
  · cases hz
  · cases hz
  · have hz : va_rf _ = Value.int z := hz
    unfold va_rf at hz
    split at hz <;> cases hz
/-- what every number of a group's segment is within -/
theorem vw_rg (hU : uqG G C) (hT : TI G rgs h) {g t n p i k : Nat} {sg : List (Nat × kS)} {lo hh : Int} (l1 : 118 ≤ g ∨ g = 100 ∨ g = 14) (l2 : g ≤ 146) (hg : rgs g = some (.inr (t, n, p, sg))) (h0 : kdN t n = 0) (hi : i < n) (hs : segAt sg (i % p) 0 = some (k, (0, lo, hh))) : lo ≤ vw C h g i ∧ vw C h g i ≤ hh := by
  obtain ⟨hG, -⟩ := hU g l1 l2
  obtain ⟨c, h1, h2, h3⟩ := TI_arr hT (x := C g) (by rw [hG]; exact hg) (Or.inl (by rw [hG]; omega))
  obtain ⟨f, rfl⟩ := kd0 (c := c) (h2.trans h0)
  obtain ⟨k', f', s1, s2⟩ := h3 i hi
  rw [hs] at s1
  cases s1
  unfold vw
  rw [el_of h1]
  obtain ⟨z, hz, hz1, hz2⟩ := s2
  have hz : Value.int (f i) = Value.int z := hz
  injection hz with hz
  rw [hz]
  exact ⟨hz1, hz2⟩
theorem rg142 (hU : uqG G C) (hT : TI G rgs h) : ∀ i, i < 8 → 0 ≤ vw C h 142 i ∧ vw C h 142 i ≤ 7 := fun i hi => vw_rg hU hT (k := 0) (by omega) (by omega) rfl rfl hi (by
  rw [Nat.mod_eq_of_lt hi]
  unfold segAt
  rw [if_pos (by omega)])
theorem rg123 (hU : uqG G C) (hT : TI G rgs h) : ∀ i, i < 24 → (i < 2 ∨ 8 ≤ i) → 0 ≤ vw C h 123 i ∧ vw C h 123 i ≤ 99 := fun i h1 h2 => by
  rcases h2 with h2 | h2
  · refine vw_rg hU hT (k := 0) (by omega) (by omega) rfl rfl (by omega) ?_
    rw [Nat.mod_eq_of_lt (by omega)]
    unfold segAt
    rw [if_pos (by omega)]
  · refine vw_rg hU hT (k := 4) (by omega) (by omega) rfl rfl (by omega) ?_
    rw [Nat.mod_eq_of_lt (by omega)]
    unfold segAt
    rw [if_neg (by omega)]
    unfold segAt
    rw [if_neg (by omega)]
    unfold segAt
    rw [if_neg (by omega)]
    unfold segAt
    rw [if_neg (by omega)]
    unfold segAt
    rw [if_pos (by omega)]
theorem lt_aA (hT : TI G rgs h) {ρ : Va} {q : LE × LE × sV} {x : Int} {g i t n p : Nat} {sg : List (Nat × kS)} (hq : ∃ t n c, h[(ev ρ q.1).toNat]? = some (.inl (t, n, c)) ∧ 0 ≤ ev ρ q.2.1 ∧ ev ρ q.2.1 < n ∧ dV ρ q.2.2 (elV c (ev ρ q.2.1).toNat)) (h1 : ev ρ q.1 = x) (hg : G x.toNat = g) (hs : rgs g = some (.inr (t, n, p, sg))) (hi : (i : Int) = ev ρ q.2.1) : i < n := by
  obtain ⟨t', n', c, g1, g2, g3, g4⟩ := hq
  rw [h1] at g1
  obtain ⟨c', h2, -⟩ := TI_arr hT (x := x.toNat) (by rw [hg]; exact hs) (Or.inr ⟨_, g1⟩)
  rw [g1] at h2
  cases h2
  omega
theorem GD_cg2 {V : vV} {g n : Nat} {c : Int} (h1 : GDv V g 124 n 0 c) (h2 : P46 V 55) {c' : Int} (hc : c' = c) : GDv V g 123 n 0 c' := by
  subst hc
  exact fun i a b d => gd_cg (cnt := fun m => V 124 (24 + m)) (fun m hm => h2 (24 + m) (by omega) (by omega)) (fun _ => rfl) (h1 i a b d)
/-- facts of numbers alone -/
theorem pureP {PR : Nat → Int → Int → mH → Prop} {ρ : Va} {n : Nat} {F : List LE} (hF : ∀ f ∈ F, 0 ≤ ev ρ f) : abs PR G ρ (n, [], [], F, [], [], [], []) [] [] h := ⟨fun q hq => absurd hq List.not_mem_nil, trivial, hF, fun q hq => absurd hq List.not_mem_nil, fun q hq => absurd hq List.not_mem_nil, fun q hq => absurd hq List.not_mem_nil, fun q hq => absurd hq List.not_mem_nil⟩
theorem c2 {P : Int → Int → Prop} {r c r' c' : Int} (h : P r c) (e1 : r' = r) (e2 : c' = c) : P r' c' := by
  subst e1 e2
  exact h
/-- what a field's number is within -/
theorem hf_rg (hT : TI G rgs h) {ρ : Va} {q : LE × Nat × sV} {x v : Int} {g ci : Nat} {fs : List kS} {lo hh : Int} (hq : ∃ ci fs w, h[(ev ρ q.1).toNat]? = some (.inr (ci, fs)) ∧ fs[q.2.1]? = some w ∧ dV ρ q.2.2 w) (h1 : ev ρ q.1 = x) (hg : G x.toNat = g) (hgs : rgs g = some (.inl (ci, fs))) (hf : fs[q.2.1]? = some (0, lo, hh)) (h0 : q.2.2.1 = 0) (h2 : ev ρ q.2.2.2 = v) : lo ≤ v ∧ v ≤ hh := by
  obtain ⟨ci', fs', w, g1, g2, g3⟩ := hq
  rw [h1] at g1
  obtain ⟨vs, y1, -, y3⟩ := TI_obj hT (x := x.toNat) (by rw [hg]; exact hgs)
  rw [g1] at y1
  cases y1
  obtain ⟨u, z1, z, hz, hz1, hz2⟩ := y3 _ _ hf
  rw [g2] at z1
  cases z1
  obtain ⟨r, k, t, e⟩ := q
  dsimp only at h0 g3 h2
  subst h0
  obtain ⟨y, hy, hy2⟩ := g3
  rw [hz] at hy
  injection hy with hy
  subst hy
  rw [← h2, ← hy2]
  exact ⟨hz1, hz2⟩
/-- a byte of the class's buffer; of the reference's -/
theorem by_C (hU : uqG G C) (hT : TI G rgs h) {j b : Int} (h0 : 0 ≤ j) (h1 : j < 1200) (ha : vw C h 100 j.toNat = b) : q150 (tB (vw C h)) j b := by
  have hr := vw_rg (lo := -128) (hh := 127) (p := 1200) (t := 1) (sg := [(1200, (0, -128, 127))]) hU hT (g := 100) (n := 1200) (i := j.toNat) (k := 0) (by omega) (by omega) rfl rfl (by omega) (by
    unfold segAt
    rw [if_pos (Nat.mod_lt _ (by omega))])
  rw [ha] at hr
  refine ⟨hr.1, by omega, ?_⟩
  unfold tB
  rw [if_pos (by omega), ha]
theorem by_M {V : vV} {j b r : Int} (hP : P170 V r) (h0 : 0 ≤ j) (h1 : j < r) (h2 : j < 1200) (ha : V 125 j.toNat = b) : q150 (tB V) j b ∧ 0 ≤ b ∧ tB V j.toNat = b := by
  have h3 := hP j.toNat (by omega) (by omega)
  have h4 : tB V j.toNat = V 100 j.toNat % 256 := by
    unfold tB
    rw [if_pos (by omega)]
  unfold q150
  rw [h4, ← h3, ha]
  omega
theorem k182 {r c w : Int} (h : q182 r c) (hr : r = w) : c = ((wd w.toNat).length : Int) := by
  subst hr
  exact h
/-- a letter of a constant -/
theorem let_rg (hT : TI G rgs h) {ρ : Va} {q : LE × LE × sV} {x j c : Int} {g w t n p : Nat} {sg : List (Nat × kS)} (hq : ∃ t n cc, h[(ev ρ q.1).toNat]? = some (.inl (t, n, cc)) ∧ 0 ≤ ev ρ q.2.1 ∧ ev ρ q.2.1 < n ∧ dV ρ q.2.2 (elV cc (ev ρ q.2.1).toNat)) (h1 : ev ρ q.1 = x) (hg : G x.toNat = g) (hs : rgs g = some (.inr (t, n, p, sg))) (hj : j = ev ρ q.2.1) (hj0 : 0 ≤ j) (h2 : ev ρ q.2.2.2 = c)
    (hd : ((List.range n).all fun i => match segAt sg (i % p) 0 with
      | some (_, (0, lo, hi)) => decide (lo = (wd w).getD i 0) && (decide (hi = (wd w).getD i 0) && (decide (97 ≤ lo) && decide (hi ≤ 122)))
      | _ => false) = true) (h0 : q.2.2.1 = 0 := by rfl) : c = (wd w).getD j.toNat 0 ∧ 97 ≤ c ∧ c ≤ 122 := by
  obtain ⟨t', n', cc, g1, g2, g3, g4⟩ := hq
  rw [h1] at g1
  obtain ⟨c', y1, -, y3⟩ := TI_arr hT (x := x.toNat) (by rw [hg]; exact hs) (Or.inr ⟨_, g1⟩)
  rw [g1] at y1
  cases y1
  rw [← hj] at g2 g3 g4
  obtain ⟨k, f, s1, s2⟩ := y3 j.toNat (by omega)
  have hd2 := List.all_eq_true.mp hd j.toNat (List.mem_range.mpr (by omega))
  rw [s1] at hd2
  obtain ⟨r, jj, tg, e⟩ := q
  dsimp only at h0 g4 h2
  subst h0
  obtain ⟨y, hy, hy2⟩ := g4
  split at hd2
  next k0 lo hi he =>
    cases he
    simp only [Bool.and_eq_true, decide_eq_true_eq] at hd2
    obtain ⟨z, hz, hz1, hz2⟩ := s2
    rw [hz] at hy
    injection hy with hy
    subst hy
    have h3 : z.toInt = c := hy2.trans h2
    have hz1 : lo ≤ z.toInt := hz1
    have hz2 : z.toInt ≤ hi := hz2
    omega
  next => cases hd2
theorem k177o {r c j w : Int} (hr : r = j + 64 * w) (h0 : 0 ≤ j ∧ j ≤ 63) (hw : 0 ≤ w) (h : c = (wd w.toNat).getD j.toNat 0) : q177 r c := by
  unfold q177
  rw [show (r / 64).toNat = w.toNat by omega, show (r % 64).toNat = j.toNat by omega]
  exact h
theorem outSet_ok (hU : uqG G C) (hT : TI G rgs h) {ρ : Va} {q1 q2 : LE × Nat × sV} {x e p c : Int} (a1 : ∃ ci fs w, h[(ev ρ q1.1).toNat]? = some (.inr (ci, fs)) ∧ fs[q1.2.1]? = some w ∧ dV ρ q1.2.2 w) (a2 : ∃ ci fs w, h[(ev ρ q2.1).toNat]? = some (.inr (ci, fs)) ∧ fs[q2.2.1]? = some w ∧ dV ρ q2.2.2 w) (h1 : ev ρ q1.1 = x) (hg : G x.toNat = 14) (hq : q2.1 = q1.1) (k1 : q1.2.1 = 3) (k2 : q2.2.1 = 4)
    (t1 : q1.2.2.1 = 0) (e1 : ev ρ q1.2.2.2 = e) (t2 : q2.2.2.1 = 0) (_d : (0 : Nat) = 0) (e2 : ev ρ q2.2.2.2 = p) (p2 : 1 ≤ e) (p0 : 0 ≤ p) (p1 : p ≤ 1200) (ho : q166 (tB (vw C h)) c (4096 * e + p)) : q199 C h c := by
  obtain ⟨ci, fs, w, x1, x2, x3⟩ := a1
  obtain ⟨ci', fs', w', y1, y2, y3⟩ := a2
  have hx : x.toNat = C 14 := (hU 14 (by omega) (by omega)).2 _ hg
  rw [hq, x1] at y1
  cases y1
  rw [h1, hx] at x1
  obtain ⟨vs, z1, -, -⟩ := TI_obj hT (x := x.toNat) (ci := 4) (fs := [(1, 17, 0), (9, 0, 0), (9, 0, 0), (0, -2147483648, 2147483647), (0, -2147483648, 2147483647)]) (by rw [hg]; rfl)
  rw [hx, x1] at z1
  cases z1
  obtain ⟨r1, i1, g1, f1⟩ := q1
  obtain ⟨r2, i2, g2, f2⟩ := q2
  dsimp only at k1 k2 t1 t2 x2 x3 y2 y3 e1 e2
  subst k1 k2 t1 t2
  obtain ⟨u, hu, hu2⟩ := x3
  obtain ⟨v, hv, hv2⟩ := y3
  subst hu hv
  have hu2 : u.toInt = e := hu2.trans e1
  have hv2 : v.toInt = p := hv2.trans e2
  refine ⟨fs, u, v, x1, x2, y2, ?_, by omega, by omega, by omega⟩
  rw [hu2, hv2]
  exact ho
/-- an object's field: a reference, a number -/
theorem ob_rf (hT : TI G rgs h) {ρ : Va} {q : LE × Nat × sV} {x v : Int} {g ci : Nat} {fs0 : List kS} (hq : ∃ ci fs w, h[(ev ρ q.1).toNat]? = some (.inr (ci, fs)) ∧ fs[q.2.1]? = some w ∧ dV ρ q.2.2 w) (h1 : ev ρ q.1 = x) (hg : G x.toNat = g) (hgs : rgs g = some (.inl (ci, fs0))) (h2 : ev ρ q.2.2.2 = v) (h0 : q.2.2.1 = 1 := by rfl) : ∃ fs, h[x.toNat]? = some (.inr (ci, fs)) ∧ fs[q.2.1]? = some (.ref v.toNat) := by
  obtain ⟨ci', fs, w, x1, x2, x3⟩ := hq
  rw [h1] at x1
  obtain ⟨vs, z1, -, -⟩ := TI_obj hT (x := x.toNat) (by rw [hg]; exact hgs)
  rw [x1] at z1
  cases z1
  obtain ⟨r, k, t, e⟩ := q
  dsimp only at h0 x2 x3 h2 ⊢
  subst h0
  obtain ⟨-, hw⟩ := dV1 rfl x3
  subst hw
  exact ⟨fs, x1, by rw [x2]; dsimp only; rw [h2]⟩
theorem ob_in (hT : TI G rgs h) {ρ : Va} {q : LE × Nat × sV} {x v : Int} {g ci : Nat} {fs0 : List kS} (hq : ∃ ci fs w, h[(ev ρ q.1).toNat]? = some (.inr (ci, fs)) ∧ fs[q.2.1]? = some w ∧ dV ρ q.2.2 w) (h1 : ev ρ q.1 = x) (hg : G x.toNat = g) (hgs : rgs g = some (.inl (ci, fs0))) (h2 : ev ρ q.2.2.2 = v) (h0 : q.2.2.1 = 0 := by rfl) : ∃ fs z, h[x.toNat]? = some (.inr (ci, fs)) ∧ fs[q.2.1]? = some (.int z) ∧ z.toInt = v := by
  obtain ⟨ci', fs, w, x1, x2, x3⟩ := hq
  rw [h1] at x1
  obtain ⟨vs, z1, -, -⟩ := TI_obj hT (x := x.toNat) (by rw [hg]; exact hgs)
  rw [x1] at z1
  cases z1
  obtain ⟨r, k, t, e⟩ := q
  dsimp only at h0 x2 x3 h2 ⊢
  subst h0
  obtain ⟨z, hz, hz2⟩ := dV0 rfl x3
  subst hz
  exact ⟨fs, z, x1, x2, hz2.trans h2⟩
theorem ar_rf {ρ : Va} {q : LE × LE × sV} {x j v : Int} (hq : ∃ t n c, h[(ev ρ q.1).toNat]? = some (.inl (t, n, c)) ∧ 0 ≤ ev ρ q.2.1 ∧ ev ρ q.2.1 < n ∧ dV ρ q.2.2 (elV c (ev ρ q.2.1).toNat)) (h1 : ev ρ q.1 = x) (hj : j = ev ρ q.2.1) (h2 : ev ρ q.2.2.2 = v) (h0 : q.2.2.1 = 1 := by rfl) : ∃ t n c, h[x.toNat]? = some (.inl (t, n, c)) ∧ j.toNat < n ∧ elV c j.toNat = .ref v.toNat := by
  obtain ⟨t, n, c, g1, g2, g3, g4⟩ := hq
  rw [h1] at g1
  rw [← hj] at g2 g3 g4
  obtain ⟨r, k, t', e⟩ := q
  dsimp only at h0 g4 h2
  subst h0
  obtain ⟨-, hw⟩ := dV1 rfl g4
  dsimp only at hw
  rw [h2] at hw
  exact ⟨t, n, c, g1, by omega, hw⟩
/-- slots of the last machine -/
theorem sl_new {S A N mc sl r : Int} (hr : r = 16 * S + mc) (S0 : 0 ≤ S) (m1 : 1 ≤ mc) (m8 : mc ≤ 8) (gS : G S.toNat = 20) (gA : G A.toNat = 115) (gN : G N.toNat = 13) (a1 : ∃ fs, h[S.toNat]? = some (.inr (10, fs)) ∧ fs[13]? = some (.ref A.toNat)) (a2 : ∃ t n c, h[A.toNat]? = some (.inl (t, n, c)) ∧ (mc - 1).toNat < n ∧ elV c (mc - 1).toNat = .ref N.toNat) (a3 : ∃ fs z, h[N.toNat]? = some (.inr (3, fs)) ∧ fs[6]? = some (.int z) ∧ z.toInt = sl) : q176 G h r sl := by
  obtain ⟨fs, x1, x2⟩ := a1
  obtain ⟨t, n, c, y1, y2, y3⟩ := a2
  obtain ⟨ms, z, z1, z2, z3⟩ := a3
  have e1 : (r / 16).toNat = S.toNat := by omega
  have e2 : (r % 16 - 1).toNat = (mc - 1).toNat := by omega
  refine Or.inr ⟨by omega, fs, A.toNat, t, n, c, N.toNat, ms, z, ?_⟩
  rw [e1, e2]
  exact ⟨gS, x1, x2, gA, y1, y2, y3, gN, z1, z2, z3⟩
theorem sl_same {S A N mc sl v r : Int} (hr : r = 16 * S + mc) (S0 : 0 ≤ S) (m1 : 1 ≤ mc) (m8 : mc ≤ 8) (a1 : ∃ fs, h[S.toNat]? = some (.inr (10, fs)) ∧ fs[13]? = some (.ref A.toNat)) (a2 : ∃ t n c, h[A.toNat]? = some (.inl (t, n, c)) ∧ (mc - 1).toNat < n ∧ elV c (mc - 1).toNat = .ref N.toNat) (a3 : ∃ fs z, h[N.toNat]? = some (.inr (3, fs)) ∧ fs[6]? = some (.int z) ∧ z.toInt = v) (hq : q176 G h r sl) : v = sl := by
  obtain ⟨fs, x1, x2⟩ := a1
  obtain ⟨t, n, c, y1, y2, y3⟩ := a2
  obtain ⟨ms, z, z1, z2, z3⟩ := a3
  have e1 : (r / 16).toNat = S.toNat := by omega
  have e2 : (r % 16 - 1).toNat = (mc - 1).toNat := by omega
  rcases hq with ⟨h0, -⟩ | ⟨-, fs', a, t', n', c', m, ms', z', -, w1, w2, -, w3, -, w5, -, w6, w7, w8⟩
  · omega
  · rw [e1, x1] at w1
    cases w1
    rw [x2] at w2
    cases w2
    rw [y1] at w3
    cases w3
    rw [e2, y3] at w5
    cases w5
    rw [z1] at w6
    cases w6
    rw [z2] at w7
    cases w7
    omega
theorem k158s {B : Nat → Int} {r n t c : Int} (hr : r = n + 2048 * t) (h0 : 0 ≤ n) (h1 : n ≤ 1200) (h2 : 0 ≤ t) (h3 : t ≤ n) (hc : c = -1) (h : q158 B r c) : tRn isBl B n.toNat 0 = t.toNat := by
  obtain ⟨a, b⟩ := dec2 hr h0 h1 h2 (by omega)
  unfold q158 at h
  rw [a, b] at h
  rcases h with h | h
  · exact h.2.symm
  · omega
theorem rch0 {B : Nat → Int} {n : Nat} : Rch B n (0, tRn isBl B n 0, 0, 0, 0) := ⟨0, rfl⟩
theorem nx_ge {B : Nat → Int} {n s : Nat} : s ≤ tNx B n s := by
  have h2 := @tWh_ge B n isBl n (tEn B n s)
  have h1 : s ≤ tEn B n s := by
    unfold tEn
    split
    · exact Nat.le_refl _
    · split
      · exact tWh_ge
      · split
        · exact tWh_ge
        · omega
  unfold tNx tRn
  omega
theorem q167_9 {r K : Int} (h : q167 r K) (h0 : 0 ≤ r / 2) (h9 : r / 2 ≤ 9) : 0 ≤ K ∧ K ≤ 511 := by
  obtain ⟨a, b, -⟩ := h
  have : (2 : Int) ^ (r / 2).toNat ≤ 512 := by
    have h1 : (r / 2).toNat ≤ 9 := by omega
    generalize (r / 2).toNat = k at h1
    have : k = 0 ∨ k = 1 ∨ k = 2 ∨ k = 3 ∨ k = 4 ∨ k = 5 ∨ k = 6 ∨ k = 7 ∨ k = 8 ∨ k = 9 := by omega
    rcases this with rfl | rfl | rfl | rfl | rfl | rfl | rfl | rfl | rfl | rfl <;> decide
  omega
theorem q167_up {r r2 K c : Int} (h : q167 r K) (h0 : 0 ≤ r / 2) (h2 : r2 / 2 = r / 2 + 1) (hc : c = 2 * K ∨ c = 2 * K + 1) (ho : r2 % 2 = 1 → c % 2 = 1) : q167 r2 c := by
  obtain ⟨a, b, -⟩ := h
  refine ⟨by omega, ?_, fun q => Or.inr (ho q)⟩
  rw [show (r2 / 2).toNat = (r / 2).toNat + 1 by omega, Int.pow_succ]
  generalize (2 : Int) ^ (r / 2).toNat = P at *
  omega
theorem q167_dn {r r2 K : Int} (h : q167 r K) (h2 : r2 / 2 = r / 2) (h3 : r2 % 2 = 0) : q167 r2 K := by
  obtain ⟨a, b, -⟩ := h
  refine ⟨a, ?_, fun q => by omega⟩
  rw [h2]
  exact b
/-- words that are appended -/
theorem k169 {x u : Int} {r : Int} (k : Nat) (hr : r = x + 1099511627776 * k) (h1 : 1 ≤ k) (h2 : k ≤ 31) (x0 : -2147483648 ≤ x) (x1 : x ≤ 2147483647) (h : q169 r u) : u = x / (2 ^ k : Nat) := by
  obtain ⟨x', k', e, a1, a2, a3, a4, a5⟩ := h
  have hk : k' = k := by omega
  subst hk
  have hx : x' = x := by omega
  subst hx
  exact a5
theorem wd4C {V : vV} {e c c' ix x w0 w1 w2 w3 u0 u1 u2 : Int} (h : P194 xs V (e - 4) c) (e1 : 4 ≤ e) (e2 : e ≤ 1200) (c1 : 64 * ix ≤ c) (c2' : c ≤ 64 * ix + 4) (hc : c' = c + 65) (i0 : 0 ≤ ix) (hx : x = (xs ix.toNat).toInt) (a0 : V 100 (e - 4).toNat = w0) (a1 : V 100 (e - 3).toNat = w1) (a2 : V 100 (e - 2).toNat = w2) (a3 : V 100 (e - 1).toNat = w3) (k0 : q169 (x + 1099511627776 * (24 : Nat)) u0) (k1 : q169 (x + 1099511627776 * (16 : Nat)) u1) (k2 : q169 (x + 1099511627776 * (8 : Nat)) u2)
    (b0 : w0 = u0.bmod 256) (b1 : w1 = u1.bmod 256) (b2 : w2 = u2.bmod 256) (b3 : w3 = x.bmod 256) : P194 xs V e c' := by
  have x0 := i32lo (xs ix.toNat)
  have x1 := i32hi (xs ix.toNat)
  have d0 := k169 24 rfl (by omega) (by omega) (by omega) (by omega) k0
  have d1 := k169 16 rfl (by omega) (by omega) (by omega) (by omega) k1
  have d2 := k169 8 rfl (by omega) (by omega) (by omega) (by omega) k2
  refine ⟨e2, fun k hk => ?_⟩
  have f1 : c % 64 = c - 64 * ix := by omega
  have f2 : c' % 64 = c - 64 * ix + 1 := by omega
  have f3 : c' / 64 = ix + 1 := by omega
  have f4 : c / 64 = ix := by omega
  by_cases hk0 : k = 0
  · subst hk0
    refine ⟨by omega, fun j hj => ?_⟩
    have hw : ∀ j, wdy xs (c' / 64) 0 j = x / (2 ^ (8 * (3 - j)) : Nat) := fun j => by
      unfold wdy
      rw [f3, hx]
      have : (ix + 1 - 1 - ((0 : Nat) : Int)).toNat = ix.toNat := by omega
      rw [this]
    rw [hw]
    have hj : j = 0 ∨ j = 1 ∨ j = 2 ∨ j = 3 := by omega
    rcases hj with rfl | rfl | rfl | rfl
    · rw [show (e - 4 * (((0 : Nat) : Int) + 1)).toNat + 0 = (e - 4).toNat by omega, a0, b0, d0]
    · rw [show (e - 4 * (((0 : Nat) : Int) + 1)).toNat + 1 = (e - 3).toNat by omega, a1, b1, d1]
    · rw [show (e - 4 * (((0 : Nat) : Int) + 1)).toNat + 2 = (e - 2).toNat by omega, a2, b2, d2]
    · rw [show (e - 4 * (((0 : Nat) : Int) + 1)).toNat + 3 = (e - 1).toNat by omega, a3, b3]
      simp
  · obtain ⟨k', rfl⟩ : ∃ k', k = k' + 1 := ⟨k - 1, by omega⟩
    obtain ⟨g1, g2⟩ := h.2 k' (by omega)
    refine ⟨by omega, fun j hj => ?_⟩
    have g3 := g2 j hj
    have hw : wdy xs (c' / 64) (k' + 1) j = wdy xs (c / 64) k' j := by
      unfold wdy
      have : (c' / 64 - 1 - ((k' + 1 : Nat) : Int)).toNat = (c / 64 - 1 - (k' : Int)).toNat := by omega
      rw [this]
    rw [hw, ← g3]
    have : (e - 4 * (((k' + 1 : Nat) : Int) + 1)).toNat = (e - 4 - 4 * ((k' : Int) + 1)).toNat := by omega
    rw [this]
theorem wd4M {V : vV} {e c c' ix x w0 w1 w2 w3 u0 u1 u2 : Int} (h : P195 xs V (e - 4) c) (e1 : 4 ≤ e) (e2 : e ≤ 1200) (c1 : 64 * ix ≤ c) (c2' : c ≤ 64 * ix + 4) (hc : c' = c + 65) (i0 : 0 ≤ ix) (hx : x = (xs ix.toNat).toInt) (a0 : V 125 (e - 4).toNat = w0) (a1 : V 125 (e - 3).toNat = w1) (a2 : V 125 (e - 2).toNat = w2) (a3 : V 125 (e - 1).toNat = w3) (k0 : q169 (x + 1099511627776 * (24 : Nat)) u0) (k1 : q169 (x + 1099511627776 * (16 : Nat)) u1) (k2 : q169 (x + 1099511627776 * (8 : Nat)) u2)
    (b0 : w0 = u0 % 256) (b1 : w1 = u1 % 256) (b2 : w2 = u2 % 256) (b3 : w3 = x % 256) : P195 xs V e c' := by
  have x0 := i32lo (xs ix.toNat)
  have x1 := i32hi (xs ix.toNat)
  have d0 := k169 24 rfl (by omega) (by omega) (by omega) (by omega) k0
  have d1 := k169 16 rfl (by omega) (by omega) (by omega) (by omega) k1
  have d2 := k169 8 rfl (by omega) (by omega) (by omega) (by omega) k2
  refine ⟨e2, fun k hk => ?_⟩
  have f1 : c % 64 = c - 64 * ix := by omega
  have f2 : c' % 64 = c - 64 * ix + 1 := by omega
  have f3 : c' / 64 = ix + 1 := by omega
  have f4 : c / 64 = ix := by omega
  by_cases hk0 : k = 0
  · subst hk0
    refine ⟨by omega, fun j hj => ?_⟩
    have hw : ∀ j, wdy xs (c' / 64) 0 j = x / (2 ^ (8 * (3 - j)) : Nat) := fun j => by
      unfold wdy
      rw [f3, hx]
      have : (ix + 1 - 1 - ((0 : Nat) : Int)).toNat = ix.toNat := by omega
      rw [this]
    rw [hw]
    have hj : j = 0 ∨ j = 1 ∨ j = 2 ∨ j = 3 := by omega
    rcases hj with rfl | rfl | rfl | rfl
    · rw [show (e - 4 * (((0 : Nat) : Int) + 1)).toNat + 0 = (e - 4).toNat by omega, a0, b0, d0]
    · rw [show (e - 4 * (((0 : Nat) : Int) + 1)).toNat + 1 = (e - 3).toNat by omega, a1, b1, d1]
    · rw [show (e - 4 * (((0 : Nat) : Int) + 1)).toNat + 2 = (e - 2).toNat by omega, a2, b2, d2]
    · rw [show (e - 4 * (((0 : Nat) : Int) + 1)).toNat + 3 = (e - 1).toNat by omega, a3, b3]
      simp
  · obtain ⟨k', rfl⟩ : ∃ k', k = k' + 1 := ⟨k - 1, by omega⟩
    obtain ⟨g1, g2⟩ := h.2 k' (by omega)
    refine ⟨by omega, fun j hj => ?_⟩
    have g3 := g2 j hj
    have hw : wdy xs (c' / 64) (k' + 1) j = wdy xs (c / 64) k' j := by
      unfold wdy
      have : (c' / 64 - 1 - ((k' + 1 : Nat) : Int)).toNat = (c / 64 - 1 - (k' : Int)).toNat := by omega
      rw [this]
    rw [hw, ← g3]
    have : (e - 4 * (((k' + 1 : Nat) : Int) + 1)).toNat = (e - 4 - 4 * ((k' : Int) + 1)).toNat := by omega
    rw [this]
theorem eqb20_ok {V : vV} {e d ix c c' : Int} (hE : P170 V (e - 20)) (hC : P194 xs V e c) (hM : P195 xs V d c') (h1 : d = e) (hc : c = 64 * ix + 325) (hc' : c' = 64 * ix + 325) (e20 : 20 ≤ e) : P170 V d := fun i i1 i2 => by
  subst h1
  by_cases hi : (i : Int) < d - 20
  · exact hE i hi i2
  · obtain ⟨k, j, hk, hj, hij⟩ : ∃ k j : Nat, k < 5 ∧ j < 4 ∧ (i : Int) = d - 4 * ((k : Int) + 1) + j := ⟨((d - 1 - i) / 4).toNat, (3 - (d - 1 - i) % 4).toNat, by omega, by omega, by omega⟩
    have f1 := (hC.2 k (by omega)).2 j hj
    have f2 := (hM.2 k (by omega)).2 j hj
    have e0 : (d - 4 * ((k : Int) + 1)).toNat + j = i := by omega
    rw [e0] at f1 f2
    rw [f1, f2, show c' = c by omega]
    generalize wdy xs (c / 64) k j = w
    have := Int.emod_bmod (x := w) (n := 256)
    rw [Int.bmod_def]
    split <;> omega
/-- one text, one outcome -/
theorem p199 (hU : uqG G C) {Z e p c : Int} (hg : G Z.toNat = 14) (a1 : ∃ fs z, h[Z.toNat]? = some (.inr (4, fs)) ∧ fs[3]? = some (.int z) ∧ z.toInt = e) (a2 : ∃ fs z, h[Z.toNat]? = some (.inr (4, fs)) ∧ fs[4]? = some (.int z) ∧ z.toInt = p) (hq : q199 C h c) : outB (tB (vw C h)) c.toNat (4096 * e + p) ∧ 0 ≤ p ∧ p ≤ 1200 := by
  obtain ⟨fs1, z1, x1, x2, x3⟩ := a1
  obtain ⟨fs2, z2, y1, y2, y3⟩ := a2
  obtain ⟨fs3, u, v, w1, w2, w3, w4, w5, w6, w7⟩ := hq
  have hx : Z.toNat = C 14 := (hU 14 (by omega) (by omega)).2 _ hg
  rw [hx] at x1 y1
  rw [x1] at y1 w1
  cases y1
  cases w1
  rw [x2] at w2
  cases w2
  rw [y2] at w3
  cases w3
  subst x3 y3
  exact ⟨w4, w6, w7⟩
theorem eq_rf {a b : Nat} (h : (some (.ref a) : Option Value) = some (.ref b)) : a = b := by
  cases h
  rfl
theorem eq_in {a b : Int32} (h : (some (.int a) : Option Value) = some (.int b)) : a = b := by
  cases h
  rfl
/-! what is read of objects and rows, as views -/
theorem ob_v (hT : TI G rgs h) {ρ : Va} {q : LE × Nat × sV} {x v : Int} {g ci : Nat} {fs0 : List kS} (hq : ∃ ci fs w, h[(ev ρ q.1).toNat]? = some (.inr (ci, fs)) ∧ fs[q.2.1]? = some w ∧ dV ρ q.2.2 w) (h1 : ev ρ q.1 = x) (hg : G x.toNat = g) (hgs : rgs g = some (.inl (ci, fs0))) (h2 : ev ρ q.2.2.2 = v) (h0 : q.2.2.1 = 1 := by rfl) : rfv h x.toNat q.2.1 = some (.ref v.toNat) := by
  obtain ⟨fs, a1, a2⟩ := ob_rf hT hq h1 hg hgs h2 h0
  exact rfv_of a1 a2
theorem ob_i (hT : TI G rgs h) {ρ : Va} {q : LE × Nat × sV} {x v : Int} {g ci : Nat} {fs0 : List kS} (hq : ∃ ci fs w, h[(ev ρ q.1).toNat]? = some (.inr (ci, fs)) ∧ fs[q.2.1]? = some w ∧ dV ρ q.2.2 w) (h1 : ev ρ q.1 = x) (hg : G x.toNat = g) (hgs : rgs g = some (.inl (ci, fs0))) (h2 : ev ρ q.2.2.2 = v) (h0 : q.2.2.1 = 0 := by rfl) : hasI (rfv h x.toNat q.2.1) v := by
  obtain ⟨fs, z, a1, a2, a3⟩ := ob_in hT hq h1 hg hgs h2 h0
  exact ⟨z, rfv_of a1 a2, a3⟩
theorem ar_v {ρ : Va} {q : LE × LE × sV} {x j v : Int} (hq : ∃ t n c, h[(ev ρ q.1).toNat]? = some (.inl (t, n, c)) ∧ 0 ≤ ev ρ q.2.1 ∧ ev ρ q.2.1 < n ∧ dV ρ q.2.2 (elV c (ev ρ q.2.1).toNat)) (h1 : ev ρ q.1 = x) (hj : j = ev ρ q.2.1) (h2 : ev ρ q.2.2.2 = v) (h0 : q.2.2.1 = 1 := by rfl) : elv h x.toNat j.toNat = some (.ref v.toNat) := by
  obtain ⟨t, n, c, a1, a2, a3⟩ := ar_rf hq h1 hj h2 h0
  exact elv_of a1 a2 a3
theorem ar_i {ρ : Va} {q : LE × LE × sV} {x j v : Int} (hq : ∃ t n c, h[(ev ρ q.1).toNat]? = some (.inl (t, n, c)) ∧ 0 ≤ ev ρ q.2.1 ∧ ev ρ q.2.1 < n ∧ dV ρ q.2.2 (elV c (ev ρ q.2.1).toNat)) (h1 : ev ρ q.1 = x) (hj : j = ev ρ q.2.1) (h2 : ev ρ q.2.2.2 = v) (h0 : q.2.2.1 = 0 := by rfl) : hasI (elv h x.toNat j.toNat) v := by
  obtain ⟨t, n, c, g1, g2, g3, g4⟩ := hq
  rw [h1] at g1
  rw [← hj] at g2 g3 g4
  obtain ⟨r, k, t', e⟩ := q
  dsimp only at h0 g4 h2
  subst h0
  obtain ⟨z, hz, hz2⟩ := dV0 rfl g4
  dsimp only at hz2
  exact ⟨z, elv_of g1 (by omega) hz, hz2.trans h2⟩
theorem hasI_eq {o : Option Value} {z z' : Int} (a : hasI o z) (b : hasI o z') : z = z' := by
  obtain ⟨v, h1, h2⟩ := a
  obtain ⟨w, h3, h4⟩ := b
  have e := eq_in (h1.symm.trans h3)
  rw [← h2, ← h4, e]
theorem s_hd {F A : fvT} {E X u v : Int} {a : Nat} (h6 : q206 G) (gA : G a = 116) (E0 : 0 ≤ E) (u0 : 0 ≤ u) (u5 : u ≤ 5) (v0 : 0 ≤ v) (v8 : v ≤ 8) (z : A a u.toNat = some (.ref E.toNat)) (q1 : q241 G X A) (q2 : q240 G u v F A) : q246 G E (v + 16 * u) F A ∧ q245 E X ∧ 162 ≤ E ∧ E ≤ 577 := by
  obtain ⟨x0, gX, sX, sg, g5, cs, ⟨c1, c2⟩, c3⟩ := q1
  have e := h6.1 _ gA
  subst e
  have eC := eq_rf (z.symm.trans (c3 u.toNat (by omega)))
  have hc := c1 u.toNat (by omega)
  rw [← eC] at hc
  obtain ⟨hc1, hc2, hc3⟩ := hc
  have hC2 := hc2
  unfold SHc at hC2
  refine ⟨⟨E0, hc1, hc2, g5, u.toNat, v, by omega, v0, v8, by omega, z, fun i hi => ?_⟩, fun h => hc3 (by rw [h]), by omega, by omega⟩
  obtain ⟨x, x1, x2, x3, x4⟩ := q2.2.2 i (by omega)
  refine ⟨x, x1, fun hx => ?_, x2, x3, x4⟩
  have ex := eq_rf (x1.symm.trans (c3 i (by omega)))
  have := c2 i u.toNat (by omega) (by omega) (by rw [← ex, ← eC]; exact hx)
  omega
theorem s_sw0 {F : fvT} {T X v x : Int} (T0 : 0 ≤ T) (y : hasI (F X.toNat 12) x) (q : q210 G X v F) (d : q245 T X) : x = v ∧ q247 G T (X + 1024 * v) F := by
  obtain ⟨x0, g, s, sg, hi⟩ := q
  exact ⟨hasI_eq y hi, T0, sg, X.toNat, v, by omega, g, s, fun e => d (by omega), hi⟩
theorem s_sw1 {F : fvT} {T X w y : Int} (X0 : 0 ≤ X) (gX : G X.toNat = 20) (e : w = X + 1024 * y) (q : q247 G T w F) : q210 G X y F := by
  obtain ⟨t0, sg, x, v, hc, g, s, n, hi⟩ := q
  have a1 := sg _ g
  have a2 := sg _ gX
  have ex : X.toNat = x := by omega
  have ey : y = v := by omega
  rw [ey]
  exact ⟨X0, gX, by rw [ex]; exact s, sg, by rw [ex]; exact hi⟩
theorem s_kp {F A : fvT} {E w y u : Int} (u1 : 1 ≤ u) (u6 : u ≤ 6) (y0 : 0 ≤ y) (y8 : y ≤ 8) (e : w = y + 16 * u - 16) (q1 : q246 G E w F A) (q2 : q211 G E y F) : q240 G u y F A := by
  obtain ⟨c0, gC, sC, g5, n, v, n5, v0, v8, hc, ha, hi⟩ := q1
  have en : (n : Int) = u - 1 := by omega
  have ev : v = y := by omega
  subst ev
  refine ⟨u6, g5, fun i hi' => ?_⟩
  by_cases h : i < n
  · obtain ⟨x, x1, -, x2, x3, x4⟩ := hi i h
    exact ⟨x, x1, x2, x3, x4⟩
  · have e : i = n := by omega
    subst e
    exact ⟨E.toNat, ha, gC, sC, q2.2.2⟩
theorem s_do0 {F A : fvT} {a : Nat} {C0 C1 C2 C3 C4 C5 x v : Int} (h6 : q206 G) (gA : G a = 116) (n0 : 0 ≤ C0) (n1 : 0 ≤ C1) (n2 : 0 ≤ C2) (n3 : 0 ≤ C3) (n4 : 0 ≤ C4) (n5 : 0 ≤ C5) (z0 : A a 0 = some (.ref C0.toNat)) (z1 : A a 1 = some (.ref C1.toNat)) (z2 : A a 2 = some (.ref C2.toNat)) (z3 : A a 3 = some (.ref C3.toNat)) (z4 : A a 4 = some (.ref C4.toNat)) (z5 : A a 5 = some (.ref C5.toNat)) (q1 : q241 G x A) (q2 : q240 G 6 v F A) :
    q243 G (C0 + 1024 * C1 + 1048576 * C2 + 1073741824 * C3 + 1099511627776 * C4 + 1125899906842624 * C5) x ∧ q244 G (C0 + 1024 * C1 + 1048576 * C2 + 1073741824 * C3 + 1099511627776 * C4 + 1125899906842624 * C5) v F := by
  obtain ⟨x0, gX, sX, sg, g5, cs, c1, c3⟩ := q1
  have e := h6.1 _ gA
  subst e
  have e0 := eq_rf (z0.symm.trans (c3 0 (by omega)))
  have e1 := eq_rf (z1.symm.trans (c3 1 (by omega)))
  have e2 := eq_rf (z2.symm.trans (c3 2 (by omega)))
  have e3 := eq_rf (z3.symm.trans (c3 3 (by omega)))
  have e4 := eq_rf (z4.symm.trans (c3 4 (by omega)))
  have e5 := eq_rf (z5.symm.trans (c3 5 (by omega)))
  have ep : C0 + 1024 * C1 + 1048576 * C2 + 1073741824 * C3 + 1099511627776 * C4 + 1125899906842624 * C5 = pk6 cs := by
    unfold pk6
    omega
  refine ⟨⟨x0, gX, sX, sg, g5, cs, c1, ep⟩, sg, cs, ep, fun i hi => ?_⟩
  obtain ⟨y, y1, y2, y3, y4⟩ := q2.2.2 i (by omega)
  have ey := eq_rf (y1.symm.trans (c3 i hi))
  rw [← ey]
  exact ⟨y2, y4⟩
theorem dg1 {a b : Nat} {x y : Int} (ha : a < 1024) (hb : b < 1024) (e : (a : Int) + 1024 * x = b + 1024 * y) : a = b ∧ x = y := by
  constructor <;> omega
theorem pk6i {C0 C1 C2 C3 C4 C5 : Int} {cs : Nat → Nat} (n0 : 0 ≤ C0) (n1 : 0 ≤ C1) (n2 : 0 ≤ C2) (n3 : 0 ≤ C3) (n4 : 0 ≤ C4) (n5 : 0 ≤ C5) (b0 : C0.toNat < 1024) (b1 : C1.toNat < 1024) (b2 : C2.toNat < 1024) (b3 : C3.toNat < 1024) (b5 : C5.toNat < 1024) (k : ∀ i, i < 6 → cs i < 1024)
    (e : C5 + 1024 * C0 + 1048576 * C1 + 1073741824 * C2 + 1099511627776 * C3 + 1125899906842624 * C4 = pk6 cs) : C5.toNat = cs 0 ∧ C0.toNat = cs 1 ∧ C1.toNat = cs 2 ∧ C2.toNat = cs 3 ∧ C3.toNat = cs 4 ∧ C4.toNat = cs 5 := by
  unfold pk6 at e
  have q0 := Int.toNat_of_nonneg n0
  have q1 := Int.toNat_of_nonneg n1
  have q2 := Int.toNat_of_nonneg n2
  have q3 := Int.toNat_of_nonneg n3
  have q4 := Int.toNat_of_nonneg n4
  have q5 := Int.toNat_of_nonneg n5
  obtain ⟨f5, r1⟩ := dg1 (a := C5.toNat) (b := cs 0) (x := C0 + 1024 * (C1 + 1024 * (C2 + 1024 * (C3 + 1024 * C4)))) (y := (cs 1 : Int) + 1024 * ((cs 2 : Int) + 1024 * ((cs 3 : Int) + 1024 * ((cs 4 : Int) + 1024 * (cs 5 : Int))))) b5 (k 0 (by decide)) (by clear q0 q1 q2 q3 q4 b0 b1 b2 b3 b5 k; omega)
  rw [← q0] at r1
  obtain ⟨f0, r2⟩ := dg1 b0 (k 1 (by decide)) r1
  rw [← q1] at r2
  obtain ⟨f1, r3⟩ := dg1 b1 (k 2 (by decide)) r2
  rw [← q2] at r3
  obtain ⟨f2, r4⟩ := dg1 b2 (k 3 (by decide)) r3
  rw [← q3] at r4
  obtain ⟨f3, r5⟩ := dg1 b3 (k 4 (by decide)) r4
  refine ⟨f5, f0, f1, f2, f3, ?_⟩
  rw [r5]
  rfl
theorem s_do1 {F A : fvT} {a : Nat} {C0 C1 C2 C3 C4 C5 x v u : Int} (h6 : q206 G) (gA : G a = 116) (u5 : u = 5) (n0 : 0 ≤ C0) (n1 : 0 ≤ C1) (n2 : 0 ≤ C2) (n3 : 0 ≤ C3) (n4 : 0 ≤ C4) (n5 : 0 ≤ C5) (g0 : G C0.toNat = 20) (g1 : G C1.toNat = 20) (g2 : G C2.toNat = 20) (g3 : G C3.toNat = 20) (g4 : G C4.toNat = 20) (g5 : G C5.toNat = 20) (z0 : A a 0 = some (.ref C0.toNat)) (z1 : A a 1 = some (.ref C1.toNat)) (z2 : A a 2 = some (.ref C2.toNat)) (z3 : A a 3 = some (.ref C3.toNat)) (z4 : A a 4 = some (.ref C4.toNat)) (z5 : A a 5 = some (.ref C5.toNat))
    (q1 : q243 G (C5 + 1024 * C0 + 1048576 * C1 + 1073741824 * C2 + 1099511627776 * C3 + 1125899906842624 * C4) x) (q2 : q244 G (C5 + 1024 * C0 + 1048576 * C1 + 1073741824 * C2 + 1099511627776 * C3 + 1125899906842624 * C4) v F) : q241 G x A ∧ q240 G u v F A := by
  obtain ⟨x0, gX, sX, sg, gh, cs, ⟨c1, c2⟩, ep⟩ := q1
  obtain ⟨-, ds, dp, d1⟩ := q2
  have e := h6.1 _ gA
  subst e u5
  have b0 := sg _ g0
  have b1 := sg _ g1
  have b2 := sg _ g2
  have b3 := sg _ g3
  have b4 := sg _ g4
  have b5 := sg _ g5
  obtain ⟨f5, f0, f1, f2, f3, f4⟩ := pk6i n0 n1 n2 n3 n4 n5 b0 b1 b2 b3 b5 (fun i hi => sg _ (c1 i hi).1) ep
  obtain ⟨-, h0, h1, h2, h3, h4⟩ := pk6i n0 n1 n2 n3 n4 n5 b0 b1 b2 b3 b5 (fun i hi => sg _ (d1 i hi).1) dp
  have hz : ∀ i, i < 6 → A 281 i = some (.ref (cs ((i + 1) % 6))) := fun i hi => by
    have hi' : i = 0 ∨ i = 1 ∨ i = 2 ∨ i = 3 ∨ i = 4 ∨ i = 5 := by omega
    rcases hi' with rfl | rfl | rfl | rfl | rfl | rfl
    · rw [z0, f0]
    · rw [z1, f1]
    · rw [z2, f2]
    · rw [z3, f3]
    · rw [z4, f4]
    · rw [z5, f5]
  refine ⟨⟨x0, gX, sX, sg, gh, fun i => cs ((i + 1) % 6), ⟨fun i hi => c1 _ (by omega), fun i j hi hj hij => ?_⟩, hz⟩, by omega, gh, fun i hi => ?_⟩
  · have := c2 _ _ (by omega) (by omega) hij
    omega
  · have hd : hasI (F (cs ((i + 1) % 6)) 12) v := by
      have hi' : i = 0 ∨ i = 1 ∨ i = 2 ∨ i = 3 ∨ i = 4 := by omega
      rcases hi' with rfl | rfl | rfl | rfl | rfl
      · have := (d1 1 (by omega)).2
        rwa [← h0, f0] at this
      · have := (d1 2 (by omega)).2
        rwa [← h1, f1] at this
      · have := (d1 3 (by omega)).2
        rwa [← h2, f2] at this
      · have := (d1 4 (by omega)).2
        rwa [← h3, f3] at this
      · have := (d1 5 (by omega)).2
        rwa [← h4, f4] at this
    exact ⟨_, hz i (by omega), (c1 _ (by omega)).1, (c1 _ (by omega)).2.1, hd⟩
theorem s_tb {F A : fvT} {E X k v : Int} {a : Nat} (h6 : q206 G) (gA : G a = 116) (E0 : 0 ≤ E) (X0 : 0 ≤ X) (k0 : 0 ≤ k) (k5 : k ≤ 5) (z : A a k.toNat = some (.ref E.toNat)) (q1 : q241 G X A) (q2 : q240 G (k + 1) v F A) : q210 G E v F ∧ q240 G k v F A ∧ q249 G k (X + 1024 * E) A := by
  obtain ⟨x0, gX, sX, sg, g5, cs, c1, c3⟩ := q1
  have e := h6.1 _ gA
  subst e
  have eC := eq_rf (z.symm.trans (c3 k.toNat (by omega)))
  obtain ⟨x, x1, x2, x3, x4⟩ := q2.2.2 k.toNat (by omega)
  have ex := eq_rf (x1.symm.trans z)
  subst ex
  exact ⟨⟨E0, x2, x3, sg, x4⟩, ⟨by omega, g5, fun i hi => q2.2.2 i (by omega)⟩, k0, by omega, sg, g5, X.toNat, cs, gX, sX, c1, by omega, fun i hi _ => c3 i hi⟩
theorem s_tb2 {A : fvT} {E X k w : Int} {a : Nat} (h6 : q206 G) (gA : G a = 116) (E0 : 0 ≤ E) (X0 : 0 ≤ X) (gX : G X.toNat = 20) (gE : G E.toNat = 20) (e : w = X + 1024 * E) (z : A a k.toNat = some (.ref X.toNat)) (q1 : q249 G k w A) : q241 G E A := by
  obtain ⟨k0, k6, sg, g5, x, cs, gx, sx, ⟨c1, c2⟩, hc, ha⟩ := q1
  have e1 := h6.1 _ gA
  subst e1
  have a1 := sg _ gx
  have a2 := sg _ gX
  have ex : x = X.toNat := by omega
  have eE : cs k.toNat = E.toNat := by omega
  have hk := c1 k.toNat (by omega)
  rw [eE] at hk
  refine ⟨E0, gE, hk.2.1, sg, g5, fun i => if i = k.toNat then X.toNat else cs i, ⟨fun i hi => ?_, fun i j hi hj hij => ?_⟩, fun i hi => ?_⟩
  · dsimp only
    split
    · rw [← ex]
      exact ⟨gx, sx, fun h => hk.2.2 h.symm⟩
    · next hne =>
      refine ⟨(c1 i hi).1, (c1 i hi).2.1, fun h => hne ?_⟩
      rw [← eE] at h
      exact c2 _ _ hi (by omega) h
  · dsimp only at hij
    split at hij
    · next h1 =>
      split at hij
      · next h2 => omega
      · next h2 => exact ((c1 j hj).2.2 (by rw [← hij, ex])).elim
    · next h1 =>
      split at hij
      · next h2 => exact ((c1 i hi).2.2 (by rw [hij, ex])).elim
      · next h2 => exact c2 _ _ hi hj hij
  · dsimp only
    split
    · next h1 => rw [h1]; exact z
    · next h1 => exact ha i hi (by omega)
theorem s_get255 {F A : fvT} {T H u v : Int} (y : F T.toNat 10 = some (.ref H.toNat)) (w : hasI (F H.toNat 1) u) (q : q255 G T v F A) : q240 G u v F A := by
  obtain ⟨t0, gT, z, n, z1, z2, z3, z4⟩ := q
  have e := eq_rf (y.symm.trans z1)
  rw [e] at w
  have e2 := hasI_eq w ⟨n, z3, rfl⟩
  rw [e2]
  exact z4
theorem s_mk255 {F A : fvT} {T H u v : Int} (T0 : 0 ≤ T) (gT : G T.toNat = 21) (gH : G H.toNat = 12) (y : F T.toNat 10 = some (.ref H.toNat)) (w : hasI (F H.toNat 1) u) (q : q240 G u v F A) : q255 G T v F A := by
  obtain ⟨n, w1, w2⟩ := w
  exact ⟨T0, gT, H.toNat, n, y, gH, w1, by rw [w2]; exact q⟩
theorem s_zero {F A : fvT} {X u v : Int} (u0 : u ≤ 0) (q : q241 G X A) : q240 G u v F A := ⟨by omega, q.2.2.2.2.1, fun i hi => by omega⟩
theorem s_x {F A : fvT} {X y : Int} (q : q241 G X A) (w : hasI (F X.toNat 12) y) : q210 G X y F := ⟨q.1, q.2.1, q.2.2.1, q.2.2.2.1, w⟩
theorem s_pl {A : fvT} {a : Nat} {E p : Int} (h6 : q206 G) (gA : G a = 117) (E0 : 0 ≤ E) (p0 : 0 ≤ p) (p1 : p ≤ 1) (z : A a p.toNat = some (.ref E.toNat)) (q : q253 G A) : E = 637 + 59 * p := by
  have e := h6.2.1 _ gA
  subst e
  have e := eq_rf (z.symm.trans (q.2 p.toNat (by omega)))
  omega
theorem s_sv {F A : fvT} {b : Nat} {E p n y : Int} (h6 : q206 G) (gB : G b = 101) (gE : G E.toNat = 20) (e : E = 637 + 59 * p) (p0 : 0 ≤ p) (p1 : p ≤ 1) (z : hasI (A b p.toNat) n) (q : n ≠ 0 → hasI (F E.toNat 12) y) : q250 G E y F A := by
  have e1 := h6.2.2 _ gB
  subst e1
  obtain ⟨m, z1, z2⟩ := z
  have ep : plc E = p.toNat := by
    unfold plc
    split <;> omega
  exact ⟨by omega, gE, gB, m, by rw [ep]; exact z1, fun h => q (by omega)⟩
theorem s_rs {F A : fvT} {b : Nat} {E p n y : Int} (h6 : q206 G) (gB : G b = 101) (e : E = 637 + 59 * p) (p0 : 0 ≤ p) (p1 : p ≤ 1) (n1 : n ≠ 0) (z : hasI (A b p.toNat) n) (q : q250 G E y F A) : q211 G E y F := by
  have e1 := h6.2.2 _ gB
  subst e1
  obtain ⟨q0, gE, -, m, q1, q2⟩ := q
  have ep : plc E = p.toNat := by
    unfold plc
    split <;> omega
  rw [ep] at q1
  have em := hasI_eq z ⟨m, q1, rfl⟩
  exact ⟨by omega, gE, q2 (by omega)⟩
/-- split0 -/
theorem lem_0_ok (hU : uqG G C) : lem_0.1.2.1 = [] ∧ lemOK (PRd G C D xs) G rgs lem_0 := by
  refine ⟨rfl, fun ρ h ha hT => ?_⟩
  obtain ⟨-, -, hF, hG, hH, hA, hP⟩ := ha
  rcases (by omega : ρ 0 ≤ 0 ∨ 1 ≤ ρ 0) with hc | hc
  · refine ⟨_, List.mem_cons_self, ρ, fun _ _ => rfl, fun q hq => absurd hq List.not_mem_nil, trivial, fun f hf => ?_, fun q hq => absurd hq List.not_mem_nil, fun q hq => absurd hq List.not_mem_nil, fun q hq => absurd hq List.not_mem_nil, fun q hq => ?_⟩
    · simp only [List.mem_cons, List.not_mem_nil, or_false] at hf
      subst hf
      show (0 : Int) ≤ ((0) + ((-1) * ρ 0 + 0))
      omega
    · exact absurd hq List.not_mem_nil
  · refine ⟨_, (List.mem_cons_of_mem _ List.mem_cons_self), ρ, fun _ _ => rfl, fun q hq => absurd hq List.not_mem_nil, trivial, fun f hf => ?_, fun q hq => absurd hq List.not_mem_nil, fun q hq => absurd hq List.not_mem_nil, fun q hq => absurd hq List.not_mem_nil, fun q hq => ?_⟩
    · simp only [List.mem_cons, List.not_mem_nil, or_false] at hf
      subst hf
      show (0 : Int) ≤ ((-1) + ((1) * ρ 0 + 0))
      omega
    · exact absurd hq List.not_mem_nil
/-- noErr -/
theorem lem_1_ok (hU : uqG G C) : lem_1.1.2.1 = [] ∧ lemOK (PRd G C D xs) G rgs lem_1 := by
  refine ⟨rfl, fun ρ h ha hT => ?_⟩
  obtain ⟨-, -, hF, hG, hH, hA, hP⟩ := ha
  have f0 : (0 : Int) ≤ ((-1) + ((1) * ρ 1 + 0)) := hF _ (List.mem_of_getElem? (i := 0) rfl)
  have f1 : (0 : Int) ≤ ((0) + ((-1) * ρ 1 + 0)) := hF _ (List.mem_of_getElem? (i := 1) rfl)
  exact absurd f0 (by omega)
/-- empty40 -/
theorem lem_2_ok (hU : uqG G C) : lem_2.1.2.1 = [] ∧ lemOK (PRd G C D xs) G rgs lem_2 := by
  refine ⟨rfl, fun ρ h ha hT => ?_⟩
  obtain ⟨-, -, hF, hG, hH, hA, hP⟩ := ha
  refine ⟨_, List.mem_cons_self, ρ, fun _ _ => rfl, fun q hq => absurd hq List.not_mem_nil, trivial, fun f hf => ?_, fun q hq => absurd hq List.not_mem_nil, fun q hq => absurd hq List.not_mem_nil, fun q hq => absurd hq List.not_mem_nil, fun q hq => ?_⟩
  · exact absurd hf List.not_mem_nil
  · simp only [List.mem_cons, List.not_mem_nil, or_false] at hq
    subst hq
    show GDv (vw C h) 118 123 1777 ((0) + ((1) * ρ 0 + 0)) ((0) + 0)
    exact GD_no (by omega)
/-- empty41 -/
theorem lem_3_ok (hU : uqG G C) : lem_3.1.2.1 = [] ∧ lemOK (PRd G C D xs) G rgs lem_3 := by
  refine ⟨rfl, fun ρ h ha hT => ?_⟩
  obtain ⟨-, -, hF, hG, hH, hA, hP⟩ := ha
  refine ⟨_, List.mem_cons_self, ρ, fun _ _ => rfl, fun q hq => absurd hq List.not_mem_nil, trivial, fun f hf => ?_, fun q hq => absurd hq List.not_mem_nil, fun q hq => absurd hq List.not_mem_nil, fun q hq => absurd hq List.not_mem_nil, fun q hq => ?_⟩
  · exact absurd hf List.not_mem_nil
  · simp only [List.mem_cons, List.not_mem_nil, or_false] at hq
    subst hq
    show GDv (vw C h) 119 123 1777 ((0) + ((1) * ρ 0 + 0)) ((0) + 0)
    exact GD_no (by omega)
/-- empty42 -/
theorem lem_4_ok (hU : uqG G C) : lem_4.1.2.1 = [] ∧ lemOK (PRd G C D xs) G rgs lem_4 := by
  refine ⟨rfl, fun ρ h ha hT => ?_⟩
  obtain ⟨-, -, hF, hG, hH, hA, hP⟩ := ha
  refine ⟨_, List.mem_cons_self, ρ, fun _ _ => rfl, fun q hq => absurd hq List.not_mem_nil, trivial, fun f hf => ?_, fun q hq => absurd hq List.not_mem_nil, fun q hq => absurd hq List.not_mem_nil, fun q hq => absurd hq List.not_mem_nil, fun q hq => ?_⟩
  · exact absurd hf List.not_mem_nil
  · simp only [List.mem_cons, List.not_mem_nil, or_false] at hq
    subst hq
    show GDv (vw C h) 121 123 10662 ((0) + ((1) * ρ 0 + 0)) ((0) + 0)
    exact GD_no (by omega)
/-- empty43 -/
theorem lem_5_ok (hU : uqG G C) : lem_5.1.2.1 = [] ∧ lemOK (PRd G C D xs) G rgs lem_5 := by
  refine ⟨rfl, fun ρ h ha hT => ?_⟩
  obtain ⟨-, -, hF, hG, hH, hA, hP⟩ := ha
  refine ⟨_, List.mem_cons_self, ρ, fun _ _ => rfl, fun q hq => absurd hq List.not_mem_nil, trivial, fun f hf => ?_, fun q hq => absurd hq List.not_mem_nil, fun q hq => absurd hq List.not_mem_nil, fun q hq => absurd hq List.not_mem_nil, fun q hq => ?_⟩
  · exact absurd hf List.not_mem_nil
  · simp only [List.mem_cons, List.not_mem_nil, or_false] at hq
    subst hq
    show GDv (vw C h) 122 123 3554 ((0) + ((1) * ρ 0 + 0)) ((0) + 0)
    exact GD_no (by omega)
/-- empty44 -/
theorem lem_6_ok (hU : uqG G C) : lem_6.1.2.1 = [] ∧ lemOK (PRd G C D xs) G rgs lem_6 := by
  refine ⟨rfl, fun ρ h ha hT => ?_⟩
  obtain ⟨-, -, hF, hG, hH, hA, hP⟩ := ha
  refine ⟨_, List.mem_cons_self, ρ, fun _ _ => rfl, fun q hq => absurd hq List.not_mem_nil, trivial, fun f hf => ?_, fun q hq => absurd hq List.not_mem_nil, fun q hq => absurd hq List.not_mem_nil, fun q hq => absurd hq List.not_mem_nil, fun q hq => ?_⟩
  · exact absurd hf List.not_mem_nil
  · simp only [List.mem_cons, List.not_mem_nil, or_false] at hq
    subst hq
    show GDv (vw C h) 120 124 1777 ((0) + ((1) * ρ 0 + 0)) ((0) + 0)
    exact GD_no (by omega)
/-- empty45 -/
theorem lem_7_ok (hU : uqG G C) : lem_7.1.2.1 = [] ∧ lemOK (PRd G C D xs) G rgs lem_7 := by
  refine ⟨rfl, fun ρ h ha hT => ?_⟩
  obtain ⟨-, -, hF, hG, hH, hA, hP⟩ := ha
  refine ⟨_, List.mem_cons_self, ρ, fun _ _ => rfl, fun q hq => absurd hq List.not_mem_nil, trivial, fun f hf => ?_, fun q hq => absurd hq List.not_mem_nil, fun q hq => absurd hq List.not_mem_nil, fun q hq => absurd hq List.not_mem_nil, fun q hq => ?_⟩
  · exact absurd hf List.not_mem_nil
  · simp only [List.mem_cons, List.not_mem_nil, or_false] at hq
    subst hq
    show GDv (vw C h) 118 124 1777 ((0) + ((1) * ρ 0 + 0)) ((0) + 0)
    exact GD_no (by omega)
/-- empty43x -/
theorem lem_8_ok (hU : uqG G C) : lem_8.1.2.1 = [] ∧ lemOK (PRd G C D xs) G rgs lem_8 := by
  refine ⟨rfl, fun ρ h ha hT => ?_⟩
  obtain ⟨-, -, hF, hG, hH, hA, hP⟩ := ha
  refine ⟨_, List.mem_cons_self, ρ, fun _ _ => rfl, fun q hq => absurd hq List.not_mem_nil, trivial, fun f hf => ?_, fun q hq => absurd hq List.not_mem_nil, fun q hq => absurd hq List.not_mem_nil, fun q hq => absurd hq List.not_mem_nil, fun q hq => ?_⟩
  · exact absurd hf List.not_mem_nil
  · simp only [List.mem_cons, List.not_mem_nil, or_false] at hq
    subst hq
    show GDv (vw C h) 122 123 3554 ((0) + ((1777) * ρ 0 + 0)) ((0) + 0)
    exact GD_no (by omega)
/-- extWork -/
theorem lem_9_ok (hU : uqG G C) : lem_9.1.2.1 = [] ∧ lemOK (PRd G C D xs) G rgs lem_9 := by
  refine ⟨rfl, fun ρ h ha hT => ?_⟩
  obtain ⟨-, -, hF, hG, hH, hA, hP⟩ := ha
  have f0 : (0 : Int) ≤ ((0) + ((1) * ρ 3 + 0)) := hF _ (List.mem_of_getElem? (i := 0) rfl)
  have f1 : (0 : Int) ≤ ((1776) + ((-1) * ρ 3 + 0)) := hF _ (List.mem_of_getElem? (i := 1) rfl)
  have f2 : (0 : Int) ≤ ((0) + ((1) * ρ 2 + 0)) := hF _ (List.mem_of_getElem? (i := 2) rfl)
  have g1 : G (ρ 1).toNat = 119 := by
    have q := (hG _ (List.mem_of_getElem? (i := 1) rfl)).2
    rwa [show ev ρ (0, [(1, 1)]) = ρ 1 from ev_v] at q
  have g2 : G (ρ 4).toNat = 118 := by
    have q := (hG _ (List.mem_of_getElem? (i := 2) rfl)).2
    rwa [show ev ρ (0, [(4, 1)]) = ρ 4 from ev_v] at q
  have b0 : (0 : Int) ≤ ((0) + ((1777) * ρ 2 + ((1) * ρ 3 + 0))) := b_aA (hA _ (List.mem_of_getElem? (i := 0) rfl))
  have b1 : (0 : Int) ≤ ((0) + ((1) * ρ 3 + 0)) := b_aA (hA _ (List.mem_of_getElem? (i := 1) rfl))
  have a0 : vw C h 119 ((1777 * ρ 2 + ρ 3).toNat) = ρ 5 := vw_aA hU (hA _ (List.mem_of_getElem? (i := 0) rfl)) ev_v g1 (by omega) (by omega) (i := (1777 * ρ 2 + ρ 3).toNat) (show ((((1777 * ρ 2 + ρ 3).toNat : Nat)) : Int) = ((0) + ((1777) * ρ 2 + ((1) * ρ 3 + 0))) by omega) ev_v
  have a1 : vw C h 118 ((ρ 3).toNat) = ρ 5 := vw_aA hU (hA _ (List.mem_of_getElem? (i := 1) rfl)) ev_v g2 (by omega) (by omega) (i := (ρ 3).toNat) (show ((((ρ 3).toNat : Nat)) : Int) = ((0) + ((1) * ρ 3 + 0)) by omega) ev_v
  have p0 : GDv (vw C h) 118 123 1777 ((0) + 0) ((1777) + 0) := hP _ (List.mem_of_getElem? (i := 0) rfl)
  have p1 : GDv (vw C h) 119 123 1777 ((0) + 0) ((0) + ((1777) * ρ 2 + ((1) * ρ 3 + 0))) := hP _ (List.mem_of_getElem? (i := 1) rfl)
  refine ⟨_, List.mem_cons_self, ρ, fun _ _ => rfl, fun q hq => absurd hq List.not_mem_nil, trivial, fun f hf => ?_, fun q hq => absurd hq List.not_mem_nil, fun q hq => absurd hq List.not_mem_nil, fun q hq => absurd hq List.not_mem_nil, fun q hq => ?_⟩
  · exact absurd hf List.not_mem_nil
  · simp only [List.mem_cons, List.not_mem_nil, or_false] at hq
    subst hq
    show GDv (vw C h) 119 123 1777 ((0) + 0) ((1) + ((1777) * ρ 2 + ((1) * ρ 3 + 0)))
    exact GD_ext p1 p0 (i := (1777 * ρ 2 + ρ 3).toNat) (k := (ρ 3).toNat) (a0.trans a1.symm) (by omega) (by omega) (by omega) (by omega) (by omega) (by omega)
/-- extHist -/
theorem lem_10_ok (hU : uqG G C) : lem_10.1.2.1 = [] ∧ lemOK (PRd G C D xs) G rgs lem_10 := by
  refine ⟨rfl, fun ρ h ha hT => ?_⟩
  obtain ⟨-, -, hF, hG, hH, hA, hP⟩ := ha
  have f0 : (0 : Int) ≤ ((0) + ((1) * ρ 3 + 0)) := hF _ (List.mem_of_getElem? (i := 0) rfl)
  have f1 : (0 : Int) ≤ ((1776) + ((-1) * ρ 3 + 0)) := hF _ (List.mem_of_getElem? (i := 1) rfl)
  have f2 : (0 : Int) ≤ ((0) + ((1) * ρ 2 + 0)) := hF _ (List.mem_of_getElem? (i := 2) rfl)
  have g1 : G (ρ 1).toNat = 121 := by
    have q := (hG _ (List.mem_of_getElem? (i := 1) rfl)).2
    rwa [show ev ρ (0, [(1, 1)]) = ρ 1 from ev_v] at q
  have g2 : G (ρ 4).toNat = 118 := by
    have q := (hG _ (List.mem_of_getElem? (i := 2) rfl)).2
    rwa [show ev ρ (0, [(4, 1)]) = ρ 4 from ev_v] at q
  have b0 : (0 : Int) ≤ ((0) + ((1777) * ρ 2 + ((1) * ρ 3 + 0))) := b_aA (hA _ (List.mem_of_getElem? (i := 0) rfl))
  have b1 : (0 : Int) ≤ ((0) + ((1) * ρ 3 + 0)) := b_aA (hA _ (List.mem_of_getElem? (i := 1) rfl))
  have a0 : vw C h 121 ((1777 * ρ 2 + ρ 3).toNat) = ρ 5 := vw_aA hU (hA _ (List.mem_of_getElem? (i := 0) rfl)) ev_v g1 (by omega) (by omega) (i := (1777 * ρ 2 + ρ 3).toNat) (show ((((1777 * ρ 2 + ρ 3).toNat : Nat)) : Int) = ((0) + ((1777) * ρ 2 + ((1) * ρ 3 + 0))) by omega) ev_v
  have a1 : vw C h 118 ((ρ 3).toNat) = ρ 5 := vw_aA hU (hA _ (List.mem_of_getElem? (i := 1) rfl)) ev_v g2 (by omega) (by omega) (i := (ρ 3).toNat) (show ((((ρ 3).toNat : Nat)) : Int) = ((0) + ((1) * ρ 3 + 0)) by omega) ev_v
  have p0 : GDv (vw C h) 118 123 1777 ((0) + 0) ((1777) + 0) := hP _ (List.mem_of_getElem? (i := 0) rfl)
  have p1 : GDv (vw C h) 121 123 10662 ((0) + 0) ((0) + ((1777) * ρ 2 + ((1) * ρ 3 + 0))) := hP _ (List.mem_of_getElem? (i := 1) rfl)
  refine ⟨_, List.mem_cons_self, ρ, fun _ _ => rfl, fun q hq => absurd hq List.not_mem_nil, trivial, fun f hf => ?_, fun q hq => absurd hq List.not_mem_nil, fun q hq => absurd hq List.not_mem_nil, fun q hq => absurd hq List.not_mem_nil, fun q hq => ?_⟩
  · exact absurd hf List.not_mem_nil
  · simp only [List.mem_cons, List.not_mem_nil, or_false] at hq
    subst hq
    show GDv (vw C h) 121 123 10662 ((0) + 0) ((1) + ((1777) * ρ 2 + ((1) * ρ 3 + 0)))
    exact GD_ext p1 p0 (i := (1777 * ρ 2 + ρ 3).toNat) (k := (ρ 3).toNat) (a0.trans a1.symm) (by omega) (by omega) (by omega) (by omega) (by omega) (by omega)
/-- extStored -/
theorem lem_11_ok (hU : uqG G C) : lem_11.1.2.1 = [] ∧ lemOK (PRd G C D xs) G rgs lem_11 := by
  refine ⟨rfl, fun ρ h ha hT => ?_⟩
  obtain ⟨-, -, hF, hG, hH, hA, hP⟩ := ha
  have f0 : (0 : Int) ≤ ((0) + ((1) * ρ 3 + 0)) := hF _ (List.mem_of_getElem? (i := 0) rfl)
  have f1 : (0 : Int) ≤ ((1776) + ((-1) * ρ 3 + 0)) := hF _ (List.mem_of_getElem? (i := 1) rfl)
  have f2 : (0 : Int) ≤ ((0) + ((1) * ρ 2 + 0)) := hF _ (List.mem_of_getElem? (i := 2) rfl)
  have g1 : G (ρ 1).toNat = 122 := by
    have q := (hG _ (List.mem_of_getElem? (i := 1) rfl)).2
    rwa [show ev ρ (0, [(1, 1)]) = ρ 1 from ev_v] at q
  have g2 : G (ρ 4).toNat = 118 := by
    have q := (hG _ (List.mem_of_getElem? (i := 2) rfl)).2
    rwa [show ev ρ (0, [(4, 1)]) = ρ 4 from ev_v] at q
  have b0 : (0 : Int) ≤ ((0) + ((1777) * ρ 2 + ((1) * ρ 3 + 0))) := b_aA (hA _ (List.mem_of_getElem? (i := 0) rfl))
  have b1 : (0 : Int) ≤ ((0) + ((1) * ρ 3 + 0)) := b_aA (hA _ (List.mem_of_getElem? (i := 1) rfl))
  have a0 : vw C h 122 ((1777 * ρ 2 + ρ 3).toNat) = ρ 5 := vw_aA hU (hA _ (List.mem_of_getElem? (i := 0) rfl)) ev_v g1 (by omega) (by omega) (i := (1777 * ρ 2 + ρ 3).toNat) (show ((((1777 * ρ 2 + ρ 3).toNat : Nat)) : Int) = ((0) + ((1777) * ρ 2 + ((1) * ρ 3 + 0))) by omega) ev_v
  have a1 : vw C h 118 ((ρ 3).toNat) = ρ 5 := vw_aA hU (hA _ (List.mem_of_getElem? (i := 1) rfl)) ev_v g2 (by omega) (by omega) (i := (ρ 3).toNat) (show ((((ρ 3).toNat : Nat)) : Int) = ((0) + ((1) * ρ 3 + 0)) by omega) ev_v
  have p0 : GDv (vw C h) 118 123 1777 ((0) + 0) ((1777) + 0) := hP _ (List.mem_of_getElem? (i := 0) rfl)
  have p1 : GDv (vw C h) 122 123 3554 ((0) + ((1777) * ρ 2 + 0)) ((0) + ((1) * ρ 3 + 0)) := hP _ (List.mem_of_getElem? (i := 1) rfl)
  refine ⟨_, List.mem_cons_self, ρ, fun _ _ => rfl, fun q hq => absurd hq List.not_mem_nil, trivial, fun f hf => ?_, fun q hq => absurd hq List.not_mem_nil, fun q hq => absurd hq List.not_mem_nil, fun q hq => absurd hq List.not_mem_nil, fun q hq => ?_⟩
  · exact absurd hf List.not_mem_nil
  · simp only [List.mem_cons, List.not_mem_nil, or_false] at hq
    subst hq
    show GDv (vw C h) 122 123 3554 ((0) + ((1777) * ρ 2 + 0)) ((1) + ((1) * ρ 3 + 0))
    exact GD_ext p1 p0 (i := (1777 * ρ 2 + ρ 3).toNat) (k := (ρ 3).toNat) (a0.trans a1.symm) (by omega) (by omega) (by omega) (by omega) (by omega) (by omega)
/-- backHist -/
theorem lem_12_ok (hU : uqG G C) : lem_12.1.2.1 = [] ∧ lemOK (PRd G C D xs) G rgs lem_12 := by
  refine ⟨rfl, fun ρ h ha hT => ?_⟩
  obtain ⟨-, -, hF, hG, hH, hA, hP⟩ := ha
  have f0 : (0 : Int) ≤ ((0) + ((1) * ρ 3 + 0)) := hF _ (List.mem_of_getElem? (i := 0) rfl)
  have f1 : (0 : Int) ≤ ((1776) + ((-1) * ρ 3 + 0)) := hF _ (List.mem_of_getElem? (i := 1) rfl)
  have f2 : (0 : Int) ≤ ((0) + ((1) * ρ 2 + 0)) := hF _ (List.mem_of_getElem? (i := 2) rfl)
  have g1 : G (ρ 1).toNat = 121 := by
    have q := (hG _ (List.mem_of_getElem? (i := 1) rfl)).2
    rwa [show ev ρ (0, [(1, 1)]) = ρ 1 from ev_v] at q
  have g2 : G (ρ 4).toNat = 118 := by
    have q := (hG _ (List.mem_of_getElem? (i := 2) rfl)).2
    rwa [show ev ρ (0, [(4, 1)]) = ρ 4 from ev_v] at q
  have b0 : (0 : Int) ≤ ((0) + ((1777) * ρ 2 + ((1) * ρ 3 + 0))) := b_aA (hA _ (List.mem_of_getElem? (i := 0) rfl))
  have b1 : (0 : Int) ≤ ((0) + ((1) * ρ 3 + 0)) := b_aA (hA _ (List.mem_of_getElem? (i := 1) rfl))
  have a0 : vw C h 121 ((1777 * ρ 2 + ρ 3).toNat) = ρ 5 := vw_aA hU (hA _ (List.mem_of_getElem? (i := 0) rfl)) ev_v g1 (by omega) (by omega) (i := (1777 * ρ 2 + ρ 3).toNat) (show ((((1777 * ρ 2 + ρ 3).toNat : Nat)) : Int) = ((0) + ((1777) * ρ 2 + ((1) * ρ 3 + 0))) by omega) ev_v
  have a1 : vw C h 118 ((ρ 3).toNat) = ρ 5 := vw_aA hU (hA _ (List.mem_of_getElem? (i := 1) rfl)) ev_v g2 (by omega) (by omega) (i := (ρ 3).toNat) (show ((((ρ 3).toNat : Nat)) : Int) = ((0) + ((1) * ρ 3 + 0)) by omega) ev_v
  have p0 : GDv (vw C h) 121 123 10662 ((0) + ((1777) * ρ 2 + 0)) ((1777) + 0) := hP _ (List.mem_of_getElem? (i := 0) rfl)
  have p1 : GDv (vw C h) 118 123 1777 ((0) + 0) ((0) + ((1) * ρ 3 + 0)) := hP _ (List.mem_of_getElem? (i := 1) rfl)
  have h9 : (1777 * ρ 2 + ρ 3).toNat < 10662 := lt_aA hT (hA _ (List.mem_of_getElem? (i := 0) rfl)) ev_v g1 rfl (show ((((1777 * ρ 2 + ρ 3).toNat : Nat)) : Int) = ((0) + ((1777) * ρ 2 + ((1) * ρ 3 + 0))) by omega)
  refine ⟨_, List.mem_cons_self, ρ, fun _ _ => rfl, fun q hq => absurd hq List.not_mem_nil, trivial, fun f hf => ?_, fun q hq => absurd hq List.not_mem_nil, fun q hq => absurd hq List.not_mem_nil, fun q hq => absurd hq List.not_mem_nil, fun q hq => ?_⟩
  · exact absurd hf List.not_mem_nil
  · simp only [List.mem_cons, List.not_mem_nil, or_false] at hq
    subst hq
    show GDv (vw C h) 118 123 1777 ((0) + 0) ((1) + ((1) * ρ 3 + 0))
    exact GD_ext p1 p0 (i := (ρ 3).toNat) (k := (1777 * ρ 2 + ρ 3).toNat) (a1.trans a0.symm) (by omega) (by omega) (by omega) h9 (by omega) (by omega)
/-- backStored -/
theorem lem_13_ok (hU : uqG G C) : lem_13.1.2.1 = [] ∧ lemOK (PRd G C D xs) G rgs lem_13 := by
  refine ⟨rfl, fun ρ h ha hT => ?_⟩
  obtain ⟨-, -, hF, hG, hH, hA, hP⟩ := ha
  have f0 : (0 : Int) ≤ ((0) + ((1) * ρ 3 + 0)) := hF _ (List.mem_of_getElem? (i := 0) rfl)
  have f1 : (0 : Int) ≤ ((1776) + ((-1) * ρ 3 + 0)) := hF _ (List.mem_of_getElem? (i := 1) rfl)
  have f2 : (0 : Int) ≤ ((0) + ((1) * ρ 2 + 0)) := hF _ (List.mem_of_getElem? (i := 2) rfl)
  have g1 : G (ρ 1).toNat = 122 := by
    have q := (hG _ (List.mem_of_getElem? (i := 1) rfl)).2
    rwa [show ev ρ (0, [(1, 1)]) = ρ 1 from ev_v] at q
  have g2 : G (ρ 4).toNat = 118 := by
    have q := (hG _ (List.mem_of_getElem? (i := 2) rfl)).2
    rwa [show ev ρ (0, [(4, 1)]) = ρ 4 from ev_v] at q
  have b0 : (0 : Int) ≤ ((0) + ((1777) * ρ 2 + ((1) * ρ 3 + 0))) := b_aA (hA _ (List.mem_of_getElem? (i := 0) rfl))
  have b1 : (0 : Int) ≤ ((0) + ((1) * ρ 3 + 0)) := b_aA (hA _ (List.mem_of_getElem? (i := 1) rfl))
  have a0 : vw C h 122 ((1777 * ρ 2 + ρ 3).toNat) = ρ 5 := vw_aA hU (hA _ (List.mem_of_getElem? (i := 0) rfl)) ev_v g1 (by omega) (by omega) (i := (1777 * ρ 2 + ρ 3).toNat) (show ((((1777 * ρ 2 + ρ 3).toNat : Nat)) : Int) = ((0) + ((1777) * ρ 2 + ((1) * ρ 3 + 0))) by omega) ev_v
  have a1 : vw C h 118 ((ρ 3).toNat) = ρ 5 := vw_aA hU (hA _ (List.mem_of_getElem? (i := 1) rfl)) ev_v g2 (by omega) (by omega) (i := (ρ 3).toNat) (show ((((ρ 3).toNat : Nat)) : Int) = ((0) + ((1) * ρ 3 + 0)) by omega) ev_v
  have p0 : GDv (vw C h) 122 123 3554 ((0) + ((1777) * ρ 2 + 0)) ((1777) + 0) := hP _ (List.mem_of_getElem? (i := 0) rfl)
  have p1 : GDv (vw C h) 118 123 1777 ((0) + 0) ((0) + ((1) * ρ 3 + 0)) := hP _ (List.mem_of_getElem? (i := 1) rfl)
  have h9 : (1777 * ρ 2 + ρ 3).toNat < 3554 := lt_aA hT (hA _ (List.mem_of_getElem? (i := 0) rfl)) ev_v g1 rfl (show ((((1777 * ρ 2 + ρ 3).toNat : Nat)) : Int) = ((0) + ((1777) * ρ 2 + ((1) * ρ 3 + 0))) by omega)
  refine ⟨_, List.mem_cons_self, ρ, fun _ _ => rfl, fun q hq => absurd hq List.not_mem_nil, trivial, fun f hf => ?_, fun q hq => absurd hq List.not_mem_nil, fun q hq => absurd hq List.not_mem_nil, fun q hq => absurd hq List.not_mem_nil, fun q hq => ?_⟩
  · exact absurd hf List.not_mem_nil
  · simp only [List.mem_cons, List.not_mem_nil, or_false] at hq
    subst hq
    show GDv (vw C h) 118 123 1777 ((0) + 0) ((1) + ((1) * ρ 3 + 0))
    exact GD_ext p1 p0 (i := (ρ 3).toNat) (k := (1777 * ρ 2 + ρ 3).toNat) (a1.trans a0.symm) (by omega) (by omega) (by omega) h9 (by omega) (by omega)
/-- partHist -/
theorem lem_14_ok (hU : uqG G C) : lem_14.1.2.1 = [] ∧ lemOK (PRd G C D xs) G rgs lem_14 := by
  refine ⟨rfl, fun ρ h ha hT => ?_⟩
  obtain ⟨-, -, hF, hG, hH, hA, hP⟩ := ha
  have f0 : (0 : Int) ≤ ((0) + ((1) * ρ 0 + 0)) := hF _ (List.mem_of_getElem? (i := 0) rfl)
  have p0 : GDv (vw C h) 121 123 10662 ((0) + 0) ((1777) + ((1777) * ρ 0 + 0)) := hP _ (List.mem_of_getElem? (i := 0) rfl)
  refine ⟨_, List.mem_cons_self, ρ, fun _ _ => rfl, fun q hq => absurd hq List.not_mem_nil, trivial, fun f hf => ?_, fun q hq => absurd hq List.not_mem_nil, fun q hq => absurd hq List.not_mem_nil, fun q hq => absurd hq List.not_mem_nil, fun q hq => ?_⟩
  · exact absurd hf List.not_mem_nil
  · simp only [List.mem_cons, List.not_mem_nil, or_false] at hq
    rcases hq with rfl | rfl
    · show GDv (vw C h) 121 123 10662 ((0) + ((1777) * ρ 0 + 0)) ((1777) + 0)
      exact GD_sub p0 (by omega) (by omega)
    · show GDv (vw C h) 121 123 10662 ((0) + 0) ((0) + ((1777) * ρ 0 + 0))
      exact GD_sub p0 (by omega) (by omega)
/-- cutHist -/
theorem lem_15_ok (hU : uqG G C) : lem_15.1.2.1 = [] ∧ lemOK (PRd G C D xs) G rgs lem_15 := by
  refine ⟨rfl, fun ρ h ha hT => ?_⟩
  obtain ⟨-, -, hF, hG, hH, hA, hP⟩ := ha
  have p0 : GDv (vw C h) 121 123 10662 ((0) + 0) ((10662) + 0) := hP _ (List.mem_of_getElem? (i := 0) rfl)
  refine ⟨_, List.mem_cons_self, ρ, fun _ _ => rfl, fun q hq => absurd hq List.not_mem_nil, trivial, fun f hf => ?_, fun q hq => absurd hq List.not_mem_nil, fun q hq => absurd hq List.not_mem_nil, fun q hq => absurd hq List.not_mem_nil, fun q hq => ?_⟩
  · exact absurd hf List.not_mem_nil
  · simp only [List.mem_cons, List.not_mem_nil, or_false] at hq
    rcases hq with rfl | rfl
    · show GDv (vw C h) 121 123 10662 ((0) + 0) ((0) + 0)
      exact GD_no (by omega)
    · show GDv (vw C h) 121 123 10662 ((1777) + 0) ((8885) + 0)
      exact GD_sub p0 (by omega) (by omega)
/-- shiftHist -/
theorem lem_16_ok (hU : uqG G C) : lem_16.1.2.1 = [] ∧ lemOK (PRd G C D xs) G rgs lem_16 := by
  refine ⟨rfl, fun ρ h ha hT => ?_⟩
  obtain ⟨-, -, hF, hG, hH, hA, hP⟩ := ha
  have f0 : (0 : Int) ≤ ((-1777) + ((1) * ρ 1 + 0)) := hF _ (List.mem_of_getElem? (i := 0) rfl)
  have f1 : (0 : Int) ≤ ((10661) + ((-1) * ρ 1 + 0)) := hF _ (List.mem_of_getElem? (i := 1) rfl)
  have g1 : G (ρ 2).toNat = 121 := by
    have q := (hG _ (List.mem_of_getElem? (i := 1) rfl)).2
    rwa [show ev ρ (0, [(2, 1)]) = ρ 2 from ev_v] at q
  have b0 : (0 : Int) ≤ ((-1777) + ((1) * ρ 1 + 0)) := b_aA (hA _ (List.mem_of_getElem? (i := 0) rfl))
  have b1 : (0 : Int) ≤ ((0) + ((1) * ρ 1 + 0)) := b_aA (hA _ (List.mem_of_getElem? (i := 1) rfl))
  have a0 : vw C h 121 ((ρ 1 + (-1777)).toNat) = ρ 3 := vw_aA hU (hA _ (List.mem_of_getElem? (i := 0) rfl)) ev_v g1 (by omega) (by omega) (i := (ρ 1 + (-1777)).toNat) (show ((((ρ 1 + (-1777)).toNat : Nat)) : Int) = ((-1777) + ((1) * ρ 1 + 0)) by omega) ev_v
  have a1 : vw C h 121 ((ρ 1).toNat) = ρ 3 := vw_aA hU (hA _ (List.mem_of_getElem? (i := 1) rfl)) ev_v g1 (by omega) (by omega) (i := (ρ 1).toNat) (show ((((ρ 1).toNat : Nat)) : Int) = ((0) + ((1) * ρ 1 + 0)) by omega) ev_v
  have p0 : GDv (vw C h) 121 123 10662 ((0) + 0) ((-1777) + ((1) * ρ 1 + 0)) := hP _ (List.mem_of_getElem? (i := 0) rfl)
  have p1 : GDv (vw C h) 121 123 10662 ((0) + ((1) * ρ 1 + 0)) ((10662) + ((-1) * ρ 1 + 0)) := hP _ (List.mem_of_getElem? (i := 1) rfl)
  refine ⟨_, List.mem_cons_self, ρ, fun _ _ => rfl, fun q hq => absurd hq List.not_mem_nil, trivial, fun f hf => ?_, fun q hq => absurd hq List.not_mem_nil, fun q hq => absurd hq List.not_mem_nil, fun q hq => absurd hq List.not_mem_nil, fun q hq => ?_⟩
  · exact absurd hf List.not_mem_nil
  · simp only [List.mem_cons, List.not_mem_nil, or_false] at hq
    rcases hq with rfl | rfl
    · show GDv (vw C h) 121 123 10662 ((0) + 0) ((-1776) + ((1) * ρ 1 + 0))
      exact GD_ext p0 p1 (i := (ρ 1 + (-1777)).toNat) (k := (ρ 1).toNat) (a0.trans a1.symm) (by omega) (by omega) (by omega) (by omega) (by omega) (by omega)
    · show GDv (vw C h) 121 123 10662 ((1) + ((1) * ρ 1 + 0)) ((10661) + ((-1) * ρ 1 + 0))
      exact GD_sub p1 (by omega) (by omega)
/-- everyNow -/
theorem lem_17_ok (hU : uqG G C) : lem_17.1.2.1 = [] ∧ lemOK (PRd G C D xs) G rgs lem_17 := by
  refine ⟨rfl, fun ρ h ha hT => ?_⟩
  obtain ⟨-, -, hF, hG, hH, hA, hP⟩ := ha
  have f0 : (0 : Int) ≤ ((0) + ((1) * ρ 2 + 0)) := hF _ (List.mem_of_getElem? (i := 0) rfl)
  have f1 : (0 : Int) ≤ ((7) + ((-1) * ρ 2 + 0)) := hF _ (List.mem_of_getElem? (i := 1) rfl)
  have f2 : (0 : Int) ≤ ((5) + ((-1) * ρ 5 + 0)) := hF _ (List.mem_of_getElem? (i := 2) rfl)
  have f3 : (0 : Int) ≤ ((0) + ((-5) * ρ 2 + ((1) * ρ 3 + 0))) := hF _ (List.mem_of_getElem? (i := 3) rfl)
  have f4 : (0 : Int) ≤ ((-1) + ((5) * ρ 2 + ((-1) * ρ 3 + ((1) * ρ 5 + 0)))) := hF _ (List.mem_of_getElem? (i := 4) rfl)
  have g1 : G (ρ 1).toNat = 118 := by
    have q := (hG _ (List.mem_of_getElem? (i := 1) rfl)).2
    rwa [show ev ρ (0, [(1, 1)]) = ρ 1 from ev_v] at q
  have g2 : G (ρ 4).toNat = 123 := by
    have q := (hG _ (List.mem_of_getElem? (i := 2) rfl)).2
    rwa [show ev ρ (0, [(4, 1)]) = ρ 4 from ev_v] at q
  have b0 : (0 : Int) ≤ ((24) + ((1) * ρ 2 + 0)) := b_aA (hA _ (List.mem_of_getElem? (i := 0) rfl))
  have b1 : (0 : Int) ≤ ((217) + ((1) * ρ 3 + 0)) := b_aA (hA _ (List.mem_of_getElem? (i := 1) rfl))
  have a0 : vw C h 123 (24 + (ρ 2).toNat) = ρ 5 := vw_aA hU (hA _ (List.mem_of_getElem? (i := 0) rfl)) ev_v g2 (by omega) (by omega) (i := 24 + (ρ 2).toNat) (show (((24 + (ρ 2).toNat : Nat)) : Int) = ((24) + ((1) * ρ 2 + 0)) by omega) ev_v
  have a1 : vw C h 118 (217 + (ρ 3).toNat) = ρ 6 := vw_aA hU (hA _ (List.mem_of_getElem? (i := 1) rfl)) ev_v g1 (by omega) (by omega) (i := 217 + (ρ 3).toNat) (show (((217 + (ρ 3).toNat : Nat)) : Int) = ((217) + ((1) * ρ 3 + 0)) by omega) ev_v
  have p0 : GDv (vw C h) 118 123 1777 ((0) + 0) ((1777) + 0) := hP _ (List.mem_of_getElem? (i := 0) rfl)
  have hv := GD_every p0 (m := (ρ 2).toNat) (j := (ρ 3 - 5 * ρ 2).toNat) (i := 217 + (ρ 3).toNat) (by omega) (by omega) (by omega) (by omega) (by omega) (by omega) a0 (by omega) a1
  refine ⟨_, List.mem_cons_self, ρ, fun _ _ => rfl, fun q hq => absurd hq List.not_mem_nil, trivial, fun f hf => ?_, fun q hq => absurd hq List.not_mem_nil, fun q hq => absurd hq List.not_mem_nil, fun q hq => absurd hq List.not_mem_nil, fun q hq => ?_⟩
  · simp only [List.mem_cons, List.not_mem_nil, or_false] at hf
    subst hf
    show (0 : Int) ≤ ((-1) + ((1) * ρ 6 + 0))
    omega
  · exact absurd hq List.not_mem_nil
/-- everyWork -/
theorem lem_18_ok (hU : uqG G C) : lem_18.1.2.1 = [] ∧ lemOK (PRd G C D xs) G rgs lem_18 := by
  refine ⟨rfl, fun ρ h ha hT => ?_⟩
  obtain ⟨-, -, hF, hG, hH, hA, hP⟩ := ha
  have f0 : (0 : Int) ≤ ((0) + ((1) * ρ 2 + 0)) := hF _ (List.mem_of_getElem? (i := 0) rfl)
  have f1 : (0 : Int) ≤ ((7) + ((-1) * ρ 2 + 0)) := hF _ (List.mem_of_getElem? (i := 1) rfl)
  have f2 : (0 : Int) ≤ ((5) + ((-1) * ρ 5 + 0)) := hF _ (List.mem_of_getElem? (i := 2) rfl)
  have f3 : (0 : Int) ≤ ((0) + ((-5) * ρ 2 + ((1) * ρ 3 + 0))) := hF _ (List.mem_of_getElem? (i := 3) rfl)
  have f4 : (0 : Int) ≤ ((-1) + ((5) * ρ 2 + ((-1) * ρ 3 + ((1) * ρ 5 + 0)))) := hF _ (List.mem_of_getElem? (i := 4) rfl)
  have g1 : G (ρ 1).toNat = 119 := by
    have q := (hG _ (List.mem_of_getElem? (i := 1) rfl)).2
    rwa [show ev ρ (0, [(1, 1)]) = ρ 1 from ev_v] at q
  have g2 : G (ρ 4).toNat = 123 := by
    have q := (hG _ (List.mem_of_getElem? (i := 2) rfl)).2
    rwa [show ev ρ (0, [(4, 1)]) = ρ 4 from ev_v] at q
  have b0 : (0 : Int) ≤ ((24) + ((1) * ρ 2 + 0)) := b_aA (hA _ (List.mem_of_getElem? (i := 0) rfl))
  have b1 : (0 : Int) ≤ ((217) + ((1) * ρ 3 + 0)) := b_aA (hA _ (List.mem_of_getElem? (i := 1) rfl))
  have a0 : vw C h 123 (24 + (ρ 2).toNat) = ρ 5 := vw_aA hU (hA _ (List.mem_of_getElem? (i := 0) rfl)) ev_v g2 (by omega) (by omega) (i := 24 + (ρ 2).toNat) (show (((24 + (ρ 2).toNat : Nat)) : Int) = ((24) + ((1) * ρ 2 + 0)) by omega) ev_v
  have a1 : vw C h 119 (217 + (ρ 3).toNat) = ρ 6 := vw_aA hU (hA _ (List.mem_of_getElem? (i := 1) rfl)) ev_v g1 (by omega) (by omega) (i := 217 + (ρ 3).toNat) (show (((217 + (ρ 3).toNat : Nat)) : Int) = ((217) + ((1) * ρ 3 + 0)) by omega) ev_v
  have p0 : GDv (vw C h) 119 123 1777 ((0) + 0) ((1777) + 0) := hP _ (List.mem_of_getElem? (i := 0) rfl)
  have hv := GD_every p0 (m := (ρ 2).toNat) (j := (ρ 3 - 5 * ρ 2).toNat) (i := 217 + (ρ 3).toNat) (by omega) (by omega) (by omega) (by omega) (by omega) (by omega) a0 (by omega) a1
  refine ⟨_, List.mem_cons_self, ρ, fun _ _ => rfl, fun q hq => absurd hq List.not_mem_nil, trivial, fun f hf => ?_, fun q hq => absurd hq List.not_mem_nil, fun q hq => absurd hq List.not_mem_nil, fun q hq => absurd hq List.not_mem_nil, fun q hq => ?_⟩
  · simp only [List.mem_cons, List.not_mem_nil, or_false] at hf
    subst hf
    show (0 : Int) ≤ ((-1) + ((1) * ρ 6 + 0))
    omega
  · exact absurd hq List.not_mem_nil
/-- saveOther -/
theorem lem_19_ok (hU : uqG G C) : lem_19.1.2.1 = [] ∧ lemOK (PRd G C D xs) G rgs lem_19 := by
  refine ⟨rfl, fun ρ h ha hT => ?_⟩
  obtain ⟨-, -, hF, hG, hH, hA, hP⟩ := ha
  have f0 : (0 : Int) ≤ ((0) + ((1) * ρ 0 + 0)) := hF _ (List.mem_of_getElem? (i := 0) rfl)
  have f1 : (0 : Int) ≤ ((1) + ((-1) * ρ 0 + 0)) := hF _ (List.mem_of_getElem? (i := 1) rfl)
  have p0 : P50 (vw C h) := hP _ (List.mem_of_getElem? (i := 0) rfl)
  refine ⟨_, List.mem_cons_self, ρ, fun _ _ => rfl, fun q hq => absurd hq List.not_mem_nil, trivial, fun f hf => ?_, fun q hq => absurd hq List.not_mem_nil, fun q hq => absurd hq List.not_mem_nil, fun q hq => absurd hq List.not_mem_nil, fun q hq => ?_⟩
  · exact absurd hf List.not_mem_nil
  · simp only [List.mem_cons, List.not_mem_nil, or_false] at hq
    subst hq
    show P49 (vw C h) ((0) + ((1) * ρ 0 + 0))
    exact fun b hb _ h1 => p0 b hb h1
/-- saveDone -/
theorem lem_20_ok (hU : uqG G C) : lem_20.1.2.1 = [] ∧ lemOK (PRd G C D xs) G rgs lem_20 := by
  refine ⟨rfl, fun ρ h ha hT => ?_⟩
  obtain ⟨-, -, hF, hG, hH, hA, hP⟩ := ha
  have f0 : (0 : Int) ≤ ((0) + ((1) * ρ 0 + 0)) := hF _ (List.mem_of_getElem? (i := 0) rfl)
  have f1 : (0 : Int) ≤ ((1) + ((-1) * ρ 0 + 0)) := hF _ (List.mem_of_getElem? (i := 1) rfl)
  have p0 : P49 (vw C h) ((0) + ((1) * ρ 0 + 0)) := hP _ (List.mem_of_getElem? (i := 0) rfl)
  have p1 : GDv (vw C h) 122 123 3554 ((0) + ((1777) * ρ 0 + 0)) ((1777) + 0) := hP _ (List.mem_of_getElem? (i := 1) rfl)
  refine ⟨_, List.mem_cons_self, ρ, fun _ _ => rfl, fun q hq => absurd hq List.not_mem_nil, trivial, fun f hf => ?_, fun q hq => absurd hq List.not_mem_nil, fun q hq => absurd hq List.not_mem_nil, fun q hq => absurd hq List.not_mem_nil, fun q hq => ?_⟩
  · exact absurd hf List.not_mem_nil
  · simp only [List.mem_cons, List.not_mem_nil, or_false] at hq
    subst hq
    show P50 (vw C h)
    exact fun b hb h1 => by
      by_cases hbr : (b : Int) = ρ 0
      · have q := p1
        rw [show ((0 : Int) + (1777 * ρ 0 + 0)) = 1777 * (b : Int) by omega] at q
        exact q
      · exact p0 b hb (by omega) h1
/-- storedIs -/
theorem lem_21_ok (hU : uqG G C) : lem_21.1.2.1 = [] ∧ lemOK (PRd G C D xs) G rgs lem_21 := by
  refine ⟨rfl, fun ρ h ha hT => ?_⟩
  obtain ⟨-, -, hF, hG, hH, hA, hP⟩ := ha
  have f0 : (0 : Int) ≤ ((0) + ((1) * ρ 1 + 0)) := hF _ (List.mem_of_getElem? (i := 0) rfl)
  have f1 : (0 : Int) ≤ ((1) + ((-1) * ρ 1 + 0)) := hF _ (List.mem_of_getElem? (i := 1) rfl)
  have f2 : (0 : Int) ≤ ((-1) + ((1) * ρ 3 + 0)) := hF _ (List.mem_of_getElem? (i := 2) rfl)
  have g1 : G (ρ 2).toNat = 135 := by
    have q := (hG _ (List.mem_of_getElem? (i := 1) rfl)).2
    rwa [show ev ρ (0, [(2, 1)]) = ρ 2 from ev_v] at q
  have b0 : (0 : Int) ≤ ((0) + ((1) * ρ 1 + 0)) := b_aA (hA _ (List.mem_of_getElem? (i := 0) rfl))
  have a0 : vw C h 135 ((ρ 1).toNat) = ρ 3 := vw_aA hU (hA _ (List.mem_of_getElem? (i := 0) rfl)) ev_v g1 (by omega) (by omega) (i := (ρ 1).toNat) (show ((((ρ 1).toNat : Nat)) : Int) = ((0) + ((1) * ρ 1 + 0)) by omega) ev_v
  have p0 : P50 (vw C h) := hP _ (List.mem_of_getElem? (i := 0) rfl)
  refine ⟨_, List.mem_cons_self, ρ, fun _ _ => rfl, fun q hq => absurd hq List.not_mem_nil, trivial, fun f hf => ?_, fun q hq => absurd hq List.not_mem_nil, fun q hq => absurd hq List.not_mem_nil, fun q hq => absurd hq List.not_mem_nil, fun q hq => ?_⟩
  · exact absurd hf List.not_mem_nil
  · simp only [List.mem_cons, List.not_mem_nil, or_false] at hq
    subst hq
    show GDv (vw C h) 122 123 3554 ((0) + ((1777) * ρ 1 + 0)) ((1777) + 0)
    rw [show ((0 : Int) + (1777 * ρ 1 + 0)) = 1777 * (((ρ 1).toNat : Nat) : Int) by omega]
    exact p0 (ρ 1).toNat (by omega) (by omega)
/-- noneStored -/
theorem lem_22_ok (hU : uqG G C) : lem_22.1.2.1 = [] ∧ lemOK (PRd G C D xs) G rgs lem_22 := by
  refine ⟨rfl, fun ρ h ha hT => ?_⟩
  obtain ⟨-, -, hF, hG, hH, hA, hP⟩ := ha
  have f0 : (0 : Int) ≤ ((0) + ((-1) * ρ 2 + 0)) := hF _ (List.mem_of_getElem? (i := 0) rfl)
  have f1 : (0 : Int) ≤ ((0) + ((-1) * ρ 3 + 0)) := hF _ (List.mem_of_getElem? (i := 1) rfl)
  have g1 : G (ρ 1).toNat = 135 := by
    have q := (hG _ (List.mem_of_getElem? (i := 1) rfl)).2
    rwa [show ev ρ (0, [(1, 1)]) = ρ 1 from ev_v] at q
  have b0 : (0 : Int) ≤ ((0) + 0) := b_aA (hA _ (List.mem_of_getElem? (i := 0) rfl))
  have b1 : (0 : Int) ≤ ((1) + 0) := b_aA (hA _ (List.mem_of_getElem? (i := 1) rfl))
  have a0 : vw C h 135 (0) = ρ 2 := vw_aA hU (hA _ (List.mem_of_getElem? (i := 0) rfl)) ev_v g1 (by omega) (by omega) (i := 0) (show (((0 : Nat)) : Int) = ((0) + 0) by omega) ev_v
  have a1 : vw C h 135 (1) = ρ 3 := vw_aA hU (hA _ (List.mem_of_getElem? (i := 1) rfl)) ev_v g1 (by omega) (by omega) (i := 1) (show (((1 : Nat)) : Int) = ((1) + 0) by omega) ev_v
  refine ⟨_, List.mem_cons_self, ρ, fun _ _ => rfl, fun q hq => absurd hq List.not_mem_nil, trivial, fun f hf => ?_, fun q hq => absurd hq List.not_mem_nil, fun q hq => absurd hq List.not_mem_nil, fun q hq => absurd hq List.not_mem_nil, fun q hq => ?_⟩
  · exact absurd hf List.not_mem_nil
  · simp only [List.mem_cons, List.not_mem_nil, or_false] at hq
    subst hq
    show P50 (vw C h)
    exact fun b hb h1 => by
      exfalso
      have : b = 0 ∨ b = 1 := by omega
      rcases this with rfl | rfl
      · omega
      · omega
/-- zeroExt -/
theorem lem_23_ok (hU : uqG G C) : lem_23.1.2.1 = [] ∧ lemOK (PRd G C D xs) G rgs lem_23 := by
  refine ⟨rfl, fun ρ h ha hT => ?_⟩
  obtain ⟨-, -, hF, hG, hH, hA, hP⟩ := ha
  have f0 : (0 : Int) ≤ ((0) + ((1) * ρ 1 + 0)) := hF _ (List.mem_of_getElem? (i := 0) rfl)
  have f1 : (0 : Int) ≤ ((54) + ((-1) * ρ 1 + 0)) := hF _ (List.mem_of_getElem? (i := 1) rfl)
  have f2 : (0 : Int) ≤ ((0) + ((1) * ρ 3 + 0)) := hF _ (List.mem_of_getElem? (i := 2) rfl)
  have f3 : (0 : Int) ≤ ((0) + ((-1) * ρ 3 + 0)) := hF _ (List.mem_of_getElem? (i := 3) rfl)
  have g1 : G (ρ 2).toNat = 124 := by
    have q := (hG _ (List.mem_of_getElem? (i := 1) rfl)).2
    rwa [show ev ρ (0, [(2, 1)]) = ρ 2 from ev_v] at q
  have b0 : (0 : Int) ≤ ((0) + ((1) * ρ 1 + 0)) := b_aA (hA _ (List.mem_of_getElem? (i := 0) rfl))
  have a0 : vw C h 124 ((ρ 1).toNat) = ρ 3 := vw_aA hU (hA _ (List.mem_of_getElem? (i := 0) rfl)) ev_v g1 (by omega) (by omega) (i := (ρ 1).toNat) (show ((((ρ 1).toNat : Nat)) : Int) = ((0) + ((1) * ρ 1 + 0)) by omega) ev_v
  have p0 : P47 (vw C h) ((0) + ((1) * ρ 1 + 0)) := hP _ (List.mem_of_getElem? (i := 0) rfl)
  refine ⟨_, List.mem_cons_self, ρ, fun _ _ => rfl, fun q hq => absurd hq List.not_mem_nil, trivial, fun f hf => ?_, fun q hq => absurd hq List.not_mem_nil, fun q hq => absurd hq List.not_mem_nil, fun q hq => absurd hq List.not_mem_nil, fun q hq => ?_⟩
  · exact absurd hf List.not_mem_nil
  · simp only [List.mem_cons, List.not_mem_nil, or_false] at hq
    subst hq
    show P47 (vw C h) ((1) + ((1) * ρ 1 + 0))
    exact fun i i1 i5 => by
      by_cases hi : i = (ρ 1).toNat
      · subst hi
        rw [a0]
        omega
      · exact p0 i (by omega) i5
/-- empty47 -/
theorem lem_24_ok (hU : uqG G C) : lem_24.1.2.1 = [] ∧ lemOK (PRd G C D xs) G rgs lem_24 := by
  refine ⟨rfl, fun ρ h ha hT => ?_⟩
  obtain ⟨-, -, hF, hG, hH, hA, hP⟩ := ha
  refine ⟨_, List.mem_cons_self, ρ, fun _ _ => rfl, fun q hq => absurd hq List.not_mem_nil, trivial, fun f hf => ?_, fun q hq => absurd hq List.not_mem_nil, fun q hq => absurd hq List.not_mem_nil, fun q hq => absurd hq List.not_mem_nil, fun q hq => ?_⟩
  · exact absurd hf List.not_mem_nil
  · simp only [List.mem_cons, List.not_mem_nil, or_false] at hq
    subst hq
    show P47 (vw C h) ((0) + 0)
    exact fun i i1 i5 => by omega
/-- zeroDone -/
theorem lem_25_ok (hU : uqG G C) : lem_25.1.2.1 = [] ∧ lemOK (PRd G C D xs) G rgs lem_25 := by
  refine ⟨rfl, fun ρ h ha hT => ?_⟩
  obtain ⟨-, -, hF, hG, hH, hA, hP⟩ := ha
  have p0 : P47 (vw C h) ((55) + 0) := hP _ (List.mem_of_getElem? (i := 0) rfl)
  have p1 : P53 (vw C h) ((1777) + 0) := hP _ (List.mem_of_getElem? (i := 1) rfl)
  refine ⟨_, List.mem_cons_self, ρ, fun _ _ => rfl, fun q hq => absurd hq List.not_mem_nil, trivial, fun f hf => ?_, fun q hq => absurd hq List.not_mem_nil, fun q hq => absurd hq List.not_mem_nil, fun q hq => absurd hq List.not_mem_nil, fun q hq => ?_⟩
  · exact absurd hf List.not_mem_nil
  · simp only [List.mem_cons, List.not_mem_nil, or_false] at hq
    subst hq
    show GDv (vw C h) 120 124 1777 ((0) + 0) ((1777) + 0)
    exact fun i _ _ hi => ⟨fun m j m1 j1 e hc => by
      have q := p0 (24 + m) (by omega) (by omega)
      dsimp only at hc
      omega, fun x y => by
      rw [Nat.mod_eq_of_lt hi] at x y
      have q := p1 i x y (by omega)
      omega⟩
/-- empty53 -/
theorem lem_26_ok (hU : uqG G C) : lem_26.1.2.1 = [] ∧ lemOK (PRd G C D xs) G rgs lem_26 := by
  refine ⟨rfl, fun ρ h ha hT => ?_⟩
  obtain ⟨-, -, hF, hG, hH, hA, hP⟩ := ha
  refine ⟨_, List.mem_cons_self, ρ, fun _ _ => rfl, fun q hq => absurd hq List.not_mem_nil, trivial, fun f hf => ?_, fun q hq => absurd hq List.not_mem_nil, fun q hq => absurd hq List.not_mem_nil, fun q hq => absurd hq List.not_mem_nil, fun q hq => ?_⟩
  · exact absurd hf List.not_mem_nil
  · simp only [List.mem_cons, List.not_mem_nil, or_false] at hq
    subst hq
    show P53 (vw C h) ((0) + 0)
    exact fun i _ _ h3 => by omega
/-- zeroD -/
theorem lem_27_ok (hU : uqG G C) : lem_27.1.2.1 = [] ∧ lemOK (PRd G C D xs) G rgs lem_27 := by
  refine ⟨rfl, fun ρ h ha hT => ?_⟩
  obtain ⟨-, -, hF, hG, hH, hA, hP⟩ := ha
  have f0 : (0 : Int) ≤ ((0) + ((1) * ρ 1 + 0)) := hF _ (List.mem_of_getElem? (i := 0) rfl)
  have f1 : (0 : Int) ≤ ((1776) + ((-1) * ρ 1 + 0)) := hF _ (List.mem_of_getElem? (i := 1) rfl)
  have f2 : (0 : Int) ≤ ((0) + ((1) * ρ 3 + 0)) := hF _ (List.mem_of_getElem? (i := 2) rfl)
  have f3 : (0 : Int) ≤ ((0) + ((-1) * ρ 3 + 0)) := hF _ (List.mem_of_getElem? (i := 3) rfl)
  have g1 : G (ρ 2).toNat = 120 := by
    have q := (hG _ (List.mem_of_getElem? (i := 1) rfl)).2
    rwa [show ev ρ (0, [(2, 1)]) = ρ 2 from ev_v] at q
  have b0 : (0 : Int) ≤ ((0) + ((1) * ρ 1 + 0)) := b_aA (hA _ (List.mem_of_getElem? (i := 0) rfl))
  have a0 : vw C h 120 ((ρ 1).toNat) = ρ 3 := vw_aA hU (hA _ (List.mem_of_getElem? (i := 0) rfl)) ev_v g1 (by omega) (by omega) (i := (ρ 1).toNat) (show ((((ρ 1).toNat : Nat)) : Int) = ((0) + ((1) * ρ 1 + 0)) by omega) ev_v
  have p0 : P53 (vw C h) ((0) + ((1) * ρ 1 + 0)) := hP _ (List.mem_of_getElem? (i := 0) rfl)
  refine ⟨_, List.mem_cons_self, ρ, fun _ _ => rfl, fun q hq => absurd hq List.not_mem_nil, trivial, fun f hf => ?_, fun q hq => absurd hq List.not_mem_nil, fun q hq => absurd hq List.not_mem_nil, fun q hq => absurd hq List.not_mem_nil, fun q hq => ?_⟩
  · exact absurd hf List.not_mem_nil
  · simp only [List.mem_cons, List.not_mem_nil, or_false] at hq
    subst hq
    show P53 (vw C h) ((1) + ((1) * ρ 1 + 0))
    exact fun i i1 i2 i3 => by
      by_cases hi : i = (ρ 1).toNat
      · subst hi
        rw [a0]
        omega
      · exact p0 i i1 i2 (by omega)
/-- stockSplit -/
theorem lem_28_ok (hU : uqG G C) : lem_28.1.2.1 = [] ∧ lemOK (PRd G C D xs) G rgs lem_28 := by
  refine ⟨rfl, fun ρ h ha hT => ?_⟩
  obtain ⟨-, -, hF, hG, hH, hA, hP⟩ := ha
  have f0 : (0 : Int) ≤ ((0) + ((1) * ρ 0 + 0)) := hF _ (List.mem_of_getElem? (i := 0) rfl)
  have f1 : (0 : Int) ≤ ((39) + ((-1) * ρ 0 + 0)) := hF _ (List.mem_of_getElem? (i := 1) rfl)
  have p0 : GDv (vw C h) 120 124 1777 ((0) + 0) ((1777) + 0) := hP _ (List.mem_of_getElem? (i := 0) rfl)
  refine ⟨_, List.mem_cons_self, ρ, fun _ _ => rfl, fun q hq => absurd hq List.not_mem_nil, trivial, fun f hf => ?_, fun q hq => absurd hq List.not_mem_nil, fun q hq => absurd hq List.not_mem_nil, fun q hq => absurd hq List.not_mem_nil, fun q hq => ?_⟩
  · exact absurd hf List.not_mem_nil
  · simp only [List.mem_cons, List.not_mem_nil, or_false] at hq
    rcases hq with rfl | rfl
    · show GDv (vw C h) 120 124 1777 ((0) + 0) ((137) + ((1) * ρ 0 + 0))
      exact GD_sub p0 (by omega) (by omega)
    · show GDv (vw C h) 120 124 1777 ((138) + ((1) * ρ 0 + 0)) ((1639) + ((-1) * ρ 0 + 0))
      exact GD_sub p0 (by omega) (by omega)
/-- stockJoin -/
theorem lem_29_ok (hU : uqG G C) : lem_29.1.2.1 = [] ∧ lemOK (PRd G C D xs) G rgs lem_29 := by
  refine ⟨rfl, fun ρ h ha hT => ?_⟩
  obtain ⟨-, -, hF, hG, hH, hA, hP⟩ := ha
  have f0 : (0 : Int) ≤ ((0) + ((1) * ρ 3 + 0)) := hF _ (List.mem_of_getElem? (i := 0) rfl)
  have f1 : (0 : Int) ≤ ((0) + ((1) * ρ 1 + 0)) := hF _ (List.mem_of_getElem? (i := 1) rfl)
  have f2 : (0 : Int) ≤ ((39) + ((-1) * ρ 1 + 0)) := hF _ (List.mem_of_getElem? (i := 2) rfl)
  have g1 : G (ρ 2).toNat = 120 := by
    have q := (hG _ (List.mem_of_getElem? (i := 1) rfl)).2
    rwa [show ev ρ (0, [(2, 1)]) = ρ 2 from ev_v] at q
  have b0 : (0 : Int) ≤ ((137) + ((1) * ρ 1 + 0)) := b_aA (hA _ (List.mem_of_getElem? (i := 0) rfl))
  have a0 : vw C h 120 (137 + (ρ 1).toNat) = ρ 3 := vw_aA hU (hA _ (List.mem_of_getElem? (i := 0) rfl)) ev_v g1 (by omega) (by omega) (i := 137 + (ρ 1).toNat) (show (((137 + (ρ 1).toNat : Nat)) : Int) = ((137) + ((1) * ρ 1 + 0)) by omega) ev_v
  have p0 : GDv (vw C h) 120 124 1777 ((0) + 0) ((137) + ((1) * ρ 1 + 0)) := hP _ (List.mem_of_getElem? (i := 0) rfl)
  have p1 : GDv (vw C h) 120 124 1777 ((138) + ((1) * ρ 1 + 0)) ((1639) + ((-1) * ρ 1 + 0)) := hP _ (List.mem_of_getElem? (i := 1) rfl)
  refine ⟨_, List.mem_cons_self, ρ, fun _ _ => rfl, fun q hq => absurd hq List.not_mem_nil, trivial, fun f hf => ?_, fun q hq => absurd hq List.not_mem_nil, fun q hq => absurd hq List.not_mem_nil, fun q hq => absurd hq List.not_mem_nil, fun q hq => ?_⟩
  · exact absurd hf List.not_mem_nil
  · simp only [List.mem_cons, List.not_mem_nil, or_false] at hq
    subst hq
    show GDv (vw C h) 120 124 1777 ((0) + 0) ((1777) + 0)
    refine GD_join (i := 137 + (ρ 1).toNat) p0 p1 (by omega) (by omega) (by omega) (by omega) ?_
    rw [a0]
    exact gd_stock (by omega) (by omega) (by omega)
/-- slotSplit -/
theorem lem_30_ok (hU : uqG G C) : lem_30.1.2.1 = [] ∧ lemOK (PRd G C D xs) G rgs lem_30 := by
  refine ⟨rfl, fun ρ h ha hT => ?_⟩
  obtain ⟨-, -, hF, hG, hH, hA, hP⟩ := ha
  have f0 : (0 : Int) ≤ ((0) + ((1) * ρ 0 + 0)) := hF _ (List.mem_of_getElem? (i := 0) rfl)
  have f1 : (0 : Int) ≤ ((39) + ((-1) * ρ 0 + 0)) := hF _ (List.mem_of_getElem? (i := 1) rfl)
  have p0 : GDv (vw C h) 120 124 1777 ((0) + 0) ((1777) + 0) := hP _ (List.mem_of_getElem? (i := 0) rfl)
  refine ⟨_, List.mem_cons_self, ρ, fun _ _ => rfl, fun q hq => absurd hq List.not_mem_nil, trivial, fun f hf => ?_, fun q hq => absurd hq List.not_mem_nil, fun q hq => absurd hq List.not_mem_nil, fun q hq => absurd hq List.not_mem_nil, fun q hq => ?_⟩
  · exact absurd hf List.not_mem_nil
  · simp only [List.mem_cons, List.not_mem_nil, or_false] at hq
    rcases hq with rfl | rfl
    · show GDv (vw C h) 120 124 1777 ((0) + 0) ((217) + ((1) * ρ 0 + 0))
      exact GD_sub p0 (by omega) (by omega)
    · show GDv (vw C h) 120 124 1777 ((218) + ((1) * ρ 0 + 0)) ((1559) + ((-1) * ρ 0 + 0))
      exact GD_sub p0 (by omega) (by omega)
/-- slotJoin -/
theorem lem_31_ok (hU : uqG G C) : lem_31.1.2.1 = [] ∧ lemOK (PRd G C D xs) G rgs lem_31 := by
  refine ⟨rfl, fun ρ h ha hT => ?_⟩
  obtain ⟨-, -, hF, hG, hH, hA, hP⟩ := ha
  have f0 : (0 : Int) ≤ ((-1) + ((1) * ρ 6 + 0)) := hF _ (List.mem_of_getElem? (i := 0) rfl)
  have f1 : (0 : Int) ≤ ((0) + ((1) * ρ 1 + 0)) := hF _ (List.mem_of_getElem? (i := 1) rfl)
  have f2 : (0 : Int) ≤ ((7) + ((-1) * ρ 1 + 0)) := hF _ (List.mem_of_getElem? (i := 2) rfl)
  have f3 : (0 : Int) ≤ ((0) + ((1) * ρ 5 + 0)) := hF _ (List.mem_of_getElem? (i := 3) rfl)
  have f4 : (0 : Int) ≤ ((4) + ((-1) * ρ 5 + 0)) := hF _ (List.mem_of_getElem? (i := 4) rfl)
  have f5 : (0 : Int) ≤ ((0) + ((5) * ρ 1 + ((-1) * ρ 2 + ((1) * ρ 5 + 0)))) := hF _ (List.mem_of_getElem? (i := 5) rfl)
  have f6 : (0 : Int) ≤ ((0) + ((-5) * ρ 1 + ((1) * ρ 2 + ((-1) * ρ 5 + 0)))) := hF _ (List.mem_of_getElem? (i := 6) rfl)
  have g1 : G (ρ 3).toNat = 120 := by
    have q := (hG _ (List.mem_of_getElem? (i := 1) rfl)).2
    rwa [show ev ρ (0, [(3, 1)]) = ρ 3 from ev_v] at q
  have g2 : G (ρ 4).toNat = 124 := by
    have q := (hG _ (List.mem_of_getElem? (i := 2) rfl)).2
    rwa [show ev ρ (0, [(4, 1)]) = ρ 4 from ev_v] at q
  have b0 : (0 : Int) ≤ ((24) + ((1) * ρ 1 + 0)) := b_aA (hA _ (List.mem_of_getElem? (i := 0) rfl))
  have b1 : (0 : Int) ≤ ((217) + ((1) * ρ 2 + 0)) := b_aA (hA _ (List.mem_of_getElem? (i := 1) rfl))
  have a0 : vw C h 124 (24 + (ρ 1).toNat) = ρ 5 := vw_aA hU (hA _ (List.mem_of_getElem? (i := 0) rfl)) ev_v g2 (by omega) (by omega) (i := 24 + (ρ 1).toNat) (show (((24 + (ρ 1).toNat : Nat)) : Int) = ((24) + ((1) * ρ 1 + 0)) by omega) ev_v
  have a1 : vw C h 120 (217 + (ρ 2).toNat) = ρ 6 := vw_aA hU (hA _ (List.mem_of_getElem? (i := 1) rfl)) ev_v g1 (by omega) (by omega) (i := 217 + (ρ 2).toNat) (show (((217 + (ρ 2).toNat : Nat)) : Int) = ((217) + ((1) * ρ 2 + 0)) by omega) ev_v
  have p0 : GDv (vw C h) 120 124 1777 ((0) + 0) ((217) + ((1) * ρ 2 + 0)) := hP _ (List.mem_of_getElem? (i := 0) rfl)
  have p1 : GDv (vw C h) 120 124 1777 ((218) + ((1) * ρ 2 + 0)) ((1559) + ((-1) * ρ 2 + 0)) := hP _ (List.mem_of_getElem? (i := 1) rfl)
  refine ⟨_, List.mem_cons_self, ρ, fun _ _ => rfl, fun q hq => absurd hq List.not_mem_nil, trivial, fun f hf => ?_, fun q hq => absurd hq List.not_mem_nil, fun q hq => absurd hq List.not_mem_nil, fun q hq => absurd hq List.not_mem_nil, fun q hq => ?_⟩
  · exact absurd hf List.not_mem_nil
  · simp only [List.mem_cons, List.not_mem_nil, or_false] at hq
    subst hq
    show P48 (vw C h) ((0) + ((1) * ρ 1 + 0)) ((1) + ((1) * ρ 5 + 0))
    have q0 := p0
    have q1 := p1
    rw [show ((217 : Int) + (1 * ρ 2 + 0)) = 217 + (((ρ 2).toNat : Nat) : Int) by omega] at q0
    rw [show ((218 : Int) + (1 * ρ 2 + 0)) = 218 + (((ρ 2).toNat : Nat) : Int) by omega, show ((1559 : Int) + ((-1) * ρ 2 + 0)) = 1559 - (((ρ 2).toNat : Nat) : Int) by omega] at q1
    exact SJ (m := (ρ 1).toNat) (c := (ρ 5).toNat) (k := (ρ 2).toNat) (v := ρ 6) (by rw [a0]; omega) a1 (by omega) (by omega) (by omega) (by omega) q0 q1 (by omega) (by omega)
/-- slotDone -/
theorem lem_32_ok (hU : uqG G C) : lem_32.1.2.1 = [] ∧ lemOK (PRd G C D xs) G rgs lem_32 := by
  refine ⟨rfl, fun ρ h ha hT => ?_⟩
  obtain ⟨-, -, hF, hG, hH, hA, hP⟩ := ha
  have f0 : (0 : Int) ≤ ((0) + ((1) * ρ 1 + 0)) := hF _ (List.mem_of_getElem? (i := 0) rfl)
  have f1 : (0 : Int) ≤ ((7) + ((-1) * ρ 1 + 0)) := hF _ (List.mem_of_getElem? (i := 1) rfl)
  have g1 : G (ρ 2).toNat = 124 := by
    have q := (hG _ (List.mem_of_getElem? (i := 1) rfl)).2
    rwa [show ev ρ (0, [(2, 1)]) = ρ 2 from ev_v] at q
  have b0 : (0 : Int) ≤ ((24) + ((1) * ρ 1 + 0)) := b_aA (hA _ (List.mem_of_getElem? (i := 0) rfl))
  have a0 : vw C h 124 (24 + (ρ 1).toNat) = ρ 3 := vw_aA hU (hA _ (List.mem_of_getElem? (i := 0) rfl)) ev_v g1 (by omega) (by omega) (i := 24 + (ρ 1).toNat) (show (((24 + (ρ 1).toNat : Nat)) : Int) = ((24) + ((1) * ρ 1 + 0)) by omega) ev_v
  have p0 : P48 (vw C h) ((0) + ((1) * ρ 1 + 0)) ((0) + ((1) * ρ 3 + 0)) := hP _ (List.mem_of_getElem? (i := 0) rfl)
  refine ⟨_, List.mem_cons_self, ρ, fun _ _ => rfl, fun q hq => absurd hq List.not_mem_nil, trivial, fun f hf => ?_, fun q hq => absurd hq List.not_mem_nil, fun q hq => absurd hq List.not_mem_nil, fun q hq => absurd hq List.not_mem_nil, fun q hq => ?_⟩
  · exact absurd hf List.not_mem_nil
  · simp only [List.mem_cons, List.not_mem_nil, or_false] at hq
    subst hq
    show GDv (vw C h) 120 124 1777 ((0) + 0) ((1777) + 0)
    have q0 := p0
    rw [show ((0 : Int) + (1 * ρ 3 + 0)) = ρ 3 by omega] at q0
    exact SD (m := (ρ 1).toNat) a0 (by omega) q0
/-- extNew -/
theorem lem_33_ok (hU : uqG G C) : lem_33.1.2.1 = [] ∧ lemOK (PRd G C D xs) G rgs lem_33 := by
  refine ⟨rfl, fun ρ h ha hT => ?_⟩
  obtain ⟨-, -, hF, hG, hH, hA, hP⟩ := ha
  have f0 : (0 : Int) ≤ ((0) + ((1) * ρ 1 + 0)) := hF _ (List.mem_of_getElem? (i := 0) rfl)
  have f1 : (0 : Int) ≤ ((1776) + ((-1) * ρ 1 + 0)) := hF _ (List.mem_of_getElem? (i := 1) rfl)
  have g1 : G (ρ 2).toNat = 118 := by
    have q := (hG _ (List.mem_of_getElem? (i := 1) rfl)).2
    rwa [show ev ρ (0, [(2, 1)]) = ρ 2 from ev_v] at q
  have g2 : G (ρ 3).toNat = 120 := by
    have q := (hG _ (List.mem_of_getElem? (i := 2) rfl)).2
    rwa [show ev ρ (0, [(3, 1)]) = ρ 3 from ev_v] at q
  have b0 : (0 : Int) ≤ ((0) + ((1) * ρ 1 + 0)) := b_aA (hA _ (List.mem_of_getElem? (i := 0) rfl))
  have b1 : (0 : Int) ≤ ((0) + ((1) * ρ 1 + 0)) := b_aA (hA _ (List.mem_of_getElem? (i := 1) rfl))
  have a0 : vw C h 118 ((ρ 1).toNat) = ρ 4 := vw_aA hU (hA _ (List.mem_of_getElem? (i := 0) rfl)) ev_v g1 (by omega) (by omega) (i := (ρ 1).toNat) (show ((((ρ 1).toNat : Nat)) : Int) = ((0) + ((1) * ρ 1 + 0)) by omega) ev_v
  have a1 : vw C h 120 ((ρ 1).toNat) = ρ 4 := vw_aA hU (hA _ (List.mem_of_getElem? (i := 1) rfl)) ev_v g2 (by omega) (by omega) (i := (ρ 1).toNat) (show ((((ρ 1).toNat : Nat)) : Int) = ((0) + ((1) * ρ 1 + 0)) by omega) ev_v
  have p0 : GDv (vw C h) 120 124 1777 ((0) + 0) ((1777) + 0) := hP _ (List.mem_of_getElem? (i := 0) rfl)
  have p1 : GDv (vw C h) 118 124 1777 ((0) + 0) ((0) + ((1) * ρ 1 + 0)) := hP _ (List.mem_of_getElem? (i := 1) rfl)
  refine ⟨_, List.mem_cons_self, ρ, fun _ _ => rfl, fun q hq => absurd hq List.not_mem_nil, trivial, fun f hf => ?_, fun q hq => absurd hq List.not_mem_nil, fun q hq => absurd hq List.not_mem_nil, fun q hq => absurd hq List.not_mem_nil, fun q hq => ?_⟩
  · exact absurd hf List.not_mem_nil
  · simp only [List.mem_cons, List.not_mem_nil, or_false] at hq
    subst hq
    show GDv (vw C h) 118 124 1777 ((0) + 0) ((1) + ((1) * ρ 1 + 0))
    exact GD_ext p1 p0 (i := (ρ 1).toNat) (k := (ρ 1).toNat) (a0.trans a1.symm) (by omega) (by omega) (by omega) (by omega) rfl (by omega)
/-- extPlan -/
theorem lem_34_ok (hU : uqG G C) : lem_34.1.2.1 = [] ∧ lemOK (PRd G C D xs) G rgs lem_34 := by
  refine ⟨rfl, fun ρ h ha hT => ?_⟩
  obtain ⟨-, -, hF, hG, hH, hA, hP⟩ := ha
  have f0 : (0 : Int) ≤ ((0) + ((1) * ρ 1 + 0)) := hF _ (List.mem_of_getElem? (i := 0) rfl)
  have f1 : (0 : Int) ≤ ((54) + ((-1) * ρ 1 + 0)) := hF _ (List.mem_of_getElem? (i := 1) rfl)
  have g1 : G (ρ 2).toNat = 123 := by
    have q := (hG _ (List.mem_of_getElem? (i := 1) rfl)).2
    rwa [show ev ρ (0, [(2, 1)]) = ρ 2 from ev_v] at q
  have g2 : G (ρ 3).toNat = 124 := by
    have q := (hG _ (List.mem_of_getElem? (i := 2) rfl)).2
    rwa [show ev ρ (0, [(3, 1)]) = ρ 3 from ev_v] at q
  have b0 : (0 : Int) ≤ ((0) + ((1) * ρ 1 + 0)) := b_aA (hA _ (List.mem_of_getElem? (i := 0) rfl))
  have b1 : (0 : Int) ≤ ((0) + ((1) * ρ 1 + 0)) := b_aA (hA _ (List.mem_of_getElem? (i := 1) rfl))
  have a0 : vw C h 123 ((ρ 1).toNat) = ρ 4 := vw_aA hU (hA _ (List.mem_of_getElem? (i := 0) rfl)) ev_v g1 (by omega) (by omega) (i := (ρ 1).toNat) (show ((((ρ 1).toNat : Nat)) : Int) = ((0) + ((1) * ρ 1 + 0)) by omega) ev_v
  have a1 : vw C h 124 ((ρ 1).toNat) = ρ 4 := vw_aA hU (hA _ (List.mem_of_getElem? (i := 1) rfl)) ev_v g2 (by omega) (by omega) (i := (ρ 1).toNat) (show ((((ρ 1).toNat : Nat)) : Int) = ((0) + ((1) * ρ 1 + 0)) by omega) ev_v
  have p0 : P46 (vw C h) ((0) + ((1) * ρ 1 + 0)) := hP _ (List.mem_of_getElem? (i := 0) rfl)
  refine ⟨_, List.mem_cons_self, ρ, fun _ _ => rfl, fun q hq => absurd hq List.not_mem_nil, trivial, fun f hf => ?_, fun q hq => absurd hq List.not_mem_nil, fun q hq => absurd hq List.not_mem_nil, fun q hq => absurd hq List.not_mem_nil, fun q hq => ?_⟩
  · exact absurd hf List.not_mem_nil
  · simp only [List.mem_cons, List.not_mem_nil, or_false] at hq
    subst hq
    show P46 (vw C h) ((1) + ((1) * ρ 1 + 0))
    exact fun i i1 i5 => by
      by_cases hi : i = (ρ 1).toNat
      · subst hi
        exact a0.trans a1.symm
      · exact p0 i (by omega) i5
/-- empty46 -/
theorem lem_35_ok (hU : uqG G C) : lem_35.1.2.1 = [] ∧ lemOK (PRd G C D xs) G rgs lem_35 := by
  refine ⟨rfl, fun ρ h ha hT => ?_⟩
  obtain ⟨-, -, hF, hG, hH, hA, hP⟩ := ha
  refine ⟨_, List.mem_cons_self, ρ, fun _ _ => rfl, fun q hq => absurd hq List.not_mem_nil, trivial, fun f hf => ?_, fun q hq => absurd hq List.not_mem_nil, fun q hq => absurd hq List.not_mem_nil, fun q hq => absurd hq List.not_mem_nil, fun q hq => ?_⟩
  · exact absurd hf List.not_mem_nil
  · simp only [List.mem_cons, List.not_mem_nil, or_false] at hq
    subst hq
    show P46 (vw C h) ((0) + 0)
    exact fun i i1 i5 => by omega
/-- newNow -/
theorem lem_36_ok (hU : uqG G C) : lem_36.1.2.1 = [] ∧ lemOK (PRd G C D xs) G rgs lem_36 := by
  refine ⟨rfl, fun ρ h ha hT => ?_⟩
  obtain ⟨-, -, hF, hG, hH, hA, hP⟩ := ha
  have p0 : GDv (vw C h) 118 124 1777 ((0) + 0) ((1777) + 0) := hP _ (List.mem_of_getElem? (i := 0) rfl)
  have p1 : P46 (vw C h) ((55) + 0) := hP _ (List.mem_of_getElem? (i := 1) rfl)
  refine ⟨_, List.mem_cons_self, ρ, fun _ _ => rfl, fun q hq => absurd hq List.not_mem_nil, trivial, fun f hf => ?_, fun q hq => absurd hq List.not_mem_nil, fun q hq => absurd hq List.not_mem_nil, fun q hq => absurd hq List.not_mem_nil, fun q hq => ?_⟩
  · exact absurd hf List.not_mem_nil
  · simp only [List.mem_cons, List.not_mem_nil, or_false] at hq
    subst hq
    show GDv (vw C h) 118 123 1777 ((0) + 0) ((1777) + 0)
    exact GD_cg2 p0 p1 (by omega)
/-- splitBank -/
theorem lem_37_ok (hU : uqG G C) : lem_37.1.2.1 = [] ∧ lemOK (PRd G C D xs) G rgs lem_37 := by
  refine ⟨rfl, fun ρ h ha hT => ?_⟩
  obtain ⟨-, -, hF, hG, hH, hA, hP⟩ := ha
  rcases (by omega : ρ 1 ≤ 0 ∨ 1 ≤ ρ 1) with hc | hc
  · refine ⟨_, List.mem_cons_self, ρ, fun _ _ => rfl, fun q hq => absurd hq List.not_mem_nil, trivial, fun f hf => ?_, fun q hq => absurd hq List.not_mem_nil, fun q hq => absurd hq List.not_mem_nil, fun q hq => absurd hq List.not_mem_nil, fun q hq => ?_⟩
    · simp only [List.mem_cons, List.not_mem_nil, or_false] at hf
      subst hf
      show (0 : Int) ≤ ((0) + ((-1) * ρ 1 + 0))
      omega
    · exact absurd hq List.not_mem_nil
  · refine ⟨_, (List.mem_cons_of_mem _ List.mem_cons_self), ρ, fun _ _ => rfl, fun q hq => absurd hq List.not_mem_nil, trivial, fun f hf => ?_, fun q hq => absurd hq List.not_mem_nil, fun q hq => absurd hq List.not_mem_nil, fun q hq => absurd hq List.not_mem_nil, fun q hq => ?_⟩
    · simp only [List.mem_cons, List.not_mem_nil, or_false] at hf
      subst hf
      show (0 : Int) ≤ ((-1) + ((1) * ρ 1 + 0))
      omega
    · exact absurd hq List.not_mem_nil
/-- mkNode -/
theorem lem_38_ok (hU : uqG G C) : lem_38.1.2.1 = [] ∧ lemOK (PRd G C D xs) G rgs lem_38 := by
  refine ⟨rfl, fun ρ h ha hT => ?_⟩
  obtain ⟨-, -, hF, hG, hH, hA, hP⟩ := ha
  have f0 : (0 : Int) ≤ ((0) + ((1) * ρ 1 + 0)) := hF _ (List.mem_of_getElem? (i := 0) rfl)
  have f1 : (0 : Int) ≤ ((1399) + ((-1) * ρ 1 + 0)) := hF _ (List.mem_of_getElem? (i := 1) rfl)
  have f2 : (0 : Int) ≤ ((0) + ((1) * ρ 5 + 0)) := hF _ (List.mem_of_getElem? (i := 2) rfl)
  have f3 : (0 : Int) ≤ ((5) + ((-1) * ρ 5 + 0)) := hF _ (List.mem_of_getElem? (i := 3) rfl)
  have g1 : G (ρ 2).toNat = 137 := by
    have q := (hG _ (List.mem_of_getElem? (i := 1) rfl)).2
    rwa [show ev ρ (0, [(2, 1)]) = ρ 2 from ev_v] at q
  have g2 : G (ρ 3).toNat = 138 := by
    have q := (hG _ (List.mem_of_getElem? (i := 2) rfl)).2
    rwa [show ev ρ (0, [(3, 1)]) = ρ 3 from ev_v] at q
  have g3 : G (ρ 4).toNat = 139 := by
    have q := (hG _ (List.mem_of_getElem? (i := 3) rfl)).2
    rwa [show ev ρ (0, [(4, 1)]) = ρ 4 from ev_v] at q
  have b0 : (0 : Int) ≤ ((0) + ((1) * ρ 1 + 0)) := b_aA (hA _ (List.mem_of_getElem? (i := 0) rfl))
  have b1 : (0 : Int) ≤ ((0) + ((1) * ρ 1 + 0)) := b_aA (hA _ (List.mem_of_getElem? (i := 1) rfl))
  have b2 : (0 : Int) ≤ ((0) + ((1) * ρ 1 + 0)) := b_aA (hA _ (List.mem_of_getElem? (i := 2) rfl))
  have a0 : vw C h 137 ((ρ 1).toNat) = ρ 5 := vw_aA hU (hA _ (List.mem_of_getElem? (i := 0) rfl)) ev_v g1 (by omega) (by omega) (i := (ρ 1).toNat) (show ((((ρ 1).toNat : Nat)) : Int) = ((0) + ((1) * ρ 1 + 0)) by omega) ev_v
  have a1 : vw C h 138 ((ρ 1).toNat) = ρ 6 := vw_aA hU (hA _ (List.mem_of_getElem? (i := 1) rfl)) ev_v g2 (by omega) (by omega) (i := (ρ 1).toNat) (show ((((ρ 1).toNat : Nat)) : Int) = ((0) + ((1) * ρ 1 + 0)) by omega) ev_v
  have a2 : vw C h 139 ((ρ 1).toNat) = ρ 7 := vw_aA hU (hA _ (List.mem_of_getElem? (i := 2) rfl)) ev_v g3 (by omega) (by omega) (i := (ρ 1).toNat) (show ((((ρ 1).toNat : Nat)) : Int) = ((0) + ((1) * ρ 1 + 0)) by omega) ev_v
  refine ⟨_, List.mem_cons_self, ρ, fun _ _ => rfl, fun q hq => absurd hq List.not_mem_nil, trivial, fun f hf => ?_, fun q hq => absurd hq List.not_mem_nil, fun q hq => absurd hq List.not_mem_nil, fun q hq => absurd hq List.not_mem_nil, fun q hq => ?_⟩
  · exact absurd hf List.not_mem_nil
  · simp only [List.mem_cons, List.not_mem_nil, or_false] at hq
    rcases hq with rfl | rfl
    · show P70 (vw C h) ((0) + ((1) * ρ 1 + 0)) ((0) + ((1) * ρ 5 + ((8) * ρ 6 + 0)))
      exact ⟨by omega, by omega, by rw [show ((0 : Int) + (1 * ρ 1 + 0)).toNat = (ρ 1).toNat by omega, a0, a1]; omega⟩
    · show P71 (vw C h) ((0) + ((1) * ρ 1 + 0)) ((0) + ((1) * ρ 7 + 0))
      exact ⟨by omega, by omega, by rw [show ((0 : Int) + (1 * ρ 1 + 0)).toNat = (ρ 1).toNat by omega, a2]; omega⟩
/-- mkLeaf -/
theorem lem_39_ok (hU : uqG G C) : lem_39.1.2.1 = [] ∧ lemOK (PRd G C D xs) G rgs lem_39 := by
  refine ⟨rfl, fun ρ h ha hT => ?_⟩
  obtain ⟨-, -, hF, hG, hH, hA, hP⟩ := ha
  have f0 : (0 : Int) ≤ ((-3) + ((1) * ρ 2 + 0)) := hF _ (List.mem_of_getElem? (i := 0) rfl)
  have f1 : (0 : Int) ≤ ((5) + ((-1) * ρ 2 + 0)) := hF _ (List.mem_of_getElem? (i := 1) rfl)
  have f2 : (0 : Int) ≤ ((0) + ((1) * ρ 1 + 0)) := hF _ (List.mem_of_getElem? (i := 2) rfl)
  have f3 : (0 : Int) ≤ ((4) + ((-1) * ρ 1 + 0)) := hF _ (List.mem_of_getElem? (i := 3) rfl)
  have f4 : (0 : Int) ≤ ((0) + ((1) * ρ 3 + 0)) := hF _ (List.mem_of_getElem? (i := 4) rfl)
  have f5 : (0 : Int) ≤ ((1399) + ((-1) * ρ 3 + 0)) := hF _ (List.mem_of_getElem? (i := 5) rfl)
  have p0 : P60 (vw C h) ((0) + ((1) * ρ 3 + 0)) ((0) + ((1) * ρ 4 + 0)) := hP _ (List.mem_of_getElem? (i := 0) rfl)
  have p1 : P70 (vw C h) ((0) + ((1) * ρ 3 + 0)) ((0) + ((8) * ρ 1 + ((1) * ρ 2 + 0))) := hP _ (List.mem_of_getElem? (i := 1) rfl)
  have q := mkLeaf_ok (w := ρ 1) (hh := ρ 2) (k := _) (e := ((1) + ((1) * ρ 3 + 0))) (z := ((1) + ((1) * ρ 3 + ((2048) * ρ 4 + 0)))) (by omega) (by omega) (by omega) (by omega) (by omega) (by omega) p0 p1 (by omega) (by omega) (by omega)
  refine ⟨_, List.mem_cons_self, ρ, fun _ _ => rfl, fun q hq => absurd hq List.not_mem_nil, trivial, fun f hf => ?_, fun q hq => absurd hq List.not_mem_nil, fun q hq => absurd hq List.not_mem_nil, fun q hq => absurd hq List.not_mem_nil, fun q hq => ?_⟩
  · exact absurd hf List.not_mem_nil
  · simp only [List.mem_cons, List.not_mem_nil, or_false] at hq
    rcases hq with rfl | rfl
    · show P60 (vw C h) ((1) + ((1) * ρ 3 + 0)) ((1) + ((1) * ρ 3 + ((2048) * ρ 4 + 0)))
      exact q.1
    · show P64 ((1) + ((1) * ρ 3 + ((2048) * ρ 4 + 0))) ((0) + ((1) * ρ 4 + 0))
      exact q.2
/-- mkNot -/
theorem lem_40_ok (hU : uqG G C) : lem_40.1.2.1 = [] ∧ lemOK (PRd G C D xs) G rgs lem_40 := by
  refine ⟨rfl, fun ρ h ha hT => ?_⟩
  obtain ⟨-, -, hF, hG, hH, hA, hP⟩ := ha
  have f0 : (0 : Int) ≤ ((-1) + ((1) * ρ 1 + 0)) := hF _ (List.mem_of_getElem? (i := 0) rfl)
  have f1 : (0 : Int) ≤ ((1399) + ((-1) * ρ 1 + 0)) := hF _ (List.mem_of_getElem? (i := 1) rfl)
  have p0 : P60 (vw C h) ((0) + ((1) * ρ 1 + 0)) ((0) + ((1) * ρ 2 + 0)) := hP _ (List.mem_of_getElem? (i := 0) rfl)
  have p1 : P64 ((0) + ((1) * ρ 2 + 0)) ((0) + ((1) * ρ 3 + 0)) := hP _ (List.mem_of_getElem? (i := 1) rfl)
  have p2 : P70 (vw C h) ((0) + ((1) * ρ 1 + 0)) ((-6) + ((8) * ρ 1 + 0)) := hP _ (List.mem_of_getElem? (i := 2) rfl)
  refine ⟨_, List.mem_cons_self, ρ, fun _ _ => rfl, fun q hq => absurd hq List.not_mem_nil, trivial, fun f hf => ?_, fun q hq => absurd hq List.not_mem_nil, fun q hq => absurd hq List.not_mem_nil, fun q hq => absurd hq List.not_mem_nil, fun q hq => ?_⟩
  · exact absurd hf List.not_mem_nil
  · simp only [List.mem_cons, List.not_mem_nil, or_false] at hq
    subst hq
    show P60 (vw C h) ((1) + ((1) * ρ 1 + 0)) ((0) + ((1) * ρ 2 + 0))
    exact mkNot_ok (by omega) (by omega) p0 p1 p2 (by omega) (by omega)
/-- preOver -/
theorem lem_41_ok (hU : uqG G C) : lem_41.1.2.1 = [] ∧ lemOK (PRd G C D xs) G rgs lem_41 := by
  refine ⟨rfl, fun ρ h ha hT => ?_⟩
  obtain ⟨-, -, hF, hG, hH, hA, hP⟩ := ha
  have f0 : (0 : Int) ≤ ((0) + ((1) * ρ 1 + 0)) := hF _ (List.mem_of_getElem? (i := 0) rfl)
  have f1 : (0 : Int) ≤ ((-1) + ((-1) * ρ 1 + ((1) * ρ 2 + 0))) := hF _ (List.mem_of_getElem? (i := 1) rfl)
  have f2 : (0 : Int) ≤ ((1399) + ((-1) * ρ 2 + 0)) := hF _ (List.mem_of_getElem? (i := 2) rfl)
  have f3 : (0 : Int) ≤ ((2) + ((1) * ρ 1 + ((-1) * ρ 3 + ((2048) * ρ 4 + 0)))) := hF _ (List.mem_of_getElem? (i := 3) rfl)
  have f4 : (0 : Int) ≤ ((-2) + ((-1) * ρ 1 + ((1) * ρ 3 + ((-2048) * ρ 4 + 0)))) := hF _ (List.mem_of_getElem? (i := 4) rfl)
  have p0 : P60 (vw C h) ((0) + ((1) * ρ 2 + 0)) ((0) + ((1) * ρ 3 + 0)) := hP _ (List.mem_of_getElem? (i := 0) rfl)
  have p1 : P64 ((0) + ((1) * ρ 3 + 0)) ((0) + ((1) * ρ 4 + 0)) := hP _ (List.mem_of_getElem? (i := 1) rfl)
  have q := preOver_ok (n := ((0) + ((1) * ρ 1 + 0))) (z := ((1) + ((1) * ρ 2 + ((2048) * ρ 3 + 0)))) (by omega) (by omega) (by omega) (by omega) p0 p1 (by omega)
  refine ⟨_, List.mem_cons_self, ρ, fun _ _ => rfl, fun q hq => absurd hq List.not_mem_nil, trivial, fun f hf => ?_, fun q hq => absurd hq List.not_mem_nil, fun q hq => absurd hq List.not_mem_nil, fun q hq => absurd hq List.not_mem_nil, fun q hq => ?_⟩
  · exact absurd hf List.not_mem_nil
  · simp only [List.mem_cons, List.not_mem_nil, or_false] at hq
    rcases hq with rfl | rfl
    · show P61 (vw C h) ((0) + ((1) * ρ 1 + 0)) ((1) + ((1) * ρ 2 + ((2048) * ρ 3 + 0)))
      exact q.1
    · show P64 ((1) + ((1) * ρ 2 + ((2048) * ρ 3 + 0))) ((0) + ((1) * ρ 3 + 0))
      exact q.2
/-- merge -/
theorem lem_42_ok (hU : uqG G C) : lem_42.1.2.1 = [] ∧ lemOK (PRd G C D xs) G rgs lem_42 := by
  refine ⟨rfl, fun ρ h ha hT => ?_⟩
  obtain ⟨-, -, hF, hG, hH, hA, hP⟩ := ha
  have f0 : (0 : Int) ≤ ((0) + ((-1) * ρ 2 + ((1) * ρ 4 + 0))) := hF _ (List.mem_of_getElem? (i := 0) rfl)
  have f1 : (0 : Int) ≤ ((0) + ((1) * ρ 2 + ((-1) * ρ 4 + 0))) := hF _ (List.mem_of_getElem? (i := 1) rfl)
  have f2 : (0 : Int) ≤ ((0) + ((1) * ρ 1 + 0)) := hF _ (List.mem_of_getElem? (i := 2) rfl)
  have f3 : (0 : Int) ≤ ((-1) + ((-1) * ρ 1 + ((1) * ρ 2 + 0))) := hF _ (List.mem_of_getElem? (i := 3) rfl)
  have f4 : (0 : Int) ≤ ((1399) + ((-1) * ρ 2 + 0)) := hF _ (List.mem_of_getElem? (i := 4) rfl)
  have f5 : (0 : Int) ≤ ((1) + ((1) * ρ 2 + ((-1) * ρ 5 + ((2048) * ρ 6 + 0)))) := hF _ (List.mem_of_getElem? (i := 5) rfl)
  have f6 : (0 : Int) ≤ ((-1) + ((-1) * ρ 2 + ((1) * ρ 5 + ((-2048) * ρ 6 + 0)))) := hF _ (List.mem_of_getElem? (i := 6) rfl)
  have f7 : (0 : Int) ≤ ((2) + ((1) * ρ 1 + ((-1) * ρ 6 + ((2048) * ρ 7 + 0)))) := hF _ (List.mem_of_getElem? (i := 7) rfl)
  have f8 : (0 : Int) ≤ ((-2) + ((-1) * ρ 1 + ((1) * ρ 6 + ((-2048) * ρ 7 + 0)))) := hF _ (List.mem_of_getElem? (i := 8) rfl)
  have f9 : (0 : Int) ≤ ((0) + ((-8) * ρ 1 + ((1) * ρ 9 + 0))) := hF _ (List.mem_of_getElem? (i := 9) rfl)
  have f10 : (0 : Int) ≤ ((1) + ((8) * ρ 1 + ((-1) * ρ 9 + 0))) := hF _ (List.mem_of_getElem? (i := 10) rfl)
  have f11 : (0 : Int) ≤ ((-1) + ((1) * ρ 2 + ((-1) * ρ 10 + 0))) := hF _ (List.mem_of_getElem? (i := 11) rfl)
  have f12 : (0 : Int) ≤ ((1) + ((-1) * ρ 2 + ((1) * ρ 10 + 0))) := hF _ (List.mem_of_getElem? (i := 12) rfl)
  have g1 : G (ρ 3).toNat = 140 := by
    have q := (hG _ (List.mem_of_getElem? (i := 1) rfl)).2
    rwa [show ev ρ (0, [(3, 1)]) = ρ 3 from ev_v] at q
  have b0 : (0 : Int) ≤ ((0) + ((1) * ρ 1 + 0)) := b_aA (hA _ (List.mem_of_getElem? (i := 0) rfl))
  have a0 : vw C h 140 ((ρ 1).toNat) = ρ 4 := vw_aA hU (hA _ (List.mem_of_getElem? (i := 0) rfl)) ev_v g1 (by omega) (by omega) (i := (ρ 1).toNat) (show ((((ρ 1).toNat : Nat)) : Int) = ((0) + ((1) * ρ 1 + 0)) by omega) ev_v
  have p0 : P61 (vw C h) ((0) + ((1) * ρ 1 + 0)) ((0) + ((1) * ρ 5 + 0)) := hP _ (List.mem_of_getElem? (i := 0) rfl)
  have p1 : P64 ((0) + ((1) * ρ 5 + 0)) ((0) + ((1) * ρ 6 + 0)) := hP _ (List.mem_of_getElem? (i := 1) rfl)
  have p2 : P64 ((0) + ((1) * ρ 6 + 0)) ((0) + ((1) * ρ 7 + 0)) := hP _ (List.mem_of_getElem? (i := 2) rfl)
  have p3 : P64 ((0) + ((1) * ρ 7 + 0)) ((0) + ((1) * ρ 8 + 0)) := hP _ (List.mem_of_getElem? (i := 3) rfl)
  have p4 : P70 (vw C h) ((0) + ((1) * ρ 2 + 0)) ((0) + ((1) * ρ 9 + 0)) := hP _ (List.mem_of_getElem? (i := 4) rfl)
  have p5 : P71 (vw C h) ((0) + ((1) * ρ 2 + 0)) ((0) + ((1) * ρ 10 + 0)) := hP _ (List.mem_of_getElem? (i := 5) rfl)
  refine ⟨_, List.mem_cons_self, ρ, fun _ _ => rfl, fun q hq => absurd hq List.not_mem_nil, trivial, fun f hf => ?_, fun q hq => absurd hq List.not_mem_nil, fun q hq => absurd hq List.not_mem_nil, fun q hq => absurd hq List.not_mem_nil, fun q hq => ?_⟩
  · exact absurd hf List.not_mem_nil
  · simp only [List.mem_cons, List.not_mem_nil, or_false] at hq
    subst hq
    show P60 (vw C h) ((1) + ((1) * ρ 2 + 0)) ((0) + ((1) * ρ 7 + 0))
    exact merge_ok (n := ((0) + ((1) * ρ 1 + 0))) (o := ρ 4) (by rw [show ((0 : Int) + (1 * ρ 1 + 0)).toNat = (ρ 1).toNat by omega]; exact a0) (by omega) (by omega) (by omega) (by omega) (by omega) (by omega) (by omega) (by omega) (by omega) p0 p3 p2 p4 p5 (by omega)
/-- ext66 -/
theorem lem_43_ok (hU : uqG G C) : lem_43.1.2.1 = [] ∧ lemOK (PRd G C D xs) G rgs lem_43 := by
  refine ⟨rfl, fun ρ h ha hT => ?_⟩
  obtain ⟨-, -, hF, hG, hH, hA, hP⟩ := ha
  have f0 : (0 : Int) ≤ ((0) + ((-1) * ρ 1 + ((1) * ρ 6 + 0))) := hF _ (List.mem_of_getElem? (i := 0) rfl)
  have f1 : (0 : Int) ≤ ((0) + ((1) * ρ 1 + ((-1) * ρ 6 + 0))) := hF _ (List.mem_of_getElem? (i := 1) rfl)
  have f2 : (0 : Int) ≤ ((0) + ((1) * ρ 5 + 0)) := hF _ (List.mem_of_getElem? (i := 2) rfl)
  have f3 : (0 : Int) ≤ ((3) + ((-1) * ρ 5 + 0)) := hF _ (List.mem_of_getElem? (i := 3) rfl)
  have f4 : (0 : Int) ≤ ((0) + ((1) * ρ 3 + 0)) := hF _ (List.mem_of_getElem? (i := 4) rfl)
  have f5 : (0 : Int) ≤ ((1) + ((-1) * ρ 3 + 0)) := hF _ (List.mem_of_getElem? (i := 5) rfl)
  have f6 : (0 : Int) ≤ ((-1) + ((1) * ρ 4 + 0)) := hF _ (List.mem_of_getElem? (i := 6) rfl)
  have f7 : (0 : Int) ≤ ((700) + ((-1) * ρ 4 + 0)) := hF _ (List.mem_of_getElem? (i := 7) rfl)
  have f8 : (0 : Int) ≤ ((-700) + ((1) * ρ 1 + ((700) * ρ 3 + 0))) := hF _ (List.mem_of_getElem? (i := 8) rfl)
  have f9 : (0 : Int) ≤ ((699) + ((-1) * ρ 1 + ((-700) * ρ 3 + ((1) * ρ 4 + 0)))) := hF _ (List.mem_of_getElem? (i := 9) rfl)
  have f10 : (0 : Int) ≤ ((-1433600) + ((1433600) * ρ 3 + ((1) * ρ 7 + 0))) := hF _ (List.mem_of_getElem? (i := 10) rfl)
  have f11 : (0 : Int) ≤ ((1434300) + ((-1434300) * ρ 3 + ((1) * ρ 4 + ((-1) * ρ 7 + 0)))) := hF _ (List.mem_of_getElem? (i := 11) rfl)
  have g1 : G (ρ 2).toNat = 124 := by
    have q := (hG _ (List.mem_of_getElem? (i := 1) rfl)).2
    rwa [show ev ρ (0, [(2, 1)]) = ρ 2 from ev_v] at q
  have b0 : (0 : Int) ≤ ((50) + 0) := b_aA (hA _ (List.mem_of_getElem? (i := 0) rfl))
  have b1 : (0 : Int) ≤ ((51) + ((1) * ρ 5 + 0)) := b_aA (hA _ (List.mem_of_getElem? (i := 1) rfl))
  have a0 : vw C h 124 (50) = ρ 5 := vw_aA hU (hA _ (List.mem_of_getElem? (i := 0) rfl)) ev_v g1 (by omega) (by omega) (i := 50) (show (((50 : Nat)) : Int) = ((50) + 0) by omega) ev_v
  have a1 : vw C h 124 (51 + (ρ 5).toNat) = ρ 6 := vw_aA hU (hA _ (List.mem_of_getElem? (i := 1) rfl)) ev_v g1 (by omega) (by omega) (i := 51 + (ρ 5).toNat) (show (((51 + (ρ 5).toNat : Nat)) : Int) = ((51) + ((1) * ρ 5 + 0)) by omega) ev_v
  have p0 : P66 (vw C h) ((0) + ((1) * ρ 5 + 0)) ((0) + ((1) * ρ 7 + 0)) := hP _ (List.mem_of_getElem? (i := 0) rfl)
  refine ⟨_, List.mem_cons_self, ρ, fun _ _ => rfl, fun q hq => absurd hq List.not_mem_nil, trivial, fun f hf => ?_, fun q hq => absurd hq List.not_mem_nil, fun q hq => absurd hq List.not_mem_nil, fun q hq => absurd hq List.not_mem_nil, fun q hq => ?_⟩
  · exact absurd hf List.not_mem_nil
  · simp only [List.mem_cons, List.not_mem_nil, or_false] at hq
    subst hq
    show P66 (vw C h) ((1) + ((1) * ρ 5 + 0)) ((1434300) + ((-1434300) * ρ 3 + ((1) * ρ 4 + 0)))
    exact fun i i1 i2 => by
      by_cases hi : i = (ρ 5).toNat
      · subst hi
        rw [a1]
        omega
      · have q := p0 i i1 (by omega)
        omega
/-- zero66 -/
theorem lem_44_ok (hU : uqG G C) : lem_44.1.2.1 = [] ∧ lemOK (PRd G C D xs) G rgs lem_44 := by
  refine ⟨rfl, fun ρ h ha hT => ?_⟩
  obtain ⟨-, -, hF, hG, hH, hA, hP⟩ := ha
  have f0 : (0 : Int) ≤ ((0) + ((1) * ρ 2 + 0)) := hF _ (List.mem_of_getElem? (i := 0) rfl)
  have f1 : (0 : Int) ≤ ((1) + ((-1) * ρ 2 + 0)) := hF _ (List.mem_of_getElem? (i := 1) rfl)
  have g1 : G (ρ 1).toNat = 124 := by
    have q := (hG _ (List.mem_of_getElem? (i := 1) rfl)).2
    rwa [show ev ρ (0, [(1, 1)]) = ρ 1 from ev_v] at q
  have b0 : (0 : Int) ≤ ((50) + 0) := b_aA (hA _ (List.mem_of_getElem? (i := 0) rfl))
  have a0 : vw C h 124 (50) = ρ 3 := vw_aA hU (hA _ (List.mem_of_getElem? (i := 0) rfl)) ev_v g1 (by omega) (by omega) (i := 50) (show (((50 : Nat)) : Int) = ((50) + 0) by omega) ev_v
  have p0 : P47 (vw C h) ((55) + 0) := hP _ (List.mem_of_getElem? (i := 0) rfl)
  have q := p0 50 (by omega) (by omega)
  refine ⟨_, List.mem_cons_self, ρ, fun _ _ => rfl, fun q hq => absurd hq List.not_mem_nil, trivial, fun f hf => ?_, fun q hq => absurd hq List.not_mem_nil, fun q hq => absurd hq List.not_mem_nil, fun q hq => absurd hq List.not_mem_nil, fun q hq => ?_⟩
  · simp only [List.mem_cons, List.not_mem_nil, or_false] at hf
    rcases hf with rfl | rfl
    · show (0 : Int) ≤ ((0) + ((-1) * ρ 3 + 0))
      omega
    · show (0 : Int) ≤ ((0) + ((1) * ρ 3 + 0))
      omega
  · simp only [List.mem_cons, List.not_mem_nil, or_false] at hq
    rcases hq with rfl | rfl | rfl
    · show P66 (vw C h) ((0) + 0) ((1434300) + ((-1434300) * ρ 2 + 0))
      exact fun i i1 i2 => by omega
    · show P60 (vw C h) ((700) + ((-700) * ρ 2 + 0)) ((701) + ((-700) * ρ 2 + 0))
      exact ⟨1, by omega, Or.inl ⟨by omega, by omega, by omega, fun n n1 n2 => by omega⟩⟩
    · show ∃ f, btm f ((701) + ((-700) * ρ 2 + 0)) ((700) + ((-700) * ρ 2 + 0))
      exact ⟨1, Or.inl ⟨by omega, by omega, by omega⟩⟩
/-- bot -/
theorem lem_45_ok (hU : uqG G C) : lem_45.1.2.1 = [] ∧ lemOK (PRd G C D xs) G rgs lem_45 := by
  refine ⟨rfl, fun ρ h ha hT => ?_⟩
  obtain ⟨-, -, hF, hG, hH, hA, hP⟩ := ha
  have p0 : P60 (vw C h) ((700) + ((-700) * ρ 1 + ((1) * ρ 2 + 0))) ((0) + ((1) * ρ 3 + 0)) := hP _ (List.mem_of_getElem? (i := 0) rfl)
  have p1 : P64 ((0) + ((1) * ρ 3 + 0)) ((0) + ((1) * ρ 4 + 0)) := hP _ (List.mem_of_getElem? (i := 1) rfl)
  have p2 : ∃ f, btm f ((0) + ((1) * ρ 4 + 0)) ((0) + ((1) * ρ 5 + 0)) := hP _ (List.mem_of_getElem? (i := 2) rfl)
  refine ⟨_, List.mem_cons_self, ρ, fun _ _ => rfl, fun q hq => absurd hq List.not_mem_nil, trivial, fun f hf => ?_, fun q hq => absurd hq List.not_mem_nil, fun q hq => absurd hq List.not_mem_nil, fun q hq => absurd hq List.not_mem_nil, fun q hq => ?_⟩
  · exact absurd hf List.not_mem_nil
  · simp only [List.mem_cons, List.not_mem_nil, or_false] at hq
    subst hq
    show ∃ f, btm f ((0) + ((1) * ρ 3 + 0)) ((0) + ((1) * ρ 5 + 0))
    obtain ⟨f, q⟩ := p2
    obtain ⟨s, s1, s2, s3, s4⟩ := p1
    refine ⟨f + 1, Or.inr ⟨by omega, ?_⟩⟩
    rw [show ((0 : Int) + (1 * ρ 3 + 0)) / 2048 = ((0 : Int) + (1 * ρ 4 + 0)) by omega]
    exact q
/-- fold -/
theorem lem_46_ok (hU : uqG G C) : lem_46.1.2.1 = [] ∧ lemOK (PRd G C D xs) G rgs lem_46 := by
  refine ⟨rfl, fun ρ h ha hT => ?_⟩
  obtain ⟨-, -, hF, hG, hH, hA, hP⟩ := ha
  have f0 : (0 : Int) ≤ ((0) + ((1) * ρ 2 + 0)) := hF _ (List.mem_of_getElem? (i := 0) rfl)
  have f1 : (0 : Int) ≤ ((1) + ((-1) * ρ 2 + 0)) := hF _ (List.mem_of_getElem? (i := 1) rfl)
  have f2 : (0 : Int) ≤ ((0) + ((1) * ρ 3 + 0)) := hF _ (List.mem_of_getElem? (i := 2) rfl)
  have f3 : (0 : Int) ≤ ((700) + ((-1) * ρ 3 + 0)) := hF _ (List.mem_of_getElem? (i := 3) rfl)
  have f4 : (0 : Int) ≤ ((0) + ((1) * ρ 4 + 0)) := hF _ (List.mem_of_getElem? (i := 4) rfl)
  have f5 : (0 : Int) ≤ ((4) + ((-1) * ρ 4 + 0)) := hF _ (List.mem_of_getElem? (i := 5) rfl)
  have f6 : (0 : Int) ≤ ((-1433600) + ((1433600) * ρ 2 + ((1) * ρ 6 + 0))) := hF _ (List.mem_of_getElem? (i := 6) rfl)
  have f7 : (0 : Int) ≤ ((1434300) + ((-1434300) * ρ 2 + ((1) * ρ 3 + ((-1) * ρ 6 + 0)))) := hF _ (List.mem_of_getElem? (i := 7) rfl)
  have g1 : G (ρ 1).toNat = 124 := by
    have q := (hG _ (List.mem_of_getElem? (i := 1) rfl)).2
    rwa [show ev ρ (0, [(1, 1)]) = ρ 1 from ev_v] at q
  have b0 : (0 : Int) ≤ ((50) + 0) := b_aA (hA _ (List.mem_of_getElem? (i := 0) rfl))
  have a0 : vw C h 124 (50) = ρ 4 := vw_aA hU (hA _ (List.mem_of_getElem? (i := 0) rfl)) ev_v g1 (by omega) (by omega) (i := 50) (show (((50 : Nat)) : Int) = ((50) + 0) by omega) ev_v
  have p0 : P60 (vw C h) ((700) + ((-700) * ρ 2 + ((1) * ρ 3 + 0))) ((0) + ((1) * ρ 5 + 0)) := hP _ (List.mem_of_getElem? (i := 0) rfl)
  have p1 : ∃ f, btm f ((0) + ((1) * ρ 5 + 0)) ((700) + ((-700) * ρ 2 + 0)) := hP _ (List.mem_of_getElem? (i := 1) rfl)
  have p2 : P66 (vw C h) ((0) + ((1) * ρ 4 + 0)) ((0) + ((1) * ρ 6 + 0)) := hP _ (List.mem_of_getElem? (i := 2) rfl)
  refine ⟨_, List.mem_cons_self, ρ, fun _ _ => rfl, fun q hq => absurd hq List.not_mem_nil, trivial, fun f hf => ?_, fun q hq => absurd hq List.not_mem_nil, fun q hq => absurd hq List.not_mem_nil, fun q hq => absurd hq List.not_mem_nil, fun q hq => ?_⟩
  · exact absurd hf List.not_mem_nil
  · simp only [List.mem_cons, List.not_mem_nil, or_false] at hq
    subst hq
    show rts (vw C h) 124 ((700) + ((-700) * ρ 2 + 0))
    obtain ⟨f, q⟩ := p0
    obtain ⟨f', q'⟩ := p1
    obtain ⟨l0, l1, l2⟩ := fold_ok q q'
    refine ⟨_, l0, by omega, by omega, l2, fun i i1 i2 => ?_⟩
    have := p2 i i1 (by omega)
    omega
/-- newRoots -/
theorem lem_47_ok (hU : uqG G C) : lem_47.1.2.1 = [] ∧ lemOK (PRd G C D xs) G rgs lem_47 := by
  refine ⟨rfl, fun ρ h ha hT => ?_⟩
  obtain ⟨-, -, hF, hG, hH, hA, hP⟩ := ha
  have f0 : (0 : Int) ≤ ((0) + ((1) * ρ 1 + 0)) := hF _ (List.mem_of_getElem? (i := 0) rfl)
  have f1 : (0 : Int) ≤ ((1) + ((-1) * ρ 1 + 0)) := hF _ (List.mem_of_getElem? (i := 1) rfl)
  have p0 : P46 (vw C h) ((55) + 0) := hP _ (List.mem_of_getElem? (i := 0) rfl)
  have p1 : rts (vw C h) 124 ((0) + ((700) * ρ 1 + 0)) := hP _ (List.mem_of_getElem? (i := 1) rfl)
  refine ⟨_, List.mem_cons_self, ρ, fun _ _ => rfl, fun q hq => absurd hq List.not_mem_nil, trivial, fun f hf => ?_, fun q hq => absurd hq List.not_mem_nil, fun q hq => absurd hq List.not_mem_nil, fun q hq => absurd hq List.not_mem_nil, fun q hq => ?_⟩
  · exact absurd hf List.not_mem_nil
  · simp only [List.mem_cons, List.not_mem_nil, or_false] at hq
    subst hq
    show rts (vw C h) 123 ((0) + ((700) * ρ 1 + 0))
    obtain ⟨hi, l0, a1, a2, hc, hr⟩ := p1
    refine ⟨hi, l0, a1, a2, hc, fun i i1 i2 => ?_⟩
    rw [p0 50 (by omega) (by omega)] at i2
    rw [p0 (51 + i) (by omega) (by omega)]
    exact hr i i1 i2
/-- spine0 -/
theorem lem_48_ok (hU : uqG G C) : lem_48.1.2.1 = [] ∧ lemOK (PRd G C D xs) G rgs lem_48 := by
  refine ⟨rfl, fun ρ h ha hT => ?_⟩
  obtain ⟨-, -, hF, hG, hH, hA, hP⟩ := ha
  have p0 : P67 (vw C h) ((0) + ((1) * ρ 0 + 0)) ((0) + ((1) * ρ 1 + 0)) := hP _ (List.mem_of_getElem? (i := 0) rfl)
  refine ⟨_, List.mem_cons_self, ρ, fun _ _ => rfl, fun q hq => absurd hq List.not_mem_nil, trivial, fun f hf => ?_, fun q hq => absurd hq List.not_mem_nil, fun q hq => absurd hq List.not_mem_nil, fun q hq => absurd hq List.not_mem_nil, fun q hq => ?_⟩
  · exact absurd hf List.not_mem_nil
  · simp only [List.mem_cons, List.not_mem_nil, or_false] at hq
    subst hq
    show P68 (vw C h) ((0) + ((1) * ρ 0 + 0)) ((0) + ((1) * ρ 0 + 0))
    obtain ⟨hi, l0, a1, a2, hc, n1, n2⟩ := p0
    exact ⟨_, hi, l0, a2, hc, n1, n2, 0, by show (((0 : Int) + (1 * ρ 0 + 0)).toNat : Int) = _; omega, fun i hi => by omega⟩
/-- down -/
theorem lem_49_ok (hU : uqG G C) : lem_49.1.2.1 = [] ∧ lemOK (PRd G C D xs) G rgs lem_49 := by
  refine ⟨rfl, fun ρ h ha hT => ?_⟩
  obtain ⟨-, -, hF, hG, hH, hA, hP⟩ := ha
  have f0 : (0 : Int) ≤ ((1) + ((-1) * ρ 6 + 0)) := hF _ (List.mem_of_getElem? (i := 0) rfl)
  have f1 : (0 : Int) ≤ ((0) + ((1) * ρ 3 + ((-1) * ρ 7 + 0))) := hF _ (List.mem_of_getElem? (i := 1) rfl)
  have f2 : (0 : Int) ≤ ((0) + ((-1) * ρ 3 + ((1) * ρ 7 + 0))) := hF _ (List.mem_of_getElem? (i := 2) rfl)
  have f3 : (0 : Int) ≤ ((0) + ((1) * ρ 2 + 0)) := hF _ (List.mem_of_getElem? (i := 3) rfl)
  have f4 : (0 : Int) ≤ ((1399) + ((-1) * ρ 2 + 0)) := hF _ (List.mem_of_getElem? (i := 4) rfl)
  have f5 : (0 : Int) ≤ ((0) + ((1) * ρ 1 + 0)) := hF _ (List.mem_of_getElem? (i := 5) rfl)
  have f6 : (0 : Int) ≤ ((1399) + ((-1) * ρ 1 + 0)) := hF _ (List.mem_of_getElem? (i := 6) rfl)
  have g1 : G (ρ 4).toNat = 137 := by
    have q := (hG _ (List.mem_of_getElem? (i := 1) rfl)).2
    rwa [show ev ρ (0, [(4, 1)]) = ρ 4 from ev_v] at q
  have g2 : G (ρ 5).toNat = 138 := by
    have q := (hG _ (List.mem_of_getElem? (i := 2) rfl)).2
    rwa [show ev ρ (0, [(5, 1)]) = ρ 5 from ev_v] at q
  have b0 : (0 : Int) ≤ ((0) + ((1) * ρ 2 + 0)) := b_aA (hA _ (List.mem_of_getElem? (i := 0) rfl))
  have b1 : (0 : Int) ≤ ((0) + ((1) * ρ 2 + 0)) := b_aA (hA _ (List.mem_of_getElem? (i := 1) rfl))
  have a0 : vw C h 137 ((ρ 2).toNat) = ρ 6 := vw_aA hU (hA _ (List.mem_of_getElem? (i := 0) rfl)) ev_v g1 (by omega) (by omega) (i := (ρ 2).toNat) (show ((((ρ 2).toNat : Nat)) : Int) = ((0) + ((1) * ρ 2 + 0)) by omega) ev_v
  have a1 : vw C h 138 ((ρ 2).toNat) = ρ 7 := vw_aA hU (hA _ (List.mem_of_getElem? (i := 1) rfl)) ev_v g2 (by omega) (by omega) (i := (ρ 2).toNat) (show ((((ρ 2).toNat : Nat)) : Int) = ((0) + ((1) * ρ 2 + 0)) by omega) ev_v
  have p0 : P68 (vw C h) ((0) + ((1) * ρ 1 + 0)) ((0) + ((1) * ρ 2 + 0)) := hP _ (List.mem_of_getElem? (i := 0) rfl)
  have q := down_ok (f := ((0) + ((1) * ρ 3 + 0))) (a := ρ 6) (b := ρ 7) (by rw [(show ((0 : Int) + (1 * ρ 2 + 0)).toNat = (ρ 2).toNat by omega)]; exact a0) (by omega) (by rw [(show ((0 : Int) + (1 * ρ 2 + 0)).toNat = (ρ 2).toNat by omega)]; exact a1) (by omega) p0
  refine ⟨_, List.mem_cons_self, ρ, fun _ _ => rfl, fun q hq => absurd hq List.not_mem_nil, trivial, fun f hf => ?_, fun q hq => absurd hq List.not_mem_nil, fun q hq => absurd hq List.not_mem_nil, fun q hq => absurd hq List.not_mem_nil, fun q hq => ?_⟩
  · simp only [List.mem_cons, List.not_mem_nil, or_false] at hf
    rcases hf with rfl | rfl
    · show (0 : Int) ≤ ((0) + ((1) * ρ 3 + 0))
      omega
    · show (0 : Int) ≤ ((-1) + ((1) * ρ 2 + ((-1) * ρ 3 + 0)))
      omega
  · simp only [List.mem_cons, List.not_mem_nil, or_false] at hq
    subst hq
    show P68 (vw C h) ((0) + ((1) * ρ 1 + 0)) ((0) + ((1) * ρ 3 + 0))
    exact q.2.2
/-- up -/
theorem lem_50_ok (hU : uqG G C) : lem_50.1.2.1 = [] ∧ lemOK (PRd G C D xs) G rgs lem_50 := by
  refine ⟨rfl, fun ρ h ha hT => ?_⟩
  obtain ⟨-, -, hF, hG, hH, hA, hP⟩ := ha
  have f0 : (0 : Int) ≤ ((0) + ((1) * ρ 3 + ((-1) * ρ 5 + 0))) := hF _ (List.mem_of_getElem? (i := 0) rfl)
  have f1 : (0 : Int) ≤ ((0) + ((-1) * ρ 3 + ((1) * ρ 5 + 0))) := hF _ (List.mem_of_getElem? (i := 1) rfl)
  have f2 : (0 : Int) ≤ ((0) + ((1) * ρ 2 + 0)) := hF _ (List.mem_of_getElem? (i := 2) rfl)
  have f3 : (0 : Int) ≤ ((-1) + ((1) * ρ 1 + ((-1) * ρ 2 + 0))) := hF _ (List.mem_of_getElem? (i := 3) rfl)
  have f4 : (0 : Int) ≤ ((1399) + ((-1) * ρ 1 + 0)) := hF _ (List.mem_of_getElem? (i := 4) rfl)
  have g1 : G (ρ 4).toNat = 140 := by
    have q := (hG _ (List.mem_of_getElem? (i := 1) rfl)).2
    rwa [show ev ρ (0, [(4, 1)]) = ρ 4 from ev_v] at q
  have b0 : (0 : Int) ≤ ((0) + ((1) * ρ 2 + 0)) := b_aA (hA _ (List.mem_of_getElem? (i := 0) rfl))
  have a0 : vw C h 140 ((ρ 2).toNat) = ρ 5 := vw_aA hU (hA _ (List.mem_of_getElem? (i := 0) rfl)) ev_v g1 (by omega) (by omega) (i := (ρ 2).toNat) (show ((((ρ 2).toNat : Nat)) : Int) = ((0) + ((1) * ρ 2 + 0)) by omega) ev_v
  have p0 : P68 (vw C h) ((0) + ((1) * ρ 1 + 0)) ((0) + ((1) * ρ 2 + 0)) := hP _ (List.mem_of_getElem? (i := 0) rfl)
  have q := up_ok (o := ((0) + ((1) * ρ 3 + 0))) (g := ρ 5) (by rw [(show ((0 : Int) + (1 * ρ 2 + 0)).toNat = (ρ 2).toNat by omega)]; exact a0) (by omega) (by omega) p0
  refine ⟨_, List.mem_cons_self, ρ, fun _ _ => rfl, fun q hq => absurd hq List.not_mem_nil, trivial, fun f hf => ?_, fun q hq => absurd hq List.not_mem_nil, fun q hq => absurd hq List.not_mem_nil, fun q hq => absurd hq List.not_mem_nil, fun q hq => ?_⟩
  · simp only [List.mem_cons, List.not_mem_nil, or_false] at hf
    rcases hf with rfl | rfl
    · show (0 : Int) ≤ ((-1) + ((-1) * ρ 2 + ((1) * ρ 3 + 0)))
      omega
    · show (0 : Int) ≤ ((0) + ((1) * ρ 1 + ((-1) * ρ 3 + 0)))
      omega
  · simp only [List.mem_cons, List.not_mem_nil, or_false] at hq
    rcases hq with rfl | rfl
    · show P68 (vw C h) ((0) + ((1) * ρ 1 + 0)) ((0) + ((1) * ρ 3 + 0))
      exact q.2.2.1
    · show P69 (vw C h) ((0) + ((1) * ρ 1 + 0)) ((0) + ((1) * ρ 3 + 0))
      exact q.2.2.2
/-- sec -/
theorem lem_51_ok (hU : uqG G C) : lem_51.1.2.1 = [] ∧ lemOK (PRd G C D xs) G rgs lem_51 := by
  refine ⟨rfl, fun ρ h ha hT => ?_⟩
  obtain ⟨-, -, hF, hG, hH, hA, hP⟩ := ha
  have f0 : (0 : Int) ≤ ((0) + ((1) * ρ 3 + ((-1) * ρ 5 + 0))) := hF _ (List.mem_of_getElem? (i := 0) rfl)
  have f1 : (0 : Int) ≤ ((0) + ((-1) * ρ 3 + ((1) * ρ 5 + 0))) := hF _ (List.mem_of_getElem? (i := 1) rfl)
  have f2 : (0 : Int) ≤ ((0) + ((1) * ρ 2 + 0)) := hF _ (List.mem_of_getElem? (i := 2) rfl)
  have f3 : (0 : Int) ≤ ((0) + ((1) * ρ 1 + ((-1) * ρ 2 + 0))) := hF _ (List.mem_of_getElem? (i := 3) rfl)
  have f4 : (0 : Int) ≤ ((1399) + ((-1) * ρ 1 + 0)) := hF _ (List.mem_of_getElem? (i := 4) rfl)
  have f5 : (0 : Int) ≤ ((0) + ((1) * ρ 1 + 0)) := hF _ (List.mem_of_getElem? (i := 5) rfl)
  have g1 : G (ρ 4).toNat = 139 := by
    have q := (hG _ (List.mem_of_getElem? (i := 1) rfl)).2
    rwa [show ev ρ (0, [(4, 1)]) = ρ 4 from ev_v] at q
  have b0 : (0 : Int) ≤ ((0) + ((1) * ρ 2 + 0)) := b_aA (hA _ (List.mem_of_getElem? (i := 0) rfl))
  have a0 : vw C h 139 ((ρ 2).toNat) = ρ 5 := vw_aA hU (hA _ (List.mem_of_getElem? (i := 0) rfl)) ev_v g1 (by omega) (by omega) (i := (ρ 2).toNat) (show ((((ρ 2).toNat : Nat)) : Int) = ((0) + ((1) * ρ 2 + 0)) by omega) ev_v
  have p0 : P69 (vw C h) ((0) + ((1) * ρ 1 + 0)) ((0) + ((1) * ρ 2 + 0)) := hP _ (List.mem_of_getElem? (i := 0) rfl)
  have p1 : P67 (vw C h) ((0) + ((1) * ρ 1 + 0)) ((0) + ((1) * ρ 6 + 0)) := hP _ (List.mem_of_getElem? (i := 1) rfl)
  have p2 : ((0) + ((1) * ρ 1 + ((-1) * ρ 6 + 0))) ≤ (D : Int) := hP _ (List.mem_of_getElem? (i := 2) rfl)
  have q := sec_ok (s := ((0) + ((1) * ρ 3 + 0))) (g := ρ 5) (by rw [(show ((0 : Int) + (1 * ρ 2 + 0)).toNat = (ρ 2).toNat by omega)]; exact a0) (by omega) p0 p1
  refine ⟨_, List.mem_cons_self, ρ, fun _ _ => rfl, fun q hq => absurd hq List.not_mem_nil, trivial, fun f hf => ?_, fun q hq => absurd hq List.not_mem_nil, fun q hq => absurd hq List.not_mem_nil, fun q hq => absurd hq List.not_mem_nil, fun q hq => ?_⟩
  · simp only [List.mem_cons, List.not_mem_nil, or_false] at hf
    rcases hf with rfl | rfl | rfl | rfl
    · show (0 : Int) ≤ ((0) + ((1) * ρ 3 + ((-1) * ρ 6 + 0)))
      omega
    · show (0 : Int) ≤ ((-1) + ((1) * ρ 1 + ((-1) * ρ 3 + 0)))
      omega
    · show (0 : Int) ≤ ((699) + ((-1) * ρ 1 + ((1) * ρ 6 + 0)))
      omega
    · show (0 : Int) ≤ ((0) + ((1) * ρ 6 + 0))
      omega
  · simp only [List.mem_cons, List.not_mem_nil, or_false] at hq
    rcases hq with rfl | rfl
    · show P67 (vw C h) ((0) + ((1) * ρ 3 + 0)) ((0) + ((1) * ρ 6 + 0))
      exact q.2.2.2.2
    · show ((0) + ((1) * ρ 3 + ((-1) * ρ 6 + 0))) + 1 ≤ (D : Int)
      omega
/-- leaf -/
theorem lem_52_ok (hU : uqG G C) : lem_52.1.2.1 = [] ∧ lemOK (PRd G C D xs) G rgs lem_52 := by
  refine ⟨rfl, fun ρ h ha hT => ?_⟩
  obtain ⟨-, -, hF, hG, hH, hA, hP⟩ := ha
  have f0 : (0 : Int) ≤ ((0) + ((1) * ρ 1 + 0)) := hF _ (List.mem_of_getElem? (i := 0) rfl)
  have f1 : (0 : Int) ≤ ((0) + ((1) * ρ 0 + ((-1) * ρ 1 + 0))) := hF _ (List.mem_of_getElem? (i := 1) rfl)
  have f2 : (0 : Int) ≤ ((1399) + ((-1) * ρ 0 + 0)) := hF _ (List.mem_of_getElem? (i := 2) rfl)
  have p0 : P68 (vw C h) ((0) + ((1) * ρ 0 + 0)) ((0) + ((1) * ρ 1 + 0)) := hP _ (List.mem_of_getElem? (i := 0) rfl)
  have p1 : P67 (vw C h) ((0) + ((1) * ρ 0 + 0)) ((0) + ((1) * ρ 2 + 0)) := hP _ (List.mem_of_getElem? (i := 1) rfl)
  have p2 : ((0) + ((1) * ρ 0 + ((-1) * ρ 2 + 0))) ≤ (D : Int) := hP _ (List.mem_of_getElem? (i := 2) rfl)
  have q := leaf_ok p0 p1
  refine ⟨_, List.mem_cons_self, ρ, fun _ _ => rfl, fun q hq => absurd hq List.not_mem_nil, trivial, fun f hf => ?_, fun q hq => absurd hq List.not_mem_nil, fun q hq => absurd hq List.not_mem_nil, fun q hq => absurd hq List.not_mem_nil, fun q hq => ?_⟩
  · simp only [List.mem_cons, List.not_mem_nil, or_false] at hf
    rcases hf with rfl | rfl
    · show (0 : Int) ≤ ((0) + ((1) * ρ 1 + ((-1) * ρ 2 + 0)))
      omega
    · show (0 : Int) ≤ ((699) + ((-1) * ρ 0 + ((1) * ρ 2 + 0)))
      omega
  · simp only [List.mem_cons, List.not_mem_nil, or_false] at hq
    rcases hq with rfl | rfl
    · show P67 (vw C h) ((0) + ((1) * ρ 1 + 0)) ((0) + ((1) * ρ 2 + 0))
      exact q.2.2.2
    · show ((0) + ((1) * ρ 1 + ((-1) * ρ 2 + 0))) ≤ (D : Int)
      omega
/-- noot -/
theorem lem_53_ok (hU : uqG G C) : lem_53.1.2.1 = [] ∧ lemOK (PRd G C D xs) G rgs lem_53 := by
  refine ⟨rfl, fun ρ h ha hT => ?_⟩
  obtain ⟨-, -, hF, hG, hH, hA, hP⟩ := ha
  have f0 : (0 : Int) ≤ ((2) + ((-1) * ρ 5 + 0)) := hF _ (List.mem_of_getElem? (i := 0) rfl)
  have f1 : (0 : Int) ≤ ((-2) + ((1) * ρ 5 + 0)) := hF _ (List.mem_of_getElem? (i := 1) rfl)
  have f2 : (0 : Int) ≤ ((0) + ((1) * ρ 2 + ((-1) * ρ 6 + 0))) := hF _ (List.mem_of_getElem? (i := 2) rfl)
  have f3 : (0 : Int) ≤ ((0) + ((-1) * ρ 2 + ((1) * ρ 6 + 0))) := hF _ (List.mem_of_getElem? (i := 3) rfl)
  have f4 : (0 : Int) ≤ ((0) + ((1) * ρ 1 + 0)) := hF _ (List.mem_of_getElem? (i := 4) rfl)
  have f5 : (0 : Int) ≤ ((1399) + ((-1) * ρ 1 + 0)) := hF _ (List.mem_of_getElem? (i := 5) rfl)
  have g1 : G (ρ 3).toNat = 137 := by
    have q := (hG _ (List.mem_of_getElem? (i := 1) rfl)).2
    rwa [show ev ρ (0, [(3, 1)]) = ρ 3 from ev_v] at q
  have g2 : G (ρ 4).toNat = 138 := by
    have q := (hG _ (List.mem_of_getElem? (i := 2) rfl)).2
    rwa [show ev ρ (0, [(4, 1)]) = ρ 4 from ev_v] at q
  have b0 : (0 : Int) ≤ ((0) + ((1) * ρ 1 + 0)) := b_aA (hA _ (List.mem_of_getElem? (i := 0) rfl))
  have b1 : (0 : Int) ≤ ((0) + ((1) * ρ 1 + 0)) := b_aA (hA _ (List.mem_of_getElem? (i := 1) rfl))
  have a0 : vw C h 137 ((ρ 1).toNat) = ρ 5 := vw_aA hU (hA _ (List.mem_of_getElem? (i := 0) rfl)) ev_v g1 (by omega) (by omega) (i := (ρ 1).toNat) (show ((((ρ 1).toNat : Nat)) : Int) = ((0) + ((1) * ρ 1 + 0)) by omega) ev_v
  have a1 : vw C h 138 ((ρ 1).toNat) = ρ 6 := vw_aA hU (hA _ (List.mem_of_getElem? (i := 1) rfl)) ev_v g2 (by omega) (by omega) (i := (ρ 1).toNat) (show ((((ρ 1).toNat : Nat)) : Int) = ((0) + ((1) * ρ 1 + 0)) by omega) ev_v
  have p0 : P67 (vw C h) ((0) + ((1) * ρ 1 + 0)) ((0) + ((1) * ρ 7 + 0)) := hP _ (List.mem_of_getElem? (i := 0) rfl)
  have p1 : ((0) + ((1) * ρ 1 + ((-1) * ρ 7 + 0))) ≤ (D : Int) := hP _ (List.mem_of_getElem? (i := 1) rfl)
  have q := noot_ok (s := ((0) + ((1) * ρ 2 + 0))) (a := ρ 5) (b := ρ 6) (by rw [(show ((0 : Int) + (1 * ρ 1 + 0)).toNat = (ρ 1).toNat by omega)]; exact a0) (by omega) (by rw [(show ((0 : Int) + (1 * ρ 1 + 0)).toNat = (ρ 1).toNat by omega)]; exact a1) (by omega) p0
  refine ⟨_, List.mem_cons_self, ρ, fun _ _ => rfl, fun q hq => absurd hq List.not_mem_nil, trivial, fun f hf => ?_, fun q hq => absurd hq List.not_mem_nil, fun q hq => absurd hq List.not_mem_nil, fun q hq => absurd hq List.not_mem_nil, fun q hq => ?_⟩
  · simp only [List.mem_cons, List.not_mem_nil, or_false] at hf
    rcases hf with rfl | rfl | rfl
    · show (0 : Int) ≤ ((0) + ((1) * ρ 2 + ((-1) * ρ 7 + 0)))
      omega
    · show (0 : Int) ≤ ((-1) + ((1) * ρ 1 + ((-1) * ρ 2 + 0)))
      omega
    · show (0 : Int) ≤ ((699) + ((-1) * ρ 1 + ((1) * ρ 7 + 0)))
      omega
  · simp only [List.mem_cons, List.not_mem_nil, or_false] at hq
    rcases hq with rfl | rfl
    · show P67 (vw C h) ((0) + ((1) * ρ 2 + 0)) ((0) + ((1) * ρ 7 + 0))
      exact q.2.2.2
    · show ((0) + ((1) * ρ 2 + ((-1) * ρ 7 + 0))) + 1 ≤ (D : Int)
      omega
/-- comp -/
theorem lem_54_ok (hU : uqG G C) : lem_54.1.2.1 = [] ∧ lemOK (PRd G C D xs) G rgs lem_54 := by
  refine ⟨rfl, fun ρ h ha hT => ?_⟩
  obtain ⟨-, -, hF, hG, hH, hA, hP⟩ := ha
  have f0 : (0 : Int) ≤ ((-3) + ((1) * ρ 5 + 0)) := hF _ (List.mem_of_getElem? (i := 0) rfl)
  have f1 : (0 : Int) ≤ ((0) + ((1) * ρ 2 + ((-1) * ρ 6 + 0))) := hF _ (List.mem_of_getElem? (i := 1) rfl)
  have f2 : (0 : Int) ≤ ((0) + ((-1) * ρ 2 + ((1) * ρ 6 + 0))) := hF _ (List.mem_of_getElem? (i := 2) rfl)
  have f3 : (0 : Int) ≤ ((0) + ((1) * ρ 1 + 0)) := hF _ (List.mem_of_getElem? (i := 3) rfl)
  have f4 : (0 : Int) ≤ ((1399) + ((-1) * ρ 1 + 0)) := hF _ (List.mem_of_getElem? (i := 4) rfl)
  have g1 : G (ρ 3).toNat = 137 := by
    have q := (hG _ (List.mem_of_getElem? (i := 1) rfl)).2
    rwa [show ev ρ (0, [(3, 1)]) = ρ 3 from ev_v] at q
  have g2 : G (ρ 4).toNat = 138 := by
    have q := (hG _ (List.mem_of_getElem? (i := 2) rfl)).2
    rwa [show ev ρ (0, [(4, 1)]) = ρ 4 from ev_v] at q
  have b0 : (0 : Int) ≤ ((0) + ((1) * ρ 1 + 0)) := b_aA (hA _ (List.mem_of_getElem? (i := 0) rfl))
  have b1 : (0 : Int) ≤ ((0) + ((1) * ρ 1 + 0)) := b_aA (hA _ (List.mem_of_getElem? (i := 1) rfl))
  have a0 : vw C h 137 ((ρ 1).toNat) = ρ 5 := vw_aA hU (hA _ (List.mem_of_getElem? (i := 0) rfl)) ev_v g1 (by omega) (by omega) (i := (ρ 1).toNat) (show ((((ρ 1).toNat : Nat)) : Int) = ((0) + ((1) * ρ 1 + 0)) by omega) ev_v
  have a1 : vw C h 138 ((ρ 1).toNat) = ρ 6 := vw_aA hU (hA _ (List.mem_of_getElem? (i := 1) rfl)) ev_v g2 (by omega) (by omega) (i := (ρ 1).toNat) (show ((((ρ 1).toNat : Nat)) : Int) = ((0) + ((1) * ρ 1 + 0)) by omega) ev_v
  have p0 : P67 (vw C h) ((0) + ((1) * ρ 1 + 0)) ((0) + ((1) * ρ 7 + 0)) := hP _ (List.mem_of_getElem? (i := 0) rfl)
  have q := comp_ok (a := ρ 5) (b := ρ 6) (by rw [(show ((0 : Int) + (1 * ρ 1 + 0)).toNat = (ρ 1).toNat by omega)]; exact a0) (by omega) (by rw [(show ((0 : Int) + (1 * ρ 1 + 0)).toNat = (ρ 1).toNat by omega)]; exact a1) p0
  refine ⟨_, List.mem_cons_self, ρ, fun _ _ => rfl, fun q hq => absurd hq List.not_mem_nil, trivial, fun f hf => ?_, fun q hq => absurd hq List.not_mem_nil, fun q hq => absurd hq List.not_mem_nil, fun q hq => absurd hq List.not_mem_nil, fun q hq => ?_⟩
  · simp only [List.mem_cons, List.not_mem_nil, or_false] at hf
    rcases hf with rfl | rfl
    · show (0 : Int) ≤ ((0) + ((1) * ρ 2 + 0))
      omega
    · show (0 : Int) ≤ ((4) + ((-1) * ρ 2 + 0))
      omega
  · exact absurd hq List.not_mem_nil
/-- root -/
theorem lem_55_ok (hU : uqG G C) (hD : 700 ≤ D) : lem_55.1.2.1 = [] ∧ lemOK (PRd G C D xs) G rgs lem_55 := by
  refine ⟨rfl, fun ρ h ha hT => ?_⟩
  obtain ⟨-, -, hF, hG, hH, hA, hP⟩ := ha
  have f0 : (0 : Int) ≤ ((0) + ((1) * ρ 2 + ((-1) * ρ 6 + 0))) := hF _ (List.mem_of_getElem? (i := 0) rfl)
  have f1 : (0 : Int) ≤ ((0) + ((-1) * ρ 2 + ((1) * ρ 6 + 0))) := hF _ (List.mem_of_getElem? (i := 1) rfl)
  have f2 : (0 : Int) ≤ ((0) + ((1) * ρ 1 + 0)) := hF _ (List.mem_of_getElem? (i := 2) rfl)
  have f3 : (0 : Int) ≤ ((-1) + ((-1) * ρ 1 + ((1) * ρ 5 + 0))) := hF _ (List.mem_of_getElem? (i := 3) rfl)
  have f4 : (0 : Int) ≤ ((3) + ((-1) * ρ 1 + 0)) := hF _ (List.mem_of_getElem? (i := 4) rfl)
  have f5 : (0 : Int) ≤ ((0) + ((1) * ρ 3 + 0)) := hF _ (List.mem_of_getElem? (i := 5) rfl)
  have f6 : (0 : Int) ≤ ((1) + ((-1) * ρ 3 + 0)) := hF _ (List.mem_of_getElem? (i := 6) rfl)
  have g1 : G (ρ 4).toNat = 123 := by
    have q := (hG _ (List.mem_of_getElem? (i := 1) rfl)).2
    rwa [show ev ρ (0, [(4, 1)]) = ρ 4 from ev_v] at q
  have b0 : (0 : Int) ≤ ((50) + 0) := b_aA (hA _ (List.mem_of_getElem? (i := 0) rfl))
  have b1 : (0 : Int) ≤ ((51) + ((1) * ρ 1 + 0)) := b_aA (hA _ (List.mem_of_getElem? (i := 1) rfl))
  have a0 : vw C h 123 (50) = ρ 5 := vw_aA hU (hA _ (List.mem_of_getElem? (i := 0) rfl)) ev_v g1 (by omega) (by omega) (i := 50) (show (((50 : Nat)) : Int) = ((50) + 0) by omega) ev_v
  have a1 : vw C h 123 (51 + (ρ 1).toNat) = ρ 6 := vw_aA hU (hA _ (List.mem_of_getElem? (i := 1) rfl)) ev_v g1 (by omega) (by omega) (i := 51 + (ρ 1).toNat) (show (((51 + (ρ 1).toNat : Nat)) : Int) = ((51) + ((1) * ρ 1 + 0)) by omega) ev_v
  have p0 : rts (vw C h) 123 ((0) + ((700) * ρ 3 + 0)) := hP _ (List.mem_of_getElem? (i := 0) rfl)
  have q := root_ok (n := ((0) + ((1) * ρ 2 + 0))) (r := ρ 1) a0 a1 (by omega) (by omega) (by omega) (by omega) p0
  refine ⟨_, List.mem_cons_self, ρ, fun _ _ => rfl, fun q hq => absurd hq List.not_mem_nil, trivial, fun f hf => ?_, fun q hq => absurd hq List.not_mem_nil, fun q hq => absurd hq List.not_mem_nil, fun q hq => absurd hq List.not_mem_nil, fun q hq => ?_⟩
  · simp only [List.mem_cons, List.not_mem_nil, or_false] at hf
    rcases hf with rfl | rfl
    · show (0 : Int) ≤ ((0) + ((1) * ρ 2 + ((-700) * ρ 3 + 0)))
      omega
    · show (0 : Int) ≤ ((699) + ((-1) * ρ 2 + ((700) * ρ 3 + 0)))
      omega
  · simp only [List.mem_cons, List.not_mem_nil, or_false] at hq
    rcases hq with rfl | rfl
    · show P67 (vw C h) ((0) + ((1) * ρ 2 + 0)) ((0) + ((700) * ρ 3 + 0))
      exact q.2.2
    · show ((0) + ((1) * ρ 2 + ((-700) * ρ 3 + 0))) ≤ (D : Int)
      omega
/-- splitErr -/
theorem lem_56_ok (hU : uqG G C) : lem_56.1.2.1 = [] ∧ lemOK (PRd G C D xs) G rgs lem_56 := by
  refine ⟨rfl, fun ρ h ha hT => ?_⟩
  obtain ⟨-, -, hF, hG, hH, hA, hP⟩ := ha
  rcases (by omega : ρ 1 ≤ 0 ∨ 1 ≤ ρ 1) with hc | hc
  · refine ⟨_, List.mem_cons_self, ρ, fun _ _ => rfl, fun q hq => absurd hq List.not_mem_nil, trivial, fun f hf => ?_, fun q hq => absurd hq List.not_mem_nil, fun q hq => absurd hq List.not_mem_nil, fun q hq => absurd hq List.not_mem_nil, fun q hq => ?_⟩
    · simp only [List.mem_cons, List.not_mem_nil, or_false] at hf
      subst hf
      show (0 : Int) ≤ ((0) + ((-1) * ρ 1 + 0))
      omega
    · exact absurd hq List.not_mem_nil
  · refine ⟨_, (List.mem_cons_of_mem _ List.mem_cons_self), ρ, fun _ _ => rfl, fun q hq => absurd hq List.not_mem_nil, trivial, fun f hf => ?_, fun q hq => absurd hq List.not_mem_nil, fun q hq => absurd hq List.not_mem_nil, fun q hq => absurd hq List.not_mem_nil, fun q hq => ?_⟩
    · simp only [List.mem_cons, List.not_mem_nil, or_false] at hf
      subst hf
      show (0 : Int) ≤ ((-1) + ((1) * ρ 1 + 0))
      omega
    · exact absurd hq List.not_mem_nil
/-- splitP -/
theorem lem_57_ok (hU : uqG G C) : lem_57.1.2.1 = [] ∧ lemOK (PRd G C D xs) G rgs lem_57 := by
  refine ⟨rfl, fun ρ h ha hT => ?_⟩
  obtain ⟨-, -, hF, hG, hH, hA, hP⟩ := ha
  rcases (by omega : ρ 0 ≤ -1 ∨ 0 ≤ ρ 0) with hc | hc
  · refine ⟨_, List.mem_cons_self, ρ, fun _ _ => rfl, fun q hq => absurd hq List.not_mem_nil, trivial, fun f hf => ?_, fun q hq => absurd hq List.not_mem_nil, fun q hq => absurd hq List.not_mem_nil, fun q hq => absurd hq List.not_mem_nil, fun q hq => ?_⟩
    · simp only [List.mem_cons, List.not_mem_nil, or_false] at hf
      subst hf
      show (0 : Int) ≤ ((-1) + ((-1) * ρ 0 + 0))
      omega
    · exact absurd hq List.not_mem_nil
  · refine ⟨_, (List.mem_cons_of_mem _ List.mem_cons_self), ρ, fun _ _ => rfl, fun q hq => absurd hq List.not_mem_nil, trivial, fun f hf => ?_, fun q hq => absurd hq List.not_mem_nil, fun q hq => absurd hq List.not_mem_nil, fun q hq => absurd hq List.not_mem_nil, fun q hq => ?_⟩
    · simp only [List.mem_cons, List.not_mem_nil, or_false] at hf
      subst hf
      show (0 : Int) ≤ ((0) + ((1) * ρ 0 + 0))
      omega
    · exact absurd hq List.not_mem_nil
/-- stopIn -/
theorem lem_58_ok (hU : uqG G C) : lem_58.1.2.1 = [] ∧ lemOK (PRd G C D xs) G rgs lem_58 := by
  refine ⟨rfl, fun ρ h ha hT => ?_⟩
  obtain ⟨-, -, hF, hG, hH, hA, hP⟩ := ha
  have f0 : (0 : Int) ≤ ((0) + ((1) * ρ 2 + ((-1) * ρ 5 + 0))) := hF _ (List.mem_of_getElem? (i := 0) rfl)
  have f1 : (0 : Int) ≤ ((0) + ((-1) * ρ 2 + ((1) * ρ 5 + 0))) := hF _ (List.mem_of_getElem? (i := 1) rfl)
  have f2 : (0 : Int) ≤ ((0) + ((1) * ρ 1 + 0)) := hF _ (List.mem_of_getElem? (i := 2) rfl)
  have f3 : (0 : Int) ≤ ((-1) + ((-1) * ρ 1 + ((1) * ρ 3 + 0))) := hF _ (List.mem_of_getElem? (i := 3) rfl)
  have f4 : (0 : Int) ≤ ((8) + ((-1) * ρ 3 + 0)) := hF _ (List.mem_of_getElem? (i := 4) rfl)
  have g1 : G (ρ 4).toNat = 142 := by
    have q := (hG _ (List.mem_of_getElem? (i := 1) rfl)).2
    rwa [show ev ρ (0, [(4, 1)]) = ρ 4 from ev_v] at q
  have b0 : (0 : Int) ≤ ((0) + ((1) * ρ 1 + 0)) := b_aA (hA _ (List.mem_of_getElem? (i := 0) rfl))
  have a0 : vw C h 142 ((ρ 1).toNat) = ρ 5 := vw_aA hU (hA _ (List.mem_of_getElem? (i := 0) rfl)) ev_v g1 (by omega) (by omega) (i := (ρ 1).toNat) (show ((((ρ 1).toNat : Nat)) : Int) = ((0) + ((1) * ρ 1 + 0)) by omega) ev_v
  refine ⟨_, List.mem_cons_self, ρ, fun _ _ => rfl, fun q hq => absurd hq List.not_mem_nil, trivial, fun f hf => ?_, fun q hq => absurd hq List.not_mem_nil, fun q hq => absurd hq List.not_mem_nil, fun q hq => absurd hq List.not_mem_nil, fun q hq => ?_⟩
  · exact absurd hf List.not_mem_nil
  · simp only [List.mem_cons, List.not_mem_nil, or_false] at hq
    subst hq
    show P80 (vw C h) ((1) + ((1) * ρ 1 + ((16) * ρ 3 + 0))) ((0) + ((1) * ρ 2 + 0))
    exact stopIn_ok (m := ρ 3) (p := ρ 1) (by rw [a0]; omega) (by omega) (by omega) (by omega) (by omega)
/-- stopLo -/
theorem lem_59_ok (hU : uqG G C) : lem_59.1.2.1 = [] ∧ lemOK (PRd G C D xs) G rgs lem_59 := by
  refine ⟨rfl, fun ρ h ha hT => ?_⟩
  obtain ⟨-, -, hF, hG, hH, hA, hP⟩ := ha
  have f0 : (0 : Int) ≤ ((-1) + ((-1) * ρ 1 + 0)) := hF _ (List.mem_of_getElem? (i := 0) rfl)
  have f1 : (0 : Int) ≤ ((1) + ((1) * ρ 1 + 0)) := hF _ (List.mem_of_getElem? (i := 1) rfl)
  have f2 : (0 : Int) ≤ ((-1) + ((-1) * ρ 2 + 0)) := hF _ (List.mem_of_getElem? (i := 2) rfl)
  have f3 : (0 : Int) ≤ ((1) + ((1) * ρ 2 + 0)) := hF _ (List.mem_of_getElem? (i := 3) rfl)
  have f4 : (0 : Int) ≤ ((0) + ((1) * ρ 3 + 0)) := hF _ (List.mem_of_getElem? (i := 4) rfl)
  have f5 : (0 : Int) ≤ ((8) + ((-1) * ρ 3 + 0)) := hF _ (List.mem_of_getElem? (i := 5) rfl)
  refine ⟨_, List.mem_cons_self, ρ, fun _ _ => rfl, fun q hq => absurd hq List.not_mem_nil, trivial, fun f hf => ?_, fun q hq => absurd hq List.not_mem_nil, fun q hq => absurd hq List.not_mem_nil, fun q hq => absurd hq List.not_mem_nil, fun q hq => ?_⟩
  · exact absurd hf List.not_mem_nil
  · simp only [List.mem_cons, List.not_mem_nil, or_false] at hq
    subst hq
    show P80 (vw C h) ((1) + ((1) * ρ 1 + ((16) * ρ 3 + 0))) ((0) + ((1) * ρ 2 + 0))
    exact stopOut_ok (m := ρ 3) (p := ρ 1) (by omega) (by omega) (by omega) (by omega) (by omega)
/-- stopHi -/
theorem lem_60_ok (hU : uqG G C) : lem_60.1.2.1 = [] ∧ lemOK (PRd G C D xs) G rgs lem_60 := by
  refine ⟨rfl, fun ρ h ha hT => ?_⟩
  obtain ⟨-, -, hF, hG, hH, hA, hP⟩ := ha
  have f0 : (0 : Int) ≤ ((0) + ((1) * ρ 1 + ((-1) * ρ 3 + 0))) := hF _ (List.mem_of_getElem? (i := 0) rfl)
  have f1 : (0 : Int) ≤ ((14) + ((-1) * ρ 1 + 0)) := hF _ (List.mem_of_getElem? (i := 1) rfl)
  have f2 : (0 : Int) ≤ ((-1) + ((-1) * ρ 2 + 0)) := hF _ (List.mem_of_getElem? (i := 2) rfl)
  have f3 : (0 : Int) ≤ ((1) + ((1) * ρ 2 + 0)) := hF _ (List.mem_of_getElem? (i := 3) rfl)
  have f4 : (0 : Int) ≤ ((0) + ((1) * ρ 3 + 0)) := hF _ (List.mem_of_getElem? (i := 4) rfl)
  have f5 : (0 : Int) ≤ ((8) + ((-1) * ρ 3 + 0)) := hF _ (List.mem_of_getElem? (i := 5) rfl)
  refine ⟨_, List.mem_cons_self, ρ, fun _ _ => rfl, fun q hq => absurd hq List.not_mem_nil, trivial, fun f hf => ?_, fun q hq => absurd hq List.not_mem_nil, fun q hq => absurd hq List.not_mem_nil, fun q hq => absurd hq List.not_mem_nil, fun q hq => ?_⟩
  · exact absurd hf List.not_mem_nil
  · simp only [List.mem_cons, List.not_mem_nil, or_false] at hq
    subst hq
    show P80 (vw C h) ((1) + ((1) * ρ 1 + ((16) * ρ 3 + 0))) ((0) + ((1) * ρ 2 + 0))
    exact stopOut_ok (m := ρ 3) (p := ρ 1) (by omega) (by omega) (by omega) (by omega) (by omega)
/-- way00 -/
theorem lem_61_ok (hU : uqG G C) : lem_61.1.2.1 = [] ∧ lemOK (PRd G C D xs) G rgs lem_61 := by
  refine ⟨rfl, fun ρ h ha hT => ?_⟩
  obtain ⟨-, -, hF, hG, hH, hA, hP⟩ := ha
  have f0 : (0 : Int) ≤ ((0) + ((1) * ρ 3 + ((-1) * ρ 9 + 0))) := hF _ (List.mem_of_getElem? (i := 0) rfl)
  have f1 : (0 : Int) ≤ ((0) + ((-1) * ρ 3 + ((1) * ρ 9 + 0))) := hF _ (List.mem_of_getElem? (i := 1) rfl)
  have f2 : (0 : Int) ≤ ((0) + ((1) * ρ 4 + ((-1) * ρ 10 + 0))) := hF _ (List.mem_of_getElem? (i := 2) rfl)
  have f3 : (0 : Int) ≤ ((0) + ((-1) * ρ 4 + ((1) * ρ 10 + 0))) := hF _ (List.mem_of_getElem? (i := 3) rfl)
  have f4 : (0 : Int) ≤ ((0) + ((1) * ρ 5 + ((-1) * ρ 11 + 0))) := hF _ (List.mem_of_getElem? (i := 4) rfl)
  have f5 : (0 : Int) ≤ ((0) + ((-1) * ρ 5 + ((1) * ρ 11 + 0))) := hF _ (List.mem_of_getElem? (i := 5) rfl)
  have f6 : (0 : Int) ≤ ((0) + ((1) * ρ 6 + ((-1) * ρ 12 + 0))) := hF _ (List.mem_of_getElem? (i := 6) rfl)
  have f7 : (0 : Int) ≤ ((0) + ((-1) * ρ 6 + ((1) * ρ 12 + 0))) := hF _ (List.mem_of_getElem? (i := 7) rfl)
  have f8 : (0 : Int) ≤ ((0) + ((-1) * ρ 7 + ((1) * ρ 13 + ((1) * ρ 14 + 0)))) := hF _ (List.mem_of_getElem? (i := 8) rfl)
  have f9 : (0 : Int) ≤ ((0) + ((1) * ρ 7 + ((-1) * ρ 13 + ((-1) * ρ 14 + 0)))) := hF _ (List.mem_of_getElem? (i := 9) rfl)
  have f10 : (0 : Int) ≤ ((-1) + ((-1) * ρ 1 + 0)) := hF _ (List.mem_of_getElem? (i := 10) rfl)
  have f11 : (0 : Int) ≤ ((1) + ((1) * ρ 1 + 0)) := hF _ (List.mem_of_getElem? (i := 11) rfl)
  have f12 : (0 : Int) ≤ ((-1) + ((-1) * ρ 2 + 0)) := hF _ (List.mem_of_getElem? (i := 12) rfl)
  have f13 : (0 : Int) ≤ ((1) + ((1) * ρ 2 + 0)) := hF _ (List.mem_of_getElem? (i := 13) rfl)
  have g1 : G (ρ 8).toNat = 123 := by
    have q := (hG _ (List.mem_of_getElem? (i := 1) rfl)).2
    rwa [show ev ρ (0, [(8, 1)]) = ρ 8 from ev_v] at q
  have b0 : (0 : Int) ≤ ((0) + 0) := b_aA (hA _ (List.mem_of_getElem? (i := 0) rfl))
  have b1 : (0 : Int) ≤ ((1) + 0) := b_aA (hA _ (List.mem_of_getElem? (i := 1) rfl))
  have b2 : (0 : Int) ≤ ((0) + 0) := b_aA (hA _ (List.mem_of_getElem? (i := 2) rfl))
  have b3 : (0 : Int) ≤ ((1) + 0) := b_aA (hA _ (List.mem_of_getElem? (i := 3) rfl))
  have a0 : vw C h 123 (0) = ρ 9 := vw_aA hU (hA _ (List.mem_of_getElem? (i := 0) rfl)) ev_v g1 (by omega) (by omega) (i := 0) (show (((0 : Nat)) : Int) = ((0) + 0) by omega) ev_v
  have a1 : vw C h 123 (1) = ρ 10 := vw_aA hU (hA _ (List.mem_of_getElem? (i := 1) rfl)) ev_v g1 (by omega) (by omega) (i := 1) (show (((1 : Nat)) : Int) = ((1) + 0) by omega) ev_v
  have a2 : vw C h 123 (0) = ρ 11 := vw_aA hU (hA _ (List.mem_of_getElem? (i := 2) rfl)) ev_v g1 (by omega) (by omega) (i := 0) (show (((0 : Nat)) : Int) = ((0) + 0) by omega) ev_v
  have a3 : vw C h 123 (1) = ρ 12 := vw_aA hU (hA _ (List.mem_of_getElem? (i := 3) rfl)) ev_v g1 (by omega) (by omega) (i := 1) (show (((1 : Nat)) : Int) = ((1) + 0) by omega) ev_v
  have p0 : ((0) + ((1) * ρ 13 + 0)) = ab ((0) + ((1) * ρ 3 + ((-1) * ρ 5 + 0))) := hP _ (List.mem_of_getElem? (i := 0) rfl)
  have p1 : ((0) + ((1) * ρ 14 + 0)) = ab ((0) + ((1) * ρ 4 + ((-1) * ρ 6 + 0))) := hP _ (List.mem_of_getElem? (i := 1) rfl)
  refine ⟨_, List.mem_cons_self, ρ, fun _ _ => rfl, fun q hq => absurd hq List.not_mem_nil, trivial, fun f hf => ?_, fun q hq => absurd hq List.not_mem_nil, fun q hq => absurd hq List.not_mem_nil, fun q hq => absurd hq List.not_mem_nil, fun q hq => ?_⟩
  · exact absurd hf List.not_mem_nil
  · simp only [List.mem_cons, List.not_mem_nil, or_false] at hq
    subst hq
    show P81 (vw C h) ((10) + ((9) * ρ 1 + ((1) * ρ 2 + 0))) ((0) + ((1) * ρ 7 + 0))
    exact way_ok (a := ρ 1) (b := ρ 2) (wX0 (by omega) a0) (wY0 (by omega) a1) (wX0 (by omega) a2) (wY0 (by omega) a3) p0 p1 (by omega) (by omega) (by omega) (by omega) (by omega) (by omega) (by omega)
/-- way01 -/
theorem lem_62_ok (hU : uqG G C) : lem_62.1.2.1 = [] ∧ lemOK (PRd G C D xs) G rgs lem_62 := by
  refine ⟨rfl, fun ρ h ha hT => ?_⟩
  obtain ⟨-, -, hF, hG, hH, hA, hP⟩ := ha
  have f0 : (0 : Int) ≤ ((0) + ((1) * ρ 3 + ((-1) * ρ 9 + 0))) := hF _ (List.mem_of_getElem? (i := 0) rfl)
  have f1 : (0 : Int) ≤ ((0) + ((-1) * ρ 3 + ((1) * ρ 9 + 0))) := hF _ (List.mem_of_getElem? (i := 1) rfl)
  have f2 : (0 : Int) ≤ ((0) + ((1) * ρ 4 + ((-1) * ρ 10 + 0))) := hF _ (List.mem_of_getElem? (i := 2) rfl)
  have f3 : (0 : Int) ≤ ((0) + ((-1) * ρ 4 + ((1) * ρ 10 + 0))) := hF _ (List.mem_of_getElem? (i := 3) rfl)
  have f4 : (0 : Int) ≤ ((0) + ((1) * ρ 5 + ((-1) * ρ 11 + 0))) := hF _ (List.mem_of_getElem? (i := 4) rfl)
  have f5 : (0 : Int) ≤ ((0) + ((-1) * ρ 5 + ((1) * ρ 11 + 0))) := hF _ (List.mem_of_getElem? (i := 5) rfl)
  have f6 : (0 : Int) ≤ ((0) + ((1) * ρ 6 + ((-1) * ρ 12 + 0))) := hF _ (List.mem_of_getElem? (i := 6) rfl)
  have f7 : (0 : Int) ≤ ((0) + ((-1) * ρ 6 + ((1) * ρ 12 + 0))) := hF _ (List.mem_of_getElem? (i := 7) rfl)
  have f8 : (0 : Int) ≤ ((0) + ((-1) * ρ 7 + ((1) * ρ 13 + ((1) * ρ 14 + 0)))) := hF _ (List.mem_of_getElem? (i := 8) rfl)
  have f9 : (0 : Int) ≤ ((0) + ((1) * ρ 7 + ((-1) * ρ 13 + ((-1) * ρ 14 + 0)))) := hF _ (List.mem_of_getElem? (i := 9) rfl)
  have f10 : (0 : Int) ≤ ((-1) + ((-1) * ρ 1 + 0)) := hF _ (List.mem_of_getElem? (i := 10) rfl)
  have f11 : (0 : Int) ≤ ((1) + ((1) * ρ 1 + 0)) := hF _ (List.mem_of_getElem? (i := 11) rfl)
  have f12 : (0 : Int) ≤ ((0) + ((1) * ρ 2 + 0)) := hF _ (List.mem_of_getElem? (i := 12) rfl)
  have f13 : (0 : Int) ≤ ((7) + ((-1) * ρ 2 + 0)) := hF _ (List.mem_of_getElem? (i := 13) rfl)
  have g1 : G (ρ 8).toNat = 123 := by
    have q := (hG _ (List.mem_of_getElem? (i := 1) rfl)).2
    rwa [show ev ρ (0, [(8, 1)]) = ρ 8 from ev_v] at q
  have b0 : (0 : Int) ≤ ((0) + 0) := b_aA (hA _ (List.mem_of_getElem? (i := 0) rfl))
  have b1 : (0 : Int) ≤ ((1) + 0) := b_aA (hA _ (List.mem_of_getElem? (i := 1) rfl))
  have b2 : (0 : Int) ≤ ((8) + ((1) * ρ 2 + 0)) := b_aA (hA _ (List.mem_of_getElem? (i := 2) rfl))
  have b3 : (0 : Int) ≤ ((16) + ((1) * ρ 2 + 0)) := b_aA (hA _ (List.mem_of_getElem? (i := 3) rfl))
  have a0 : vw C h 123 (0) = ρ 9 := vw_aA hU (hA _ (List.mem_of_getElem? (i := 0) rfl)) ev_v g1 (by omega) (by omega) (i := 0) (show (((0 : Nat)) : Int) = ((0) + 0) by omega) ev_v
  have a1 : vw C h 123 (1) = ρ 10 := vw_aA hU (hA _ (List.mem_of_getElem? (i := 1) rfl)) ev_v g1 (by omega) (by omega) (i := 1) (show (((1 : Nat)) : Int) = ((1) + 0) by omega) ev_v
  have a2 : vw C h 123 (8 + (ρ 2).toNat) = ρ 11 := vw_aA hU (hA _ (List.mem_of_getElem? (i := 2) rfl)) ev_v g1 (by omega) (by omega) (i := 8 + (ρ 2).toNat) (show (((8 + (ρ 2).toNat : Nat)) : Int) = ((8) + ((1) * ρ 2 + 0)) by omega) ev_v
  have a3 : vw C h 123 (16 + (ρ 2).toNat) = ρ 12 := vw_aA hU (hA _ (List.mem_of_getElem? (i := 3) rfl)) ev_v g1 (by omega) (by omega) (i := 16 + (ρ 2).toNat) (show (((16 + (ρ 2).toNat : Nat)) : Int) = ((16) + ((1) * ρ 2 + 0)) by omega) ev_v
  have p0 : ((0) + ((1) * ρ 13 + 0)) = ab ((0) + ((1) * ρ 3 + ((-1) * ρ 5 + 0))) := hP _ (List.mem_of_getElem? (i := 0) rfl)
  have p1 : ((0) + ((1) * ρ 14 + 0)) = ab ((0) + ((1) * ρ 4 + ((-1) * ρ 6 + 0))) := hP _ (List.mem_of_getElem? (i := 1) rfl)
  refine ⟨_, List.mem_cons_self, ρ, fun _ _ => rfl, fun q hq => absurd hq List.not_mem_nil, trivial, fun f hf => ?_, fun q hq => absurd hq List.not_mem_nil, fun q hq => absurd hq List.not_mem_nil, fun q hq => absurd hq List.not_mem_nil, fun q hq => ?_⟩
  · exact absurd hf List.not_mem_nil
  · simp only [List.mem_cons, List.not_mem_nil, or_false] at hq
    subst hq
    show P81 (vw C h) ((10) + ((9) * ρ 1 + ((1) * ρ 2 + 0))) ((0) + ((1) * ρ 7 + 0))
    exact way_ok (a := ρ 1) (b := ρ 2) (wX0 (by omega) a0) (wY0 (by omega) a1) (wX1 (by omega) (by omega) a2 (by omega)) (wY1 (by omega) (by omega) a3 (by omega)) p0 p1 (by omega) (by omega) (by omega) (by omega) (by omega) (by omega) (by omega)
/-- way10 -/
theorem lem_63_ok (hU : uqG G C) : lem_63.1.2.1 = [] ∧ lemOK (PRd G C D xs) G rgs lem_63 := by
  refine ⟨rfl, fun ρ h ha hT => ?_⟩
  obtain ⟨-, -, hF, hG, hH, hA, hP⟩ := ha
  have f0 : (0 : Int) ≤ ((0) + ((1) * ρ 3 + ((-1) * ρ 9 + 0))) := hF _ (List.mem_of_getElem? (i := 0) rfl)
  have f1 : (0 : Int) ≤ ((0) + ((-1) * ρ 3 + ((1) * ρ 9 + 0))) := hF _ (List.mem_of_getElem? (i := 1) rfl)
  have f2 : (0 : Int) ≤ ((0) + ((1) * ρ 4 + ((-1) * ρ 10 + 0))) := hF _ (List.mem_of_getElem? (i := 2) rfl)
  have f3 : (0 : Int) ≤ ((0) + ((-1) * ρ 4 + ((1) * ρ 10 + 0))) := hF _ (List.mem_of_getElem? (i := 3) rfl)
  have f4 : (0 : Int) ≤ ((0) + ((1) * ρ 5 + ((-1) * ρ 11 + 0))) := hF _ (List.mem_of_getElem? (i := 4) rfl)
  have f5 : (0 : Int) ≤ ((0) + ((-1) * ρ 5 + ((1) * ρ 11 + 0))) := hF _ (List.mem_of_getElem? (i := 5) rfl)
  have f6 : (0 : Int) ≤ ((0) + ((1) * ρ 6 + ((-1) * ρ 12 + 0))) := hF _ (List.mem_of_getElem? (i := 6) rfl)
  have f7 : (0 : Int) ≤ ((0) + ((-1) * ρ 6 + ((1) * ρ 12 + 0))) := hF _ (List.mem_of_getElem? (i := 7) rfl)
  have f8 : (0 : Int) ≤ ((0) + ((-1) * ρ 7 + ((1) * ρ 13 + ((1) * ρ 14 + 0)))) := hF _ (List.mem_of_getElem? (i := 8) rfl)
  have f9 : (0 : Int) ≤ ((0) + ((1) * ρ 7 + ((-1) * ρ 13 + ((-1) * ρ 14 + 0)))) := hF _ (List.mem_of_getElem? (i := 9) rfl)
  have f10 : (0 : Int) ≤ ((0) + ((1) * ρ 1 + 0)) := hF _ (List.mem_of_getElem? (i := 10) rfl)
  have f11 : (0 : Int) ≤ ((7) + ((-1) * ρ 1 + 0)) := hF _ (List.mem_of_getElem? (i := 11) rfl)
  have f12 : (0 : Int) ≤ ((-1) + ((-1) * ρ 2 + 0)) := hF _ (List.mem_of_getElem? (i := 12) rfl)
  have f13 : (0 : Int) ≤ ((1) + ((1) * ρ 2 + 0)) := hF _ (List.mem_of_getElem? (i := 13) rfl)
  have g1 : G (ρ 8).toNat = 123 := by
    have q := (hG _ (List.mem_of_getElem? (i := 1) rfl)).2
    rwa [show ev ρ (0, [(8, 1)]) = ρ 8 from ev_v] at q
  have b0 : (0 : Int) ≤ ((8) + ((1) * ρ 1 + 0)) := b_aA (hA _ (List.mem_of_getElem? (i := 0) rfl))
  have b1 : (0 : Int) ≤ ((16) + ((1) * ρ 1 + 0)) := b_aA (hA _ (List.mem_of_getElem? (i := 1) rfl))
  have b2 : (0 : Int) ≤ ((0) + 0) := b_aA (hA _ (List.mem_of_getElem? (i := 2) rfl))
  have b3 : (0 : Int) ≤ ((1) + 0) := b_aA (hA _ (List.mem_of_getElem? (i := 3) rfl))
  have a0 : vw C h 123 (8 + (ρ 1).toNat) = ρ 9 := vw_aA hU (hA _ (List.mem_of_getElem? (i := 0) rfl)) ev_v g1 (by omega) (by omega) (i := 8 + (ρ 1).toNat) (show (((8 + (ρ 1).toNat : Nat)) : Int) = ((8) + ((1) * ρ 1 + 0)) by omega) ev_v
  have a1 : vw C h 123 (16 + (ρ 1).toNat) = ρ 10 := vw_aA hU (hA _ (List.mem_of_getElem? (i := 1) rfl)) ev_v g1 (by omega) (by omega) (i := 16 + (ρ 1).toNat) (show (((16 + (ρ 1).toNat : Nat)) : Int) = ((16) + ((1) * ρ 1 + 0)) by omega) ev_v
  have a2 : vw C h 123 (0) = ρ 11 := vw_aA hU (hA _ (List.mem_of_getElem? (i := 2) rfl)) ev_v g1 (by omega) (by omega) (i := 0) (show (((0 : Nat)) : Int) = ((0) + 0) by omega) ev_v
  have a3 : vw C h 123 (1) = ρ 12 := vw_aA hU (hA _ (List.mem_of_getElem? (i := 3) rfl)) ev_v g1 (by omega) (by omega) (i := 1) (show (((1 : Nat)) : Int) = ((1) + 0) by omega) ev_v
  have p0 : ((0) + ((1) * ρ 13 + 0)) = ab ((0) + ((1) * ρ 3 + ((-1) * ρ 5 + 0))) := hP _ (List.mem_of_getElem? (i := 0) rfl)
  have p1 : ((0) + ((1) * ρ 14 + 0)) = ab ((0) + ((1) * ρ 4 + ((-1) * ρ 6 + 0))) := hP _ (List.mem_of_getElem? (i := 1) rfl)
  refine ⟨_, List.mem_cons_self, ρ, fun _ _ => rfl, fun q hq => absurd hq List.not_mem_nil, trivial, fun f hf => ?_, fun q hq => absurd hq List.not_mem_nil, fun q hq => absurd hq List.not_mem_nil, fun q hq => absurd hq List.not_mem_nil, fun q hq => ?_⟩
  · exact absurd hf List.not_mem_nil
  · simp only [List.mem_cons, List.not_mem_nil, or_false] at hq
    subst hq
    show P81 (vw C h) ((10) + ((9) * ρ 1 + ((1) * ρ 2 + 0))) ((0) + ((1) * ρ 7 + 0))
    exact way_ok (a := ρ 1) (b := ρ 2) (wX1 (by omega) (by omega) a0 (by omega)) (wY1 (by omega) (by omega) a1 (by omega)) (wX0 (by omega) a2) (wY0 (by omega) a3) p0 p1 (by omega) (by omega) (by omega) (by omega) (by omega) (by omega) (by omega)
/-- way11 -/
theorem lem_64_ok (hU : uqG G C) : lem_64.1.2.1 = [] ∧ lemOK (PRd G C D xs) G rgs lem_64 := by
  refine ⟨rfl, fun ρ h ha hT => ?_⟩
  obtain ⟨-, -, hF, hG, hH, hA, hP⟩ := ha
  have f0 : (0 : Int) ≤ ((0) + ((1) * ρ 3 + ((-1) * ρ 9 + 0))) := hF _ (List.mem_of_getElem? (i := 0) rfl)
  have f1 : (0 : Int) ≤ ((0) + ((-1) * ρ 3 + ((1) * ρ 9 + 0))) := hF _ (List.mem_of_getElem? (i := 1) rfl)
  have f2 : (0 : Int) ≤ ((0) + ((1) * ρ 4 + ((-1) * ρ 10 + 0))) := hF _ (List.mem_of_getElem? (i := 2) rfl)
  have f3 : (0 : Int) ≤ ((0) + ((-1) * ρ 4 + ((1) * ρ 10 + 0))) := hF _ (List.mem_of_getElem? (i := 3) rfl)
  have f4 : (0 : Int) ≤ ((0) + ((1) * ρ 5 + ((-1) * ρ 11 + 0))) := hF _ (List.mem_of_getElem? (i := 4) rfl)
  have f5 : (0 : Int) ≤ ((0) + ((-1) * ρ 5 + ((1) * ρ 11 + 0))) := hF _ (List.mem_of_getElem? (i := 5) rfl)
  have f6 : (0 : Int) ≤ ((0) + ((1) * ρ 6 + ((-1) * ρ 12 + 0))) := hF _ (List.mem_of_getElem? (i := 6) rfl)
  have f7 : (0 : Int) ≤ ((0) + ((-1) * ρ 6 + ((1) * ρ 12 + 0))) := hF _ (List.mem_of_getElem? (i := 7) rfl)
  have f8 : (0 : Int) ≤ ((0) + ((-1) * ρ 7 + ((1) * ρ 13 + ((1) * ρ 14 + 0)))) := hF _ (List.mem_of_getElem? (i := 8) rfl)
  have f9 : (0 : Int) ≤ ((0) + ((1) * ρ 7 + ((-1) * ρ 13 + ((-1) * ρ 14 + 0)))) := hF _ (List.mem_of_getElem? (i := 9) rfl)
  have f10 : (0 : Int) ≤ ((0) + ((1) * ρ 1 + 0)) := hF _ (List.mem_of_getElem? (i := 10) rfl)
  have f11 : (0 : Int) ≤ ((7) + ((-1) * ρ 1 + 0)) := hF _ (List.mem_of_getElem? (i := 11) rfl)
  have f12 : (0 : Int) ≤ ((0) + ((1) * ρ 2 + 0)) := hF _ (List.mem_of_getElem? (i := 12) rfl)
  have f13 : (0 : Int) ≤ ((7) + ((-1) * ρ 2 + 0)) := hF _ (List.mem_of_getElem? (i := 13) rfl)
  have g1 : G (ρ 8).toNat = 123 := by
    have q := (hG _ (List.mem_of_getElem? (i := 1) rfl)).2
    rwa [show ev ρ (0, [(8, 1)]) = ρ 8 from ev_v] at q
  have b0 : (0 : Int) ≤ ((8) + ((1) * ρ 1 + 0)) := b_aA (hA _ (List.mem_of_getElem? (i := 0) rfl))
  have b1 : (0 : Int) ≤ ((16) + ((1) * ρ 1 + 0)) := b_aA (hA _ (List.mem_of_getElem? (i := 1) rfl))
  have b2 : (0 : Int) ≤ ((8) + ((1) * ρ 2 + 0)) := b_aA (hA _ (List.mem_of_getElem? (i := 2) rfl))
  have b3 : (0 : Int) ≤ ((16) + ((1) * ρ 2 + 0)) := b_aA (hA _ (List.mem_of_getElem? (i := 3) rfl))
  have a0 : vw C h 123 (8 + (ρ 1).toNat) = ρ 9 := vw_aA hU (hA _ (List.mem_of_getElem? (i := 0) rfl)) ev_v g1 (by omega) (by omega) (i := 8 + (ρ 1).toNat) (show (((8 + (ρ 1).toNat : Nat)) : Int) = ((8) + ((1) * ρ 1 + 0)) by omega) ev_v
  have a1 : vw C h 123 (16 + (ρ 1).toNat) = ρ 10 := vw_aA hU (hA _ (List.mem_of_getElem? (i := 1) rfl)) ev_v g1 (by omega) (by omega) (i := 16 + (ρ 1).toNat) (show (((16 + (ρ 1).toNat : Nat)) : Int) = ((16) + ((1) * ρ 1 + 0)) by omega) ev_v
  have a2 : vw C h 123 (8 + (ρ 2).toNat) = ρ 11 := vw_aA hU (hA _ (List.mem_of_getElem? (i := 2) rfl)) ev_v g1 (by omega) (by omega) (i := 8 + (ρ 2).toNat) (show (((8 + (ρ 2).toNat : Nat)) : Int) = ((8) + ((1) * ρ 2 + 0)) by omega) ev_v
  have a3 : vw C h 123 (16 + (ρ 2).toNat) = ρ 12 := vw_aA hU (hA _ (List.mem_of_getElem? (i := 3) rfl)) ev_v g1 (by omega) (by omega) (i := 16 + (ρ 2).toNat) (show (((16 + (ρ 2).toNat : Nat)) : Int) = ((16) + ((1) * ρ 2 + 0)) by omega) ev_v
  have p0 : ((0) + ((1) * ρ 13 + 0)) = ab ((0) + ((1) * ρ 3 + ((-1) * ρ 5 + 0))) := hP _ (List.mem_of_getElem? (i := 0) rfl)
  have p1 : ((0) + ((1) * ρ 14 + 0)) = ab ((0) + ((1) * ρ 4 + ((-1) * ρ 6 + 0))) := hP _ (List.mem_of_getElem? (i := 1) rfl)
  refine ⟨_, List.mem_cons_self, ρ, fun _ _ => rfl, fun q hq => absurd hq List.not_mem_nil, trivial, fun f hf => ?_, fun q hq => absurd hq List.not_mem_nil, fun q hq => absurd hq List.not_mem_nil, fun q hq => absurd hq List.not_mem_nil, fun q hq => ?_⟩
  · exact absurd hf List.not_mem_nil
  · simp only [List.mem_cons, List.not_mem_nil, or_false] at hq
    subst hq
    show P81 (vw C h) ((10) + ((9) * ρ 1 + ((1) * ρ 2 + 0))) ((0) + ((1) * ρ 7 + 0))
    exact way_ok (a := ρ 1) (b := ρ 2) (wX1 (by omega) (by omega) a0 (by omega)) (wY1 (by omega) (by omega) a1 (by omega)) (wX1 (by omega) (by omega) a2 (by omega)) (wY1 (by omega) (by omega) a3 (by omega)) p0 p1 (by omega) (by omega) (by omega) (by omega) (by omega) (by omega) (by omega)
/-- pairA -/
theorem lem_65_ok (hU : uqG G C) : lem_65.1.2.1 = [] ∧ lemOK (PRd G C D xs) G rgs lem_65 := by
  refine ⟨rfl, fun ρ h ha hT => ?_⟩
  obtain ⟨-, -, hF, hG, hH, hA, hP⟩ := ha
  have f0 : (0 : Int) ≤ ((0) + ((1) * ρ 1 + 0)) := hF _ (List.mem_of_getElem? (i := 0) rfl)
  have f1 : (0 : Int) ≤ ((-1) + ((-1) * ρ 1 + ((1) * ρ 2 + 0))) := hF _ (List.mem_of_getElem? (i := 1) rfl)
  have f2 : (0 : Int) ≤ ((-1) + ((-1) * ρ 2 + ((1) * ρ 3 + 0))) := hF _ (List.mem_of_getElem? (i := 2) rfl)
  have f3 : (0 : Int) ≤ ((8) + ((-1) * ρ 3 + 0)) := hF _ (List.mem_of_getElem? (i := 3) rfl)
  have p0 : P80 (vw C h) ((0) + ((1) * ρ 1 + ((16) * ρ 3 + 0))) ((0) + ((1) * ρ 4 + 0)) := hP _ (List.mem_of_getElem? (i := 0) rfl)
  have p1 : P80 (vw C h) ((1) + ((1) * ρ 1 + ((16) * ρ 3 + 0))) ((0) + ((1) * ρ 5 + 0)) := hP _ (List.mem_of_getElem? (i := 1) rfl)
  have p2 : P81 (vw C h) ((10) + ((9) * ρ 4 + ((1) * ρ 5 + 0))) ((0) + ((1) * ρ 6 + 0)) := hP _ (List.mem_of_getElem? (i := 2) rfl)
  refine ⟨_, List.mem_cons_self, ρ, fun _ _ => rfl, fun q hq => absurd hq List.not_mem_nil, trivial, fun f hf => ?_, fun q hq => absurd hq List.not_mem_nil, fun q hq => absurd hq List.not_mem_nil, fun q hq => absurd hq List.not_mem_nil, fun q hq => ?_⟩
  · exact absurd hf List.not_mem_nil
  · simp only [List.mem_cons, List.not_mem_nil, or_false] at hq
    subst hq
    show P79 (vw C h) ((1) + ((65) * ρ 1 + ((4096) * ρ 3 + 0))) ((0) + ((1) * ρ 6 + 0))
    exact pair_ok (m := ρ 3) (p := ρ 1 - 1) (q := ρ 1) (rg142 hU hT) p0 p1 p2 (by omega) (by omega) (by omega) (by omega) (by omega) (by omega) (by omega) (by omega) (by omega)
/-- pairB -/
theorem lem_66_ok (hU : uqG G C) : lem_66.1.2.1 = [] ∧ lemOK (PRd G C D xs) G rgs lem_66 := by
  refine ⟨rfl, fun ρ h ha hT => ?_⟩
  obtain ⟨-, -, hF, hG, hH, hA, hP⟩ := ha
  have f0 : (0 : Int) ≤ ((0) + ((1) * ρ 1 + 0)) := hF _ (List.mem_of_getElem? (i := 0) rfl)
  have f1 : (0 : Int) ≤ ((-1) + ((-1) * ρ 1 + ((1) * ρ 2 + 0))) := hF _ (List.mem_of_getElem? (i := 1) rfl)
  have f2 : (0 : Int) ≤ ((-1) + ((-1) * ρ 2 + ((1) * ρ 3 + 0))) := hF _ (List.mem_of_getElem? (i := 2) rfl)
  have f3 : (0 : Int) ≤ ((8) + ((-1) * ρ 3 + 0)) := hF _ (List.mem_of_getElem? (i := 3) rfl)
  have p0 : P80 (vw C h) ((1) + ((1) * ρ 2 + ((16) * ρ 3 + 0))) ((0) + ((1) * ρ 4 + 0)) := hP _ (List.mem_of_getElem? (i := 0) rfl)
  have p1 : P80 (vw C h) ((2) + ((1) * ρ 2 + ((16) * ρ 3 + 0))) ((0) + ((1) * ρ 5 + 0)) := hP _ (List.mem_of_getElem? (i := 1) rfl)
  have p2 : P81 (vw C h) ((10) + ((9) * ρ 4 + ((1) * ρ 5 + 0))) ((0) + ((1) * ρ 6 + 0)) := hP _ (List.mem_of_getElem? (i := 2) rfl)
  refine ⟨_, List.mem_cons_self, ρ, fun _ _ => rfl, fun q hq => absurd hq List.not_mem_nil, trivial, fun f hf => ?_, fun q hq => absurd hq List.not_mem_nil, fun q hq => absurd hq List.not_mem_nil, fun q hq => absurd hq List.not_mem_nil, fun q hq => ?_⟩
  · exact absurd hf List.not_mem_nil
  · simp only [List.mem_cons, List.not_mem_nil, or_false] at hq
    subst hq
    show P79 (vw C h) ((66) + ((65) * ρ 2 + ((4096) * ρ 3 + 0))) ((0) + ((1) * ρ 6 + 0))
    exact pair_ok (m := ρ 3) (p := ρ 2) (q := ρ 2 + 1) (rg142 hU hT) p0 p1 p2 (by omega) (by omega) (by omega) (by omega) (by omega) (by omega) (by omega) (by omega) (by omega)
/-- pairC -/
theorem lem_67_ok (hU : uqG G C) : lem_67.1.2.1 = [] ∧ lemOK (PRd G C D xs) G rgs lem_67 := by
  refine ⟨rfl, fun ρ h ha hT => ?_⟩
  obtain ⟨-, -, hF, hG, hH, hA, hP⟩ := ha
  have f0 : (0 : Int) ≤ ((0) + ((1) * ρ 1 + 0)) := hF _ (List.mem_of_getElem? (i := 0) rfl)
  have f1 : (0 : Int) ≤ ((-1) + ((-1) * ρ 1 + ((1) * ρ 2 + 0))) := hF _ (List.mem_of_getElem? (i := 1) rfl)
  have f2 : (0 : Int) ≤ ((-1) + ((-1) * ρ 2 + ((1) * ρ 3 + 0))) := hF _ (List.mem_of_getElem? (i := 2) rfl)
  have f3 : (0 : Int) ≤ ((8) + ((-1) * ρ 3 + 0)) := hF _ (List.mem_of_getElem? (i := 3) rfl)
  have p0 : P80 (vw C h) ((0) + ((1) * ρ 1 + ((16) * ρ 3 + 0))) ((0) + ((1) * ρ 4 + 0)) := hP _ (List.mem_of_getElem? (i := 0) rfl)
  have p1 : P80 (vw C h) ((1) + ((1) * ρ 2 + ((16) * ρ 3 + 0))) ((0) + ((1) * ρ 5 + 0)) := hP _ (List.mem_of_getElem? (i := 1) rfl)
  have p2 : P81 (vw C h) ((10) + ((9) * ρ 4 + ((1) * ρ 5 + 0))) ((0) + ((1) * ρ 6 + 0)) := hP _ (List.mem_of_getElem? (i := 2) rfl)
  refine ⟨_, List.mem_cons_self, ρ, fun _ _ => rfl, fun q hq => absurd hq List.not_mem_nil, trivial, fun f hf => ?_, fun q hq => absurd hq List.not_mem_nil, fun q hq => absurd hq List.not_mem_nil, fun q hq => absurd hq List.not_mem_nil, fun q hq => ?_⟩
  · exact absurd hf List.not_mem_nil
  · simp only [List.mem_cons, List.not_mem_nil, or_false] at hq
    subst hq
    show P79 (vw C h) ((1) + ((64) * ρ 1 + ((1) * ρ 2 + ((4096) * ρ 3 + 0)))) ((0) + ((1) * ρ 6 + 0))
    exact pair_ok (m := ρ 3) (p := ρ 1 - 1) (q := ρ 2) (rg142 hU hT) p0 p1 p2 (by omega) (by omega) (by omega) (by omega) (by omega) (by omega) (by omega) (by omega) (by omega)
/-- pairD -/
theorem lem_68_ok (hU : uqG G C) : lem_68.1.2.1 = [] ∧ lemOK (PRd G C D xs) G rgs lem_68 := by
  refine ⟨rfl, fun ρ h ha hT => ?_⟩
  obtain ⟨-, -, hF, hG, hH, hA, hP⟩ := ha
  have f0 : (0 : Int) ≤ ((0) + ((1) * ρ 1 + 0)) := hF _ (List.mem_of_getElem? (i := 0) rfl)
  have f1 : (0 : Int) ≤ ((-1) + ((-1) * ρ 1 + ((1) * ρ 2 + 0))) := hF _ (List.mem_of_getElem? (i := 1) rfl)
  have f2 : (0 : Int) ≤ ((-1) + ((-1) * ρ 2 + ((1) * ρ 3 + 0))) := hF _ (List.mem_of_getElem? (i := 2) rfl)
  have f3 : (0 : Int) ≤ ((8) + ((-1) * ρ 3 + 0)) := hF _ (List.mem_of_getElem? (i := 3) rfl)
  have p0 : P80 (vw C h) ((1) + ((1) * ρ 1 + ((16) * ρ 3 + 0))) ((0) + ((1) * ρ 4 + 0)) := hP _ (List.mem_of_getElem? (i := 0) rfl)
  have p1 : P80 (vw C h) ((2) + ((1) * ρ 2 + ((16) * ρ 3 + 0))) ((0) + ((1) * ρ 5 + 0)) := hP _ (List.mem_of_getElem? (i := 1) rfl)
  have p2 : P81 (vw C h) ((10) + ((9) * ρ 4 + ((1) * ρ 5 + 0))) ((0) + ((1) * ρ 6 + 0)) := hP _ (List.mem_of_getElem? (i := 2) rfl)
  refine ⟨_, List.mem_cons_self, ρ, fun _ _ => rfl, fun q hq => absurd hq List.not_mem_nil, trivial, fun f hf => ?_, fun q hq => absurd hq List.not_mem_nil, fun q hq => absurd hq List.not_mem_nil, fun q hq => absurd hq List.not_mem_nil, fun q hq => ?_⟩
  · exact absurd hf List.not_mem_nil
  · simp only [List.mem_cons, List.not_mem_nil, or_false] at hq
    subst hq
    show P79 (vw C h) ((66) + ((64) * ρ 1 + ((1) * ρ 2 + ((4096) * ρ 3 + 0)))) ((0) + ((1) * ρ 6 + 0))
    exact pair_ok (m := ρ 3) (p := ρ 1) (q := ρ 2 + 1) (rg142 hU hT) p0 p1 p2 (by omega) (by omega) (by omega) (by omega) (by omega) (by omega) (by omega) (by omega) (by omega)
/-- twoOpt -/
theorem lem_69_ok (hU : uqG G C) : lem_69.1.2.1 = [] ∧ lemOK (PRd G C D xs) G rgs lem_69 := by
  refine ⟨rfl, fun ρ h ha hT => ?_⟩
  obtain ⟨-, -, hF, hG, hH, hA, hP⟩ := ha
  have f0 : (0 : Int) ≤ ((0) + ((1) * ρ 1 + 0)) := hF _ (List.mem_of_getElem? (i := 0) rfl)
  have f1 : (0 : Int) ≤ ((-1) + ((-1) * ρ 1 + ((1) * ρ 2 + 0))) := hF _ (List.mem_of_getElem? (i := 1) rfl)
  have f2 : (0 : Int) ≤ ((-1) + ((-1) * ρ 2 + ((1) * ρ 5 + 0))) := hF _ (List.mem_of_getElem? (i := 2) rfl)
  have f3 : (0 : Int) ≤ ((8) + ((-1) * ρ 5 + 0)) := hF _ (List.mem_of_getElem? (i := 3) rfl)
  have f4 : (0 : Int) ≤ ((0) + ((-1) * ρ 3 + ((1) * ρ 6 + ((1) * ρ 7 + 0)))) := hF _ (List.mem_of_getElem? (i := 4) rfl)
  have f5 : (0 : Int) ≤ ((0) + ((1) * ρ 3 + ((-1) * ρ 6 + ((-1) * ρ 7 + 0)))) := hF _ (List.mem_of_getElem? (i := 5) rfl)
  have f6 : (0 : Int) ≤ ((0) + ((-1) * ρ 4 + ((1) * ρ 8 + ((1) * ρ 9 + 0)))) := hF _ (List.mem_of_getElem? (i := 6) rfl)
  have f7 : (0 : Int) ≤ ((0) + ((1) * ρ 4 + ((-1) * ρ 8 + ((-1) * ρ 9 + 0)))) := hF _ (List.mem_of_getElem? (i := 7) rfl)
  have p0 : P79 (vw C h) ((1) + ((65) * ρ 1 + ((4096) * ρ 5 + 0))) ((0) + ((1) * ρ 6 + 0)) := hP _ (List.mem_of_getElem? (i := 0) rfl)
  have p1 : P79 (vw C h) ((66) + ((65) * ρ 2 + ((4096) * ρ 5 + 0))) ((0) + ((1) * ρ 7 + 0)) := hP _ (List.mem_of_getElem? (i := 1) rfl)
  have p2 : P79 (vw C h) ((1) + ((64) * ρ 1 + ((1) * ρ 2 + ((4096) * ρ 5 + 0)))) ((0) + ((1) * ρ 8 + 0)) := hP _ (List.mem_of_getElem? (i := 2) rfl)
  have p3 : P79 (vw C h) ((66) + ((64) * ρ 1 + ((1) * ρ 2 + ((4096) * ρ 5 + 0)))) ((0) + ((1) * ρ 9 + 0)) := hP _ (List.mem_of_getElem? (i := 3) rfl)
  have p4 : P82 (vw C h) ((0) + ((1) * ρ 5 + 0)) ((0) + ((1) * ρ 10 + 0)) := hP _ (List.mem_of_getElem? (i := 4) rfl)
  have q := twoOpt_ok (m := ρ 5) (i := ρ 1) (j := ρ 2) (S' := ((0) + ((-1) * ρ 3 + ((1) * ρ 4 + ((1) * ρ 10 + 0))))) (k := ((0) + ((16) * ρ 1 + ((1) * ρ 2 + ((256) * ρ 5 + 0))))) (by omega) (by omega) (by omega) (by omega) p0 p1 p2 p3 p4 (by omega) (by omega) (by omega) (by omega) (by omega) (by omega) (by omega)
  refine ⟨_, List.mem_cons_self, ρ, fun _ _ => rfl, fun q hq => absurd hq List.not_mem_nil, trivial, fun f hf => ?_, fun q hq => absurd hq List.not_mem_nil, fun q hq => absurd hq List.not_mem_nil, fun q hq => absurd hq List.not_mem_nil, fun q hq => ?_⟩
  · simp only [List.mem_cons, List.not_mem_nil, or_false] at hf
    subst hf
    show (0 : Int) ≤ ((0) + ((-1) * ρ 3 + ((1) * ρ 4 + ((1) * ρ 10 + 0))))
    omega
  · simp only [List.mem_cons, List.not_mem_nil, or_false] at hq
    subst hq
    show P83 (vw C h) ((0) + ((16) * ρ 1 + ((1) * ρ 2 + ((256) * ρ 5 + 0)))) ((0) + ((-1) * ρ 3 + ((1) * ρ 4 + ((1) * ρ 10 + 0))))
    exact q.2
/-- revDone -/
theorem lem_70_ok (hU : uqG G C) : lem_70.1.2.1 = [] ∧ lemOK (PRd G C D xs) G rgs lem_70 := by
  refine ⟨rfl, fun ρ h ha hT => ?_⟩
  obtain ⟨-, -, hF, hG, hH, hA, hP⟩ := ha
  have f0 : (0 : Int) ≤ ((0) + ((1) * ρ 1 + ((-1) * ρ 2 + 0))) := hF _ (List.mem_of_getElem? (i := 0) rfl)
  have f1 : (0 : Int) ≤ ((0) + ((1) * ρ 1 + 0)) := hF _ (List.mem_of_getElem? (i := 1) rfl)
  have f2 : (0 : Int) ≤ ((9) + ((-1) * ρ 1 + 0)) := hF _ (List.mem_of_getElem? (i := 2) rfl)
  have f3 : (0 : Int) ≤ ((0) + ((1) * ρ 2 + 0)) := hF _ (List.mem_of_getElem? (i := 3) rfl)
  have f4 : (0 : Int) ≤ ((9) + ((-1) * ρ 2 + 0)) := hF _ (List.mem_of_getElem? (i := 4) rfl)
  have f5 : (0 : Int) ≤ ((0) + ((1) * ρ 3 + 0)) := hF _ (List.mem_of_getElem? (i := 5) rfl)
  have f6 : (0 : Int) ≤ ((8) + ((-1) * ρ 3 + 0)) := hF _ (List.mem_of_getElem? (i := 6) rfl)
  have p0 : P83 (vw C h) ((0) + ((16) * ρ 1 + ((1) * ρ 2 + ((256) * ρ 3 + 0)))) ((0) + ((1) * ρ 4 + 0)) := hP _ (List.mem_of_getElem? (i := 0) rfl)
  refine ⟨_, List.mem_cons_self, ρ, fun _ _ => rfl, fun q hq => absurd hq List.not_mem_nil, trivial, fun f hf => ?_, fun q hq => absurd hq List.not_mem_nil, fun q hq => absurd hq List.not_mem_nil, fun q hq => absurd hq List.not_mem_nil, fun q hq => ?_⟩
  · exact absurd hf List.not_mem_nil
  · simp only [List.mem_cons, List.not_mem_nil, or_false] at hq
    subst hq
    show P82 (vw C h) ((0) + ((1) * ρ 3 + 0)) ((0) + ((1) * ρ 4 + 0))
    exact revDone_ok (m := ρ 3) (i := ρ 1) (j := ρ 2) p0 (by omega) (by omega) (by omega) (by omega) (by omega) (by omega) (by omega)
/-- swap1 -/
theorem lem_71_ok (hU : uqG G C) : lem_71.1.2.1 = [] ∧ lemOK (PRd G C D xs) G rgs lem_71 := by
  refine ⟨rfl, fun ρ h ha hT => ?_⟩
  obtain ⟨-, -, hF, hG, hH, hA, hP⟩ := ha
  have f0 : (0 : Int) ≤ ((0) + ((1) * ρ 4 + ((-1) * ρ 7 + 0))) := hF _ (List.mem_of_getElem? (i := 0) rfl)
  have f1 : (0 : Int) ≤ ((0) + ((-1) * ρ 4 + ((1) * ρ 7 + 0))) := hF _ (List.mem_of_getElem? (i := 1) rfl)
  have f2 : (0 : Int) ≤ ((0) + ((1) * ρ 3 + ((-1) * ρ 8 + 0))) := hF _ (List.mem_of_getElem? (i := 2) rfl)
  have f3 : (0 : Int) ≤ ((0) + ((-1) * ρ 3 + ((1) * ρ 8 + 0))) := hF _ (List.mem_of_getElem? (i := 3) rfl)
  have f4 : (0 : Int) ≤ ((0) + ((1) * ρ 1 + 0)) := hF _ (List.mem_of_getElem? (i := 4) rfl)
  have f5 : (0 : Int) ≤ ((-1) + ((-1) * ρ 1 + ((1) * ρ 2 + 0))) := hF _ (List.mem_of_getElem? (i := 5) rfl)
  have f6 : (0 : Int) ≤ ((-1) + ((-1) * ρ 2 + ((1) * ρ 5 + 0))) := hF _ (List.mem_of_getElem? (i := 6) rfl)
  have f7 : (0 : Int) ≤ ((8) + ((-1) * ρ 5 + 0)) := hF _ (List.mem_of_getElem? (i := 7) rfl)
  have f8 : (0 : Int) ≤ ((0) + ((1) * ρ 4 + 0)) := hF _ (List.mem_of_getElem? (i := 8) rfl)
  have f9 : (0 : Int) ≤ ((7) + ((-1) * ρ 4 + 0)) := hF _ (List.mem_of_getElem? (i := 9) rfl)
  have g1 : G (ρ 6).toNat = 142 := by
    have q := (hG _ (List.mem_of_getElem? (i := 1) rfl)).2
    rwa [show ev ρ (0, [(6, 1)]) = ρ 6 from ev_v] at q
  have b0 : (0 : Int) ≤ ((0) + ((1) * ρ 1 + 0)) := b_aA (hA _ (List.mem_of_getElem? (i := 0) rfl))
  have b1 : (0 : Int) ≤ ((0) + ((1) * ρ 2 + 0)) := b_aA (hA _ (List.mem_of_getElem? (i := 1) rfl))
  have a0 : vw C h 142 ((ρ 1).toNat) = ρ 7 := vw_aA hU (hA _ (List.mem_of_getElem? (i := 0) rfl)) ev_v g1 (by omega) (by omega) (i := (ρ 1).toNat) (show ((((ρ 1).toNat : Nat)) : Int) = ((0) + ((1) * ρ 1 + 0)) by omega) ev_v
  have a1 : vw C h 142 ((ρ 2).toNat) = ρ 8 := vw_aA hU (hA _ (List.mem_of_getElem? (i := 1) rfl)) ev_v g1 (by omega) (by omega) (i := (ρ 2).toNat) (show ((((ρ 2).toNat : Nat)) : Int) = ((0) + ((1) * ρ 2 + 0)) by omega) ev_v
  have p0 : P83 (vw C h) ((0) + ((16) * ρ 1 + ((1) * ρ 2 + ((256) * ρ 5 + 0)))) ((0) + ((1) * ρ 9 + 0)) := hP _ (List.mem_of_getElem? (i := 0) rfl)
  have q := swap1_ok (m := ρ 5) (i := ((0) + ((1) * ρ 1 + 0))) (j := ρ 2) (v := ρ 4) (c := ((0) + ((8) * ρ 2 + ((1) * ρ 4 + ((128) * ρ 5 + ((2048) * ρ 9 + 0)))))) (a := ((0) + ((8) * ρ 2 + ((1) * ρ 4 + ((128) * ρ 5 + 0))))) (by rw [(show ((0 : Int) + (1 * ρ 1 + 0)).toNat = (ρ 1).toNat by omega), a0]; omega) (by omega) (by omega) (by omega) (by omega) (by omega) (by omega) p0 (by omega) (by omega) (by omega)
  refine ⟨_, List.mem_cons_self, ρ, fun _ _ => rfl, fun q hq => absurd hq List.not_mem_nil, trivial, fun f hf => ?_, fun q hq => absurd hq List.not_mem_nil, fun q hq => absurd hq List.not_mem_nil, fun q hq => absurd hq List.not_mem_nil, fun q hq => ?_⟩
  · exact absurd hf List.not_mem_nil
  · simp only [List.mem_cons, List.not_mem_nil, or_false] at hq
    rcases hq with rfl | rfl
    · show P84 (vw C h) ((0) + ((1) * ρ 1 + 0)) ((0) + ((8) * ρ 2 + ((1) * ρ 4 + ((128) * ρ 5 + ((2048) * ρ 9 + 0)))))
      exact q.1
    · show P92 ((0) + ((8) * ρ 2 + ((1) * ρ 4 + ((128) * ρ 5 + 0)))) ((0) + ((8) * ρ 2 + ((1) * ρ 4 + ((128) * ρ 5 + ((2048) * ρ 9 + 0)))))
      exact q.2
/-- swap2 -/
theorem lem_72_ok (hU : uqG G C) : lem_72.1.2.1 = [] ∧ lemOK (PRd G C D xs) G rgs lem_72 := by
  refine ⟨rfl, fun ρ h ha hT => ?_⟩
  obtain ⟨-, -, hF, hG, hH, hA, hP⟩ := ha
  have f0 : (0 : Int) ≤ ((0) + ((-1) * ρ 6 + ((1) * ρ 7 + 0))) := hF _ (List.mem_of_getElem? (i := 0) rfl)
  have f1 : (0 : Int) ≤ ((0) + ((1) * ρ 6 + ((-1) * ρ 7 + 0))) := hF _ (List.mem_of_getElem? (i := 1) rfl)
  have f2 : (0 : Int) ≤ ((0) + ((1) * ρ 1 + 0)) := hF _ (List.mem_of_getElem? (i := 2) rfl)
  have f3 : (0 : Int) ≤ ((-1) + ((-1) * ρ 1 + ((1) * ρ 2 + 0))) := hF _ (List.mem_of_getElem? (i := 3) rfl)
  have f4 : (0 : Int) ≤ ((-1) + ((-1) * ρ 2 + ((1) * ρ 4 + 0))) := hF _ (List.mem_of_getElem? (i := 4) rfl)
  have f5 : (0 : Int) ≤ ((8) + ((-1) * ρ 4 + 0)) := hF _ (List.mem_of_getElem? (i := 5) rfl)
  have f6 : (0 : Int) ≤ ((0) + ((1) * ρ 3 + 0)) := hF _ (List.mem_of_getElem? (i := 6) rfl)
  have f7 : (0 : Int) ≤ ((7) + ((-1) * ρ 3 + 0)) := hF _ (List.mem_of_getElem? (i := 7) rfl)
  have g1 : G (ρ 5).toNat = 142 := by
    have q := (hG _ (List.mem_of_getElem? (i := 1) rfl)).2
    rwa [show ev ρ (0, [(5, 1)]) = ρ 5 from ev_v] at q
  have b0 : (0 : Int) ≤ ((0) + ((1) * ρ 1 + 0)) := b_aA (hA _ (List.mem_of_getElem? (i := 0) rfl))
  have b1 : (0 : Int) ≤ ((0) + ((1) * ρ 2 + 0)) := b_aA (hA _ (List.mem_of_getElem? (i := 1) rfl))
  have a0 : vw C h 142 ((ρ 1).toNat) = ρ 6 := vw_aA hU (hA _ (List.mem_of_getElem? (i := 0) rfl)) ev_v g1 (by omega) (by omega) (i := (ρ 1).toNat) (show ((((ρ 1).toNat : Nat)) : Int) = ((0) + ((1) * ρ 1 + 0)) by omega) ev_v
  have a1 : vw C h 142 ((ρ 2).toNat) = ρ 7 := vw_aA hU (hA _ (List.mem_of_getElem? (i := 1) rfl)) ev_v g1 (by omega) (by omega) (i := (ρ 2).toNat) (show ((((ρ 2).toNat : Nat)) : Int) = ((0) + ((1) * ρ 2 + 0)) by omega) ev_v
  have p0 : P84 (vw C h) ((0) + ((1) * ρ 1 + 0)) ((0) + ((1) * ρ 8 + 0)) := hP _ (List.mem_of_getElem? (i := 0) rfl)
  have p1 : P92 ((0) + ((8) * ρ 2 + ((1) * ρ 3 + ((128) * ρ 4 + 0)))) ((0) + ((1) * ρ 8 + 0)) := hP _ (List.mem_of_getElem? (i := 1) rfl)
  have q := swap2_ok (m := ρ 4) (i := ((0) + ((1) * ρ 1 + 0))) (j := ((0) + ((1) * ρ 2 + 0))) (v := ρ 3) (x := ρ 6) (y := ρ 7) (c' := ((0) + ((8) * ρ 1 + ((-8) * ρ 2 + ((1) * ρ 8 + 0))))) (a' := ((0) + ((8) * ρ 1 + ((1) * ρ 3 + ((128) * ρ 4 + 0))))) (by rw [(show ((0 : Int) + (1 * ρ 1 + 0)).toNat = (ρ 1).toNat by omega)]; exact a0) (by rw [(show ((0 : Int) + (1 * ρ 2 + 0)).toNat = (ρ 2).toNat by omega)]; exact a1) (by omega) (by omega) (by omega) (by omega) (by omega) (by omega) (by omega) p0 p1 (by omega) (by omega) (by omega)
  refine ⟨_, List.mem_cons_self, ρ, fun _ _ => rfl, fun q hq => absurd hq List.not_mem_nil, trivial, fun f hf => ?_, fun q hq => absurd hq List.not_mem_nil, fun q hq => absurd hq List.not_mem_nil, fun q hq => absurd hq List.not_mem_nil, fun q hq => ?_⟩
  · exact absurd hf List.not_mem_nil
  · simp only [List.mem_cons, List.not_mem_nil, or_false] at hq
    rcases hq with rfl | rfl
    · show P85 (vw C h) ((0) + ((1) * ρ 2 + 0)) ((0) + ((8) * ρ 1 + ((-8) * ρ 2 + ((1) * ρ 8 + 0))))
      exact q.1
    · show P92 ((0) + ((8) * ρ 1 + ((1) * ρ 3 + ((128) * ρ 4 + 0)))) ((0) + ((8) * ρ 1 + ((-8) * ρ 2 + ((1) * ρ 8 + 0))))
      exact q.2
/-- swap3 -/
theorem lem_73_ok (hU : uqG G C) : lem_73.1.2.1 = [] ∧ lemOK (PRd G C D xs) G rgs lem_73 := by
  refine ⟨rfl, fun ρ h ha hT => ?_⟩
  obtain ⟨-, -, hF, hG, hH, hA, hP⟩ := ha
  have f0 : (0 : Int) ≤ ((0) + ((1) * ρ 3 + ((-1) * ρ 6 + 0))) := hF _ (List.mem_of_getElem? (i := 0) rfl)
  have f1 : (0 : Int) ≤ ((0) + ((-1) * ρ 3 + ((1) * ρ 6 + 0))) := hF _ (List.mem_of_getElem? (i := 1) rfl)
  have f2 : (0 : Int) ≤ ((0) + ((1) * ρ 1 + 0)) := hF _ (List.mem_of_getElem? (i := 2) rfl)
  have f3 : (0 : Int) ≤ ((-1) + ((-1) * ρ 1 + ((1) * ρ 2 + 0))) := hF _ (List.mem_of_getElem? (i := 3) rfl)
  have f4 : (0 : Int) ≤ ((-1) + ((-1) * ρ 2 + ((1) * ρ 4 + 0))) := hF _ (List.mem_of_getElem? (i := 4) rfl)
  have f5 : (0 : Int) ≤ ((8) + ((-1) * ρ 4 + 0)) := hF _ (List.mem_of_getElem? (i := 5) rfl)
  have f6 : (0 : Int) ≤ ((0) + ((1) * ρ 3 + 0)) := hF _ (List.mem_of_getElem? (i := 6) rfl)
  have f7 : (0 : Int) ≤ ((7) + ((-1) * ρ 3 + 0)) := hF _ (List.mem_of_getElem? (i := 7) rfl)
  have g1 : G (ρ 5).toNat = 142 := by
    have q := (hG _ (List.mem_of_getElem? (i := 1) rfl)).2
    rwa [show ev ρ (0, [(5, 1)]) = ρ 5 from ev_v] at q
  have b0 : (0 : Int) ≤ ((0) + ((1) * ρ 2 + 0)) := b_aA (hA _ (List.mem_of_getElem? (i := 0) rfl))
  have a0 : vw C h 142 ((ρ 2).toNat) = ρ 6 := vw_aA hU (hA _ (List.mem_of_getElem? (i := 0) rfl)) ev_v g1 (by omega) (by omega) (i := (ρ 2).toNat) (show ((((ρ 2).toNat : Nat)) : Int) = ((0) + ((1) * ρ 2 + 0)) by omega) ev_v
  have p0 : P85 (vw C h) ((0) + ((1) * ρ 2 + 0)) ((0) + ((1) * ρ 7 + 0)) := hP _ (List.mem_of_getElem? (i := 0) rfl)
  have p1 : P92 ((0) + ((8) * ρ 1 + ((1) * ρ 3 + ((128) * ρ 4 + 0)))) ((0) + ((1) * ρ 7 + 0)) := hP _ (List.mem_of_getElem? (i := 1) rfl)
  have q := swap3_ok (m := ρ 4) (i := ρ 1) (j := ((0) + ((1) * ρ 2 + 0))) (v := ρ 3) (x := ρ 6) (S := ((0) + ((1) * ρ 7 + 0)) / 2048) (k := 15 + 16 * ρ 1 + ρ 2 + 256 * ρ 4) (by rw [(show ((0 : Int) + (1 * ρ 2 + 0)).toNat = (ρ 2).toNat by omega)]; exact a0) (by omega) (by omega) (by omega) (by omega) (by omega) (by omega) (by omega) p0 p1 (by omega) (by omega) (by omega)
  obtain ⟨σ, r1, r2⟩ : ∃ σ : Va, (∀ i, i < 8 → σ i = ρ i) ∧ σ 8 = (ρ 7 / 2048) := ⟨fun i => if i = 8 then (ρ 7 / 2048) else ρ i, fun i hi => if_neg (by omega), if_pos rfl⟩
  have s0 := r1 0 (by omega)
  have s1 := r1 1 (by omega)
  have s2 := r1 2 (by omega)
  have s3 := r1 3 (by omega)
  have s4 := r1 4 (by omega)
  have s5 := r1 5 (by omega)
  have s6 := r1 6 (by omega)
  have s7 := r1 7 (by omega)
  refine ⟨_, List.mem_cons_self, σ, r1, fun q hq => absurd hq List.not_mem_nil, trivial, fun f hf => ?_, fun q hq => absurd hq List.not_mem_nil, fun q hq => absurd hq List.not_mem_nil, fun q hq => absurd hq List.not_mem_nil, fun q hq => ?_⟩
  · simp only [List.mem_cons, List.not_mem_nil, or_false] at hf
    rcases hf with rfl | rfl
    · show (0 : Int) ≤ ((0) + ((-8) * σ 1 + ((-1) * σ 3 + ((-128) * σ 4 + ((1) * σ 7 + ((-2048) * σ 8 + 0))))))
      omega
    · show (0 : Int) ≤ ((0) + ((8) * σ 1 + ((1) * σ 3 + ((128) * σ 4 + ((-1) * σ 7 + ((2048) * σ 8 + 0))))))
      omega
  · simp only [List.mem_cons, List.not_mem_nil, or_false] at hq
    subst hq
    show P83 (vw C h) ((15) + ((16) * σ 1 + ((1) * σ 2 + ((256) * σ 4 + 0)))) ((0) + ((1) * σ 8 + 0))
    rw [show ((15) + ((16) * σ 1 + ((1) * σ 2 + ((256) * σ 4 + 0)))) = 15 + 16 * ρ 1 + ρ 2 + 256 * ρ 4 by omega, show ((0) + ((1) * σ 8 + 0)) = ((0) + ((1) * ρ 7 + 0)) / 2048 by omega]
    exact q.2
/-- initS -/
theorem lem_74_ok (hU : uqG G C) : lem_74.1.2.1 = [] ∧ lemOK (PRd G C D xs) G rgs lem_74 := by
  refine ⟨rfl, fun ρ h ha hT => ?_⟩
  obtain ⟨-, -, hF, hG, hH, hA, hP⟩ := ha
  have f0 : (0 : Int) ≤ ((0) + ((1) * ρ 1 + 0)) := hF _ (List.mem_of_getElem? (i := 0) rfl)
  have f1 : (0 : Int) ≤ ((8) + ((-1) * ρ 1 + 0)) := hF _ (List.mem_of_getElem? (i := 1) rfl)
  have q := initS_ok (V := vw C h) (m := ρ 1) (by omega) (by omega) (rg123 hU hT)
  have q0 := pT_0 (V := vw C h) (ρ := ro (vw C h)) (m := ρ 1)
  obtain ⟨σ, r1, r2⟩ : ∃ σ : Va, (∀ i, i < 2 → σ i = ρ i) ∧ σ 2 = (pT (vw C h) (ro (vw C h)) (ρ 1)) := ⟨fun i => if i = 2 then (pT (vw C h) (ro (vw C h)) (ρ 1)) else ρ i, fun i hi => if_neg (by omega), if_pos rfl⟩
  have s0 := r1 0 (by omega)
  have s1 := r1 1 (by omega)
  refine ⟨_, List.mem_cons_self, σ, r1, fun q hq => absurd hq List.not_mem_nil, trivial, fun f hf => ?_, fun q hq => absurd hq List.not_mem_nil, fun q hq => absurd hq List.not_mem_nil, fun q hq => absurd hq List.not_mem_nil, fun q hq => ?_⟩
  · simp only [List.mem_cons, List.not_mem_nil, or_false] at hf
    rcases hf with rfl | rfl
    · show (0 : Int) ≤ ((0) + ((1) * σ 2 + 0))
      omega
    · show (0 : Int) ≤ ((1800) + ((-1) * σ 2 + 0))
      omega
  · simp only [List.mem_cons, List.not_mem_nil, or_false] at hq
    subst hq
    show P82 (vw C h) ((0) + ((1) * σ 1 + 0)) ((0) + ((1) * σ 2 + 0))
    rw [show ((0) + ((1) * σ 1 + 0)) = ρ 1 by omega, show ((0) + ((1) * σ 2 + 0)) = pT (vw C h) (ro (vw C h)) (ρ 1) by omega]
    exact rfl
/-- noOrder -/
theorem lem_75_ok (hU : uqG G C) : lem_75.1.2.1 = [] ∧ lemOK (PRd G C D xs) G rgs lem_75 := by
  refine ⟨rfl, fun ρ h ha hT => ?_⟩
  obtain ⟨-, -, hF, hG, hH, hA, hP⟩ := ha
  refine ⟨_, List.mem_cons_self, ρ, fun _ _ => rfl, fun q hq => absurd hq List.not_mem_nil, trivial, fun f hf => ?_, fun q hq => absurd hq List.not_mem_nil, fun q hq => absurd hq List.not_mem_nil, fun q hq => absurd hq List.not_mem_nil, fun q hq => ?_⟩
  · exact absurd hf List.not_mem_nil
  · simp only [List.mem_cons, List.not_mem_nil, or_false] at hq
    subst hq
    show P86 (vw C h) ((0) + 0) ((0) + 0)
    exact ⟨fun a b _ hb _ => by omega, fun a ha _ => by omega⟩
/-- ordMore -/
theorem lem_76_ok (hU : uqG G C) : lem_76.1.2.1 = [] ∧ lemOK (PRd G C D xs) G rgs lem_76 := by
  refine ⟨rfl, fun ρ h ha hT => ?_⟩
  obtain ⟨-, -, hF, hG, hH, hA, hP⟩ := ha
  have f0 : (0 : Int) ≤ ((1) + ((1) * ρ 1 + ((-1) * ρ 2 + 0))) := hF _ (List.mem_of_getElem? (i := 0) rfl)
  have p0 : P86 (vw C h) ((0) + ((1) * ρ 0 + 0)) ((0) + ((1) * ρ 2 + 0)) := hP _ (List.mem_of_getElem? (i := 0) rfl)
  refine ⟨_, List.mem_cons_self, ρ, fun _ _ => rfl, fun q hq => absurd hq List.not_mem_nil, trivial, fun f hf => ?_, fun q hq => absurd hq List.not_mem_nil, fun q hq => absurd hq List.not_mem_nil, fun q hq => absurd hq List.not_mem_nil, fun q hq => ?_⟩
  · exact absurd hf List.not_mem_nil
  · simp only [List.mem_cons, List.not_mem_nil, or_false] at hq
    subst hq
    show P86 (vw C h) ((0) + ((1) * ρ 0 + 0)) ((1) + ((1) * ρ 1 + 0))
    exact ⟨p0.1, fun a ha a8 => by
      have := p0.2 a ha a8
      omega⟩
/-- ordHole -/
theorem lem_77_ok (hU : uqG G C) : lem_77.1.2.1 = [] ∧ lemOK (PRd G C D xs) G rgs lem_77 := by
  refine ⟨rfl, fun ρ h ha hT => ?_⟩
  obtain ⟨-, -, hF, hG, hH, hA, hP⟩ := ha
  have f0 : (0 : Int) ≤ ((0) + ((1) * ρ 0 + 0)) := hF _ (List.mem_of_getElem? (i := 0) rfl)
  have f1 : (0 : Int) ≤ ((8) + ((-1) * ρ 0 + 0)) := hF _ (List.mem_of_getElem? (i := 1) rfl)
  have f2 : (0 : Int) ≤ ((0) + ((1) * ρ 1 + 0)) := hF _ (List.mem_of_getElem? (i := 2) rfl)
  have f3 : (0 : Int) ≤ ((8) + ((-1) * ρ 1 + 0)) := hF _ (List.mem_of_getElem? (i := 3) rfl)
  have p0 : P86 (vw C h) ((0) + ((1) * ρ 0 + 0)) ((0) + ((1) * ρ 1 + 0)) := hP _ (List.mem_of_getElem? (i := 0) rfl)
  refine ⟨_, List.mem_cons_self, ρ, fun _ _ => rfl, fun q hq => absurd hq List.not_mem_nil, trivial, fun f hf => ?_, fun q hq => absurd hq List.not_mem_nil, fun q hq => absurd hq List.not_mem_nil, fun q hq => absurd hq List.not_mem_nil, fun q hq => ?_⟩
  · exact absurd hf List.not_mem_nil
  · simp only [List.mem_cons, List.not_mem_nil, or_false] at hq
    subst hq
    show P87 (vw C h) ((0) + ((1) * ρ 0 + 0)) ((0) + ((16) * ρ 0 + ((1) * ρ 1 + 0)))
    exact ⟨fun a b hab hb b8 na nb => p0.1 a b hab (by omega) b8, fun a ha a8 na => by
      have := p0.2 a (by omega) a8
      omega⟩
/-- ordMove -/
theorem lem_78_ok (hU : uqG G C) : lem_78.1.2.1 = [] ∧ lemOK (PRd G C D xs) G rgs lem_78 := by
  refine ⟨rfl, fun ρ h ha hT => ?_⟩
  obtain ⟨-, -, hF, hG, hH, hA, hP⟩ := ha
  have f0 : (0 : Int) ≤ ((0) + ((-1) * ρ 5 + ((1) * ρ 6 + 0))) := hF _ (List.mem_of_getElem? (i := 0) rfl)
  have f1 : (0 : Int) ≤ ((0) + ((1) * ρ 5 + ((-1) * ρ 6 + 0))) := hF _ (List.mem_of_getElem? (i := 1) rfl)
  have f2 : (0 : Int) ≤ ((-1) + ((1) * ρ 1 + 0)) := hF _ (List.mem_of_getElem? (i := 2) rfl)
  have f3 : (0 : Int) ≤ ((0) + ((-1) * ρ 1 + ((1) * ρ 2 + 0))) := hF _ (List.mem_of_getElem? (i := 3) rfl)
  have f4 : (0 : Int) ≤ ((8) + ((-1) * ρ 2 + 0)) := hF _ (List.mem_of_getElem? (i := 4) rfl)
  have f5 : (0 : Int) ≤ ((0) + ((1) * ρ 3 + 0)) := hF _ (List.mem_of_getElem? (i := 5) rfl)
  have f6 : (0 : Int) ≤ ((8) + ((-1) * ρ 3 + 0)) := hF _ (List.mem_of_getElem? (i := 6) rfl)
  have g1 : G (ρ 4).toNat = 143 := by
    have q := (hG _ (List.mem_of_getElem? (i := 1) rfl)).2
    rwa [show ev ρ (0, [(4, 1)]) = ρ 4 from ev_v] at q
  have b0 : (0 : Int) ≤ ((0) + ((1) * ρ 1 + 0)) := b_aA (hA _ (List.mem_of_getElem? (i := 0) rfl))
  have b1 : (0 : Int) ≤ ((-1) + ((1) * ρ 1 + 0)) := b_aA (hA _ (List.mem_of_getElem? (i := 1) rfl))
  have a0 : vw C h 143 ((ρ 1).toNat) = ρ 5 := vw_aA hU (hA _ (List.mem_of_getElem? (i := 0) rfl)) ev_v g1 (by omega) (by omega) (i := (ρ 1).toNat) (show ((((ρ 1).toNat : Nat)) : Int) = ((0) + ((1) * ρ 1 + 0)) by omega) ev_v
  have a1 : vw C h 143 ((ρ 1 + (-1)).toNat) = ρ 6 := vw_aA hU (hA _ (List.mem_of_getElem? (i := 1) rfl)) ev_v g1 (by omega) (by omega) (i := (ρ 1 + (-1)).toNat) (show ((((ρ 1 + (-1)).toNat : Nat)) : Int) = ((-1) + ((1) * ρ 1 + 0)) by omega) ev_v
  have p0 : P87 (vw C h) ((0) + ((1) * ρ 1 + 0)) ((0) + ((16) * ρ 2 + ((1) * ρ 3 + 0))) := hP _ (List.mem_of_getElem? (i := 0) rfl)
  refine ⟨_, List.mem_cons_self, ρ, fun _ _ => rfl, fun q hq => absurd hq List.not_mem_nil, trivial, fun f hf => ?_, fun q hq => absurd hq List.not_mem_nil, fun q hq => absurd hq List.not_mem_nil, fun q hq => absurd hq List.not_mem_nil, fun q hq => ?_⟩
  · exact absurd hf List.not_mem_nil
  · simp only [List.mem_cons, List.not_mem_nil, or_false] at hq
    subst hq
    show P87 (vw C h) ((-1) + ((1) * ρ 1 + 0)) ((0) + ((16) * ρ 2 + ((1) * ρ 3 + 0)))
    exact ordMove_ok (k := ((0) + ((1) * ρ 1 + 0))) (e := ρ 2) (m := ρ 3) (x := ρ 5) (y := ρ 6) (by rw [(show ((0 : Int) + (1 * ρ 1 + 0)).toNat = (ρ 1).toNat by omega)]; exact a0) (by rw [show (((0 : Int) + (1 * ρ 1 + 0)) - 1).toNat = (ρ 1 + (-1)).toNat by omega]; exact a1) (by omega) (by omega) (by omega) (by omega) (by omega) (by omega) p0 (by omega) (by omega)
/-- ordPut -/
theorem lem_79_ok (hU : uqG G C) : lem_79.1.2.1 = [] ∧ lemOK (PRd G C D xs) G rgs lem_79 := by
  refine ⟨rfl, fun ρ h ha hT => ?_⟩
  obtain ⟨-, -, hF, hG, hH, hA, hP⟩ := ha
  have f0 : (0 : Int) ≤ ((0) + ((1) * ρ 3 + ((-1) * ρ 5 + 0))) := hF _ (List.mem_of_getElem? (i := 0) rfl)
  have f1 : (0 : Int) ≤ ((0) + ((-1) * ρ 3 + ((1) * ρ 5 + 0))) := hF _ (List.mem_of_getElem? (i := 1) rfl)
  have f2 : (0 : Int) ≤ ((0) + ((1) * ρ 1 + 0)) := hF _ (List.mem_of_getElem? (i := 2) rfl)
  have f3 : (0 : Int) ≤ ((0) + ((-1) * ρ 1 + ((1) * ρ 2 + 0))) := hF _ (List.mem_of_getElem? (i := 3) rfl)
  have f4 : (0 : Int) ≤ ((8) + ((-1) * ρ 2 + 0)) := hF _ (List.mem_of_getElem? (i := 4) rfl)
  have f5 : (0 : Int) ≤ ((0) + ((1) * ρ 3 + 0)) := hF _ (List.mem_of_getElem? (i := 5) rfl)
  have f6 : (0 : Int) ≤ ((7) + ((-1) * ρ 3 + 0)) := hF _ (List.mem_of_getElem? (i := 6) rfl)
  have g1 : G (ρ 4).toNat = 143 := by
    have q := (hG _ (List.mem_of_getElem? (i := 1) rfl)).2
    rwa [show ev ρ (0, [(4, 1)]) = ρ 4 from ev_v] at q
  have b0 : (0 : Int) ≤ ((0) + ((1) * ρ 1 + 0)) := b_aA (hA _ (List.mem_of_getElem? (i := 0) rfl))
  have a0 : vw C h 143 ((ρ 1).toNat) = ρ 5 := vw_aA hU (hA _ (List.mem_of_getElem? (i := 0) rfl)) ev_v g1 (by omega) (by omega) (i := (ρ 1).toNat) (show ((((ρ 1).toNat : Nat)) : Int) = ((0) + ((1) * ρ 1 + 0)) by omega) ev_v
  have p0 : P87 (vw C h) ((0) + ((1) * ρ 1 + 0)) ((0) + ((16) * ρ 2 + ((1) * ρ 3 + 0))) := hP _ (List.mem_of_getElem? (i := 0) rfl)
  refine ⟨_, List.mem_cons_self, ρ, fun _ _ => rfl, fun q hq => absurd hq List.not_mem_nil, trivial, fun f hf => ?_, fun q hq => absurd hq List.not_mem_nil, fun q hq => absurd hq List.not_mem_nil, fun q hq => absurd hq List.not_mem_nil, fun q hq => ?_⟩
  · exact absurd hf List.not_mem_nil
  · simp only [List.mem_cons, List.not_mem_nil, or_false] at hq
    subst hq
    show P86 (vw C h) ((1) + ((1) * ρ 2 + 0)) ((1) + ((1) * ρ 3 + 0))
    exact ordPut_ok (k := ((0) + ((1) * ρ 1 + 0))) (e := ρ 2) (m := ρ 3) (x := ρ 5) (by rw [(show ((0 : Int) + (1 * ρ 1 + 0)).toNat = (ρ 1).toNat by omega)]; exact a0) (by omega) (by omega) (by omega) (by omega) (by omega) (by omega) p0 (by omega) (by omega) (by omega)
/-- noRoute -/
theorem lem_80_ok (hU : uqG G C) : lem_80.1.2.1 = [] ∧ lemOK (PRd G C D xs) G rgs lem_80 := by
  refine ⟨rfl, fun ρ h ha hT => ?_⟩
  obtain ⟨-, -, hF, hG, hH, hA, hP⟩ := ha
  refine ⟨_, List.mem_cons_self, ρ, fun _ _ => rfl, fun q hq => absurd hq List.not_mem_nil, trivial, fun f hf => ?_, fun q hq => absurd hq List.not_mem_nil, fun q hq => absurd hq List.not_mem_nil, fun q hq => absurd hq List.not_mem_nil, fun q hq => ?_⟩
  · exact absurd hf List.not_mem_nil
  · simp only [List.mem_cons, List.not_mem_nil, or_false] at hq
    subst hq
    show rOK ((vw C h) 142) ((vw C h) 143) ((0) + 0) ((0) + 0)
    exact ⟨fun a b _ hb _ => by omega, fun a ha _ => by omega⟩
/-- fresh -/
theorem lem_81_ok (hU : uqG G C) : lem_81.1.2.1 = [] ∧ lemOK (PRd G C D xs) G rgs lem_81 := by
  refine ⟨rfl, fun ρ h ha hT => ?_⟩
  obtain ⟨-, -, hF, hG, hH, hA, hP⟩ := ha
  have f0 : (0 : Int) ≤ ((0) + ((1) * ρ 2 + ((-1) * ρ 5 + 0))) := hF _ (List.mem_of_getElem? (i := 0) rfl)
  have f1 : (0 : Int) ≤ ((0) + ((-1) * ρ 2 + ((1) * ρ 5 + 0))) := hF _ (List.mem_of_getElem? (i := 1) rfl)
  have f2 : (0 : Int) ≤ ((0) + ((1) * ρ 1 + 0)) := hF _ (List.mem_of_getElem? (i := 2) rfl)
  have f3 : (0 : Int) ≤ ((-1) + ((-1) * ρ 1 + ((1) * ρ 3 + 0))) := hF _ (List.mem_of_getElem? (i := 3) rfl)
  have f4 : (0 : Int) ≤ ((8) + ((-1) * ρ 3 + 0)) := hF _ (List.mem_of_getElem? (i := 4) rfl)
  have g1 : G (ρ 4).toNat = 143 := by
    have q := (hG _ (List.mem_of_getElem? (i := 1) rfl)).2
    rwa [show ev ρ (0, [(4, 1)]) = ρ 4 from ev_v] at q
  have b0 : (0 : Int) ≤ ((0) + ((1) * ρ 1 + 0)) := b_aA (hA _ (List.mem_of_getElem? (i := 0) rfl))
  have a0 : vw C h 143 ((ρ 1).toNat) = ρ 5 := vw_aA hU (hA _ (List.mem_of_getElem? (i := 0) rfl)) ev_v g1 (by omega) (by omega) (i := (ρ 1).toNat) (show ((((ρ 1).toNat : Nat)) : Int) = ((0) + ((1) * ρ 1 + 0)) by omega) ev_v
  have p0 : P86 (vw C h) ((0) + ((1) * ρ 3 + 0)) ((0) + ((1) * ρ 6 + 0)) := hP _ (List.mem_of_getElem? (i := 0) rfl)
  refine ⟨_, List.mem_cons_self, ρ, fun _ _ => rfl, fun q hq => absurd hq List.not_mem_nil, trivial, fun f hf => ?_, fun q hq => absurd hq List.not_mem_nil, fun q hq => absurd hq List.not_mem_nil, fun q hq => absurd hq List.not_mem_nil, fun q hq => ?_⟩
  · exact absurd hf List.not_mem_nil
  · simp only [List.mem_cons, List.not_mem_nil, or_false] at hq
    subst hq
    show P93 (vw C h) ((0) + ((1) * ρ 1 + 0)) ((0) + ((1) * ρ 2 + 0))
    exact fresh_ok (y := ρ 5) (by rw [(show ((0 : Int) + (1 * ρ 1 + 0)).toNat = (ρ 1).toNat by omega)]; exact a0) (by omega) (by omega) (by omega) (by omega) p0
/-- rtSkip -/
theorem lem_82_ok (hU : uqG G C) : lem_82.1.2.1 = [] ∧ lemOK (PRd G C D xs) G rgs lem_82 := by
  refine ⟨rfl, fun ρ h ha hT => ?_⟩
  obtain ⟨-, -, hF, hG, hH, hA, hP⟩ := ha
  have f0 : (0 : Int) ≤ ((0) + ((1) * ρ 2 + 0)) := hF _ (List.mem_of_getElem? (i := 0) rfl)
  have f1 : (0 : Int) ≤ ((8) + ((-1) * ρ 2 + 0)) := hF _ (List.mem_of_getElem? (i := 1) rfl)
  have p0 : rOK ((vw C h) 142) ((vw C h) 143) ((0) + ((1) * ρ 2 + 0)) ((0) + ((1) * ρ 3 + 0)) := hP _ (List.mem_of_getElem? (i := 0) rfl)
  refine ⟨_, List.mem_cons_self, ρ, fun _ _ => rfl, fun q hq => absurd hq List.not_mem_nil, trivial, fun f hf => ?_, fun q hq => absurd hq List.not_mem_nil, fun q hq => absurd hq List.not_mem_nil, fun q hq => absurd hq List.not_mem_nil, fun q hq => ?_⟩
  · exact absurd hf List.not_mem_nil
  · simp only [List.mem_cons, List.not_mem_nil, or_false] at hq
    subst hq
    show rOK ((vw C h) 142) ((vw C h) 143) ((0) + ((1) * ρ 2 + 0)) ((1) + ((1) * ρ 3 + 0))
    exact ⟨p0.1, fun a ha a8 => by
      obtain ⟨j, j1, j8, e⟩ := p0.2 a ha a8
      exact ⟨j, by omega, j8, e⟩⟩
/-- rtHole -/
theorem lem_83_ok (hU : uqG G C) : lem_83.1.2.1 = [] ∧ lemOK (PRd G C D xs) G rgs lem_83 := by
  refine ⟨rfl, fun ρ h ha hT => ?_⟩
  obtain ⟨-, -, hF, hG, hH, hA, hP⟩ := ha
  have f0 : (0 : Int) ≤ ((0) + ((1) * ρ 2 + 0)) := hF _ (List.mem_of_getElem? (i := 0) rfl)
  have f1 : (0 : Int) ≤ ((7) + ((-1) * ρ 2 + 0)) := hF _ (List.mem_of_getElem? (i := 1) rfl)
  have f2 : (0 : Int) ≤ ((0) + ((1) * ρ 3 + 0)) := hF _ (List.mem_of_getElem? (i := 2) rfl)
  have f3 : (0 : Int) ≤ ((7) + ((-1) * ρ 3 + 0)) := hF _ (List.mem_of_getElem? (i := 3) rfl)
  have p0 : rOK ((vw C h) 142) ((vw C h) 143) ((0) + ((1) * ρ 2 + 0)) ((0) + ((1) * ρ 3 + 0)) := hP _ (List.mem_of_getElem? (i := 0) rfl)
  have p1 : P93 (vw C h) ((0) + ((1) * ρ 3 + 0)) ((0) + ((1) * ρ 1 + 0)) := hP _ (List.mem_of_getElem? (i := 1) rfl)
  refine ⟨_, List.mem_cons_self, ρ, fun _ _ => rfl, fun q hq => absurd hq List.not_mem_nil, trivial, fun f hf => ?_, fun q hq => absurd hq List.not_mem_nil, fun q hq => absurd hq List.not_mem_nil, fun q hq => absurd hq List.not_mem_nil, fun q hq => ?_⟩
  · exact absurd hf List.not_mem_nil
  · simp only [List.mem_cons, List.not_mem_nil, or_false] at hq
    subst hq
    show P94 (vw C h) ((0) + ((1) * ρ 2 + 0)) ((0) + ((16) * ρ 2 + ((1) * ρ 3 + 0)))
    exact rtHole_ok (by omega) (by omega) (by omega) (by omega) p0 (by omega)
/-- rtMove -/
theorem lem_84_ok (hU : uqG G C) : lem_84.1.2.1 = [] ∧ lemOK (PRd G C D xs) G rgs lem_84 := by
  refine ⟨rfl, fun ρ h ha hT => ?_⟩
  obtain ⟨-, -, hF, hG, hH, hA, hP⟩ := ha
  have f0 : (0 : Int) ≤ ((0) + ((-1) * ρ 4 + ((1) * ρ 5 + 0))) := hF _ (List.mem_of_getElem? (i := 0) rfl)
  have f1 : (0 : Int) ≤ ((0) + ((1) * ρ 4 + ((-1) * ρ 5 + 0))) := hF _ (List.mem_of_getElem? (i := 1) rfl)
  have f2 : (0 : Int) ≤ ((-1) + ((1) * ρ 1 + 0)) := hF _ (List.mem_of_getElem? (i := 2) rfl)
  have f3 : (0 : Int) ≤ ((0) + ((-1) * ρ 1 + ((1) * ρ 2 + 0))) := hF _ (List.mem_of_getElem? (i := 3) rfl)
  have f4 : (0 : Int) ≤ ((7) + ((-1) * ρ 2 + 0)) := hF _ (List.mem_of_getElem? (i := 4) rfl)
  have g1 : G (ρ 3).toNat = 142 := by
    have q := (hG _ (List.mem_of_getElem? (i := 1) rfl)).2
    rwa [show ev ρ (0, [(3, 1)]) = ρ 3 from ev_v] at q
  have b0 : (0 : Int) ≤ ((0) + ((1) * ρ 1 + 0)) := b_aA (hA _ (List.mem_of_getElem? (i := 0) rfl))
  have b1 : (0 : Int) ≤ ((-1) + ((1) * ρ 1 + 0)) := b_aA (hA _ (List.mem_of_getElem? (i := 1) rfl))
  have a0 : vw C h 142 ((ρ 1).toNat) = ρ 4 := vw_aA hU (hA _ (List.mem_of_getElem? (i := 0) rfl)) ev_v g1 (by omega) (by omega) (i := (ρ 1).toNat) (show ((((ρ 1).toNat : Nat)) : Int) = ((0) + ((1) * ρ 1 + 0)) by omega) ev_v
  have a1 : vw C h 142 ((ρ 1 + (-1)).toNat) = ρ 5 := vw_aA hU (hA _ (List.mem_of_getElem? (i := 1) rfl)) ev_v g1 (by omega) (by omega) (i := (ρ 1 + (-1)).toNat) (show ((((ρ 1 + (-1)).toNat : Nat)) : Int) = ((-1) + ((1) * ρ 1 + 0)) by omega) ev_v
  have p0 : P94 (vw C h) ((0) + ((1) * ρ 1 + 0)) ((0) + ((1) * ρ 6 + 0)) := hP _ (List.mem_of_getElem? (i := 0) rfl)
  refine ⟨_, List.mem_cons_self, ρ, fun _ _ => rfl, fun q hq => absurd hq List.not_mem_nil, trivial, fun f hf => ?_, fun q hq => absurd hq List.not_mem_nil, fun q hq => absurd hq List.not_mem_nil, fun q hq => absurd hq List.not_mem_nil, fun q hq => ?_⟩
  · exact absurd hf List.not_mem_nil
  · simp only [List.mem_cons, List.not_mem_nil, or_false] at hq
    subst hq
    show P94 (vw C h) ((-1) + ((1) * ρ 1 + 0)) ((0) + ((1) * ρ 6 + 0))
    exact rtMove_ok (g := ((0) + ((1) * ρ 1 + 0))) (x := ρ 4) (y := ρ 5) (m := ρ 2) (by rw [(show ((0 : Int) + (1 * ρ 1 + 0)).toNat = (ρ 1).toNat by omega)]; exact a0) (by rw [show (((0 : Int) + (1 * ρ 1 + 0)) - 1).toNat = (ρ 1 + (-1)).toNat by omega]; exact a1) (by omega) (by omega) (by omega) (by omega) p0 (by omega)
/-- rtPut -/
theorem lem_85_ok (hU : uqG G C) : lem_85.1.2.1 = [] ∧ lemOK (PRd G C D xs) G rgs lem_85 := by
  refine ⟨rfl, fun ρ h ha hT => ?_⟩
  obtain ⟨-, -, hF, hG, hH, hA, hP⟩ := ha
  have f0 : (0 : Int) ≤ ((0) + ((1) * ρ 2 + ((-1) * ρ 5 + 0))) := hF _ (List.mem_of_getElem? (i := 0) rfl)
  have f1 : (0 : Int) ≤ ((0) + ((-1) * ρ 2 + ((1) * ρ 5 + 0))) := hF _ (List.mem_of_getElem? (i := 1) rfl)
  have f2 : (0 : Int) ≤ ((0) + ((1) * ρ 1 + 0)) := hF _ (List.mem_of_getElem? (i := 2) rfl)
  have f3 : (0 : Int) ≤ ((0) + ((-1) * ρ 1 + ((1) * ρ 3 + 0))) := hF _ (List.mem_of_getElem? (i := 3) rfl)
  have f4 : (0 : Int) ≤ ((7) + ((-1) * ρ 3 + 0)) := hF _ (List.mem_of_getElem? (i := 4) rfl)
  have f5 : (0 : Int) ≤ ((0) + ((16) * ρ 3 + ((-1) * ρ 6 + ((1) * ρ 7 + 0)))) := hF _ (List.mem_of_getElem? (i := 5) rfl)
  have f6 : (0 : Int) ≤ ((0) + ((-16) * ρ 3 + ((1) * ρ 6 + ((-1) * ρ 7 + 0)))) := hF _ (List.mem_of_getElem? (i := 6) rfl)
  have f7 : (0 : Int) ≤ ((0) + ((1) * ρ 7 + 0)) := hF _ (List.mem_of_getElem? (i := 7) rfl)
  have f8 : (0 : Int) ≤ ((7) + ((-1) * ρ 7 + 0)) := hF _ (List.mem_of_getElem? (i := 8) rfl)
  have g1 : G (ρ 4).toNat = 142 := by
    have q := (hG _ (List.mem_of_getElem? (i := 1) rfl)).2
    rwa [show ev ρ (0, [(4, 1)]) = ρ 4 from ev_v] at q
  have b0 : (0 : Int) ≤ ((0) + ((1) * ρ 1 + 0)) := b_aA (hA _ (List.mem_of_getElem? (i := 0) rfl))
  have a0 : vw C h 142 ((ρ 1).toNat) = ρ 5 := vw_aA hU (hA _ (List.mem_of_getElem? (i := 0) rfl)) ev_v g1 (by omega) (by omega) (i := (ρ 1).toNat) (show ((((ρ 1).toNat : Nat)) : Int) = ((0) + ((1) * ρ 1 + 0)) by omega) ev_v
  have p0 : P94 (vw C h) ((0) + ((1) * ρ 1 + 0)) ((0) + ((1) * ρ 6 + 0)) := hP _ (List.mem_of_getElem? (i := 0) rfl)
  have p1 : P93 (vw C h) ((0) + ((1) * ρ 7 + 0)) ((0) + ((1) * ρ 2 + 0)) := hP _ (List.mem_of_getElem? (i := 1) rfl)
  refine ⟨_, List.mem_cons_self, ρ, fun _ _ => rfl, fun q hq => absurd hq List.not_mem_nil, trivial, fun f hf => ?_, fun q hq => absurd hq List.not_mem_nil, fun q hq => absurd hq List.not_mem_nil, fun q hq => absurd hq List.not_mem_nil, fun q hq => ?_⟩
  · exact absurd hf List.not_mem_nil
  · simp only [List.mem_cons, List.not_mem_nil, or_false] at hq
    subst hq
    show rOK ((vw C h) 142) ((vw C h) 143) ((1) + ((1) * ρ 3 + 0)) ((1) + ((1) * ρ 7 + 0))
    exact rtPut_ok (g := ((0) + ((1) * ρ 1 + 0))) (m := ρ 3) (y := ρ 5) (by rw [(show ((0 : Int) + (1 * ρ 1 + 0)).toNat = (ρ 1).toNat by omega)]; exact a0) (by omega) (by omega) (by omega) (by omega) (by omega) (by omega) (by omega) p0 p1 (by omega) (by omega)
/-- rtSwap1 -/
theorem lem_86_ok (hU : uqG G C) : lem_86.1.2.1 = [] ∧ lemOK (PRd G C D xs) G rgs lem_86 := by
  refine ⟨rfl, fun ρ h ha hT => ?_⟩
  obtain ⟨-, -, hF, hG, hH, hA, hP⟩ := ha
  have f0 : (0 : Int) ≤ ((0) + ((1) * ρ 2 + ((-1) * ρ 5 + 0))) := hF _ (List.mem_of_getElem? (i := 0) rfl)
  have f1 : (0 : Int) ≤ ((0) + ((-1) * ρ 2 + ((1) * ρ 5 + 0))) := hF _ (List.mem_of_getElem? (i := 1) rfl)
  have f2 : (0 : Int) ≤ ((0) + ((1) * ρ 2 + 0)) := hF _ (List.mem_of_getElem? (i := 2) rfl)
  have f3 : (0 : Int) ≤ ((7) + ((-1) * ρ 2 + 0)) := hF _ (List.mem_of_getElem? (i := 3) rfl)
  have f4 : (0 : Int) ≤ ((0) + ((1) * ρ 1 + 0)) := hF _ (List.mem_of_getElem? (i := 4) rfl)
  have f5 : (0 : Int) ≤ ((7) + ((-1) * ρ 1 + 0)) := hF _ (List.mem_of_getElem? (i := 5) rfl)
  have f6 : (0 : Int) ≤ ((0) + ((1) * ρ 3 + 0)) := hF _ (List.mem_of_getElem? (i := 6) rfl)
  have f7 : (0 : Int) ≤ ((8) + ((-1) * ρ 3 + 0)) := hF _ (List.mem_of_getElem? (i := 7) rfl)
  have f8 : (0 : Int) ≤ ((0) + ((1) * ρ 6 + 0)) := hF _ (List.mem_of_getElem? (i := 8) rfl)
  have f9 : (0 : Int) ≤ ((8) + ((-1) * ρ 6 + 0)) := hF _ (List.mem_of_getElem? (i := 9) rfl)
  have g1 : G (ρ 4).toNat = 142 := by
    have q := (hG _ (List.mem_of_getElem? (i := 1) rfl)).2
    rwa [show ev ρ (0, [(4, 1)]) = ρ 4 from ev_v] at q
  have b0 : (0 : Int) ≤ ((0) + ((1) * ρ 1 + 0)) := b_aA (hA _ (List.mem_of_getElem? (i := 0) rfl))
  have a0 : vw C h 142 ((ρ 1).toNat) = ρ 5 := vw_aA hU (hA _ (List.mem_of_getElem? (i := 0) rfl)) ev_v g1 (by omega) (by omega) (i := (ρ 1).toNat) (show ((((ρ 1).toNat : Nat)) : Int) = ((0) + ((1) * ρ 1 + 0)) by omega) ev_v
  have p0 : rOK ((vw C h) 142) ((vw C h) 143) ((0) + ((1) * ρ 3 + 0)) ((0) + ((1) * ρ 6 + 0)) := hP _ (List.mem_of_getElem? (i := 0) rfl)
  have q := rtSwap1_ok (i := ((0) + ((1) * ρ 1 + 0))) (v := ρ 2) (y := ρ 5) (c := ((0) + ((1) * ρ 2 + ((8) * ρ 3 + ((128) * ρ 6 + 0))))) (a := ((0) + ((1) * ρ 2 + ((8) * ρ 3 + 0)))) (by rw [(show ((0 : Int) + (1 * ρ 1 + 0)).toNat = (ρ 1).toNat by omega)]; exact a0) (by omega) (by omega) (by omega) (by omega) (by omega) (by omega) p0 (by omega) (by omega)
  refine ⟨_, List.mem_cons_self, ρ, fun _ _ => rfl, fun q hq => absurd hq List.not_mem_nil, trivial, fun f hf => ?_, fun q hq => absurd hq List.not_mem_nil, fun q hq => absurd hq List.not_mem_nil, fun q hq => absurd hq List.not_mem_nil, fun q hq => ?_⟩
  · exact absurd hf List.not_mem_nil
  · simp only [List.mem_cons, List.not_mem_nil, or_false] at hq
    rcases hq with rfl | rfl
    · show P95 (vw C h) ((0) + ((1) * ρ 1 + 0)) ((0) + ((1) * ρ 2 + ((8) * ρ 3 + ((128) * ρ 6 + 0))))
      exact q.1
    · show P89 ((0) + ((1) * ρ 2 + ((8) * ρ 3 + 0))) ((0) + ((1) * ρ 2 + ((8) * ρ 3 + ((128) * ρ 6 + 0))))
      exact q.2
/-- rtSwap2 -/
theorem lem_87_ok (hU : uqG G C) : lem_87.1.2.1 = [] ∧ lemOK (PRd G C D xs) G rgs lem_87 := by
  refine ⟨rfl, fun ρ h ha hT => ?_⟩
  obtain ⟨-, -, hF, hG, hH, hA, hP⟩ := ha
  have f0 : (0 : Int) ≤ ((0) + ((-1) * ρ 6 + ((1) * ρ 7 + 0))) := hF _ (List.mem_of_getElem? (i := 0) rfl)
  have f1 : (0 : Int) ≤ ((0) + ((1) * ρ 6 + ((-1) * ρ 7 + 0))) := hF _ (List.mem_of_getElem? (i := 1) rfl)
  have f2 : (0 : Int) ≤ ((0) + ((1) * ρ 1 + 0)) := hF _ (List.mem_of_getElem? (i := 2) rfl)
  have f3 : (0 : Int) ≤ ((-1) + ((-1) * ρ 1 + ((1) * ρ 2 + 0))) := hF _ (List.mem_of_getElem? (i := 3) rfl)
  have f4 : (0 : Int) ≤ ((-1) + ((-1) * ρ 2 + ((1) * ρ 4 + 0))) := hF _ (List.mem_of_getElem? (i := 4) rfl)
  have f5 : (0 : Int) ≤ ((8) + ((-1) * ρ 4 + 0)) := hF _ (List.mem_of_getElem? (i := 5) rfl)
  have f6 : (0 : Int) ≤ ((0) + ((1) * ρ 3 + 0)) := hF _ (List.mem_of_getElem? (i := 6) rfl)
  have f7 : (0 : Int) ≤ ((7) + ((-1) * ρ 3 + 0)) := hF _ (List.mem_of_getElem? (i := 7) rfl)
  have g1 : G (ρ 5).toNat = 142 := by
    have q := (hG _ (List.mem_of_getElem? (i := 1) rfl)).2
    rwa [show ev ρ (0, [(5, 1)]) = ρ 5 from ev_v] at q
  have b0 : (0 : Int) ≤ ((0) + ((1) * ρ 1 + 0)) := b_aA (hA _ (List.mem_of_getElem? (i := 0) rfl))
  have b1 : (0 : Int) ≤ ((0) + ((1) * ρ 2 + 0)) := b_aA (hA _ (List.mem_of_getElem? (i := 1) rfl))
  have a0 : vw C h 142 ((ρ 1).toNat) = ρ 6 := vw_aA hU (hA _ (List.mem_of_getElem? (i := 0) rfl)) ev_v g1 (by omega) (by omega) (i := (ρ 1).toNat) (show ((((ρ 1).toNat : Nat)) : Int) = ((0) + ((1) * ρ 1 + 0)) by omega) ev_v
  have a1 : vw C h 142 ((ρ 2).toNat) = ρ 7 := vw_aA hU (hA _ (List.mem_of_getElem? (i := 1) rfl)) ev_v g1 (by omega) (by omega) (i := (ρ 2).toNat) (show ((((ρ 2).toNat : Nat)) : Int) = ((0) + ((1) * ρ 2 + 0)) by omega) ev_v
  have p0 : P95 (vw C h) ((0) + ((1) * ρ 1 + 0)) ((0) + ((1) * ρ 8 + 0)) := hP _ (List.mem_of_getElem? (i := 0) rfl)
  have p1 : P89 ((0) + ((1) * ρ 3 + ((8) * ρ 4 + 0))) ((0) + ((1) * ρ 8 + 0)) := hP _ (List.mem_of_getElem? (i := 1) rfl)
  refine ⟨_, List.mem_cons_self, ρ, fun _ _ => rfl, fun q hq => absurd hq List.not_mem_nil, trivial, fun f hf => ?_, fun q hq => absurd hq List.not_mem_nil, fun q hq => absurd hq List.not_mem_nil, fun q hq => absurd hq List.not_mem_nil, fun q hq => ?_⟩
  · exact absurd hf List.not_mem_nil
  · simp only [List.mem_cons, List.not_mem_nil, or_false] at hq
    subst hq
    show P95 (vw C h) ((0) + ((1) * ρ 2 + 0)) ((0) + ((1) * ρ 8 + 0))
    exact rtSwap2_ok (i := ((0) + ((1) * ρ 1 + 0))) (j := ((0) + ((1) * ρ 2 + 0))) (v := ρ 3) (m := ρ 4) (x := ρ 6) (y := ρ 7) (by rw [(show ((0 : Int) + (1 * ρ 1 + 0)).toNat = (ρ 1).toNat by omega)]; exact a0) (by rw [(show ((0 : Int) + (1 * ρ 2 + 0)).toNat = (ρ 2).toNat by omega)]; exact a1) (by omega) (by omega) (by omega) (by omega) (by omega) (by omega) (by omega) p0 p1 (by omega)
/-- rtSwap3 -/
theorem lem_88_ok (hU : uqG G C) : lem_88.1.2.1 = [] ∧ lemOK (PRd G C D xs) G rgs lem_88 := by
  refine ⟨rfl, fun ρ h ha hT => ?_⟩
  obtain ⟨-, -, hF, hG, hH, hA, hP⟩ := ha
  have f0 : (0 : Int) ≤ ((0) + ((1) * ρ 2 + ((-1) * ρ 5 + 0))) := hF _ (List.mem_of_getElem? (i := 0) rfl)
  have f1 : (0 : Int) ≤ ((0) + ((-1) * ρ 2 + ((1) * ρ 5 + 0))) := hF _ (List.mem_of_getElem? (i := 1) rfl)
  have f2 : (0 : Int) ≤ ((0) + ((1) * ρ 2 + 0)) := hF _ (List.mem_of_getElem? (i := 2) rfl)
  have f3 : (0 : Int) ≤ ((7) + ((-1) * ρ 2 + 0)) := hF _ (List.mem_of_getElem? (i := 3) rfl)
  have f4 : (0 : Int) ≤ ((0) + ((1) * ρ 1 + 0)) := hF _ (List.mem_of_getElem? (i := 4) rfl)
  have f5 : (0 : Int) ≤ ((7) + ((-1) * ρ 1 + 0)) := hF _ (List.mem_of_getElem? (i := 5) rfl)
  have f6 : (0 : Int) ≤ ((0) + ((1) * ρ 3 + 0)) := hF _ (List.mem_of_getElem? (i := 6) rfl)
  have f7 : (0 : Int) ≤ ((8) + ((-1) * ρ 3 + 0)) := hF _ (List.mem_of_getElem? (i := 7) rfl)
  have g1 : G (ρ 4).toNat = 142 := by
    have q := (hG _ (List.mem_of_getElem? (i := 1) rfl)).2
    rwa [show ev ρ (0, [(4, 1)]) = ρ 4 from ev_v] at q
  have b0 : (0 : Int) ≤ ((0) + ((1) * ρ 1 + 0)) := b_aA (hA _ (List.mem_of_getElem? (i := 0) rfl))
  have a0 : vw C h 142 ((ρ 1).toNat) = ρ 5 := vw_aA hU (hA _ (List.mem_of_getElem? (i := 0) rfl)) ev_v g1 (by omega) (by omega) (i := (ρ 1).toNat) (show ((((ρ 1).toNat : Nat)) : Int) = ((0) + ((1) * ρ 1 + 0)) by omega) ev_v
  have p0 : P95 (vw C h) ((0) + ((1) * ρ 1 + 0)) ((0) + ((1) * ρ 6 + 0)) := hP _ (List.mem_of_getElem? (i := 0) rfl)
  have p1 : P89 ((0) + ((1) * ρ 2 + ((8) * ρ 3 + 0))) ((0) + ((1) * ρ 6 + 0)) := hP _ (List.mem_of_getElem? (i := 1) rfl)
  have q := rtSwap3_ok (j := ((0) + ((1) * ρ 1 + 0))) (v := ρ 2) (y := ρ 5) (m := ρ 3) (k := ((0) + ((1) * ρ 6 + 0)) / 128) (by rw [(show ((0 : Int) + (1 * ρ 1 + 0)).toNat = (ρ 1).toNat by omega)]; exact a0) (by omega) (by omega) (by omega) (by omega) (by omega) p0 p1 (by omega) rfl
  obtain ⟨σ, r1, r2⟩ : ∃ σ : Va, (∀ i, i < 7 → σ i = ρ i) ∧ σ 7 = (ρ 6 / 128) := ⟨fun i => if i = 7 then (ρ 6 / 128) else ρ i, fun i hi => if_neg (by omega), if_pos rfl⟩
  have s0 := r1 0 (by omega)
  have s1 := r1 1 (by omega)
  have s2 := r1 2 (by omega)
  have s3 := r1 3 (by omega)
  have s4 := r1 4 (by omega)
  have s5 := r1 5 (by omega)
  have s6 := r1 6 (by omega)
  refine ⟨_, List.mem_cons_self, σ, r1, fun q hq => absurd hq List.not_mem_nil, trivial, fun f hf => ?_, fun q hq => absurd hq List.not_mem_nil, fun q hq => absurd hq List.not_mem_nil, fun q hq => absurd hq List.not_mem_nil, fun q hq => ?_⟩
  · simp only [List.mem_cons, List.not_mem_nil, or_false] at hf
    rcases hf with rfl | rfl
    · show (0 : Int) ≤ ((0) + ((-1) * σ 2 + ((-8) * σ 3 + ((1) * σ 6 + ((-128) * σ 7 + 0)))))
      omega
    · show (0 : Int) ≤ ((0) + ((1) * σ 2 + ((8) * σ 3 + ((-1) * σ 6 + ((128) * σ 7 + 0)))))
      omega
  · simp only [List.mem_cons, List.not_mem_nil, or_false] at hq
    subst hq
    show rOK ((vw C h) 142) ((vw C h) 143) ((0) + ((1) * σ 3 + 0)) ((0) + ((1) * σ 7 + 0))
    rw [show ((0) + ((1) * σ 3 + 0)) = ρ 3 by omega, show ((0) + ((1) * σ 7 + 0)) = ((0) + ((1) * ρ 6 + 0)) / 128 by omega]
    exact q.2
/-- rtAll -/
theorem lem_89_ok (hU : uqG G C) : lem_89.1.2.1 = [] ∧ lemOK (PRd G C D xs) G rgs lem_89 := by
  refine ⟨rfl, fun ρ h ha hT => ?_⟩
  obtain ⟨-, -, hF, hG, hH, hA, hP⟩ := ha
  have f0 : (0 : Int) ≤ ((0) + ((1) * ρ 2 + 0)) := hF _ (List.mem_of_getElem? (i := 0) rfl)
  have f1 : (0 : Int) ≤ ((8) + ((-1) * ρ 2 + 0)) := hF _ (List.mem_of_getElem? (i := 1) rfl)
  have f2 : (0 : Int) ≤ ((0) + ((1) * ρ 1 + ((-1) * ρ 5 + 0))) := hF _ (List.mem_of_getElem? (i := 2) rfl)
  have f3 : (0 : Int) ≤ ((8) + ((-1) * ρ 1 + 0)) := hF _ (List.mem_of_getElem? (i := 3) rfl)
  have f4 : (0 : Int) ≤ ((0) + ((1) * ρ 4 + ((-1) * ρ 6 + 0))) := hF _ (List.mem_of_getElem? (i := 4) rfl)
  have f5 : (0 : Int) ≤ ((8) + ((-1) * ρ 4 + 0)) := hF _ (List.mem_of_getElem? (i := 5) rfl)
  have g1 : G (ρ 3).toNat = 123 := by
    have q := (hG _ (List.mem_of_getElem? (i := 1) rfl)).2
    rwa [show ev ρ (0, [(3, 1)]) = ρ 3 from ev_v] at q
  have b0 : (0 : Int) ≤ ((7) + 0) := b_aA (hA _ (List.mem_of_getElem? (i := 0) rfl))
  have a0 : vw C h 123 (7) = ρ 4 := vw_aA hU (hA _ (List.mem_of_getElem? (i := 0) rfl)) ev_v g1 (by omega) (by omega) (i := 7) (show (((7 : Nat)) : Int) = ((7) + 0) by omega) ev_v
  have p0 : rOK ((vw C h) 142) ((vw C h) 143) ((0) + ((1) * ρ 2 + 0)) ((0) + ((1) * ρ 5 + 0)) := hP _ (List.mem_of_getElem? (i := 0) rfl)
  have p1 : P86 (vw C h) ((0) + ((1) * ρ 1 + 0)) ((0) + ((1) * ρ 6 + 0)) := hP _ (List.mem_of_getElem? (i := 1) rfl)
  refine ⟨_, List.mem_cons_self, ρ, fun _ _ => rfl, fun q hq => absurd hq List.not_mem_nil, trivial, fun f hf => ?_, fun q hq => absurd hq List.not_mem_nil, fun q hq => absurd hq List.not_mem_nil, fun q hq => absurd hq List.not_mem_nil, fun q hq => ?_⟩
  · exact absurd hf List.not_mem_nil
  · simp only [List.mem_cons, List.not_mem_nil, or_false] at hq
    subst hq
    show P97 (vw C h) ((0) + ((1) * ρ 2 + 0)) ((0) + ((1) * ρ 4 + 0))
    exact rtAll_ok p0 p1 (by omega) (by omega)
/-- evOpenN -/
theorem lem_90_ok (hU : uqG G C) : lem_90.1.2.1 = [] ∧ lemOK (PRd G C D xs) G rgs lem_90 := by
  refine ⟨rfl, fun ρ h ha hT => ?_⟩
  obtain ⟨-, -, hF, hG, hH, hA, hP⟩ := ha
  have p0 : GDv (vw C h) 118 123 1777 ((0) + 0) ((1777) + 0) := hP _ (List.mem_of_getElem? (i := 0) rfl)
  refine ⟨_, List.mem_cons_self, ρ, fun _ _ => rfl, fun q hq => absurd hq List.not_mem_nil, trivial, fun f hf => ?_, fun q hq => absurd hq List.not_mem_nil, fun q hq => absurd hq List.not_mem_nil, fun q hq => absurd hq List.not_mem_nil, fun q hq => ?_⟩
  · exact absurd hf List.not_mem_nil
  · simp only [List.mem_cons, List.not_mem_nil, or_false] at hq
    subst hq
    show P38 (vw C h) 118
    exact (dayOpen_ok p0).1
/-- dayOpenN -/
theorem lem_91_ok (hU : uqG G C) : lem_91.1.2.1 = [] ∧ lemOK (PRd G C D xs) G rgs lem_91 := by
  refine ⟨rfl, fun ρ h ha hT => ?_⟩
  obtain ⟨-, -, hF, hG, hH, hA, hP⟩ := ha
  have p0 : GDv (vw C h) 118 123 1777 ((0) + 0) ((1777) + 0) := hP _ (List.mem_of_getElem? (i := 0) rfl)
  refine ⟨_, List.mem_cons_self, ρ, fun _ _ => rfl, fun q hq => absurd hq List.not_mem_nil, trivial, fun f hf => ?_, fun q hq => absurd hq List.not_mem_nil, fun q hq => absurd hq List.not_mem_nil, fun q hq => absurd hq List.not_mem_nil, fun q hq => ?_⟩
  · exact absurd hf List.not_mem_nil
  · simp only [List.mem_cons, List.not_mem_nil, or_false] at hq
    rcases hq with rfl | rfl
    · show P38 (vw C h) 118
      exact (dayOpen_ok p0).1
    · show P100 (vw C h) 118 ((0) + 0)
      exact (dayOpen_ok p0).2
/-- everyN -/
theorem lem_92_ok (hU : uqG G C) : lem_92.1.2.1 = [] ∧ lemOK (PRd G C D xs) G rgs lem_92 := by
  refine ⟨rfl, fun ρ h ha hT => ?_⟩
  obtain ⟨-, -, hF, hG, hH, hA, hP⟩ := ha
  have f0 : (0 : Int) ≤ ((0) + ((1) * ρ 2 + 0)) := hF _ (List.mem_of_getElem? (i := 0) rfl)
  have f1 : (0 : Int) ≤ ((7) + ((-1) * ρ 2 + 0)) := hF _ (List.mem_of_getElem? (i := 1) rfl)
  have f2 : (0 : Int) ≤ ((5) + ((-1) * ρ 5 + 0)) := hF _ (List.mem_of_getElem? (i := 2) rfl)
  have f3 : (0 : Int) ≤ ((0) + ((-5) * ρ 2 + ((1) * ρ 3 + 0))) := hF _ (List.mem_of_getElem? (i := 3) rfl)
  have f4 : (0 : Int) ≤ ((-1) + ((5) * ρ 2 + ((-1) * ρ 3 + ((1) * ρ 5 + 0)))) := hF _ (List.mem_of_getElem? (i := 4) rfl)
  have g1 : G (ρ 4).toNat = 123 := by
    have q := (hG _ (List.mem_of_getElem? (i := 1) rfl)).2
    rwa [show ev ρ (0, [(4, 1)]) = ρ 4 from ev_v] at q
  have g2 : G (ρ 1).toNat = 118 := by
    have q := (hG _ (List.mem_of_getElem? (i := 2) rfl)).2
    rwa [show ev ρ (0, [(1, 1)]) = ρ 1 from ev_v] at q
  have b0 : (0 : Int) ≤ ((24) + ((1) * ρ 2 + 0)) := b_aA (hA _ (List.mem_of_getElem? (i := 0) rfl))
  have b1 : (0 : Int) ≤ ((217) + ((1) * ρ 3 + 0)) := b_aA (hA _ (List.mem_of_getElem? (i := 1) rfl))
  have a0 : vw C h 123 (24 + (ρ 2).toNat) = ρ 5 := vw_aA hU (hA _ (List.mem_of_getElem? (i := 0) rfl)) ev_v g1 (by omega) (by omega) (i := 24 + (ρ 2).toNat) (show (((24 + (ρ 2).toNat : Nat)) : Int) = ((24) + ((1) * ρ 2 + 0)) by omega) ev_v
  have a1 : vw C h 118 (217 + (ρ 3).toNat) = ρ 6 := vw_aA hU (hA _ (List.mem_of_getElem? (i := 1) rfl)) ev_v g2 (by omega) (by omega) (i := 217 + (ρ 3).toNat) (show (((217 + (ρ 3).toNat : Nat)) : Int) = ((217) + ((1) * ρ 3 + 0)) by omega) ev_v
  have p0 : P38 (vw C h) 118 := hP _ (List.mem_of_getElem? (i := 0) rfl)
  have q := every_ok p0 (m := ρ 2) (k := ρ 3) (by omega) (by omega) (by omega) (by omega) (by omega) a0 a1 (by omega)
  refine ⟨_, List.mem_cons_self, ρ, fun _ _ => rfl, fun q hq => absurd hq List.not_mem_nil, trivial, fun f hf => ?_, fun q hq => absurd hq List.not_mem_nil, fun q hq => absurd hq List.not_mem_nil, fun q hq => absurd hq List.not_mem_nil, fun q hq => ?_⟩
  · simp only [List.mem_cons, List.not_mem_nil, or_false] at hf
    subst hf
    show (0 : Int) ≤ ((-1) + ((1) * ρ 6 + 0))
    omega
  · exact absurd hq List.not_mem_nil
/-- invN -/
theorem lem_93_ok (hU : uqG G C) : lem_93.1.2.1 = [] ∧ lemOK (PRd G C D xs) G rgs lem_93 := by
  refine ⟨rfl, fun ρ h ha hT => ?_⟩
  obtain ⟨-, -, hF, hG, hH, hA, hP⟩ := ha
  have f0 : (0 : Int) ≤ ((0) + ((1) * ρ 0 + 0)) := hF _ (List.mem_of_getElem? (i := 0) rfl)
  have f1 : (0 : Int) ≤ ((7) + ((-1) * ρ 0 + 0)) := hF _ (List.mem_of_getElem? (i := 1) rfl)
  have f2 : (0 : Int) ≤ ((0) + ((1) * ρ 1 + 0)) := hF _ (List.mem_of_getElem? (i := 2) rfl)
  have f3 : (0 : Int) ≤ ((7) + ((-1) * ρ 1 + 0)) := hF _ (List.mem_of_getElem? (i := 3) rfl)
  have p0 : P104 (vw C h) ((0) + ((1) * ρ 0 + 0)) ((0) + ((1) * ρ 1 + 0)) := hP _ (List.mem_of_getElem? (i := 0) rfl)
  have p1 : P100 (vw C h) 118 ((0) + ((1) * ρ 1 + 0)) := hP _ (List.mem_of_getElem? (i := 1) rfl)
  refine ⟨_, List.mem_cons_self, ρ, fun _ _ => rfl, fun q hq => absurd hq List.not_mem_nil, trivial, fun f hf => ?_, fun q hq => absurd hq List.not_mem_nil, fun q hq => absurd hq List.not_mem_nil, fun q hq => absurd hq List.not_mem_nil, fun q hq => ?_⟩
  · exact absurd hf List.not_mem_nil
  · simp only [List.mem_cons, List.not_mem_nil, or_false] at hq
    subst hq
    show P102 (vw C h) 118 ((0) + ((5) * ρ 0 + 0)) ((0) + ((1) * ρ 0 + 0))
    exact inv_ok (by omega) (by omega) p0 p1 (by omega)
/-- invOpenN -/
theorem lem_94_ok (hU : uqG G C) : lem_94.1.2.1 = [] ∧ lemOK (PRd G C D xs) G rgs lem_94 := by
  refine ⟨rfl, fun ρ h ha hT => ?_⟩
  obtain ⟨-, -, hF, hG, hH, hA, hP⟩ := ha
  have f0 : (0 : Int) ≤ ((0) + ((1) * ρ 2 + 0)) := hF _ (List.mem_of_getElem? (i := 0) rfl)
  have f1 : (0 : Int) ≤ ((7) + ((-1) * ρ 2 + 0)) := hF _ (List.mem_of_getElem? (i := 1) rfl)
  have f2 : (0 : Int) ≤ ((5) + ((-1) * ρ 5 + 0)) := hF _ (List.mem_of_getElem? (i := 2) rfl)
  have f3 : (0 : Int) ≤ ((0) + ((-5) * ρ 2 + ((1) * ρ 3 + 0))) := hF _ (List.mem_of_getElem? (i := 3) rfl)
  have f4 : (0 : Int) ≤ ((-1) + ((5) * ρ 2 + ((-1) * ρ 3 + ((1) * ρ 5 + 0)))) := hF _ (List.mem_of_getElem? (i := 4) rfl)
  have g1 : G (ρ 4).toNat = 123 := by
    have q := (hG _ (List.mem_of_getElem? (i := 1) rfl)).2
    rwa [show ev ρ (0, [(4, 1)]) = ρ 4 from ev_v] at q
  have g2 : G (ρ 1).toNat = 118 := by
    have q := (hG _ (List.mem_of_getElem? (i := 2) rfl)).2
    rwa [show ev ρ (0, [(1, 1)]) = ρ 1 from ev_v] at q
  have b0 : (0 : Int) ≤ ((24) + ((1) * ρ 2 + 0)) := b_aA (hA _ (List.mem_of_getElem? (i := 0) rfl))
  have b1 : (0 : Int) ≤ ((137) + ((1) * ρ 3 + 0)) := b_aA (hA _ (List.mem_of_getElem? (i := 1) rfl))
  have a0 : vw C h 123 (24 + (ρ 2).toNat) = ρ 5 := vw_aA hU (hA _ (List.mem_of_getElem? (i := 0) rfl)) ev_v g1 (by omega) (by omega) (i := 24 + (ρ 2).toNat) (show (((24 + (ρ 2).toNat : Nat)) : Int) = ((24) + ((1) * ρ 2 + 0)) by omega) ev_v
  have a1 : vw C h 118 (137 + (ρ 3).toNat) = ρ 6 := vw_aA hU (hA _ (List.mem_of_getElem? (i := 1) rfl)) ev_v g2 (by omega) (by omega) (i := 137 + (ρ 3).toNat) (show (((137 + (ρ 3).toNat : Nat)) : Int) = ((137) + ((1) * ρ 3 + 0)) by omega) ev_v
  have p0 : P102 (vw C h) 118 ((0) + ((1) * ρ 3 + 0)) ((0) + ((1) * ρ 2 + 0)) := hP _ (List.mem_of_getElem? (i := 0) rfl)
  have am := a0
  rw [show (ρ 2).toNat = ((0 : Int) + (1 * ρ 2 + 0)).toNat by omega] at am
  have q := invOpen_ok (q := ((1) + ((1) * ρ 3 + 0))) (by omega) (by omega) (by omega) (by omega) (by omega) am a1 (by omega) p0 (by omega)
  refine ⟨_, List.mem_cons_self, ρ, fun _ _ => rfl, fun q hq => absurd hq List.not_mem_nil, trivial, fun f hf => ?_, fun q hq => absurd hq List.not_mem_nil, fun q hq => absurd hq List.not_mem_nil, fun q hq => absurd hq List.not_mem_nil, fun q hq => ?_⟩
  · simp only [List.mem_cons, List.not_mem_nil, or_false] at hf
    subst hf
    show (0 : Int) ≤ ((0) + ((1) * ρ 6 + 0))
    omega
  · simp only [List.mem_cons, List.not_mem_nil, or_false] at hq
    subst hq
    show P102 (vw C h) 118 ((1) + ((1) * ρ 3 + 0)) ((0) + ((1) * ρ 2 + 0))
    exact q.2
/-- invCloseN -/
theorem lem_95_ok (hU : uqG G C) : lem_95.1.2.1 = [] ∧ lemOK (PRd G C D xs) G rgs lem_95 := by
  refine ⟨rfl, fun ρ h ha hT => ?_⟩
  obtain ⟨-, -, hF, hG, hH, hA, hP⟩ := ha
  have f0 : (0 : Int) ≤ ((0) + ((1) * ρ 1 + 0)) := hF _ (List.mem_of_getElem? (i := 0) rfl)
  have f1 : (0 : Int) ≤ ((7) + ((-1) * ρ 1 + 0)) := hF _ (List.mem_of_getElem? (i := 1) rfl)
  have f2 : (0 : Int) ≤ ((5) + ((-1) * ρ 4 + 0)) := hF _ (List.mem_of_getElem? (i := 2) rfl)
  have f3 : (0 : Int) ≤ ((0) + ((-5) * ρ 1 + ((1) * ρ 2 + ((-1) * ρ 4 + 0)))) := hF _ (List.mem_of_getElem? (i := 3) rfl)
  have f4 : (0 : Int) ≤ ((0) + ((1) * ρ 5 + 0)) := hF _ (List.mem_of_getElem? (i := 4) rfl)
  have f5 : (0 : Int) ≤ ((7) + ((-1) * ρ 5 + 0)) := hF _ (List.mem_of_getElem? (i := 5) rfl)
  have g1 : G (ρ 3).toNat = 123 := by
    have q := (hG _ (List.mem_of_getElem? (i := 1) rfl)).2
    rwa [show ev ρ (0, [(3, 1)]) = ρ 3 from ev_v] at q
  have b0 : (0 : Int) ≤ ((24) + ((1) * ρ 1 + 0)) := b_aA (hA _ (List.mem_of_getElem? (i := 0) rfl))
  have a0 : vw C h 123 (24 + (ρ 1).toNat) = ρ 4 := vw_aA hU (hA _ (List.mem_of_getElem? (i := 0) rfl)) ev_v g1 (by omega) (by omega) (i := 24 + (ρ 1).toNat) (show (((24 + (ρ 1).toNat : Nat)) : Int) = ((24) + ((1) * ρ 1 + 0)) by omega) ev_v
  have p0 : P104 (vw C h) ((0) + ((1) * ρ 1 + 0)) ((0) + ((1) * ρ 5 + 0)) := hP _ (List.mem_of_getElem? (i := 0) rfl)
  have p1 : P102 (vw C h) 118 ((0) + ((1) * ρ 2 + 0)) ((0) + ((1) * ρ 1 + 0)) := hP _ (List.mem_of_getElem? (i := 1) rfl)
  have am := a0
  rw [show (ρ 1).toNat = ((0 : Int) + (1 * ρ 1 + 0)).toNat by omega] at am
  refine ⟨_, List.mem_cons_self, ρ, fun _ _ => rfl, fun q hq => absurd hq List.not_mem_nil, trivial, fun f hf => ?_, fun q hq => absurd hq List.not_mem_nil, fun q hq => absurd hq List.not_mem_nil, fun q hq => absurd hq List.not_mem_nil, fun q hq => ?_⟩
  · exact absurd hf List.not_mem_nil
  · simp only [List.mem_cons, List.not_mem_nil, or_false] at hq
    subst hq
    show P100 (vw C h) 118 ((1) + ((1) * ρ 5 + 0))
    exact invClose_ok (by omega) (by omega) (by omega) am p0 p1 (by omega)
/-- eveningN -/
theorem lem_96_ok (hU : uqG G C) : lem_96.1.2.1 = [] ∧ lemOK (PRd G C D xs) G rgs lem_96 := by
  refine ⟨rfl, fun ρ h ha hT => ?_⟩
  obtain ⟨-, -, hF, hG, hH, hA, hP⟩ := ha
  have f0 : (0 : Int) ≤ ((0) + ((1) * ρ 2 + 0)) := hF _ (List.mem_of_getElem? (i := 0) rfl)
  have f1 : (0 : Int) ≤ ((8) + ((-1) * ρ 2 + 0)) := hF _ (List.mem_of_getElem? (i := 1) rfl)
  have f2 : (0 : Int) ≤ ((0) + ((1) * ρ 3 + 0)) := hF _ (List.mem_of_getElem? (i := 2) rfl)
  have f3 : (0 : Int) ≤ ((8) + ((-1) * ρ 3 + 0)) := hF _ (List.mem_of_getElem? (i := 3) rfl)
  have g1 : G (ρ 1).toNat = 123 := by
    have q := (hG _ (List.mem_of_getElem? (i := 1) rfl)).2
    rwa [show ev ρ (0, [(1, 1)]) = ρ 1 from ev_v] at q
  have b0 : (0 : Int) ≤ ((7) + 0) := b_aA (hA _ (List.mem_of_getElem? (i := 0) rfl))
  have a0 : vw C h 123 (7) = ρ 3 := vw_aA hU (hA _ (List.mem_of_getElem? (i := 0) rfl)) ev_v g1 (by omega) (by omega) (i := 7) (show (((7 : Nat)) : Int) = ((7) + 0) by omega) ev_v
  have p0 : P97 (vw C h) ((0) + ((1) * ρ 2 + 0)) ((0) + ((1) * ρ 3 + 0)) := hP _ (List.mem_of_getElem? (i := 0) rfl)
  have p1 : P100 (vw C h) 118 ((0) + ((1) * ρ 2 + 0)) := hP _ (List.mem_of_getElem? (i := 1) rfl)
  refine ⟨_, List.mem_cons_self, ρ, fun _ _ => rfl, fun q hq => absurd hq List.not_mem_nil, trivial, fun f hf => ?_, fun q hq => absurd hq List.not_mem_nil, fun q hq => absurd hq List.not_mem_nil, fun q hq => absurd hq List.not_mem_nil, fun q hq => ?_⟩
  · exact absurd hf List.not_mem_nil
  · simp only [List.mem_cons, List.not_mem_nil, or_false] at hq
    subst hq
    show P105 (vw C h) 118 ((0) + 0)
    exact evening_ok (M := ((0) + ((1) * ρ 3 + 0))) (by rw [a0]; omega) p0 p1 rfl
/-- eveSplitN -/
theorem lem_97_ok (hU : uqG G C) : lem_97.1.2.1 = [] ∧ lemOK (PRd G C D xs) G rgs lem_97 := by
  refine ⟨rfl, fun ρ h ha hT => ?_⟩
  obtain ⟨-, -, hF, hG, hH, hA, hP⟩ := ha
  have f0 : (0 : Int) ≤ ((0) + ((1) * ρ 1 + 0)) := hF _ (List.mem_of_getElem? (i := 0) rfl)
  have f1 : (0 : Int) ≤ ((-1) + ((-1) * ρ 1 + ((1) * ρ 5 + 0))) := hF _ (List.mem_of_getElem? (i := 1) rfl)
  have f2 : (0 : Int) ≤ ((8) + ((-1) * ρ 5 + 0)) := hF _ (List.mem_of_getElem? (i := 2) rfl)
  have f3 : (0 : Int) ≤ ((5) + ((-1) * ρ 4 + 0)) := hF _ (List.mem_of_getElem? (i := 3) rfl)
  have f4 : (0 : Int) ≤ ((0) + ((-5) * ρ 1 + ((1) * ρ 2 + 0))) := hF _ (List.mem_of_getElem? (i := 4) rfl)
  have f5 : (0 : Int) ≤ ((-1) + ((5) * ρ 1 + ((-1) * ρ 2 + ((1) * ρ 4 + 0)))) := hF _ (List.mem_of_getElem? (i := 5) rfl)
  have g1 : G (ρ 3).toNat = 123 := by
    have q := (hG _ (List.mem_of_getElem? (i := 1) rfl)).2
    rwa [show ev ρ (0, [(3, 1)]) = ρ 3 from ev_v] at q
  have b0 : (0 : Int) ≤ ((24) + ((1) * ρ 1 + 0)) := b_aA (hA _ (List.mem_of_getElem? (i := 0) rfl))
  have b1 : (0 : Int) ≤ ((7) + 0) := b_aA (hA _ (List.mem_of_getElem? (i := 1) rfl))
  have a0 : vw C h 123 (24 + (ρ 1).toNat) = ρ 4 := vw_aA hU (hA _ (List.mem_of_getElem? (i := 0) rfl)) ev_v g1 (by omega) (by omega) (i := 24 + (ρ 1).toNat) (show (((24 + (ρ 1).toNat : Nat)) : Int) = ((24) + ((1) * ρ 1 + 0)) by omega) ev_v
  have a1 : vw C h 123 (7) = ρ 5 := vw_aA hU (hA _ (List.mem_of_getElem? (i := 1) rfl)) ev_v g1 (by omega) (by omega) (i := 7) (show (((7 : Nat)) : Int) = ((7) + 0) by omega) ev_v
  have p0 : P105 (vw C h) 118 ((0) + ((1) * ρ 2 + 0)) := hP _ (List.mem_of_getElem? (i := 0) rfl)
  refine ⟨_, List.mem_cons_self, ρ, fun _ _ => rfl, fun q hq => absurd hq List.not_mem_nil, trivial, fun f hf => ?_, fun q hq => absurd hq List.not_mem_nil, fun q hq => absurd hq List.not_mem_nil, fun q hq => absurd hq List.not_mem_nil, fun q hq => ?_⟩
  · exact absurd hf List.not_mem_nil
  · simp only [List.mem_cons, List.not_mem_nil, or_false] at hq
    subst hq
    show P107 (vw C h) 118 ((0) + ((1) * ρ 2 + 0))
    exact eveSplit_ok (m := ρ 1) (M := ρ 5) (c := ρ 4) (by omega) (by omega) (by omega) (by omega) (by omega) (by omega) a0 a1 p0
/-- eveJoinN -/
theorem lem_98_ok (hU : uqG G C) : lem_98.1.2.1 = [] ∧ lemOK (PRd G C D xs) G rgs lem_98 := by
  refine ⟨rfl, fun ρ h ha hT => ?_⟩
  obtain ⟨-, -, hF, hG, hH, hA, hP⟩ := ha
  have f0 : (0 : Int) ≤ ((0) + ((1) * ρ 2 + 0)) := hF _ (List.mem_of_getElem? (i := 0) rfl)
  have f1 : (0 : Int) ≤ ((0) + ((1) * ρ 1 + 0)) := hF _ (List.mem_of_getElem? (i := 1) rfl)
  have f2 : (0 : Int) ≤ ((39) + ((-1) * ρ 1 + 0)) := hF _ (List.mem_of_getElem? (i := 2) rfl)
  have g0 : G (ρ 0).toNat = 118 := by
    have q := (hG _ (List.mem_of_getElem? (i := 0) rfl)).2
    rwa [show ev ρ (0, [(0, 1)]) = ρ 0 from ev_v] at q
  have b0 : (0 : Int) ≤ ((137) + ((1) * ρ 1 + 0)) := b_aA (hA _ (List.mem_of_getElem? (i := 0) rfl))
  have a0 : vw C h 118 (137 + (ρ 1).toNat) = ρ 2 := vw_aA hU (hA _ (List.mem_of_getElem? (i := 0) rfl)) ev_v g0 (by omega) (by omega) (i := 137 + (ρ 1).toNat) (show (((137 + (ρ 1).toNat : Nat)) : Int) = ((137) + ((1) * ρ 1 + 0)) by omega) ev_v
  have p0 : P107 (vw C h) 118 ((0) + ((1) * ρ 1 + 0)) := hP _ (List.mem_of_getElem? (i := 0) rfl)
  refine ⟨_, List.mem_cons_self, ρ, fun _ _ => rfl, fun q hq => absurd hq List.not_mem_nil, trivial, fun f hf => ?_, fun q hq => absurd hq List.not_mem_nil, fun q hq => absurd hq List.not_mem_nil, fun q hq => absurd hq List.not_mem_nil, fun q hq => ?_⟩
  · exact absurd hf List.not_mem_nil
  · simp only [List.mem_cons, List.not_mem_nil, or_false] at hq
    subst hq
    show P105 (vw C h) 118 ((1) + ((1) * ρ 1 + 0))
    exact eveJoin_ok (i := 137 + (ρ 1).toNat) a0 (by omega) (by omega) p0 (by omega)
/-- eveSkipN -/
theorem lem_99_ok (hU : uqG G C) : lem_99.1.2.1 = [] ∧ lemOK (PRd G C D xs) G rgs lem_99 := by
  refine ⟨rfl, fun ρ h ha hT => ?_⟩
  obtain ⟨-, -, hF, hG, hH, hA, hP⟩ := ha
  have f0 : (0 : Int) ≤ ((0) + ((1) * ρ 1 + 0)) := hF _ (List.mem_of_getElem? (i := 0) rfl)
  have f1 : (0 : Int) ≤ ((7) + ((-1) * ρ 1 + 0)) := hF _ (List.mem_of_getElem? (i := 1) rfl)
  have f2 : (0 : Int) ≤ ((0) + ((1) * ρ 4 + 0)) := hF _ (List.mem_of_getElem? (i := 2) rfl)
  have f3 : (0 : Int) ≤ ((5) + ((-1) * ρ 4 + 0)) := hF _ (List.mem_of_getElem? (i := 3) rfl)
  have f4 : (0 : Int) ≤ ((0) + ((-5) * ρ 1 + ((1) * ρ 2 + ((-1) * ρ 4 + 0)))) := hF _ (List.mem_of_getElem? (i := 4) rfl)
  have g1 : G (ρ 3).toNat = 123 := by
    have q := (hG _ (List.mem_of_getElem? (i := 1) rfl)).2
    rwa [show ev ρ (0, [(3, 1)]) = ρ 3 from ev_v] at q
  have b0 : (0 : Int) ≤ ((24) + ((1) * ρ 1 + 0)) := b_aA (hA _ (List.mem_of_getElem? (i := 0) rfl))
  have a0 : vw C h 123 (24 + (ρ 1).toNat) = ρ 4 := vw_aA hU (hA _ (List.mem_of_getElem? (i := 0) rfl)) ev_v g1 (by omega) (by omega) (i := 24 + (ρ 1).toNat) (show (((24 + (ρ 1).toNat : Nat)) : Int) = ((24) + ((1) * ρ 1 + 0)) by omega) ev_v
  have p0 : P105 (vw C h) 118 ((0) + ((1) * ρ 2 + 0)) := hP _ (List.mem_of_getElem? (i := 0) rfl)
  refine ⟨_, List.mem_cons_self, ρ, fun _ _ => rfl, fun q hq => absurd hq List.not_mem_nil, trivial, fun f hf => ?_, fun q hq => absurd hq List.not_mem_nil, fun q hq => absurd hq List.not_mem_nil, fun q hq => absurd hq List.not_mem_nil, fun q hq => ?_⟩
  · exact absurd hf List.not_mem_nil
  · simp only [List.mem_cons, List.not_mem_nil, or_false] at hq
    subst hq
    show P105 (vw C h) 118 ((5) + ((5) * ρ 1 + 0))
    exact eveSkip_ok (m := ρ 1) (by omega) (by omega) (by omega) a0 p0 (by omega)
/-- dayCloseN -/
theorem lem_100_ok (hU : uqG G C) : lem_100.1.2.1 = [] ∧ lemOK (PRd G C D xs) G rgs lem_100 := by
  refine ⟨rfl, fun ρ h ha hT => ?_⟩
  obtain ⟨-, -, hF, hG, hH, hA, hP⟩ := ha
  have f0 : (0 : Int) ≤ ((0) + ((1) * ρ 1 + ((-1) * ρ 3 + 0))) := hF _ (List.mem_of_getElem? (i := 0) rfl)
  have g1 : G (ρ 2).toNat = 123 := by
    have q := (hG _ (List.mem_of_getElem? (i := 1) rfl)).2
    rwa [show ev ρ (0, [(2, 1)]) = ρ 2 from ev_v] at q
  have b0 : (0 : Int) ≤ ((7) + 0) := b_aA (hA _ (List.mem_of_getElem? (i := 0) rfl))
  have a0 : vw C h 123 (7) = ρ 3 := vw_aA hU (hA _ (List.mem_of_getElem? (i := 0) rfl)) ev_v g1 (by omega) (by omega) (i := 7) (show (((7 : Nat)) : Int) = ((7) + 0) by omega) ev_v
  have p0 : P105 (vw C h) 118 ((0) + ((5) * ρ 1 + 0)) := hP _ (List.mem_of_getElem? (i := 0) rfl)
  have p1 : P38 (vw C h) 118 := hP _ (List.mem_of_getElem? (i := 1) rfl)
  refine ⟨_, List.mem_cons_self, ρ, fun _ _ => rfl, fun q hq => absurd hq List.not_mem_nil, trivial, fun f hf => ?_, fun q hq => absurd hq List.not_mem_nil, fun q hq => absurd hq List.not_mem_nil, fun q hq => absurd hq List.not_mem_nil, fun q hq => ?_⟩
  · exact absurd hf List.not_mem_nil
  · simp only [List.mem_cons, List.not_mem_nil, or_false] at hq
    subst hq
    show GDv (vw C h) 118 123 1777 ((0) + 0) ((1777) + 0)
    exact dayClose_ok (m := ρ 1) (by omega) a0 p0 (by omega) p1
/-- evOpenW -/
theorem lem_101_ok (hU : uqG G C) : lem_101.1.2.1 = [] ∧ lemOK (PRd G C D xs) G rgs lem_101 := by
  refine ⟨rfl, fun ρ h ha hT => ?_⟩
  obtain ⟨-, -, hF, hG, hH, hA, hP⟩ := ha
  have p0 : GDv (vw C h) 119 123 1777 ((0) + 0) ((1777) + 0) := hP _ (List.mem_of_getElem? (i := 0) rfl)
  refine ⟨_, List.mem_cons_self, ρ, fun _ _ => rfl, fun q hq => absurd hq List.not_mem_nil, trivial, fun f hf => ?_, fun q hq => absurd hq List.not_mem_nil, fun q hq => absurd hq List.not_mem_nil, fun q hq => absurd hq List.not_mem_nil, fun q hq => ?_⟩
  · exact absurd hf List.not_mem_nil
  · simp only [List.mem_cons, List.not_mem_nil, or_false] at hq
    subst hq
    show P38 (vw C h) 119
    exact (dayOpen_ok p0).1
/-- dayOpenW -/
theorem lem_102_ok (hU : uqG G C) : lem_102.1.2.1 = [] ∧ lemOK (PRd G C D xs) G rgs lem_102 := by
  refine ⟨rfl, fun ρ h ha hT => ?_⟩
  obtain ⟨-, -, hF, hG, hH, hA, hP⟩ := ha
  have p0 : GDv (vw C h) 119 123 1777 ((0) + 0) ((1777) + 0) := hP _ (List.mem_of_getElem? (i := 0) rfl)
  refine ⟨_, List.mem_cons_self, ρ, fun _ _ => rfl, fun q hq => absurd hq List.not_mem_nil, trivial, fun f hf => ?_, fun q hq => absurd hq List.not_mem_nil, fun q hq => absurd hq List.not_mem_nil, fun q hq => absurd hq List.not_mem_nil, fun q hq => ?_⟩
  · exact absurd hf List.not_mem_nil
  · simp only [List.mem_cons, List.not_mem_nil, or_false] at hq
    rcases hq with rfl | rfl
    · show P38 (vw C h) 119
      exact (dayOpen_ok p0).1
    · show P100 (vw C h) 119 ((0) + 0)
      exact (dayOpen_ok p0).2
/-- everyW -/
theorem lem_103_ok (hU : uqG G C) : lem_103.1.2.1 = [] ∧ lemOK (PRd G C D xs) G rgs lem_103 := by
  refine ⟨rfl, fun ρ h ha hT => ?_⟩
  obtain ⟨-, -, hF, hG, hH, hA, hP⟩ := ha
  have f0 : (0 : Int) ≤ ((0) + ((1) * ρ 2 + 0)) := hF _ (List.mem_of_getElem? (i := 0) rfl)
  have f1 : (0 : Int) ≤ ((7) + ((-1) * ρ 2 + 0)) := hF _ (List.mem_of_getElem? (i := 1) rfl)
  have f2 : (0 : Int) ≤ ((5) + ((-1) * ρ 5 + 0)) := hF _ (List.mem_of_getElem? (i := 2) rfl)
  have f3 : (0 : Int) ≤ ((0) + ((-5) * ρ 2 + ((1) * ρ 3 + 0))) := hF _ (List.mem_of_getElem? (i := 3) rfl)
  have f4 : (0 : Int) ≤ ((-1) + ((5) * ρ 2 + ((-1) * ρ 3 + ((1) * ρ 5 + 0)))) := hF _ (List.mem_of_getElem? (i := 4) rfl)
  have g1 : G (ρ 4).toNat = 123 := by
    have q := (hG _ (List.mem_of_getElem? (i := 1) rfl)).2
    rwa [show ev ρ (0, [(4, 1)]) = ρ 4 from ev_v] at q
  have g2 : G (ρ 1).toNat = 119 := by
    have q := (hG _ (List.mem_of_getElem? (i := 2) rfl)).2
    rwa [show ev ρ (0, [(1, 1)]) = ρ 1 from ev_v] at q
  have b0 : (0 : Int) ≤ ((24) + ((1) * ρ 2 + 0)) := b_aA (hA _ (List.mem_of_getElem? (i := 0) rfl))
  have b1 : (0 : Int) ≤ ((217) + ((1) * ρ 3 + 0)) := b_aA (hA _ (List.mem_of_getElem? (i := 1) rfl))
  have a0 : vw C h 123 (24 + (ρ 2).toNat) = ρ 5 := vw_aA hU (hA _ (List.mem_of_getElem? (i := 0) rfl)) ev_v g1 (by omega) (by omega) (i := 24 + (ρ 2).toNat) (show (((24 + (ρ 2).toNat : Nat)) : Int) = ((24) + ((1) * ρ 2 + 0)) by omega) ev_v
  have a1 : vw C h 119 (217 + (ρ 3).toNat) = ρ 6 := vw_aA hU (hA _ (List.mem_of_getElem? (i := 1) rfl)) ev_v g2 (by omega) (by omega) (i := 217 + (ρ 3).toNat) (show (((217 + (ρ 3).toNat : Nat)) : Int) = ((217) + ((1) * ρ 3 + 0)) by omega) ev_v
  have p0 : P38 (vw C h) 119 := hP _ (List.mem_of_getElem? (i := 0) rfl)
  have q := every_ok p0 (m := ρ 2) (k := ρ 3) (by omega) (by omega) (by omega) (by omega) (by omega) a0 a1 (by omega)
  refine ⟨_, List.mem_cons_self, ρ, fun _ _ => rfl, fun q hq => absurd hq List.not_mem_nil, trivial, fun f hf => ?_, fun q hq => absurd hq List.not_mem_nil, fun q hq => absurd hq List.not_mem_nil, fun q hq => absurd hq List.not_mem_nil, fun q hq => ?_⟩
  · simp only [List.mem_cons, List.not_mem_nil, or_false] at hf
    subst hf
    show (0 : Int) ≤ ((-1) + ((1) * ρ 6 + 0))
    omega
  · exact absurd hq List.not_mem_nil
/-- invW -/
theorem lem_104_ok (hU : uqG G C) : lem_104.1.2.1 = [] ∧ lemOK (PRd G C D xs) G rgs lem_104 := by
  refine ⟨rfl, fun ρ h ha hT => ?_⟩
  obtain ⟨-, -, hF, hG, hH, hA, hP⟩ := ha
  have f0 : (0 : Int) ≤ ((0) + ((1) * ρ 0 + 0)) := hF _ (List.mem_of_getElem? (i := 0) rfl)
  have f1 : (0 : Int) ≤ ((7) + ((-1) * ρ 0 + 0)) := hF _ (List.mem_of_getElem? (i := 1) rfl)
  have f2 : (0 : Int) ≤ ((0) + ((1) * ρ 1 + 0)) := hF _ (List.mem_of_getElem? (i := 2) rfl)
  have f3 : (0 : Int) ≤ ((7) + ((-1) * ρ 1 + 0)) := hF _ (List.mem_of_getElem? (i := 3) rfl)
  have p0 : P104 (vw C h) ((0) + ((1) * ρ 0 + 0)) ((0) + ((1) * ρ 1 + 0)) := hP _ (List.mem_of_getElem? (i := 0) rfl)
  have p1 : P100 (vw C h) 119 ((0) + ((1) * ρ 1 + 0)) := hP _ (List.mem_of_getElem? (i := 1) rfl)
  refine ⟨_, List.mem_cons_self, ρ, fun _ _ => rfl, fun q hq => absurd hq List.not_mem_nil, trivial, fun f hf => ?_, fun q hq => absurd hq List.not_mem_nil, fun q hq => absurd hq List.not_mem_nil, fun q hq => absurd hq List.not_mem_nil, fun q hq => ?_⟩
  · exact absurd hf List.not_mem_nil
  · simp only [List.mem_cons, List.not_mem_nil, or_false] at hq
    subst hq
    show P102 (vw C h) 119 ((0) + ((5) * ρ 0 + 0)) ((0) + ((1) * ρ 0 + 0))
    exact inv_ok (by omega) (by omega) p0 p1 (by omega)
/-- invOpenW -/
theorem lem_105_ok (hU : uqG G C) : lem_105.1.2.1 = [] ∧ lemOK (PRd G C D xs) G rgs lem_105 := by
  refine ⟨rfl, fun ρ h ha hT => ?_⟩
  obtain ⟨-, -, hF, hG, hH, hA, hP⟩ := ha
  have f0 : (0 : Int) ≤ ((0) + ((1) * ρ 2 + 0)) := hF _ (List.mem_of_getElem? (i := 0) rfl)
  have f1 : (0 : Int) ≤ ((7) + ((-1) * ρ 2 + 0)) := hF _ (List.mem_of_getElem? (i := 1) rfl)
  have f2 : (0 : Int) ≤ ((5) + ((-1) * ρ 5 + 0)) := hF _ (List.mem_of_getElem? (i := 2) rfl)
  have f3 : (0 : Int) ≤ ((0) + ((-5) * ρ 2 + ((1) * ρ 3 + 0))) := hF _ (List.mem_of_getElem? (i := 3) rfl)
  have f4 : (0 : Int) ≤ ((-1) + ((5) * ρ 2 + ((-1) * ρ 3 + ((1) * ρ 5 + 0)))) := hF _ (List.mem_of_getElem? (i := 4) rfl)
  have g1 : G (ρ 4).toNat = 123 := by
    have q := (hG _ (List.mem_of_getElem? (i := 1) rfl)).2
    rwa [show ev ρ (0, [(4, 1)]) = ρ 4 from ev_v] at q
  have g2 : G (ρ 1).toNat = 119 := by
    have q := (hG _ (List.mem_of_getElem? (i := 2) rfl)).2
    rwa [show ev ρ (0, [(1, 1)]) = ρ 1 from ev_v] at q
  have b0 : (0 : Int) ≤ ((24) + ((1) * ρ 2 + 0)) := b_aA (hA _ (List.mem_of_getElem? (i := 0) rfl))
  have b1 : (0 : Int) ≤ ((137) + ((1) * ρ 3 + 0)) := b_aA (hA _ (List.mem_of_getElem? (i := 1) rfl))
  have a0 : vw C h 123 (24 + (ρ 2).toNat) = ρ 5 := vw_aA hU (hA _ (List.mem_of_getElem? (i := 0) rfl)) ev_v g1 (by omega) (by omega) (i := 24 + (ρ 2).toNat) (show (((24 + (ρ 2).toNat : Nat)) : Int) = ((24) + ((1) * ρ 2 + 0)) by omega) ev_v
  have a1 : vw C h 119 (137 + (ρ 3).toNat) = ρ 6 := vw_aA hU (hA _ (List.mem_of_getElem? (i := 1) rfl)) ev_v g2 (by omega) (by omega) (i := 137 + (ρ 3).toNat) (show (((137 + (ρ 3).toNat : Nat)) : Int) = ((137) + ((1) * ρ 3 + 0)) by omega) ev_v
  have p0 : P102 (vw C h) 119 ((0) + ((1) * ρ 3 + 0)) ((0) + ((1) * ρ 2 + 0)) := hP _ (List.mem_of_getElem? (i := 0) rfl)
  have am := a0
  rw [show (ρ 2).toNat = ((0 : Int) + (1 * ρ 2 + 0)).toNat by omega] at am
  have q := invOpen_ok (q := ((1) + ((1) * ρ 3 + 0))) (by omega) (by omega) (by omega) (by omega) (by omega) am a1 (by omega) p0 (by omega)
  refine ⟨_, List.mem_cons_self, ρ, fun _ _ => rfl, fun q hq => absurd hq List.not_mem_nil, trivial, fun f hf => ?_, fun q hq => absurd hq List.not_mem_nil, fun q hq => absurd hq List.not_mem_nil, fun q hq => absurd hq List.not_mem_nil, fun q hq => ?_⟩
  · simp only [List.mem_cons, List.not_mem_nil, or_false] at hf
    subst hf
    show (0 : Int) ≤ ((0) + ((1) * ρ 6 + 0))
    omega
  · simp only [List.mem_cons, List.not_mem_nil, or_false] at hq
    subst hq
    show P102 (vw C h) 119 ((1) + ((1) * ρ 3 + 0)) ((0) + ((1) * ρ 2 + 0))
    exact q.2
/-- invCloseW -/
theorem lem_106_ok (hU : uqG G C) : lem_106.1.2.1 = [] ∧ lemOK (PRd G C D xs) G rgs lem_106 := by
  refine ⟨rfl, fun ρ h ha hT => ?_⟩
  obtain ⟨-, -, hF, hG, hH, hA, hP⟩ := ha
  have f0 : (0 : Int) ≤ ((0) + ((1) * ρ 1 + 0)) := hF _ (List.mem_of_getElem? (i := 0) rfl)
  have f1 : (0 : Int) ≤ ((7) + ((-1) * ρ 1 + 0)) := hF _ (List.mem_of_getElem? (i := 1) rfl)
  have f2 : (0 : Int) ≤ ((5) + ((-1) * ρ 4 + 0)) := hF _ (List.mem_of_getElem? (i := 2) rfl)
  have f3 : (0 : Int) ≤ ((0) + ((-5) * ρ 1 + ((1) * ρ 2 + ((-1) * ρ 4 + 0)))) := hF _ (List.mem_of_getElem? (i := 3) rfl)
  have f4 : (0 : Int) ≤ ((0) + ((1) * ρ 5 + 0)) := hF _ (List.mem_of_getElem? (i := 4) rfl)
  have f5 : (0 : Int) ≤ ((7) + ((-1) * ρ 5 + 0)) := hF _ (List.mem_of_getElem? (i := 5) rfl)
  have g1 : G (ρ 3).toNat = 123 := by
    have q := (hG _ (List.mem_of_getElem? (i := 1) rfl)).2
    rwa [show ev ρ (0, [(3, 1)]) = ρ 3 from ev_v] at q
  have b0 : (0 : Int) ≤ ((24) + ((1) * ρ 1 + 0)) := b_aA (hA _ (List.mem_of_getElem? (i := 0) rfl))
  have a0 : vw C h 123 (24 + (ρ 1).toNat) = ρ 4 := vw_aA hU (hA _ (List.mem_of_getElem? (i := 0) rfl)) ev_v g1 (by omega) (by omega) (i := 24 + (ρ 1).toNat) (show (((24 + (ρ 1).toNat : Nat)) : Int) = ((24) + ((1) * ρ 1 + 0)) by omega) ev_v
  have p0 : P104 (vw C h) ((0) + ((1) * ρ 1 + 0)) ((0) + ((1) * ρ 5 + 0)) := hP _ (List.mem_of_getElem? (i := 0) rfl)
  have p1 : P102 (vw C h) 119 ((0) + ((1) * ρ 2 + 0)) ((0) + ((1) * ρ 1 + 0)) := hP _ (List.mem_of_getElem? (i := 1) rfl)
  have am := a0
  rw [show (ρ 1).toNat = ((0 : Int) + (1 * ρ 1 + 0)).toNat by omega] at am
  refine ⟨_, List.mem_cons_self, ρ, fun _ _ => rfl, fun q hq => absurd hq List.not_mem_nil, trivial, fun f hf => ?_, fun q hq => absurd hq List.not_mem_nil, fun q hq => absurd hq List.not_mem_nil, fun q hq => absurd hq List.not_mem_nil, fun q hq => ?_⟩
  · exact absurd hf List.not_mem_nil
  · simp only [List.mem_cons, List.not_mem_nil, or_false] at hq
    subst hq
    show P100 (vw C h) 119 ((1) + ((1) * ρ 5 + 0))
    exact invClose_ok (by omega) (by omega) (by omega) am p0 p1 (by omega)
/-- eveningW -/
theorem lem_107_ok (hU : uqG G C) : lem_107.1.2.1 = [] ∧ lemOK (PRd G C D xs) G rgs lem_107 := by
  refine ⟨rfl, fun ρ h ha hT => ?_⟩
  obtain ⟨-, -, hF, hG, hH, hA, hP⟩ := ha
  have f0 : (0 : Int) ≤ ((0) + ((1) * ρ 2 + 0)) := hF _ (List.mem_of_getElem? (i := 0) rfl)
  have f1 : (0 : Int) ≤ ((8) + ((-1) * ρ 2 + 0)) := hF _ (List.mem_of_getElem? (i := 1) rfl)
  have f2 : (0 : Int) ≤ ((0) + ((1) * ρ 3 + 0)) := hF _ (List.mem_of_getElem? (i := 2) rfl)
  have f3 : (0 : Int) ≤ ((8) + ((-1) * ρ 3 + 0)) := hF _ (List.mem_of_getElem? (i := 3) rfl)
  have g1 : G (ρ 1).toNat = 123 := by
    have q := (hG _ (List.mem_of_getElem? (i := 1) rfl)).2
    rwa [show ev ρ (0, [(1, 1)]) = ρ 1 from ev_v] at q
  have b0 : (0 : Int) ≤ ((7) + 0) := b_aA (hA _ (List.mem_of_getElem? (i := 0) rfl))
  have a0 : vw C h 123 (7) = ρ 3 := vw_aA hU (hA _ (List.mem_of_getElem? (i := 0) rfl)) ev_v g1 (by omega) (by omega) (i := 7) (show (((7 : Nat)) : Int) = ((7) + 0) by omega) ev_v
  have p0 : P97 (vw C h) ((0) + ((1) * ρ 2 + 0)) ((0) + ((1) * ρ 3 + 0)) := hP _ (List.mem_of_getElem? (i := 0) rfl)
  have p1 : P100 (vw C h) 119 ((0) + ((1) * ρ 2 + 0)) := hP _ (List.mem_of_getElem? (i := 1) rfl)
  refine ⟨_, List.mem_cons_self, ρ, fun _ _ => rfl, fun q hq => absurd hq List.not_mem_nil, trivial, fun f hf => ?_, fun q hq => absurd hq List.not_mem_nil, fun q hq => absurd hq List.not_mem_nil, fun q hq => absurd hq List.not_mem_nil, fun q hq => ?_⟩
  · exact absurd hf List.not_mem_nil
  · simp only [List.mem_cons, List.not_mem_nil, or_false] at hq
    subst hq
    show P105 (vw C h) 119 ((0) + 0)
    exact evening_ok (M := ((0) + ((1) * ρ 3 + 0))) (by rw [a0]; omega) p0 p1 rfl
/-- eveSplitW -/
theorem lem_108_ok (hU : uqG G C) : lem_108.1.2.1 = [] ∧ lemOK (PRd G C D xs) G rgs lem_108 := by
  refine ⟨rfl, fun ρ h ha hT => ?_⟩
  obtain ⟨-, -, hF, hG, hH, hA, hP⟩ := ha
  have f0 : (0 : Int) ≤ ((0) + ((1) * ρ 1 + 0)) := hF _ (List.mem_of_getElem? (i := 0) rfl)
  have f1 : (0 : Int) ≤ ((-1) + ((-1) * ρ 1 + ((1) * ρ 5 + 0))) := hF _ (List.mem_of_getElem? (i := 1) rfl)
  have f2 : (0 : Int) ≤ ((8) + ((-1) * ρ 5 + 0)) := hF _ (List.mem_of_getElem? (i := 2) rfl)
  have f3 : (0 : Int) ≤ ((5) + ((-1) * ρ 4 + 0)) := hF _ (List.mem_of_getElem? (i := 3) rfl)
  have f4 : (0 : Int) ≤ ((0) + ((-5) * ρ 1 + ((1) * ρ 2 + 0))) := hF _ (List.mem_of_getElem? (i := 4) rfl)
  have f5 : (0 : Int) ≤ ((-1) + ((5) * ρ 1 + ((-1) * ρ 2 + ((1) * ρ 4 + 0)))) := hF _ (List.mem_of_getElem? (i := 5) rfl)
  have g1 : G (ρ 3).toNat = 123 := by
    have q := (hG _ (List.mem_of_getElem? (i := 1) rfl)).2
    rwa [show ev ρ (0, [(3, 1)]) = ρ 3 from ev_v] at q
  have b0 : (0 : Int) ≤ ((24) + ((1) * ρ 1 + 0)) := b_aA (hA _ (List.mem_of_getElem? (i := 0) rfl))
  have b1 : (0 : Int) ≤ ((7) + 0) := b_aA (hA _ (List.mem_of_getElem? (i := 1) rfl))
  have a0 : vw C h 123 (24 + (ρ 1).toNat) = ρ 4 := vw_aA hU (hA _ (List.mem_of_getElem? (i := 0) rfl)) ev_v g1 (by omega) (by omega) (i := 24 + (ρ 1).toNat) (show (((24 + (ρ 1).toNat : Nat)) : Int) = ((24) + ((1) * ρ 1 + 0)) by omega) ev_v
  have a1 : vw C h 123 (7) = ρ 5 := vw_aA hU (hA _ (List.mem_of_getElem? (i := 1) rfl)) ev_v g1 (by omega) (by omega) (i := 7) (show (((7 : Nat)) : Int) = ((7) + 0) by omega) ev_v
  have p0 : P105 (vw C h) 119 ((0) + ((1) * ρ 2 + 0)) := hP _ (List.mem_of_getElem? (i := 0) rfl)
  refine ⟨_, List.mem_cons_self, ρ, fun _ _ => rfl, fun q hq => absurd hq List.not_mem_nil, trivial, fun f hf => ?_, fun q hq => absurd hq List.not_mem_nil, fun q hq => absurd hq List.not_mem_nil, fun q hq => absurd hq List.not_mem_nil, fun q hq => ?_⟩
  · exact absurd hf List.not_mem_nil
  · simp only [List.mem_cons, List.not_mem_nil, or_false] at hq
    subst hq
    show P107 (vw C h) 119 ((0) + ((1) * ρ 2 + 0))
    exact eveSplit_ok (m := ρ 1) (M := ρ 5) (c := ρ 4) (by omega) (by omega) (by omega) (by omega) (by omega) (by omega) a0 a1 p0
/-- eveJoinW -/
theorem lem_109_ok (hU : uqG G C) : lem_109.1.2.1 = [] ∧ lemOK (PRd G C D xs) G rgs lem_109 := by
  refine ⟨rfl, fun ρ h ha hT => ?_⟩
  obtain ⟨-, -, hF, hG, hH, hA, hP⟩ := ha
  have f0 : (0 : Int) ≤ ((0) + ((1) * ρ 2 + 0)) := hF _ (List.mem_of_getElem? (i := 0) rfl)
  have f1 : (0 : Int) ≤ ((0) + ((1) * ρ 1 + 0)) := hF _ (List.mem_of_getElem? (i := 1) rfl)
  have f2 : (0 : Int) ≤ ((39) + ((-1) * ρ 1 + 0)) := hF _ (List.mem_of_getElem? (i := 2) rfl)
  have g0 : G (ρ 0).toNat = 119 := by
    have q := (hG _ (List.mem_of_getElem? (i := 0) rfl)).2
    rwa [show ev ρ (0, [(0, 1)]) = ρ 0 from ev_v] at q
  have b0 : (0 : Int) ≤ ((137) + ((1) * ρ 1 + 0)) := b_aA (hA _ (List.mem_of_getElem? (i := 0) rfl))
  have a0 : vw C h 119 (137 + (ρ 1).toNat) = ρ 2 := vw_aA hU (hA _ (List.mem_of_getElem? (i := 0) rfl)) ev_v g0 (by omega) (by omega) (i := 137 + (ρ 1).toNat) (show (((137 + (ρ 1).toNat : Nat)) : Int) = ((137) + ((1) * ρ 1 + 0)) by omega) ev_v
  have p0 : P107 (vw C h) 119 ((0) + ((1) * ρ 1 + 0)) := hP _ (List.mem_of_getElem? (i := 0) rfl)
  refine ⟨_, List.mem_cons_self, ρ, fun _ _ => rfl, fun q hq => absurd hq List.not_mem_nil, trivial, fun f hf => ?_, fun q hq => absurd hq List.not_mem_nil, fun q hq => absurd hq List.not_mem_nil, fun q hq => absurd hq List.not_mem_nil, fun q hq => ?_⟩
  · exact absurd hf List.not_mem_nil
  · simp only [List.mem_cons, List.not_mem_nil, or_false] at hq
    subst hq
    show P105 (vw C h) 119 ((1) + ((1) * ρ 1 + 0))
    exact eveJoin_ok (i := 137 + (ρ 1).toNat) a0 (by omega) (by omega) p0 (by omega)
/-- eveSkipW -/
theorem lem_110_ok (hU : uqG G C) : lem_110.1.2.1 = [] ∧ lemOK (PRd G C D xs) G rgs lem_110 := by
  refine ⟨rfl, fun ρ h ha hT => ?_⟩
  obtain ⟨-, -, hF, hG, hH, hA, hP⟩ := ha
  have f0 : (0 : Int) ≤ ((0) + ((1) * ρ 1 + 0)) := hF _ (List.mem_of_getElem? (i := 0) rfl)
  have f1 : (0 : Int) ≤ ((7) + ((-1) * ρ 1 + 0)) := hF _ (List.mem_of_getElem? (i := 1) rfl)
  have f2 : (0 : Int) ≤ ((0) + ((1) * ρ 4 + 0)) := hF _ (List.mem_of_getElem? (i := 2) rfl)
  have f3 : (0 : Int) ≤ ((5) + ((-1) * ρ 4 + 0)) := hF _ (List.mem_of_getElem? (i := 3) rfl)
  have f4 : (0 : Int) ≤ ((0) + ((-5) * ρ 1 + ((1) * ρ 2 + ((-1) * ρ 4 + 0)))) := hF _ (List.mem_of_getElem? (i := 4) rfl)
  have g1 : G (ρ 3).toNat = 123 := by
    have q := (hG _ (List.mem_of_getElem? (i := 1) rfl)).2
    rwa [show ev ρ (0, [(3, 1)]) = ρ 3 from ev_v] at q
  have b0 : (0 : Int) ≤ ((24) + ((1) * ρ 1 + 0)) := b_aA (hA _ (List.mem_of_getElem? (i := 0) rfl))
  have a0 : vw C h 123 (24 + (ρ 1).toNat) = ρ 4 := vw_aA hU (hA _ (List.mem_of_getElem? (i := 0) rfl)) ev_v g1 (by omega) (by omega) (i := 24 + (ρ 1).toNat) (show (((24 + (ρ 1).toNat : Nat)) : Int) = ((24) + ((1) * ρ 1 + 0)) by omega) ev_v
  have p0 : P105 (vw C h) 119 ((0) + ((1) * ρ 2 + 0)) := hP _ (List.mem_of_getElem? (i := 0) rfl)
  refine ⟨_, List.mem_cons_self, ρ, fun _ _ => rfl, fun q hq => absurd hq List.not_mem_nil, trivial, fun f hf => ?_, fun q hq => absurd hq List.not_mem_nil, fun q hq => absurd hq List.not_mem_nil, fun q hq => absurd hq List.not_mem_nil, fun q hq => ?_⟩
  · exact absurd hf List.not_mem_nil
  · simp only [List.mem_cons, List.not_mem_nil, or_false] at hq
    subst hq
    show P105 (vw C h) 119 ((5) + ((5) * ρ 1 + 0))
    exact eveSkip_ok (m := ρ 1) (by omega) (by omega) (by omega) a0 p0 (by omega)
/-- dayCloseW -/
theorem lem_111_ok (hU : uqG G C) : lem_111.1.2.1 = [] ∧ lemOK (PRd G C D xs) G rgs lem_111 := by
  refine ⟨rfl, fun ρ h ha hT => ?_⟩
  obtain ⟨-, -, hF, hG, hH, hA, hP⟩ := ha
  have f0 : (0 : Int) ≤ ((0) + ((1) * ρ 1 + ((-1) * ρ 3 + 0))) := hF _ (List.mem_of_getElem? (i := 0) rfl)
  have g1 : G (ρ 2).toNat = 123 := by
    have q := (hG _ (List.mem_of_getElem? (i := 1) rfl)).2
    rwa [show ev ρ (0, [(2, 1)]) = ρ 2 from ev_v] at q
  have b0 : (0 : Int) ≤ ((7) + 0) := b_aA (hA _ (List.mem_of_getElem? (i := 0) rfl))
  have a0 : vw C h 123 (7) = ρ 3 := vw_aA hU (hA _ (List.mem_of_getElem? (i := 0) rfl)) ev_v g1 (by omega) (by omega) (i := 7) (show (((7 : Nat)) : Int) = ((7) + 0) by omega) ev_v
  have p0 : P105 (vw C h) 119 ((0) + ((5) * ρ 1 + 0)) := hP _ (List.mem_of_getElem? (i := 0) rfl)
  have p1 : P38 (vw C h) 119 := hP _ (List.mem_of_getElem? (i := 1) rfl)
  refine ⟨_, List.mem_cons_self, ρ, fun _ _ => rfl, fun q hq => absurd hq List.not_mem_nil, trivial, fun f hf => ?_, fun q hq => absurd hq List.not_mem_nil, fun q hq => absurd hq List.not_mem_nil, fun q hq => absurd hq List.not_mem_nil, fun q hq => ?_⟩
  · exact absurd hf List.not_mem_nil
  · simp only [List.mem_cons, List.not_mem_nil, or_false] at hq
    subst hq
    show GDv (vw C h) 119 123 1777 ((0) + 0) ((1777) + 0)
    exact dayClose_ok (m := ρ 1) (by omega) a0 p0 (by omega) p1
/-- visStart -/
theorem lem_112_ok (hU : uqG G C) : lem_112.1.2.1 = [] ∧ lemOK (PRd G C D xs) G rgs lem_112 := by
  refine ⟨rfl, fun ρ h ha hT => ?_⟩
  obtain ⟨-, -, hF, hG, hH, hA, hP⟩ := ha
  have f0 : (0 : Int) ≤ ((0) + ((1) * ρ 2 + ((-1) * ρ 5 + 0))) := hF _ (List.mem_of_getElem? (i := 0) rfl)
  have f1 : (0 : Int) ≤ ((0) + ((-1) * ρ 2 + ((1) * ρ 5 + 0))) := hF _ (List.mem_of_getElem? (i := 1) rfl)
  have f2 : (0 : Int) ≤ ((0) + ((1) * ρ 1 + 0)) := hF _ (List.mem_of_getElem? (i := 2) rfl)
  have f3 : (0 : Int) ≤ ((-1) + ((-1) * ρ 1 + ((1) * ρ 3 + 0))) := hF _ (List.mem_of_getElem? (i := 3) rfl)
  have f4 : (0 : Int) ≤ ((8) + ((-1) * ρ 3 + 0)) := hF _ (List.mem_of_getElem? (i := 4) rfl)
  have g1 : G (ρ 4).toNat = 142 := by
    have q := (hG _ (List.mem_of_getElem? (i := 1) rfl)).2
    rwa [show ev ρ (0, [(4, 1)]) = ρ 4 from ev_v] at q
  have b0 : (0 : Int) ≤ ((0) + ((1) * ρ 1 + 0)) := b_aA (hA _ (List.mem_of_getElem? (i := 0) rfl))
  have a0 : vw C h 142 ((ρ 1).toNat) = ρ 5 := vw_aA hU (hA _ (List.mem_of_getElem? (i := 0) rfl)) ev_v g1 (by omega) (by omega) (i := (ρ 1).toNat) (show ((((ρ 1).toNat : Nat)) : Int) = ((0) + ((1) * ρ 1 + 0)) by omega) ev_v
  have p0 : P97 (vw C h) ((0) + ((1) * ρ 3 + 0)) ((0) + ((1) * ρ 6 + 0)) := hP _ (List.mem_of_getElem? (i := 0) rfl)
  have q := visStart_ok (m := ((0) + ((1) * ρ 2 + 0))) (r := ((0) + ((1) * ρ 1 + 0))) (x := ρ 5) (by rw [(show ((0 : Int) + (1 * ρ 1 + 0)).toNat = (ρ 1).toNat by omega)]; exact a0) (by omega) (by omega) (by omega) (by omega) p0
  refine ⟨_, List.mem_cons_self, ρ, fun _ _ => rfl, fun q hq => absurd hq List.not_mem_nil, trivial, fun f hf => ?_, fun q hq => absurd hq List.not_mem_nil, fun q hq => absurd hq List.not_mem_nil, fun q hq => absurd hq List.not_mem_nil, fun q hq => ?_⟩
  · simp only [List.mem_cons, List.not_mem_nil, or_false] at hf
    subst hf
    show (0 : Int) ≤ ((-1) + ((-1) * ρ 2 + ((1) * ρ 6 + 0)))
    omega
  · simp only [List.mem_cons, List.not_mem_nil, or_false] at hq
    subst hq
    show P104 (vw C h) ((0) + ((1) * ρ 2 + 0)) ((0) + ((1) * ρ 1 + 0))
    exact q.2
/-- no109 -/
theorem lem_113_ok (hU : uqG G C) : lem_113.1.2.1 = [] ∧ lemOK (PRd G C D xs) G rgs lem_113 := by
  refine ⟨rfl, fun ρ h ha hT => ?_⟩
  obtain ⟨-, -, hF, hG, hH, hA, hP⟩ := ha
  refine ⟨_, List.mem_cons_self, ρ, fun _ _ => rfl, fun q hq => absurd hq List.not_mem_nil, trivial, fun f hf => ?_, fun q hq => absurd hq List.not_mem_nil, fun q hq => absurd hq List.not_mem_nil, fun q hq => absurd hq List.not_mem_nil, fun q hq => ?_⟩
  · exact absurd hf List.not_mem_nil
  · simp only [List.mem_cons, List.not_mem_nil, or_false] at hq
    subst hq
    show P109 (vw C h) ((0) + 0)
    exact fun h1 => by omega
/-- ext109 -/
theorem lem_114_ok (hU : uqG G C) : lem_114.1.2.1 = [] ∧ lemOK (PRd G C D xs) G rgs lem_114 := by
  refine ⟨rfl, fun ρ h ha hT => ?_⟩
  obtain ⟨-, -, hF, hG, hH, hA, hP⟩ := ha
  have f0 : (0 : Int) ≤ ((0) + ((1) * ρ 3 + 0)) := hF _ (List.mem_of_getElem? (i := 0) rfl)
  have f1 : (0 : Int) ≤ ((1776) + ((-1) * ρ 3 + 0)) := hF _ (List.mem_of_getElem? (i := 1) rfl)
  have f2 : (0 : Int) ≤ ((0) + ((1) * ρ 2 + 0)) := hF _ (List.mem_of_getElem? (i := 2) rfl)
  have f3 : (0 : Int) ≤ ((0) + ((-1) * ρ 2 + 0)) := hF _ (List.mem_of_getElem? (i := 3) rfl)
  have g1 : G (ρ 1).toNat = 119 := by
    have q := (hG _ (List.mem_of_getElem? (i := 1) rfl)).2
    rwa [show ev ρ (0, [(1, 1)]) = ρ 1 from ev_v] at q
  have g2 : G (ρ 4).toNat = 118 := by
    have q := (hG _ (List.mem_of_getElem? (i := 2) rfl)).2
    rwa [show ev ρ (0, [(4, 1)]) = ρ 4 from ev_v] at q
  have b0 : (0 : Int) ≤ ((0) + ((1777) * ρ 2 + ((1) * ρ 3 + 0))) := b_aA (hA _ (List.mem_of_getElem? (i := 0) rfl))
  have b1 : (0 : Int) ≤ ((0) + ((1) * ρ 3 + 0)) := b_aA (hA _ (List.mem_of_getElem? (i := 1) rfl))
  have a0 : vw C h 119 ((1777 * ρ 2 + ρ 3).toNat) = ρ 5 := vw_aA hU (hA _ (List.mem_of_getElem? (i := 0) rfl)) ev_v g1 (by omega) (by omega) (i := (1777 * ρ 2 + ρ 3).toNat) (show ((((1777 * ρ 2 + ρ 3).toNat : Nat)) : Int) = ((0) + ((1777) * ρ 2 + ((1) * ρ 3 + 0))) by omega) ev_v
  have a1 : vw C h 118 ((ρ 3).toNat) = ρ 5 := vw_aA hU (hA _ (List.mem_of_getElem? (i := 1) rfl)) ev_v g2 (by omega) (by omega) (i := (ρ 3).toNat) (show ((((ρ 3).toNat : Nat)) : Int) = ((0) + ((1) * ρ 3 + 0)) by omega) ev_v
  have p0 : P109 (vw C h) ((0) + ((1) * ρ 3 + 0)) := hP _ (List.mem_of_getElem? (i := 0) rfl)
  refine ⟨_, List.mem_cons_self, ρ, fun _ _ => rfl, fun q hq => absurd hq List.not_mem_nil, trivial, fun f hf => ?_, fun q hq => absurd hq List.not_mem_nil, fun q hq => absurd hq List.not_mem_nil, fun q hq => absurd hq List.not_mem_nil, fun q hq => ?_⟩
  · exact absurd hf List.not_mem_nil
  · simp only [List.mem_cons, List.not_mem_nil, or_false] at hq
    subst hq
    show P109 (vw C h) ((1) + ((1) * ρ 3 + 0))
    exact fun h1 => by
      by_cases h0 : ρ 3 = 0
      · have e1 : (1777 * ρ 2 + ρ 3).toNat = 0 := by omega
        have e2 : (ρ 3).toNat = 0 := by omega
        rw [e1] at a0
        rw [e2] at a1
        exact a0.trans a1.symm
      · exact p0 (by omega)
/-- day109 -/
theorem lem_115_ok (hU : uqG G C) : lem_115.1.2.1 = [] ∧ lemOK (PRd G C D xs) G rgs lem_115 := by
  refine ⟨rfl, fun ρ h ha hT => ?_⟩
  obtain ⟨-, -, hF, hG, hH, hA, hP⟩ := ha
  have g1 : G (ρ 1).toNat = 119 := by
    have q := (hG _ (List.mem_of_getElem? (i := 1) rfl)).2
    rwa [show ev ρ (0, [(1, 1)]) = ρ 1 from ev_v] at q
  have g2 : G (ρ 2).toNat = 118 := by
    have q := (hG _ (List.mem_of_getElem? (i := 2) rfl)).2
    rwa [show ev ρ (0, [(2, 1)]) = ρ 2 from ev_v] at q
  have b0 : (0 : Int) ≤ ((0) + 0) := b_aA (hA _ (List.mem_of_getElem? (i := 0) rfl))
  have b1 : (0 : Int) ≤ ((0) + 0) := b_aA (hA _ (List.mem_of_getElem? (i := 1) rfl))
  have a0 : vw C h 119 (0) = ρ 3 := vw_aA hU (hA _ (List.mem_of_getElem? (i := 0) rfl)) ev_v g1 (by omega) (by omega) (i := 0) (show (((0 : Nat)) : Int) = ((0) + 0) by omega) ev_v
  have a1 : vw C h 118 (0) = ρ 4 := vw_aA hU (hA _ (List.mem_of_getElem? (i := 1) rfl)) ev_v g2 (by omega) (by omega) (i := 0) (show (((0 : Nat)) : Int) = ((0) + 0) by omega) ev_v
  have p0 : P109 (vw C h) ((1777) + 0) := hP _ (List.mem_of_getElem? (i := 0) rfl)
  have q : vw C h 119 0 = vw C h 118 0 := p0 (by omega)
  refine ⟨_, List.mem_cons_self, ρ, fun _ _ => rfl, fun q hq => absurd hq List.not_mem_nil, trivial, fun f hf => ?_, fun q hq => absurd hq List.not_mem_nil, fun q hq => absurd hq List.not_mem_nil, fun q hq => absurd hq List.not_mem_nil, fun q hq => ?_⟩
  · simp only [List.mem_cons, List.not_mem_nil, or_false] at hf
    rcases hf with rfl | rfl
    · show (0 : Int) ≤ ((0) + ((-1) * ρ 3 + ((1) * ρ 4 + 0)))
      omega
    · show (0 : Int) ≤ ((0) + ((1) * ρ 3 + ((-1) * ρ 4 + 0)))
      omega
  · exact absurd hq List.not_mem_nil
/-- sizeAny -/
theorem lem_116_ok (hU : uqG G C) : lem_116.1.2.1 = [] ∧ lemOK (PRd G C D xs) G rgs lem_116 := by
  refine ⟨rfl, fun ρ h ha hT => ?_⟩
  obtain ⟨-, -, hF, hG, hH, hA, hP⟩ := ha
  obtain ⟨σ, r1, r2⟩ : ∃ σ : Va, (∀ i, i < 1 → σ i = ρ i) ∧ σ 1 = szZ (ρ 0) := ⟨fun i => if i = 1 then szZ (ρ 0) else ρ i, fun i hi => if_neg (by omega), if_pos rfl⟩
  have s0 := r1 0 (by omega)
  have q := szZ_rg (ρ 0)
  refine ⟨_, List.mem_cons_self, σ, r1, fun q hq => absurd hq List.not_mem_nil, trivial, fun f hf => ?_, fun q hq => absurd hq List.not_mem_nil, fun q hq => absurd hq List.not_mem_nil, fun q hq => absurd hq List.not_mem_nil, fun z hz => ?_⟩
  · simp only [List.mem_cons, List.not_mem_nil, or_false] at hf
    rcases hf with rfl | rfl
    · show (0 : Int) ≤ (((-1)) + ((1) * σ 1 + 0))
      omega
    · show (0 : Int) ≤ ((11) + ((-1) * σ 1 + 0))
      omega
  · obtain rfl := List.mem_singleton.mp hz
    show ((0 : Int) + (1 * σ 1 + 0)) = szZ ((0 : Int) + (1 * σ 0 + 0))
    rw [show ((0 : Int) + (1 * σ 0 + 0)) = ρ 0 by omega]
    omega
/-- rangeAll -/
theorem lem_117_ok (hU : uqG G C) : lem_117.1.2.1 = [] ∧ lemOK (PRd G C D xs) G rgs lem_117 := by
  refine ⟨rfl, fun ρ h ha hT => ?_⟩
  obtain ⟨-, -, hF, hG, hH, hA, hP⟩ := ha
  have hc : (0 ≤ ρ 0 ∧ ρ 0 ≤ 9) ∨ (10 ≤ ρ 0 ∧ ρ 0 ≤ 99) ∨ (100 ≤ ρ 0 ∧ ρ 0 ≤ 999) ∨ (1000 ≤ ρ 0 ∧ ρ 0 ≤ 9999) ∨ (10000 ≤ ρ 0 ∧ ρ 0 ≤ 99999) ∨ (100000 ≤ ρ 0 ∧ ρ 0 ≤ 999999) ∨ (1000000 ≤ ρ 0 ∧ ρ 0 ≤ 9999999) ∨ (10000000 ≤ ρ 0 ∧ ρ 0 ≤ 99999999) ∨ (100000000 ≤ ρ 0 ∧ ρ 0 ≤ 999999999) ∨ (1000000000 ≤ ρ 0) ∨ (ρ 0 ≤ -1 ∧ -9 ≤ ρ 0) ∨ (ρ 0 ≤ -10 ∧ -99 ≤ ρ 0) ∨ (ρ 0 ≤ -100 ∧ -999 ≤ ρ 0) ∨ (ρ 0 ≤ -1000 ∧ -9999 ≤ ρ 0) ∨ (ρ 0 ≤ -10000 ∧ -99999 ≤ ρ 0) ∨ (ρ 0 ≤ -100000 ∧ -999999 ≤ ρ 0) ∨ (ρ 0 ≤ -1000000 ∧ -9999999 ≤ ρ 0) ∨ (ρ 0 ≤ -10000000 ∧ -99999999 ≤ ρ 0) ∨ (ρ 0 ≤ -100000000 ∧ -999999999 ≤ ρ 0) ∨ (ρ 0 ≤ -1000000000) := by omega
  rcases hc with hc | hc | hc | hc | hc | hc | hc | hc | hc | hc | hc | hc | hc | hc | hc | hc | hc | hc | hc | hc
  · exact ⟨_, List.mem_of_getElem? (i := 0) rfl, ρ, fun _ _ => rfl, pureP (fun f hf => by simp only [List.mem_cons, List.not_mem_nil, or_false] at hf; rcases hf with rfl | rfl <;> simp only [ev, evT] <;> omega)⟩
  · exact ⟨_, List.mem_of_getElem? (i := 1) rfl, ρ, fun _ _ => rfl, pureP (fun f hf => by simp only [List.mem_cons, List.not_mem_nil, or_false] at hf; rcases hf with rfl | rfl <;> simp only [ev, evT] <;> omega)⟩
  · exact ⟨_, List.mem_of_getElem? (i := 2) rfl, ρ, fun _ _ => rfl, pureP (fun f hf => by simp only [List.mem_cons, List.not_mem_nil, or_false] at hf; rcases hf with rfl | rfl <;> simp only [ev, evT] <;> omega)⟩
  · exact ⟨_, List.mem_of_getElem? (i := 3) rfl, ρ, fun _ _ => rfl, pureP (fun f hf => by simp only [List.mem_cons, List.not_mem_nil, or_false] at hf; rcases hf with rfl | rfl <;> simp only [ev, evT] <;> omega)⟩
  · exact ⟨_, List.mem_of_getElem? (i := 4) rfl, ρ, fun _ _ => rfl, pureP (fun f hf => by simp only [List.mem_cons, List.not_mem_nil, or_false] at hf; rcases hf with rfl | rfl <;> simp only [ev, evT] <;> omega)⟩
  · exact ⟨_, List.mem_of_getElem? (i := 5) rfl, ρ, fun _ _ => rfl, pureP (fun f hf => by simp only [List.mem_cons, List.not_mem_nil, or_false] at hf; rcases hf with rfl | rfl <;> simp only [ev, evT] <;> omega)⟩
  · exact ⟨_, List.mem_of_getElem? (i := 6) rfl, ρ, fun _ _ => rfl, pureP (fun f hf => by simp only [List.mem_cons, List.not_mem_nil, or_false] at hf; rcases hf with rfl | rfl <;> simp only [ev, evT] <;> omega)⟩
  · exact ⟨_, List.mem_of_getElem? (i := 7) rfl, ρ, fun _ _ => rfl, pureP (fun f hf => by simp only [List.mem_cons, List.not_mem_nil, or_false] at hf; rcases hf with rfl | rfl <;> simp only [ev, evT] <;> omega)⟩
  · exact ⟨_, List.mem_of_getElem? (i := 8) rfl, ρ, fun _ _ => rfl, pureP (fun f hf => by simp only [List.mem_cons, List.not_mem_nil, or_false] at hf; rcases hf with rfl | rfl <;> simp only [ev, evT] <;> omega)⟩
  · exact ⟨_, List.mem_of_getElem? (i := 9) rfl, ρ, fun _ _ => rfl, pureP (fun f hf => by simp only [List.mem_cons, List.not_mem_nil, or_false] at hf; rcases hf with rfl <;> simp only [ev, evT] <;> omega)⟩
  · exact ⟨_, List.mem_of_getElem? (i := 10) rfl, ρ, fun _ _ => rfl, pureP (fun f hf => by simp only [List.mem_cons, List.not_mem_nil, or_false] at hf; rcases hf with rfl | rfl <;> simp only [ev, evT] <;> omega)⟩
  · exact ⟨_, List.mem_of_getElem? (i := 11) rfl, ρ, fun _ _ => rfl, pureP (fun f hf => by simp only [List.mem_cons, List.not_mem_nil, or_false] at hf; rcases hf with rfl | rfl <;> simp only [ev, evT] <;> omega)⟩
  · exact ⟨_, List.mem_of_getElem? (i := 12) rfl, ρ, fun _ _ => rfl, pureP (fun f hf => by simp only [List.mem_cons, List.not_mem_nil, or_false] at hf; rcases hf with rfl | rfl <;> simp only [ev, evT] <;> omega)⟩
  · exact ⟨_, List.mem_of_getElem? (i := 13) rfl, ρ, fun _ _ => rfl, pureP (fun f hf => by simp only [List.mem_cons, List.not_mem_nil, or_false] at hf; rcases hf with rfl | rfl <;> simp only [ev, evT] <;> omega)⟩
  · exact ⟨_, List.mem_of_getElem? (i := 14) rfl, ρ, fun _ _ => rfl, pureP (fun f hf => by simp only [List.mem_cons, List.not_mem_nil, or_false] at hf; rcases hf with rfl | rfl <;> simp only [ev, evT] <;> omega)⟩
  · exact ⟨_, List.mem_of_getElem? (i := 15) rfl, ρ, fun _ _ => rfl, pureP (fun f hf => by simp only [List.mem_cons, List.not_mem_nil, or_false] at hf; rcases hf with rfl | rfl <;> simp only [ev, evT] <;> omega)⟩
  · exact ⟨_, List.mem_of_getElem? (i := 16) rfl, ρ, fun _ _ => rfl, pureP (fun f hf => by simp only [List.mem_cons, List.not_mem_nil, or_false] at hf; rcases hf with rfl | rfl <;> simp only [ev, evT] <;> omega)⟩
  · exact ⟨_, List.mem_of_getElem? (i := 17) rfl, ρ, fun _ _ => rfl, pureP (fun f hf => by simp only [List.mem_cons, List.not_mem_nil, or_false] at hf; rcases hf with rfl | rfl <;> simp only [ev, evT] <;> omega)⟩
  · exact ⟨_, List.mem_of_getElem? (i := 18) rfl, ρ, fun _ _ => rfl, pureP (fun f hf => by simp only [List.mem_cons, List.not_mem_nil, or_false] at hf; rcases hf with rfl | rfl <;> simp only [ev, evT] <;> omega)⟩
  · exact ⟨_, List.mem_of_getElem? (i := 19) rfl, ρ, fun _ _ => rfl, pureP (fun f hf => by simp only [List.mem_cons, List.not_mem_nil, or_false] at hf; rcases hf with rfl <;> simp only [ev, evT] <;> omega)⟩
/-- size_p1 -/
theorem lem_118_ok (hU : uqG G C) : lem_118.1.2.1 = [] ∧ lemOK (PRd G C D xs) G rgs lem_118 := by
  refine ⟨rfl, fun ρ h ha hT => ?_⟩
  obtain ⟨-, -, hF, hG, hH, hA, hP⟩ := ha
  have f0 : (0 : Int) ≤ ((0) + ((1) * ρ 0 + 0)) := hF _ (List.mem_of_getElem? (i := 0) rfl)
  have f1 : (0 : Int) ≤ ((9) + ((-1) * ρ 0 + 0)) := hF _ (List.mem_of_getElem? (i := 1) rfl)
  have p0 : ((0) + ((1) * ρ 1 + 0)) = szZ ((0) + ((1) * ρ 0 + 0)) := hP _ (List.mem_of_getElem? (i := 0) rfl)
  have q : ρ 1 = 1 := by
    have e : szZ (ρ 0) = 1 := by
      unfold szZ
      rw [if_pos (by omega)]
      unfold szP
      rw [if_pos (by omega)]
    rw [show ((0 : Int) + (1 * ρ 0 + 0)) = ρ 0 by omega, e] at p0
    omega
  refine ⟨_, List.mem_cons_self, ρ, fun _ _ => rfl, fun q hq => absurd hq List.not_mem_nil, trivial, fun f hf => ?_, fun q hq => absurd hq List.not_mem_nil, fun q hq => absurd hq List.not_mem_nil, fun q hq => absurd hq List.not_mem_nil, fun q hq => ?_⟩
  · simp only [List.mem_cons, List.not_mem_nil, or_false] at hf
    rcases hf with rfl | rfl
    · show (0 : Int) ≤ ((1) + ((-1) * ρ 1 + 0))
      omega
    · show (0 : Int) ≤ ((-1) + ((1) * ρ 1 + 0))
      omega
  · exact absurd hq List.not_mem_nil
/-- size_p2 -/
theorem lem_119_ok (hU : uqG G C) : lem_119.1.2.1 = [] ∧ lemOK (PRd G C D xs) G rgs lem_119 := by
  refine ⟨rfl, fun ρ h ha hT => ?_⟩
  obtain ⟨-, -, hF, hG, hH, hA, hP⟩ := ha
  have f0 : (0 : Int) ≤ ((-10) + ((1) * ρ 0 + 0)) := hF _ (List.mem_of_getElem? (i := 0) rfl)
  have f1 : (0 : Int) ≤ ((99) + ((-1) * ρ 0 + 0)) := hF _ (List.mem_of_getElem? (i := 1) rfl)
  have p0 : ((0) + ((1) * ρ 1 + 0)) = szZ ((0) + ((1) * ρ 0 + 0)) := hP _ (List.mem_of_getElem? (i := 0) rfl)
  have q : ρ 1 = 2 := by
    have e : szZ (ρ 0) = 2 := by
      unfold szZ
      rw [if_pos (by omega)]
      unfold szP
      rw [if_neg (by omega), if_pos (by omega)]
    rw [show ((0 : Int) + (1 * ρ 0 + 0)) = ρ 0 by omega, e] at p0
    omega
  refine ⟨_, List.mem_cons_self, ρ, fun _ _ => rfl, fun q hq => absurd hq List.not_mem_nil, trivial, fun f hf => ?_, fun q hq => absurd hq List.not_mem_nil, fun q hq => absurd hq List.not_mem_nil, fun q hq => absurd hq List.not_mem_nil, fun q hq => ?_⟩
  · simp only [List.mem_cons, List.not_mem_nil, or_false] at hf
    rcases hf with rfl | rfl
    · show (0 : Int) ≤ ((2) + ((-1) * ρ 1 + 0))
      omega
    · show (0 : Int) ≤ ((-2) + ((1) * ρ 1 + 0))
      omega
  · exact absurd hq List.not_mem_nil
/-- size_p3 -/
theorem lem_120_ok (hU : uqG G C) : lem_120.1.2.1 = [] ∧ lemOK (PRd G C D xs) G rgs lem_120 := by
  refine ⟨rfl, fun ρ h ha hT => ?_⟩
  obtain ⟨-, -, hF, hG, hH, hA, hP⟩ := ha
  have f0 : (0 : Int) ≤ ((-100) + ((1) * ρ 0 + 0)) := hF _ (List.mem_of_getElem? (i := 0) rfl)
  have f1 : (0 : Int) ≤ ((999) + ((-1) * ρ 0 + 0)) := hF _ (List.mem_of_getElem? (i := 1) rfl)
  have p0 : ((0) + ((1) * ρ 1 + 0)) = szZ ((0) + ((1) * ρ 0 + 0)) := hP _ (List.mem_of_getElem? (i := 0) rfl)
  have q : ρ 1 = 3 := by
    have e : szZ (ρ 0) = 3 := by
      unfold szZ
      rw [if_pos (by omega)]
      unfold szP
      rw [if_neg (by omega), if_neg (by omega), if_pos (by omega)]
    rw [show ((0 : Int) + (1 * ρ 0 + 0)) = ρ 0 by omega, e] at p0
    omega
  refine ⟨_, List.mem_cons_self, ρ, fun _ _ => rfl, fun q hq => absurd hq List.not_mem_nil, trivial, fun f hf => ?_, fun q hq => absurd hq List.not_mem_nil, fun q hq => absurd hq List.not_mem_nil, fun q hq => absurd hq List.not_mem_nil, fun q hq => ?_⟩
  · simp only [List.mem_cons, List.not_mem_nil, or_false] at hf
    rcases hf with rfl | rfl
    · show (0 : Int) ≤ ((3) + ((-1) * ρ 1 + 0))
      omega
    · show (0 : Int) ≤ ((-3) + ((1) * ρ 1 + 0))
      omega
  · exact absurd hq List.not_mem_nil
/-- size_p4 -/
theorem lem_121_ok (hU : uqG G C) : lem_121.1.2.1 = [] ∧ lemOK (PRd G C D xs) G rgs lem_121 := by
  refine ⟨rfl, fun ρ h ha hT => ?_⟩
  obtain ⟨-, -, hF, hG, hH, hA, hP⟩ := ha
  have f0 : (0 : Int) ≤ ((-1000) + ((1) * ρ 0 + 0)) := hF _ (List.mem_of_getElem? (i := 0) rfl)
  have f1 : (0 : Int) ≤ ((9999) + ((-1) * ρ 0 + 0)) := hF _ (List.mem_of_getElem? (i := 1) rfl)
  have p0 : ((0) + ((1) * ρ 1 + 0)) = szZ ((0) + ((1) * ρ 0 + 0)) := hP _ (List.mem_of_getElem? (i := 0) rfl)
  have q : ρ 1 = 4 := by
    have e : szZ (ρ 0) = 4 := by
      unfold szZ
      rw [if_pos (by omega)]
      unfold szP
      rw [if_neg (by omega), if_neg (by omega), if_neg (by omega), if_pos (by omega)]
    rw [show ((0 : Int) + (1 * ρ 0 + 0)) = ρ 0 by omega, e] at p0
    omega
  refine ⟨_, List.mem_cons_self, ρ, fun _ _ => rfl, fun q hq => absurd hq List.not_mem_nil, trivial, fun f hf => ?_, fun q hq => absurd hq List.not_mem_nil, fun q hq => absurd hq List.not_mem_nil, fun q hq => absurd hq List.not_mem_nil, fun q hq => ?_⟩
  · simp only [List.mem_cons, List.not_mem_nil, or_false] at hf
    rcases hf with rfl | rfl
    · show (0 : Int) ≤ ((4) + ((-1) * ρ 1 + 0))
      omega
    · show (0 : Int) ≤ ((-4) + ((1) * ρ 1 + 0))
      omega
  · exact absurd hq List.not_mem_nil
/-- size_p5 -/
theorem lem_122_ok (hU : uqG G C) : lem_122.1.2.1 = [] ∧ lemOK (PRd G C D xs) G rgs lem_122 := by
  refine ⟨rfl, fun ρ h ha hT => ?_⟩
  obtain ⟨-, -, hF, hG, hH, hA, hP⟩ := ha
  have f0 : (0 : Int) ≤ ((-10000) + ((1) * ρ 0 + 0)) := hF _ (List.mem_of_getElem? (i := 0) rfl)
  have f1 : (0 : Int) ≤ ((99999) + ((-1) * ρ 0 + 0)) := hF _ (List.mem_of_getElem? (i := 1) rfl)
  have p0 : ((0) + ((1) * ρ 1 + 0)) = szZ ((0) + ((1) * ρ 0 + 0)) := hP _ (List.mem_of_getElem? (i := 0) rfl)
  have q : ρ 1 = 5 := by
    have e : szZ (ρ 0) = 5 := by
      unfold szZ
      rw [if_pos (by omega)]
      unfold szP
      rw [if_neg (by omega), if_neg (by omega), if_neg (by omega), if_neg (by omega), if_pos (by omega)]
    rw [show ((0 : Int) + (1 * ρ 0 + 0)) = ρ 0 by omega, e] at p0
    omega
  refine ⟨_, List.mem_cons_self, ρ, fun _ _ => rfl, fun q hq => absurd hq List.not_mem_nil, trivial, fun f hf => ?_, fun q hq => absurd hq List.not_mem_nil, fun q hq => absurd hq List.not_mem_nil, fun q hq => absurd hq List.not_mem_nil, fun q hq => ?_⟩
  · simp only [List.mem_cons, List.not_mem_nil, or_false] at hf
    rcases hf with rfl | rfl
    · show (0 : Int) ≤ ((5) + ((-1) * ρ 1 + 0))
      omega
    · show (0 : Int) ≤ ((-5) + ((1) * ρ 1 + 0))
      omega
  · exact absurd hq List.not_mem_nil
/-- size_p6 -/
theorem lem_123_ok (hU : uqG G C) : lem_123.1.2.1 = [] ∧ lemOK (PRd G C D xs) G rgs lem_123 := by
  refine ⟨rfl, fun ρ h ha hT => ?_⟩
  obtain ⟨-, -, hF, hG, hH, hA, hP⟩ := ha
  have f0 : (0 : Int) ≤ ((-100000) + ((1) * ρ 0 + 0)) := hF _ (List.mem_of_getElem? (i := 0) rfl)
  have f1 : (0 : Int) ≤ ((999999) + ((-1) * ρ 0 + 0)) := hF _ (List.mem_of_getElem? (i := 1) rfl)
  have p0 : ((0) + ((1) * ρ 1 + 0)) = szZ ((0) + ((1) * ρ 0 + 0)) := hP _ (List.mem_of_getElem? (i := 0) rfl)
  have q : ρ 1 = 6 := by
    have e : szZ (ρ 0) = 6 := by
      unfold szZ
      rw [if_pos (by omega)]
      unfold szP
      rw [if_neg (by omega), if_neg (by omega), if_neg (by omega), if_neg (by omega), if_neg (by omega), if_pos (by omega)]
    rw [show ((0 : Int) + (1 * ρ 0 + 0)) = ρ 0 by omega, e] at p0
    omega
  refine ⟨_, List.mem_cons_self, ρ, fun _ _ => rfl, fun q hq => absurd hq List.not_mem_nil, trivial, fun f hf => ?_, fun q hq => absurd hq List.not_mem_nil, fun q hq => absurd hq List.not_mem_nil, fun q hq => absurd hq List.not_mem_nil, fun q hq => ?_⟩
  · simp only [List.mem_cons, List.not_mem_nil, or_false] at hf
    rcases hf with rfl | rfl
    · show (0 : Int) ≤ ((6) + ((-1) * ρ 1 + 0))
      omega
    · show (0 : Int) ≤ ((-6) + ((1) * ρ 1 + 0))
      omega
  · exact absurd hq List.not_mem_nil
/-- size_p7 -/
theorem lem_124_ok (hU : uqG G C) : lem_124.1.2.1 = [] ∧ lemOK (PRd G C D xs) G rgs lem_124 := by
  refine ⟨rfl, fun ρ h ha hT => ?_⟩
  obtain ⟨-, -, hF, hG, hH, hA, hP⟩ := ha
  have f0 : (0 : Int) ≤ ((-1000000) + ((1) * ρ 0 + 0)) := hF _ (List.mem_of_getElem? (i := 0) rfl)
  have f1 : (0 : Int) ≤ ((9999999) + ((-1) * ρ 0 + 0)) := hF _ (List.mem_of_getElem? (i := 1) rfl)
  have p0 : ((0) + ((1) * ρ 1 + 0)) = szZ ((0) + ((1) * ρ 0 + 0)) := hP _ (List.mem_of_getElem? (i := 0) rfl)
  have q : ρ 1 = 7 := by
    have e : szZ (ρ 0) = 7 := by
      unfold szZ
      rw [if_pos (by omega)]
      unfold szP
      rw [if_neg (by omega), if_neg (by omega), if_neg (by omega), if_neg (by omega), if_neg (by omega), if_neg (by omega), if_pos (by omega)]
    rw [show ((0 : Int) + (1 * ρ 0 + 0)) = ρ 0 by omega, e] at p0
    omega
  refine ⟨_, List.mem_cons_self, ρ, fun _ _ => rfl, fun q hq => absurd hq List.not_mem_nil, trivial, fun f hf => ?_, fun q hq => absurd hq List.not_mem_nil, fun q hq => absurd hq List.not_mem_nil, fun q hq => absurd hq List.not_mem_nil, fun q hq => ?_⟩
  · simp only [List.mem_cons, List.not_mem_nil, or_false] at hf
    rcases hf with rfl | rfl
    · show (0 : Int) ≤ ((7) + ((-1) * ρ 1 + 0))
      omega
    · show (0 : Int) ≤ ((-7) + ((1) * ρ 1 + 0))
      omega
  · exact absurd hq List.not_mem_nil
/-- size_p8 -/
theorem lem_125_ok (hU : uqG G C) : lem_125.1.2.1 = [] ∧ lemOK (PRd G C D xs) G rgs lem_125 := by
  refine ⟨rfl, fun ρ h ha hT => ?_⟩
  obtain ⟨-, -, hF, hG, hH, hA, hP⟩ := ha
  have f0 : (0 : Int) ≤ ((-10000000) + ((1) * ρ 0 + 0)) := hF _ (List.mem_of_getElem? (i := 0) rfl)
  have f1 : (0 : Int) ≤ ((99999999) + ((-1) * ρ 0 + 0)) := hF _ (List.mem_of_getElem? (i := 1) rfl)
  have p0 : ((0) + ((1) * ρ 1 + 0)) = szZ ((0) + ((1) * ρ 0 + 0)) := hP _ (List.mem_of_getElem? (i := 0) rfl)
  have q : ρ 1 = 8 := by
    have e : szZ (ρ 0) = 8 := by
      unfold szZ
      rw [if_pos (by omega)]
      unfold szP
      rw [if_neg (by omega), if_neg (by omega), if_neg (by omega), if_neg (by omega), if_neg (by omega), if_neg (by omega), if_neg (by omega), if_pos (by omega)]
    rw [show ((0 : Int) + (1 * ρ 0 + 0)) = ρ 0 by omega, e] at p0
    omega
  refine ⟨_, List.mem_cons_self, ρ, fun _ _ => rfl, fun q hq => absurd hq List.not_mem_nil, trivial, fun f hf => ?_, fun q hq => absurd hq List.not_mem_nil, fun q hq => absurd hq List.not_mem_nil, fun q hq => absurd hq List.not_mem_nil, fun q hq => ?_⟩
  · simp only [List.mem_cons, List.not_mem_nil, or_false] at hf
    rcases hf with rfl | rfl
    · show (0 : Int) ≤ ((8) + ((-1) * ρ 1 + 0))
      omega
    · show (0 : Int) ≤ ((-8) + ((1) * ρ 1 + 0))
      omega
  · exact absurd hq List.not_mem_nil
/-- size_p9 -/
theorem lem_126_ok (hU : uqG G C) : lem_126.1.2.1 = [] ∧ lemOK (PRd G C D xs) G rgs lem_126 := by
  refine ⟨rfl, fun ρ h ha hT => ?_⟩
  obtain ⟨-, -, hF, hG, hH, hA, hP⟩ := ha
  have f0 : (0 : Int) ≤ ((-100000000) + ((1) * ρ 0 + 0)) := hF _ (List.mem_of_getElem? (i := 0) rfl)
  have f1 : (0 : Int) ≤ ((999999999) + ((-1) * ρ 0 + 0)) := hF _ (List.mem_of_getElem? (i := 1) rfl)
  have p0 : ((0) + ((1) * ρ 1 + 0)) = szZ ((0) + ((1) * ρ 0 + 0)) := hP _ (List.mem_of_getElem? (i := 0) rfl)
  have q : ρ 1 = 9 := by
    have e : szZ (ρ 0) = 9 := by
      unfold szZ
      rw [if_pos (by omega)]
      unfold szP
      rw [if_neg (by omega), if_neg (by omega), if_neg (by omega), if_neg (by omega), if_neg (by omega), if_neg (by omega), if_neg (by omega), if_neg (by omega), if_pos (by omega)]
    rw [show ((0 : Int) + (1 * ρ 0 + 0)) = ρ 0 by omega, e] at p0
    omega
  refine ⟨_, List.mem_cons_self, ρ, fun _ _ => rfl, fun q hq => absurd hq List.not_mem_nil, trivial, fun f hf => ?_, fun q hq => absurd hq List.not_mem_nil, fun q hq => absurd hq List.not_mem_nil, fun q hq => absurd hq List.not_mem_nil, fun q hq => ?_⟩
  · simp only [List.mem_cons, List.not_mem_nil, or_false] at hf
    rcases hf with rfl | rfl
    · show (0 : Int) ≤ ((9) + ((-1) * ρ 1 + 0))
      omega
    · show (0 : Int) ≤ ((-9) + ((1) * ρ 1 + 0))
      omega
  · exact absurd hq List.not_mem_nil
/-- size_p10 -/
theorem lem_127_ok (hU : uqG G C) : lem_127.1.2.1 = [] ∧ lemOK (PRd G C D xs) G rgs lem_127 := by
  refine ⟨rfl, fun ρ h ha hT => ?_⟩
  obtain ⟨-, -, hF, hG, hH, hA, hP⟩ := ha
  have f0 : (0 : Int) ≤ ((-1000000000) + ((1) * ρ 0 + 0)) := hF _ (List.mem_of_getElem? (i := 0) rfl)
  have p0 : ((0) + ((1) * ρ 1 + 0)) = szZ ((0) + ((1) * ρ 0 + 0)) := hP _ (List.mem_of_getElem? (i := 0) rfl)
  have q : ρ 1 = 10 := by
    have e : szZ (ρ 0) = 10 := by
      unfold szZ
      rw [if_pos (by omega)]
      unfold szP
      rw [if_neg (by omega), if_neg (by omega), if_neg (by omega), if_neg (by omega), if_neg (by omega), if_neg (by omega), if_neg (by omega), if_neg (by omega), if_neg (by omega)]
    rw [show ((0 : Int) + (1 * ρ 0 + 0)) = ρ 0 by omega, e] at p0
    omega
  refine ⟨_, List.mem_cons_self, ρ, fun _ _ => rfl, fun q hq => absurd hq List.not_mem_nil, trivial, fun f hf => ?_, fun q hq => absurd hq List.not_mem_nil, fun q hq => absurd hq List.not_mem_nil, fun q hq => absurd hq List.not_mem_nil, fun q hq => ?_⟩
  · simp only [List.mem_cons, List.not_mem_nil, or_false] at hf
    rcases hf with rfl | rfl
    · show (0 : Int) ≤ ((10) + ((-1) * ρ 1 + 0))
      omega
    · show (0 : Int) ≤ ((-10) + ((1) * ρ 1 + 0))
      omega
  · exact absurd hq List.not_mem_nil
/-- size_n2 -/
theorem lem_128_ok (hU : uqG G C) : lem_128.1.2.1 = [] ∧ lemOK (PRd G C D xs) G rgs lem_128 := by
  refine ⟨rfl, fun ρ h ha hT => ?_⟩
  obtain ⟨-, -, hF, hG, hH, hA, hP⟩ := ha
  have f0 : (0 : Int) ≤ ((-1) + ((-1) * ρ 0 + 0)) := hF _ (List.mem_of_getElem? (i := 0) rfl)
  have f1 : (0 : Int) ≤ ((9) + ((1) * ρ 0 + 0)) := hF _ (List.mem_of_getElem? (i := 1) rfl)
  have p0 : ((0) + ((1) * ρ 1 + 0)) = szZ ((0) + ((1) * ρ 0 + 0)) := hP _ (List.mem_of_getElem? (i := 0) rfl)
  have q : ρ 1 = 2 := by
    have e : szZ (ρ 0) = 2 := by
      unfold szZ
      rw [if_neg (by omega)]
      unfold szP
      rw [if_pos (by omega)]
      rfl
    rw [show ((0 : Int) + (1 * ρ 0 + 0)) = ρ 0 by omega, e] at p0
    omega
  refine ⟨_, List.mem_cons_self, ρ, fun _ _ => rfl, fun q hq => absurd hq List.not_mem_nil, trivial, fun f hf => ?_, fun q hq => absurd hq List.not_mem_nil, fun q hq => absurd hq List.not_mem_nil, fun q hq => absurd hq List.not_mem_nil, fun q hq => ?_⟩
  · simp only [List.mem_cons, List.not_mem_nil, or_false] at hf
    rcases hf with rfl | rfl
    · show (0 : Int) ≤ ((2) + ((-1) * ρ 1 + 0))
      omega
    · show (0 : Int) ≤ ((-2) + ((1) * ρ 1 + 0))
      omega
  · exact absurd hq List.not_mem_nil
/-- size_n3 -/
theorem lem_129_ok (hU : uqG G C) : lem_129.1.2.1 = [] ∧ lemOK (PRd G C D xs) G rgs lem_129 := by
  refine ⟨rfl, fun ρ h ha hT => ?_⟩
  obtain ⟨-, -, hF, hG, hH, hA, hP⟩ := ha
  have f0 : (0 : Int) ≤ ((-10) + ((-1) * ρ 0 + 0)) := hF _ (List.mem_of_getElem? (i := 0) rfl)
  have f1 : (0 : Int) ≤ ((99) + ((1) * ρ 0 + 0)) := hF _ (List.mem_of_getElem? (i := 1) rfl)
  have p0 : ((0) + ((1) * ρ 1 + 0)) = szZ ((0) + ((1) * ρ 0 + 0)) := hP _ (List.mem_of_getElem? (i := 0) rfl)
  have q : ρ 1 = 3 := by
    have e : szZ (ρ 0) = 3 := by
      unfold szZ
      rw [if_neg (by omega)]
      unfold szP
      rw [if_neg (by omega), if_pos (by omega)]
      rfl
    rw [show ((0 : Int) + (1 * ρ 0 + 0)) = ρ 0 by omega, e] at p0
    omega
  refine ⟨_, List.mem_cons_self, ρ, fun _ _ => rfl, fun q hq => absurd hq List.not_mem_nil, trivial, fun f hf => ?_, fun q hq => absurd hq List.not_mem_nil, fun q hq => absurd hq List.not_mem_nil, fun q hq => absurd hq List.not_mem_nil, fun q hq => ?_⟩
  · simp only [List.mem_cons, List.not_mem_nil, or_false] at hf
    rcases hf with rfl | rfl
    · show (0 : Int) ≤ ((3) + ((-1) * ρ 1 + 0))
      omega
    · show (0 : Int) ≤ ((-3) + ((1) * ρ 1 + 0))
      omega
  · exact absurd hq List.not_mem_nil
/-- size_n4 -/
theorem lem_130_ok (hU : uqG G C) : lem_130.1.2.1 = [] ∧ lemOK (PRd G C D xs) G rgs lem_130 := by
  refine ⟨rfl, fun ρ h ha hT => ?_⟩
  obtain ⟨-, -, hF, hG, hH, hA, hP⟩ := ha
  have f0 : (0 : Int) ≤ ((-100) + ((-1) * ρ 0 + 0)) := hF _ (List.mem_of_getElem? (i := 0) rfl)
  have f1 : (0 : Int) ≤ ((999) + ((1) * ρ 0 + 0)) := hF _ (List.mem_of_getElem? (i := 1) rfl)
  have p0 : ((0) + ((1) * ρ 1 + 0)) = szZ ((0) + ((1) * ρ 0 + 0)) := hP _ (List.mem_of_getElem? (i := 0) rfl)
  have q : ρ 1 = 4 := by
    have e : szZ (ρ 0) = 4 := by
      unfold szZ
      rw [if_neg (by omega)]
      unfold szP
      rw [if_neg (by omega), if_neg (by omega), if_pos (by omega)]
      rfl
    rw [show ((0 : Int) + (1 * ρ 0 + 0)) = ρ 0 by omega, e] at p0
    omega
  refine ⟨_, List.mem_cons_self, ρ, fun _ _ => rfl, fun q hq => absurd hq List.not_mem_nil, trivial, fun f hf => ?_, fun q hq => absurd hq List.not_mem_nil, fun q hq => absurd hq List.not_mem_nil, fun q hq => absurd hq List.not_mem_nil, fun q hq => ?_⟩
  · simp only [List.mem_cons, List.not_mem_nil, or_false] at hf
    rcases hf with rfl | rfl
    · show (0 : Int) ≤ ((4) + ((-1) * ρ 1 + 0))
      omega
    · show (0 : Int) ≤ ((-4) + ((1) * ρ 1 + 0))
      omega
  · exact absurd hq List.not_mem_nil
/-- size_n5 -/
theorem lem_131_ok (hU : uqG G C) : lem_131.1.2.1 = [] ∧ lemOK (PRd G C D xs) G rgs lem_131 := by
  refine ⟨rfl, fun ρ h ha hT => ?_⟩
  obtain ⟨-, -, hF, hG, hH, hA, hP⟩ := ha
  have f0 : (0 : Int) ≤ ((-1000) + ((-1) * ρ 0 + 0)) := hF _ (List.mem_of_getElem? (i := 0) rfl)
  have f1 : (0 : Int) ≤ ((9999) + ((1) * ρ 0 + 0)) := hF _ (List.mem_of_getElem? (i := 1) rfl)
  have p0 : ((0) + ((1) * ρ 1 + 0)) = szZ ((0) + ((1) * ρ 0 + 0)) := hP _ (List.mem_of_getElem? (i := 0) rfl)
  have q : ρ 1 = 5 := by
    have e : szZ (ρ 0) = 5 := by
      unfold szZ
      rw [if_neg (by omega)]
      unfold szP
      rw [if_neg (by omega), if_neg (by omega), if_neg (by omega), if_pos (by omega)]
      rfl
    rw [show ((0 : Int) + (1 * ρ 0 + 0)) = ρ 0 by omega, e] at p0
    omega
  refine ⟨_, List.mem_cons_self, ρ, fun _ _ => rfl, fun q hq => absurd hq List.not_mem_nil, trivial, fun f hf => ?_, fun q hq => absurd hq List.not_mem_nil, fun q hq => absurd hq List.not_mem_nil, fun q hq => absurd hq List.not_mem_nil, fun q hq => ?_⟩
  · simp only [List.mem_cons, List.not_mem_nil, or_false] at hf
    rcases hf with rfl | rfl
    · show (0 : Int) ≤ ((5) + ((-1) * ρ 1 + 0))
      omega
    · show (0 : Int) ≤ ((-5) + ((1) * ρ 1 + 0))
      omega
  · exact absurd hq List.not_mem_nil
/-- size_n6 -/
theorem lem_132_ok (hU : uqG G C) : lem_132.1.2.1 = [] ∧ lemOK (PRd G C D xs) G rgs lem_132 := by
  refine ⟨rfl, fun ρ h ha hT => ?_⟩
  obtain ⟨-, -, hF, hG, hH, hA, hP⟩ := ha
  have f0 : (0 : Int) ≤ ((-10000) + ((-1) * ρ 0 + 0)) := hF _ (List.mem_of_getElem? (i := 0) rfl)
  have f1 : (0 : Int) ≤ ((99999) + ((1) * ρ 0 + 0)) := hF _ (List.mem_of_getElem? (i := 1) rfl)
  have p0 : ((0) + ((1) * ρ 1 + 0)) = szZ ((0) + ((1) * ρ 0 + 0)) := hP _ (List.mem_of_getElem? (i := 0) rfl)
  have q : ρ 1 = 6 := by
    have e : szZ (ρ 0) = 6 := by
      unfold szZ
      rw [if_neg (by omega)]
      unfold szP
      rw [if_neg (by omega), if_neg (by omega), if_neg (by omega), if_neg (by omega), if_pos (by omega)]
      rfl
    rw [show ((0 : Int) + (1 * ρ 0 + 0)) = ρ 0 by omega, e] at p0
    omega
  refine ⟨_, List.mem_cons_self, ρ, fun _ _ => rfl, fun q hq => absurd hq List.not_mem_nil, trivial, fun f hf => ?_, fun q hq => absurd hq List.not_mem_nil, fun q hq => absurd hq List.not_mem_nil, fun q hq => absurd hq List.not_mem_nil, fun q hq => ?_⟩
  · simp only [List.mem_cons, List.not_mem_nil, or_false] at hf
    rcases hf with rfl | rfl
    · show (0 : Int) ≤ ((6) + ((-1) * ρ 1 + 0))
      omega
    · show (0 : Int) ≤ ((-6) + ((1) * ρ 1 + 0))
      omega
  · exact absurd hq List.not_mem_nil
/-- size_n7 -/
theorem lem_133_ok (hU : uqG G C) : lem_133.1.2.1 = [] ∧ lemOK (PRd G C D xs) G rgs lem_133 := by
  refine ⟨rfl, fun ρ h ha hT => ?_⟩
  obtain ⟨-, -, hF, hG, hH, hA, hP⟩ := ha
  have f0 : (0 : Int) ≤ ((-100000) + ((-1) * ρ 0 + 0)) := hF _ (List.mem_of_getElem? (i := 0) rfl)
  have f1 : (0 : Int) ≤ ((999999) + ((1) * ρ 0 + 0)) := hF _ (List.mem_of_getElem? (i := 1) rfl)
  have p0 : ((0) + ((1) * ρ 1 + 0)) = szZ ((0) + ((1) * ρ 0 + 0)) := hP _ (List.mem_of_getElem? (i := 0) rfl)
  have q : ρ 1 = 7 := by
    have e : szZ (ρ 0) = 7 := by
      unfold szZ
      rw [if_neg (by omega)]
      unfold szP
      rw [if_neg (by omega), if_neg (by omega), if_neg (by omega), if_neg (by omega), if_neg (by omega), if_pos (by omega)]
      rfl
    rw [show ((0 : Int) + (1 * ρ 0 + 0)) = ρ 0 by omega, e] at p0
    omega
  refine ⟨_, List.mem_cons_self, ρ, fun _ _ => rfl, fun q hq => absurd hq List.not_mem_nil, trivial, fun f hf => ?_, fun q hq => absurd hq List.not_mem_nil, fun q hq => absurd hq List.not_mem_nil, fun q hq => absurd hq List.not_mem_nil, fun q hq => ?_⟩
  · simp only [List.mem_cons, List.not_mem_nil, or_false] at hf
    rcases hf with rfl | rfl
    · show (0 : Int) ≤ ((7) + ((-1) * ρ 1 + 0))
      omega
    · show (0 : Int) ≤ ((-7) + ((1) * ρ 1 + 0))
      omega
  · exact absurd hq List.not_mem_nil
/-- size_n8 -/
theorem lem_134_ok (hU : uqG G C) : lem_134.1.2.1 = [] ∧ lemOK (PRd G C D xs) G rgs lem_134 := by
  refine ⟨rfl, fun ρ h ha hT => ?_⟩
  obtain ⟨-, -, hF, hG, hH, hA, hP⟩ := ha
  have f0 : (0 : Int) ≤ ((-1000000) + ((-1) * ρ 0 + 0)) := hF _ (List.mem_of_getElem? (i := 0) rfl)
  have f1 : (0 : Int) ≤ ((9999999) + ((1) * ρ 0 + 0)) := hF _ (List.mem_of_getElem? (i := 1) rfl)
  have p0 : ((0) + ((1) * ρ 1 + 0)) = szZ ((0) + ((1) * ρ 0 + 0)) := hP _ (List.mem_of_getElem? (i := 0) rfl)
  have q : ρ 1 = 8 := by
    have e : szZ (ρ 0) = 8 := by
      unfold szZ
      rw [if_neg (by omega)]
      unfold szP
      rw [if_neg (by omega), if_neg (by omega), if_neg (by omega), if_neg (by omega), if_neg (by omega), if_neg (by omega), if_pos (by omega)]
      rfl
    rw [show ((0 : Int) + (1 * ρ 0 + 0)) = ρ 0 by omega, e] at p0
    omega
  refine ⟨_, List.mem_cons_self, ρ, fun _ _ => rfl, fun q hq => absurd hq List.not_mem_nil, trivial, fun f hf => ?_, fun q hq => absurd hq List.not_mem_nil, fun q hq => absurd hq List.not_mem_nil, fun q hq => absurd hq List.not_mem_nil, fun q hq => ?_⟩
  · simp only [List.mem_cons, List.not_mem_nil, or_false] at hf
    rcases hf with rfl | rfl
    · show (0 : Int) ≤ ((8) + ((-1) * ρ 1 + 0))
      omega
    · show (0 : Int) ≤ ((-8) + ((1) * ρ 1 + 0))
      omega
  · exact absurd hq List.not_mem_nil
/-- size_n9 -/
theorem lem_135_ok (hU : uqG G C) : lem_135.1.2.1 = [] ∧ lemOK (PRd G C D xs) G rgs lem_135 := by
  refine ⟨rfl, fun ρ h ha hT => ?_⟩
  obtain ⟨-, -, hF, hG, hH, hA, hP⟩ := ha
  have f0 : (0 : Int) ≤ ((-10000000) + ((-1) * ρ 0 + 0)) := hF _ (List.mem_of_getElem? (i := 0) rfl)
  have f1 : (0 : Int) ≤ ((99999999) + ((1) * ρ 0 + 0)) := hF _ (List.mem_of_getElem? (i := 1) rfl)
  have p0 : ((0) + ((1) * ρ 1 + 0)) = szZ ((0) + ((1) * ρ 0 + 0)) := hP _ (List.mem_of_getElem? (i := 0) rfl)
  have q : ρ 1 = 9 := by
    have e : szZ (ρ 0) = 9 := by
      unfold szZ
      rw [if_neg (by omega)]
      unfold szP
      rw [if_neg (by omega), if_neg (by omega), if_neg (by omega), if_neg (by omega), if_neg (by omega), if_neg (by omega), if_neg (by omega), if_pos (by omega)]
      rfl
    rw [show ((0 : Int) + (1 * ρ 0 + 0)) = ρ 0 by omega, e] at p0
    omega
  refine ⟨_, List.mem_cons_self, ρ, fun _ _ => rfl, fun q hq => absurd hq List.not_mem_nil, trivial, fun f hf => ?_, fun q hq => absurd hq List.not_mem_nil, fun q hq => absurd hq List.not_mem_nil, fun q hq => absurd hq List.not_mem_nil, fun q hq => ?_⟩
  · simp only [List.mem_cons, List.not_mem_nil, or_false] at hf
    rcases hf with rfl | rfl
    · show (0 : Int) ≤ ((9) + ((-1) * ρ 1 + 0))
      omega
    · show (0 : Int) ≤ ((-9) + ((1) * ρ 1 + 0))
      omega
  · exact absurd hq List.not_mem_nil
/-- size_n10 -/
theorem lem_136_ok (hU : uqG G C) : lem_136.1.2.1 = [] ∧ lemOK (PRd G C D xs) G rgs lem_136 := by
  refine ⟨rfl, fun ρ h ha hT => ?_⟩
  obtain ⟨-, -, hF, hG, hH, hA, hP⟩ := ha
  have f0 : (0 : Int) ≤ ((-100000000) + ((-1) * ρ 0 + 0)) := hF _ (List.mem_of_getElem? (i := 0) rfl)
  have f1 : (0 : Int) ≤ ((999999999) + ((1) * ρ 0 + 0)) := hF _ (List.mem_of_getElem? (i := 1) rfl)
  have p0 : ((0) + ((1) * ρ 1 + 0)) = szZ ((0) + ((1) * ρ 0 + 0)) := hP _ (List.mem_of_getElem? (i := 0) rfl)
  have q : ρ 1 = 10 := by
    have e : szZ (ρ 0) = 10 := by
      unfold szZ
      rw [if_neg (by omega)]
      unfold szP
      rw [if_neg (by omega), if_neg (by omega), if_neg (by omega), if_neg (by omega), if_neg (by omega), if_neg (by omega), if_neg (by omega), if_neg (by omega), if_pos (by omega)]
      rfl
    rw [show ((0 : Int) + (1 * ρ 0 + 0)) = ρ 0 by omega, e] at p0
    omega
  refine ⟨_, List.mem_cons_self, ρ, fun _ _ => rfl, fun q hq => absurd hq List.not_mem_nil, trivial, fun f hf => ?_, fun q hq => absurd hq List.not_mem_nil, fun q hq => absurd hq List.not_mem_nil, fun q hq => absurd hq List.not_mem_nil, fun q hq => ?_⟩
  · simp only [List.mem_cons, List.not_mem_nil, or_false] at hf
    rcases hf with rfl | rfl
    · show (0 : Int) ≤ ((10) + ((-1) * ρ 1 + 0))
      omega
    · show (0 : Int) ≤ ((-10) + ((1) * ρ 1 + 0))
      omega
  · exact absurd hq List.not_mem_nil
/-- size_n11 -/
theorem lem_137_ok (hU : uqG G C) : lem_137.1.2.1 = [] ∧ lemOK (PRd G C D xs) G rgs lem_137 := by
  refine ⟨rfl, fun ρ h ha hT => ?_⟩
  obtain ⟨-, -, hF, hG, hH, hA, hP⟩ := ha
  have f0 : (0 : Int) ≤ ((-1000000000) + ((-1) * ρ 0 + 0)) := hF _ (List.mem_of_getElem? (i := 0) rfl)
  have p0 : ((0) + ((1) * ρ 1 + 0)) = szZ ((0) + ((1) * ρ 0 + 0)) := hP _ (List.mem_of_getElem? (i := 0) rfl)
  have q : ρ 1 = 11 := by
    have e : szZ (ρ 0) = 11 := by
      unfold szZ
      rw [if_neg (by omega)]
      unfold szP
      rw [if_neg (by omega), if_neg (by omega), if_neg (by omega), if_neg (by omega), if_neg (by omega), if_neg (by omega), if_neg (by omega), if_neg (by omega), if_neg (by omega)]
      rfl
    rw [show ((0 : Int) + (1 * ρ 0 + 0)) = ρ 0 by omega, e] at p0
    omega
  refine ⟨_, List.mem_cons_self, ρ, fun _ _ => rfl, fun q hq => absurd hq List.not_mem_nil, trivial, fun f hf => ?_, fun q hq => absurd hq List.not_mem_nil, fun q hq => absurd hq List.not_mem_nil, fun q hq => absurd hq List.not_mem_nil, fun q hq => ?_⟩
  · simp only [List.mem_cons, List.not_mem_nil, or_false] at hf
    rcases hf with rfl | rfl
    · show (0 : Int) ≤ ((11) + ((-1) * ρ 1 + 0))
      omega
    · show (0 : Int) ≤ ((-11) + ((1) * ρ 1 + 0))
      omega
  · exact absurd hq List.not_mem_nil
/-- cap0 -/
theorem lem_138_ok (hU : uqG G C) : lem_138.1.2.1 = [] ∧ lemOK (PRd G C D xs) G rgs lem_138 := by
  refine ⟨rfl, fun ρ h ha hT => ?_⟩
  obtain ⟨-, -, hF, hG, hH, hA, hP⟩ := ha
  have g1 : G (ρ 2).toNat = 149 := by
    have q := (hG _ (List.mem_of_getElem? (i := 1) rfl)).2
    rwa [show ev ρ (0, [(2, 1)]) = ρ 2 from ev_v] at q
  have p0 : ((0) + ((1) * ρ 4 + 0)) = szZ ((0) + ((1) * ρ 1 + 0)) := hP _ (List.mem_of_getElem? (i := 0) rfl)
  rcases (by omega : ρ 3 + ρ 4 ≤ 16 ∨ 17 ≤ ρ 3 + ρ 4) with hc | hc
  · refine ⟨_, List.mem_cons_self, ρ, fun _ _ => rfl, fun q hq => absurd hq List.not_mem_nil, trivial, fun f hf => ?_, fun q hq => absurd hq List.not_mem_nil, fun q hq => absurd hq List.not_mem_nil, fun q hq => absurd hq List.not_mem_nil, fun q hq => ?_⟩
    · simp only [List.mem_cons, List.not_mem_nil, or_false] at hf
      subst hf
      show (0 : Int) ≤ ((16) + ((-1) * ρ 3 + ((-1) * ρ 4 + 0)))
      omega
    · exact absurd hq List.not_mem_nil
  · refine ⟨_, (List.mem_cons_of_mem _ List.mem_cons_self), ρ, fun _ _ => rfl, fun q hq => absurd hq List.not_mem_nil, trivial, fun f hf => ?_, fun q hq => absurd hq List.not_mem_nil, fun q hq => absurd hq List.not_mem_nil, fun q hq => absurd hq List.not_mem_nil, fun q hq => ?_⟩
    · simp only [List.mem_cons, List.not_mem_nil, or_false] at hf
      subst hf
      show (0 : Int) ≤ ((-17) + ((1) * ρ 3 + ((1) * ρ 4 + 0)))
      omega
    · exact absurd hq List.not_mem_nil
/-- capX0 -/
theorem lem_139_ok (hU : uqG G C) : lem_139.1.2.1 = [] ∧ lemOK (PRd G C D xs) G rgs lem_139 := by
  refine ⟨rfl, fun ρ h ha hT => ?_⟩
  obtain ⟨-, -, hF, hG, hH, hA, hP⟩ := ha
  have f0 : (0 : Int) ≤ ((-17) + ((1) * ρ 3 + ((1) * ρ 4 + 0))) := hF _ (List.mem_of_getElem? (i := 0) rfl)
  have f1 : (0 : Int) ≤ ((16) + ((-1) * ρ 3 + ((-1) * ρ 4 + 0))) := hF _ (List.mem_of_getElem? (i := 1) rfl)
  have g1 : G (ρ 2).toNat = 149 := by
    have q := (hG _ (List.mem_of_getElem? (i := 1) rfl)).2
    rwa [show ev ρ (0, [(2, 1)]) = ρ 2 from ev_v] at q
  have p0 : ((0) + ((1) * ρ 4 + 0)) = szZ ((0) + ((1) * ρ 1 + 0)) := hP _ (List.mem_of_getElem? (i := 0) rfl)
  exact absurd f0 (by omega)
/-- capC0 -/
theorem lem_140_ok (hU : uqG G C) : lem_140.1.2.1 = [] ∧ lemOK (PRd G C D xs) G rgs lem_140 := by
  refine ⟨rfl, fun ρ h ha hT => ?_⟩
  obtain ⟨-, -, hF, hG, hH, hA, hP⟩ := ha
  have g1 : G (ρ 1).toNat = 149 := by
    have q := (hG _ (List.mem_of_getElem? (i := 1) rfl)).2
    rwa [show ev ρ (0, [(1, 1)]) = ρ 1 from ev_v] at q
  rcases (by omega : ρ 2 + 1 ≤ 16 ∨ 16 ≤ ρ 2) with hc | hc
  · refine ⟨_, List.mem_cons_self, ρ, fun _ _ => rfl, fun q hq => absurd hq List.not_mem_nil, trivial, fun f hf => ?_, fun q hq => absurd hq List.not_mem_nil, fun q hq => absurd hq List.not_mem_nil, fun q hq => absurd hq List.not_mem_nil, fun q hq => ?_⟩
    · simp only [List.mem_cons, List.not_mem_nil, or_false] at hf
      subst hf
      show (0 : Int) ≤ ((15) + ((-1) * ρ 2 + 0))
      omega
    · exact absurd hq List.not_mem_nil
  · refine ⟨_, (List.mem_cons_of_mem _ List.mem_cons_self), ρ, fun _ _ => rfl, fun q hq => absurd hq List.not_mem_nil, trivial, fun f hf => ?_, fun q hq => absurd hq List.not_mem_nil, fun q hq => absurd hq List.not_mem_nil, fun q hq => absurd hq List.not_mem_nil, fun q hq => ?_⟩
    · simp only [List.mem_cons, List.not_mem_nil, or_false] at hf
      subst hf
      show (0 : Int) ≤ ((-16) + ((1) * ρ 2 + 0))
      omega
    · exact absurd hq List.not_mem_nil
/-- capCX0 -/
theorem lem_141_ok (hU : uqG G C) : lem_141.1.2.1 = [] ∧ lemOK (PRd G C D xs) G rgs lem_141 := by
  refine ⟨rfl, fun ρ h ha hT => ?_⟩
  obtain ⟨-, -, hF, hG, hH, hA, hP⟩ := ha
  have f0 : (0 : Int) ≤ ((-16) + ((1) * ρ 2 + 0)) := hF _ (List.mem_of_getElem? (i := 0) rfl)
  have f1 : (0 : Int) ≤ ((15) + ((-1) * ρ 2 + 0)) := hF _ (List.mem_of_getElem? (i := 1) rfl)
  have g1 : G (ρ 1).toNat = 149 := by
    have q := (hG _ (List.mem_of_getElem? (i := 1) rfl)).2
    rwa [show ev ρ (0, [(1, 1)]) = ρ 1 from ev_v] at q
  exact absurd f0 (by omega)
/-- room0 -/
theorem lem_142_ok (hU : uqG G C) : lem_142.1.2.1 = [] ∧ lemOK (PRd G C D xs) G rgs lem_142 := by
  refine ⟨rfl, fun ρ h ha hT => ?_⟩
  obtain ⟨-, -, hF, hG, hH, hA, hP⟩ := ha
  have g2 : G (ρ 2).toNat = 149 := by
    have q := (hG _ (List.mem_of_getElem? (i := 2) rfl)).2
    rwa [show ev ρ (0, [(2, 1)]) = ρ 2 from ev_v] at q
  rcases (by omega : ρ 3 ≤ -104 ∨ -103 ≤ ρ 3) with hc | hc
  · refine ⟨_, List.mem_cons_self, ρ, fun _ _ => rfl, fun q hq => absurd hq List.not_mem_nil, trivial, fun f hf => ?_, fun q hq => absurd hq List.not_mem_nil, fun q hq => absurd hq List.not_mem_nil, fun q hq => absurd hq List.not_mem_nil, fun q hq => ?_⟩
    · simp only [List.mem_cons, List.not_mem_nil, or_false] at hf
      subst hf
      show (0 : Int) ≤ ((-104) + ((-1) * ρ 3 + 0))
      omega
    · exact absurd hq List.not_mem_nil
  · refine ⟨_, (List.mem_cons_of_mem _ List.mem_cons_self), ρ, fun _ _ => rfl, fun q hq => absurd hq List.not_mem_nil, trivial, fun f hf => ?_, fun q hq => absurd hq List.not_mem_nil, fun q hq => absurd hq List.not_mem_nil, fun q hq => absurd hq List.not_mem_nil, fun q hq => ?_⟩
    · simp only [List.mem_cons, List.not_mem_nil, or_false] at hf
      subst hf
      show (0 : Int) ≤ ((103) + ((1) * ρ 3 + 0))
      omega
    · exact absurd hq List.not_mem_nil
/-- cap1 -/
theorem lem_143_ok (hU : uqG G C) : lem_143.1.2.1 = [] ∧ lemOK (PRd G C D xs) G rgs lem_143 := by
  refine ⟨rfl, fun ρ h ha hT => ?_⟩
  obtain ⟨-, -, hF, hG, hH, hA, hP⟩ := ha
  have g1 : G (ρ 2).toNat = 601 := by
    have q := (hG _ (List.mem_of_getElem? (i := 1) rfl)).2
    rwa [show ev ρ (0, [(2, 1)]) = ρ 2 from ev_v] at q
  have p0 : ((0) + ((1) * ρ 4 + 0)) = szZ ((0) + ((1) * ρ 1 + 0)) := hP _ (List.mem_of_getElem? (i := 0) rfl)
  rcases (by omega : ρ 3 + ρ 4 ≤ 34 ∨ 35 ≤ ρ 3 + ρ 4) with hc | hc
  · refine ⟨_, List.mem_cons_self, ρ, fun _ _ => rfl, fun q hq => absurd hq List.not_mem_nil, trivial, fun f hf => ?_, fun q hq => absurd hq List.not_mem_nil, fun q hq => absurd hq List.not_mem_nil, fun q hq => absurd hq List.not_mem_nil, fun q hq => ?_⟩
    · simp only [List.mem_cons, List.not_mem_nil, or_false] at hf
      subst hf
      show (0 : Int) ≤ ((34) + ((-1) * ρ 3 + ((-1) * ρ 4 + 0)))
      omega
    · exact absurd hq List.not_mem_nil
  · refine ⟨_, (List.mem_cons_of_mem _ List.mem_cons_self), ρ, fun _ _ => rfl, fun q hq => absurd hq List.not_mem_nil, trivial, fun f hf => ?_, fun q hq => absurd hq List.not_mem_nil, fun q hq => absurd hq List.not_mem_nil, fun q hq => absurd hq List.not_mem_nil, fun q hq => ?_⟩
    · simp only [List.mem_cons, List.not_mem_nil, or_false] at hf
      subst hf
      show (0 : Int) ≤ ((-35) + ((1) * ρ 3 + ((1) * ρ 4 + 0)))
      omega
    · exact absurd hq List.not_mem_nil
/-- capX1 -/
theorem lem_144_ok (hU : uqG G C) : lem_144.1.2.1 = [] ∧ lemOK (PRd G C D xs) G rgs lem_144 := by
  refine ⟨rfl, fun ρ h ha hT => ?_⟩
  obtain ⟨-, -, hF, hG, hH, hA, hP⟩ := ha
  have f0 : (0 : Int) ≤ ((-35) + ((1) * ρ 3 + ((1) * ρ 4 + 0))) := hF _ (List.mem_of_getElem? (i := 0) rfl)
  have f1 : (0 : Int) ≤ ((34) + ((-1) * ρ 3 + ((-1) * ρ 4 + 0))) := hF _ (List.mem_of_getElem? (i := 1) rfl)
  have g1 : G (ρ 2).toNat = 601 := by
    have q := (hG _ (List.mem_of_getElem? (i := 1) rfl)).2
    rwa [show ev ρ (0, [(2, 1)]) = ρ 2 from ev_v] at q
  have p0 : ((0) + ((1) * ρ 4 + 0)) = szZ ((0) + ((1) * ρ 1 + 0)) := hP _ (List.mem_of_getElem? (i := 0) rfl)
  exact absurd f0 (by omega)
/-- capC1 -/
theorem lem_145_ok (hU : uqG G C) : lem_145.1.2.1 = [] ∧ lemOK (PRd G C D xs) G rgs lem_145 := by
  refine ⟨rfl, fun ρ h ha hT => ?_⟩
  obtain ⟨-, -, hF, hG, hH, hA, hP⟩ := ha
  have g1 : G (ρ 1).toNat = 601 := by
    have q := (hG _ (List.mem_of_getElem? (i := 1) rfl)).2
    rwa [show ev ρ (0, [(1, 1)]) = ρ 1 from ev_v] at q
  rcases (by omega : ρ 2 + 1 ≤ 34 ∨ 34 ≤ ρ 2) with hc | hc
  · refine ⟨_, List.mem_cons_self, ρ, fun _ _ => rfl, fun q hq => absurd hq List.not_mem_nil, trivial, fun f hf => ?_, fun q hq => absurd hq List.not_mem_nil, fun q hq => absurd hq List.not_mem_nil, fun q hq => absurd hq List.not_mem_nil, fun q hq => ?_⟩
    · simp only [List.mem_cons, List.not_mem_nil, or_false] at hf
      subst hf
      show (0 : Int) ≤ ((33) + ((-1) * ρ 2 + 0))
      omega
    · exact absurd hq List.not_mem_nil
  · refine ⟨_, (List.mem_cons_of_mem _ List.mem_cons_self), ρ, fun _ _ => rfl, fun q hq => absurd hq List.not_mem_nil, trivial, fun f hf => ?_, fun q hq => absurd hq List.not_mem_nil, fun q hq => absurd hq List.not_mem_nil, fun q hq => absurd hq List.not_mem_nil, fun q hq => ?_⟩
    · simp only [List.mem_cons, List.not_mem_nil, or_false] at hf
      subst hf
      show (0 : Int) ≤ ((-34) + ((1) * ρ 2 + 0))
      omega
    · exact absurd hq List.not_mem_nil
/-- capCX1 -/
theorem lem_146_ok (hU : uqG G C) : lem_146.1.2.1 = [] ∧ lemOK (PRd G C D xs) G rgs lem_146 := by
  refine ⟨rfl, fun ρ h ha hT => ?_⟩
  obtain ⟨-, -, hF, hG, hH, hA, hP⟩ := ha
  have f0 : (0 : Int) ≤ ((-34) + ((1) * ρ 2 + 0)) := hF _ (List.mem_of_getElem? (i := 0) rfl)
  have f1 : (0 : Int) ≤ ((33) + ((-1) * ρ 2 + 0)) := hF _ (List.mem_of_getElem? (i := 1) rfl)
  have g1 : G (ρ 1).toNat = 601 := by
    have q := (hG _ (List.mem_of_getElem? (i := 1) rfl)).2
    rwa [show ev ρ (0, [(1, 1)]) = ρ 1 from ev_v] at q
  exact absurd f0 (by omega)
/-- room1 -/
theorem lem_147_ok (hU : uqG G C) : lem_147.1.2.1 = [] ∧ lemOK (PRd G C D xs) G rgs lem_147 := by
  refine ⟨rfl, fun ρ h ha hT => ?_⟩
  obtain ⟨-, -, hF, hG, hH, hA, hP⟩ := ha
  have g2 : G (ρ 2).toNat = 601 := by
    have q := (hG _ (List.mem_of_getElem? (i := 2) rfl)).2
    rwa [show ev ρ (0, [(2, 1)]) = ρ 2 from ev_v] at q
  rcases (by omega : ρ 3 ≤ -86 ∨ -85 ≤ ρ 3) with hc | hc
  · refine ⟨_, List.mem_cons_self, ρ, fun _ _ => rfl, fun q hq => absurd hq List.not_mem_nil, trivial, fun f hf => ?_, fun q hq => absurd hq List.not_mem_nil, fun q hq => absurd hq List.not_mem_nil, fun q hq => absurd hq List.not_mem_nil, fun q hq => ?_⟩
    · simp only [List.mem_cons, List.not_mem_nil, or_false] at hf
      subst hf
      show (0 : Int) ≤ ((-86) + ((-1) * ρ 3 + 0))
      omega
    · exact absurd hq List.not_mem_nil
  · refine ⟨_, (List.mem_cons_of_mem _ List.mem_cons_self), ρ, fun _ _ => rfl, fun q hq => absurd hq List.not_mem_nil, trivial, fun f hf => ?_, fun q hq => absurd hq List.not_mem_nil, fun q hq => absurd hq List.not_mem_nil, fun q hq => absurd hq List.not_mem_nil, fun q hq => ?_⟩
    · simp only [List.mem_cons, List.not_mem_nil, or_false] at hf
      subst hf
      show (0 : Int) ≤ ((85) + ((1) * ρ 3 + 0))
      omega
    · exact absurd hq List.not_mem_nil
/-- cap2 -/
theorem lem_148_ok (hU : uqG G C) : lem_148.1.2.1 = [] ∧ lemOK (PRd G C D xs) G rgs lem_148 := by
  refine ⟨rfl, fun ρ h ha hT => ?_⟩
  obtain ⟨-, -, hF, hG, hH, hA, hP⟩ := ha
  have g1 : G (ρ 2).toNat = 602 := by
    have q := (hG _ (List.mem_of_getElem? (i := 1) rfl)).2
    rwa [show ev ρ (0, [(2, 1)]) = ρ 2 from ev_v] at q
  have p0 : ((0) + ((1) * ρ 4 + 0)) = szZ ((0) + ((1) * ρ 1 + 0)) := hP _ (List.mem_of_getElem? (i := 0) rfl)
  rcases (by omega : ρ 3 + ρ 4 ≤ 70 ∨ 71 ≤ ρ 3 + ρ 4) with hc | hc
  · refine ⟨_, List.mem_cons_self, ρ, fun _ _ => rfl, fun q hq => absurd hq List.not_mem_nil, trivial, fun f hf => ?_, fun q hq => absurd hq List.not_mem_nil, fun q hq => absurd hq List.not_mem_nil, fun q hq => absurd hq List.not_mem_nil, fun q hq => ?_⟩
    · simp only [List.mem_cons, List.not_mem_nil, or_false] at hf
      subst hf
      show (0 : Int) ≤ ((70) + ((-1) * ρ 3 + ((-1) * ρ 4 + 0)))
      omega
    · exact absurd hq List.not_mem_nil
  · refine ⟨_, (List.mem_cons_of_mem _ List.mem_cons_self), ρ, fun _ _ => rfl, fun q hq => absurd hq List.not_mem_nil, trivial, fun f hf => ?_, fun q hq => absurd hq List.not_mem_nil, fun q hq => absurd hq List.not_mem_nil, fun q hq => absurd hq List.not_mem_nil, fun q hq => ?_⟩
    · simp only [List.mem_cons, List.not_mem_nil, or_false] at hf
      subst hf
      show (0 : Int) ≤ ((-71) + ((1) * ρ 3 + ((1) * ρ 4 + 0)))
      omega
    · exact absurd hq List.not_mem_nil
/-- capX2 -/
theorem lem_149_ok (hU : uqG G C) : lem_149.1.2.1 = [] ∧ lemOK (PRd G C D xs) G rgs lem_149 := by
  refine ⟨rfl, fun ρ h ha hT => ?_⟩
  obtain ⟨-, -, hF, hG, hH, hA, hP⟩ := ha
  have f0 : (0 : Int) ≤ ((-71) + ((1) * ρ 3 + ((1) * ρ 4 + 0))) := hF _ (List.mem_of_getElem? (i := 0) rfl)
  have f1 : (0 : Int) ≤ ((70) + ((-1) * ρ 3 + ((-1) * ρ 4 + 0))) := hF _ (List.mem_of_getElem? (i := 1) rfl)
  have g1 : G (ρ 2).toNat = 602 := by
    have q := (hG _ (List.mem_of_getElem? (i := 1) rfl)).2
    rwa [show ev ρ (0, [(2, 1)]) = ρ 2 from ev_v] at q
  have p0 : ((0) + ((1) * ρ 4 + 0)) = szZ ((0) + ((1) * ρ 1 + 0)) := hP _ (List.mem_of_getElem? (i := 0) rfl)
  exact absurd f0 (by omega)
/-- capC2 -/
theorem lem_150_ok (hU : uqG G C) : lem_150.1.2.1 = [] ∧ lemOK (PRd G C D xs) G rgs lem_150 := by
  refine ⟨rfl, fun ρ h ha hT => ?_⟩
  obtain ⟨-, -, hF, hG, hH, hA, hP⟩ := ha
  have g1 : G (ρ 1).toNat = 602 := by
    have q := (hG _ (List.mem_of_getElem? (i := 1) rfl)).2
    rwa [show ev ρ (0, [(1, 1)]) = ρ 1 from ev_v] at q
  rcases (by omega : ρ 2 + 1 ≤ 70 ∨ 70 ≤ ρ 2) with hc | hc
  · refine ⟨_, List.mem_cons_self, ρ, fun _ _ => rfl, fun q hq => absurd hq List.not_mem_nil, trivial, fun f hf => ?_, fun q hq => absurd hq List.not_mem_nil, fun q hq => absurd hq List.not_mem_nil, fun q hq => absurd hq List.not_mem_nil, fun q hq => ?_⟩
    · simp only [List.mem_cons, List.not_mem_nil, or_false] at hf
      subst hf
      show (0 : Int) ≤ ((69) + ((-1) * ρ 2 + 0))
      omega
    · exact absurd hq List.not_mem_nil
  · refine ⟨_, (List.mem_cons_of_mem _ List.mem_cons_self), ρ, fun _ _ => rfl, fun q hq => absurd hq List.not_mem_nil, trivial, fun f hf => ?_, fun q hq => absurd hq List.not_mem_nil, fun q hq => absurd hq List.not_mem_nil, fun q hq => absurd hq List.not_mem_nil, fun q hq => ?_⟩
    · simp only [List.mem_cons, List.not_mem_nil, or_false] at hf
      subst hf
      show (0 : Int) ≤ ((-70) + ((1) * ρ 2 + 0))
      omega
    · exact absurd hq List.not_mem_nil
/-- capCX2 -/
theorem lem_151_ok (hU : uqG G C) : lem_151.1.2.1 = [] ∧ lemOK (PRd G C D xs) G rgs lem_151 := by
  refine ⟨rfl, fun ρ h ha hT => ?_⟩
  obtain ⟨-, -, hF, hG, hH, hA, hP⟩ := ha
  have f0 : (0 : Int) ≤ ((-70) + ((1) * ρ 2 + 0)) := hF _ (List.mem_of_getElem? (i := 0) rfl)
  have f1 : (0 : Int) ≤ ((69) + ((-1) * ρ 2 + 0)) := hF _ (List.mem_of_getElem? (i := 1) rfl)
  have g1 : G (ρ 1).toNat = 602 := by
    have q := (hG _ (List.mem_of_getElem? (i := 1) rfl)).2
    rwa [show ev ρ (0, [(1, 1)]) = ρ 1 from ev_v] at q
  exact absurd f0 (by omega)
/-- room2 -/
theorem lem_152_ok (hU : uqG G C) : lem_152.1.2.1 = [] ∧ lemOK (PRd G C D xs) G rgs lem_152 := by
  refine ⟨rfl, fun ρ h ha hT => ?_⟩
  obtain ⟨-, -, hF, hG, hH, hA, hP⟩ := ha
  have g2 : G (ρ 2).toNat = 602 := by
    have q := (hG _ (List.mem_of_getElem? (i := 2) rfl)).2
    rwa [show ev ρ (0, [(2, 1)]) = ρ 2 from ev_v] at q
  rcases (by omega : ρ 3 ≤ -50 ∨ -49 ≤ ρ 3) with hc | hc
  · refine ⟨_, List.mem_cons_self, ρ, fun _ _ => rfl, fun q hq => absurd hq List.not_mem_nil, trivial, fun f hf => ?_, fun q hq => absurd hq List.not_mem_nil, fun q hq => absurd hq List.not_mem_nil, fun q hq => absurd hq List.not_mem_nil, fun q hq => ?_⟩
    · simp only [List.mem_cons, List.not_mem_nil, or_false] at hf
      subst hf
      show (0 : Int) ≤ ((-50) + ((-1) * ρ 3 + 0))
      omega
    · exact absurd hq List.not_mem_nil
  · refine ⟨_, (List.mem_cons_of_mem _ List.mem_cons_self), ρ, fun _ _ => rfl, fun q hq => absurd hq List.not_mem_nil, trivial, fun f hf => ?_, fun q hq => absurd hq List.not_mem_nil, fun q hq => absurd hq List.not_mem_nil, fun q hq => absurd hq List.not_mem_nil, fun q hq => ?_⟩
    · simp only [List.mem_cons, List.not_mem_nil, or_false] at hf
      subst hf
      show (0 : Int) ≤ ((49) + ((1) * ρ 3 + 0))
      omega
    · exact absurd hq List.not_mem_nil
/-- cap3 -/
theorem lem_153_ok (hU : uqG G C) : lem_153.1.2.1 = [] ∧ lemOK (PRd G C D xs) G rgs lem_153 := by
  refine ⟨rfl, fun ρ h ha hT => ?_⟩
  obtain ⟨-, -, hF, hG, hH, hA, hP⟩ := ha
  have g1 : G (ρ 2).toNat = 603 := by
    have q := (hG _ (List.mem_of_getElem? (i := 1) rfl)).2
    rwa [show ev ρ (0, [(2, 1)]) = ρ 2 from ev_v] at q
  have p0 : ((0) + ((1) * ρ 4 + 0)) = szZ ((0) + ((1) * ρ 1 + 0)) := hP _ (List.mem_of_getElem? (i := 0) rfl)
  rcases (by omega : ρ 3 + ρ 4 ≤ 142 ∨ 143 ≤ ρ 3 + ρ 4) with hc | hc
  · refine ⟨_, List.mem_cons_self, ρ, fun _ _ => rfl, fun q hq => absurd hq List.not_mem_nil, trivial, fun f hf => ?_, fun q hq => absurd hq List.not_mem_nil, fun q hq => absurd hq List.not_mem_nil, fun q hq => absurd hq List.not_mem_nil, fun q hq => ?_⟩
    · simp only [List.mem_cons, List.not_mem_nil, or_false] at hf
      subst hf
      show (0 : Int) ≤ ((142) + ((-1) * ρ 3 + ((-1) * ρ 4 + 0)))
      omega
    · exact absurd hq List.not_mem_nil
  · refine ⟨_, (List.mem_cons_of_mem _ List.mem_cons_self), ρ, fun _ _ => rfl, fun q hq => absurd hq List.not_mem_nil, trivial, fun f hf => ?_, fun q hq => absurd hq List.not_mem_nil, fun q hq => absurd hq List.not_mem_nil, fun q hq => absurd hq List.not_mem_nil, fun q hq => ?_⟩
    · simp only [List.mem_cons, List.not_mem_nil, or_false] at hf
      subst hf
      show (0 : Int) ≤ ((-143) + ((1) * ρ 3 + ((1) * ρ 4 + 0)))
      omega
    · exact absurd hq List.not_mem_nil
/-- capX3 -/
theorem lem_154_ok (hU : uqG G C) : lem_154.1.2.1 = [] ∧ lemOK (PRd G C D xs) G rgs lem_154 := by
  refine ⟨rfl, fun ρ h ha hT => ?_⟩
  obtain ⟨-, -, hF, hG, hH, hA, hP⟩ := ha
  have f0 : (0 : Int) ≤ ((-143) + ((1) * ρ 3 + ((1) * ρ 4 + 0))) := hF _ (List.mem_of_getElem? (i := 0) rfl)
  have f1 : (0 : Int) ≤ ((142) + ((-1) * ρ 3 + ((-1) * ρ 4 + 0))) := hF _ (List.mem_of_getElem? (i := 1) rfl)
  have g1 : G (ρ 2).toNat = 603 := by
    have q := (hG _ (List.mem_of_getElem? (i := 1) rfl)).2
    rwa [show ev ρ (0, [(2, 1)]) = ρ 2 from ev_v] at q
  have p0 : ((0) + ((1) * ρ 4 + 0)) = szZ ((0) + ((1) * ρ 1 + 0)) := hP _ (List.mem_of_getElem? (i := 0) rfl)
  exact absurd f0 (by omega)
/-- capC3 -/
theorem lem_155_ok (hU : uqG G C) : lem_155.1.2.1 = [] ∧ lemOK (PRd G C D xs) G rgs lem_155 := by
  refine ⟨rfl, fun ρ h ha hT => ?_⟩
  obtain ⟨-, -, hF, hG, hH, hA, hP⟩ := ha
  have g1 : G (ρ 1).toNat = 603 := by
    have q := (hG _ (List.mem_of_getElem? (i := 1) rfl)).2
    rwa [show ev ρ (0, [(1, 1)]) = ρ 1 from ev_v] at q
  rcases (by omega : ρ 2 + 1 ≤ 142 ∨ 142 ≤ ρ 2) with hc | hc
  · refine ⟨_, List.mem_cons_self, ρ, fun _ _ => rfl, fun q hq => absurd hq List.not_mem_nil, trivial, fun f hf => ?_, fun q hq => absurd hq List.not_mem_nil, fun q hq => absurd hq List.not_mem_nil, fun q hq => absurd hq List.not_mem_nil, fun q hq => ?_⟩
    · simp only [List.mem_cons, List.not_mem_nil, or_false] at hf
      subst hf
      show (0 : Int) ≤ ((141) + ((-1) * ρ 2 + 0))
      omega
    · exact absurd hq List.not_mem_nil
  · refine ⟨_, (List.mem_cons_of_mem _ List.mem_cons_self), ρ, fun _ _ => rfl, fun q hq => absurd hq List.not_mem_nil, trivial, fun f hf => ?_, fun q hq => absurd hq List.not_mem_nil, fun q hq => absurd hq List.not_mem_nil, fun q hq => absurd hq List.not_mem_nil, fun q hq => ?_⟩
    · simp only [List.mem_cons, List.not_mem_nil, or_false] at hf
      subst hf
      show (0 : Int) ≤ ((-142) + ((1) * ρ 2 + 0))
      omega
    · exact absurd hq List.not_mem_nil
/-- capCX3 -/
theorem lem_156_ok (hU : uqG G C) : lem_156.1.2.1 = [] ∧ lemOK (PRd G C D xs) G rgs lem_156 := by
  refine ⟨rfl, fun ρ h ha hT => ?_⟩
  obtain ⟨-, -, hF, hG, hH, hA, hP⟩ := ha
  have f0 : (0 : Int) ≤ ((-142) + ((1) * ρ 2 + 0)) := hF _ (List.mem_of_getElem? (i := 0) rfl)
  have f1 : (0 : Int) ≤ ((141) + ((-1) * ρ 2 + 0)) := hF _ (List.mem_of_getElem? (i := 1) rfl)
  have g1 : G (ρ 1).toNat = 603 := by
    have q := (hG _ (List.mem_of_getElem? (i := 1) rfl)).2
    rwa [show ev ρ (0, [(1, 1)]) = ρ 1 from ev_v] at q
  exact absurd f0 (by omega)
/-- room3 -/
theorem lem_157_ok (hU : uqG G C) : lem_157.1.2.1 = [] ∧ lemOK (PRd G C D xs) G rgs lem_157 := by
  refine ⟨rfl, fun ρ h ha hT => ?_⟩
  obtain ⟨-, -, hF, hG, hH, hA, hP⟩ := ha
  have g2 : G (ρ 2).toNat = 603 := by
    have q := (hG _ (List.mem_of_getElem? (i := 2) rfl)).2
    rwa [show ev ρ (0, [(2, 1)]) = ρ 2 from ev_v] at q
  rcases (by omega : ρ 3 ≤ 22 ∨ 23 ≤ ρ 3) with hc | hc
  · refine ⟨_, List.mem_cons_self, ρ, fun _ _ => rfl, fun q hq => absurd hq List.not_mem_nil, trivial, fun f hf => ?_, fun q hq => absurd hq List.not_mem_nil, fun q hq => absurd hq List.not_mem_nil, fun q hq => absurd hq List.not_mem_nil, fun q hq => ?_⟩
    · simp only [List.mem_cons, List.not_mem_nil, or_false] at hf
      subst hf
      show (0 : Int) ≤ ((22) + ((-1) * ρ 3 + 0))
      omega
    · exact absurd hq List.not_mem_nil
  · refine ⟨_, (List.mem_cons_of_mem _ List.mem_cons_self), ρ, fun _ _ => rfl, fun q hq => absurd hq List.not_mem_nil, trivial, fun f hf => ?_, fun q hq => absurd hq List.not_mem_nil, fun q hq => absurd hq List.not_mem_nil, fun q hq => absurd hq List.not_mem_nil, fun q hq => ?_⟩
    · simp only [List.mem_cons, List.not_mem_nil, or_false] at hf
      subst hf
      show (0 : Int) ≤ ((-23) + ((1) * ρ 3 + 0))
      omega
    · exact absurd hq List.not_mem_nil
/-- cap4 -/
theorem lem_158_ok (hU : uqG G C) : lem_158.1.2.1 = [] ∧ lemOK (PRd G C D xs) G rgs lem_158 := by
  refine ⟨rfl, fun ρ h ha hT => ?_⟩
  obtain ⟨-, -, hF, hG, hH, hA, hP⟩ := ha
  have g1 : G (ρ 2).toNat = 604 := by
    have q := (hG _ (List.mem_of_getElem? (i := 1) rfl)).2
    rwa [show ev ρ (0, [(2, 1)]) = ρ 2 from ev_v] at q
  have p0 : ((0) + ((1) * ρ 4 + 0)) = szZ ((0) + ((1) * ρ 1 + 0)) := hP _ (List.mem_of_getElem? (i := 0) rfl)
  rcases (by omega : ρ 3 + ρ 4 ≤ 286 ∨ 287 ≤ ρ 3 + ρ 4) with hc | hc
  · refine ⟨_, List.mem_cons_self, ρ, fun _ _ => rfl, fun q hq => absurd hq List.not_mem_nil, trivial, fun f hf => ?_, fun q hq => absurd hq List.not_mem_nil, fun q hq => absurd hq List.not_mem_nil, fun q hq => absurd hq List.not_mem_nil, fun q hq => ?_⟩
    · simp only [List.mem_cons, List.not_mem_nil, or_false] at hf
      subst hf
      show (0 : Int) ≤ ((286) + ((-1) * ρ 3 + ((-1) * ρ 4 + 0)))
      omega
    · exact absurd hq List.not_mem_nil
  · refine ⟨_, (List.mem_cons_of_mem _ List.mem_cons_self), ρ, fun _ _ => rfl, fun q hq => absurd hq List.not_mem_nil, trivial, fun f hf => ?_, fun q hq => absurd hq List.not_mem_nil, fun q hq => absurd hq List.not_mem_nil, fun q hq => absurd hq List.not_mem_nil, fun q hq => ?_⟩
    · simp only [List.mem_cons, List.not_mem_nil, or_false] at hf
      subst hf
      show (0 : Int) ≤ ((-287) + ((1) * ρ 3 + ((1) * ρ 4 + 0)))
      omega
    · exact absurd hq List.not_mem_nil
/-- capX4 -/
theorem lem_159_ok (hU : uqG G C) : lem_159.1.2.1 = [] ∧ lemOK (PRd G C D xs) G rgs lem_159 := by
  refine ⟨rfl, fun ρ h ha hT => ?_⟩
  obtain ⟨-, -, hF, hG, hH, hA, hP⟩ := ha
  have f0 : (0 : Int) ≤ ((-287) + ((1) * ρ 3 + ((1) * ρ 4 + 0))) := hF _ (List.mem_of_getElem? (i := 0) rfl)
  have f1 : (0 : Int) ≤ ((286) + ((-1) * ρ 3 + ((-1) * ρ 4 + 0))) := hF _ (List.mem_of_getElem? (i := 1) rfl)
  have g1 : G (ρ 2).toNat = 604 := by
    have q := (hG _ (List.mem_of_getElem? (i := 1) rfl)).2
    rwa [show ev ρ (0, [(2, 1)]) = ρ 2 from ev_v] at q
  have p0 : ((0) + ((1) * ρ 4 + 0)) = szZ ((0) + ((1) * ρ 1 + 0)) := hP _ (List.mem_of_getElem? (i := 0) rfl)
  exact absurd f0 (by omega)
/-- capC4 -/
theorem lem_160_ok (hU : uqG G C) : lem_160.1.2.1 = [] ∧ lemOK (PRd G C D xs) G rgs lem_160 := by
  refine ⟨rfl, fun ρ h ha hT => ?_⟩
  obtain ⟨-, -, hF, hG, hH, hA, hP⟩ := ha
  have g1 : G (ρ 1).toNat = 604 := by
    have q := (hG _ (List.mem_of_getElem? (i := 1) rfl)).2
    rwa [show ev ρ (0, [(1, 1)]) = ρ 1 from ev_v] at q
  rcases (by omega : ρ 2 + 1 ≤ 286 ∨ 286 ≤ ρ 2) with hc | hc
  · refine ⟨_, List.mem_cons_self, ρ, fun _ _ => rfl, fun q hq => absurd hq List.not_mem_nil, trivial, fun f hf => ?_, fun q hq => absurd hq List.not_mem_nil, fun q hq => absurd hq List.not_mem_nil, fun q hq => absurd hq List.not_mem_nil, fun q hq => ?_⟩
    · simp only [List.mem_cons, List.not_mem_nil, or_false] at hf
      subst hf
      show (0 : Int) ≤ ((285) + ((-1) * ρ 2 + 0))
      omega
    · exact absurd hq List.not_mem_nil
  · refine ⟨_, (List.mem_cons_of_mem _ List.mem_cons_self), ρ, fun _ _ => rfl, fun q hq => absurd hq List.not_mem_nil, trivial, fun f hf => ?_, fun q hq => absurd hq List.not_mem_nil, fun q hq => absurd hq List.not_mem_nil, fun q hq => absurd hq List.not_mem_nil, fun q hq => ?_⟩
    · simp only [List.mem_cons, List.not_mem_nil, or_false] at hf
      subst hf
      show (0 : Int) ≤ ((-286) + ((1) * ρ 2 + 0))
      omega
    · exact absurd hq List.not_mem_nil
/-- capCX4 -/
theorem lem_161_ok (hU : uqG G C) : lem_161.1.2.1 = [] ∧ lemOK (PRd G C D xs) G rgs lem_161 := by
  refine ⟨rfl, fun ρ h ha hT => ?_⟩
  obtain ⟨-, -, hF, hG, hH, hA, hP⟩ := ha
  have f0 : (0 : Int) ≤ ((-286) + ((1) * ρ 2 + 0)) := hF _ (List.mem_of_getElem? (i := 0) rfl)
  have f1 : (0 : Int) ≤ ((285) + ((-1) * ρ 2 + 0)) := hF _ (List.mem_of_getElem? (i := 1) rfl)
  have g1 : G (ρ 1).toNat = 604 := by
    have q := (hG _ (List.mem_of_getElem? (i := 1) rfl)).2
    rwa [show ev ρ (0, [(1, 1)]) = ρ 1 from ev_v] at q
  exact absurd f0 (by omega)
/-- room4 -/
theorem lem_162_ok (hU : uqG G C) : lem_162.1.2.1 = [] ∧ lemOK (PRd G C D xs) G rgs lem_162 := by
  refine ⟨rfl, fun ρ h ha hT => ?_⟩
  obtain ⟨-, -, hF, hG, hH, hA, hP⟩ := ha
  have g2 : G (ρ 2).toNat = 604 := by
    have q := (hG _ (List.mem_of_getElem? (i := 2) rfl)).2
    rwa [show ev ρ (0, [(2, 1)]) = ρ 2 from ev_v] at q
  rcases (by omega : ρ 3 ≤ 166 ∨ 167 ≤ ρ 3) with hc | hc
  · refine ⟨_, List.mem_cons_self, ρ, fun _ _ => rfl, fun q hq => absurd hq List.not_mem_nil, trivial, fun f hf => ?_, fun q hq => absurd hq List.not_mem_nil, fun q hq => absurd hq List.not_mem_nil, fun q hq => absurd hq List.not_mem_nil, fun q hq => ?_⟩
    · simp only [List.mem_cons, List.not_mem_nil, or_false] at hf
      subst hf
      show (0 : Int) ≤ ((166) + ((-1) * ρ 3 + 0))
      omega
    · exact absurd hq List.not_mem_nil
  · refine ⟨_, (List.mem_cons_of_mem _ List.mem_cons_self), ρ, fun _ _ => rfl, fun q hq => absurd hq List.not_mem_nil, trivial, fun f hf => ?_, fun q hq => absurd hq List.not_mem_nil, fun q hq => absurd hq List.not_mem_nil, fun q hq => absurd hq List.not_mem_nil, fun q hq => ?_⟩
    · simp only [List.mem_cons, List.not_mem_nil, or_false] at hf
      subst hf
      show (0 : Int) ≤ ((-167) + ((1) * ρ 3 + 0))
      omega
    · exact absurd hq List.not_mem_nil
/-- cap5 -/
theorem lem_163_ok (hU : uqG G C) : lem_163.1.2.1 = [] ∧ lemOK (PRd G C D xs) G rgs lem_163 := by
  refine ⟨rfl, fun ρ h ha hT => ?_⟩
  obtain ⟨-, -, hF, hG, hH, hA, hP⟩ := ha
  have g1 : G (ρ 2).toNat = 605 := by
    have q := (hG _ (List.mem_of_getElem? (i := 1) rfl)).2
    rwa [show ev ρ (0, [(2, 1)]) = ρ 2 from ev_v] at q
  have p0 : ((0) + ((1) * ρ 4 + 0)) = szZ ((0) + ((1) * ρ 1 + 0)) := hP _ (List.mem_of_getElem? (i := 0) rfl)
  rcases (by omega : ρ 3 + ρ 4 ≤ 574 ∨ 575 ≤ ρ 3 + ρ 4) with hc | hc
  · refine ⟨_, List.mem_cons_self, ρ, fun _ _ => rfl, fun q hq => absurd hq List.not_mem_nil, trivial, fun f hf => ?_, fun q hq => absurd hq List.not_mem_nil, fun q hq => absurd hq List.not_mem_nil, fun q hq => absurd hq List.not_mem_nil, fun q hq => ?_⟩
    · simp only [List.mem_cons, List.not_mem_nil, or_false] at hf
      subst hf
      show (0 : Int) ≤ ((574) + ((-1) * ρ 3 + ((-1) * ρ 4 + 0)))
      omega
    · exact absurd hq List.not_mem_nil
  · refine ⟨_, (List.mem_cons_of_mem _ List.mem_cons_self), ρ, fun _ _ => rfl, fun q hq => absurd hq List.not_mem_nil, trivial, fun f hf => ?_, fun q hq => absurd hq List.not_mem_nil, fun q hq => absurd hq List.not_mem_nil, fun q hq => absurd hq List.not_mem_nil, fun q hq => ?_⟩
    · simp only [List.mem_cons, List.not_mem_nil, or_false] at hf
      subst hf
      show (0 : Int) ≤ ((-575) + ((1) * ρ 3 + ((1) * ρ 4 + 0)))
      omega
    · exact absurd hq List.not_mem_nil
/-- capX5 -/
theorem lem_164_ok (hU : uqG G C) : lem_164.1.2.1 = [] ∧ lemOK (PRd G C D xs) G rgs lem_164 := by
  refine ⟨rfl, fun ρ h ha hT => ?_⟩
  obtain ⟨-, -, hF, hG, hH, hA, hP⟩ := ha
  have f0 : (0 : Int) ≤ ((-575) + ((1) * ρ 3 + ((1) * ρ 4 + 0))) := hF _ (List.mem_of_getElem? (i := 0) rfl)
  have f1 : (0 : Int) ≤ ((574) + ((-1) * ρ 3 + ((-1) * ρ 4 + 0))) := hF _ (List.mem_of_getElem? (i := 1) rfl)
  have g1 : G (ρ 2).toNat = 605 := by
    have q := (hG _ (List.mem_of_getElem? (i := 1) rfl)).2
    rwa [show ev ρ (0, [(2, 1)]) = ρ 2 from ev_v] at q
  have p0 : ((0) + ((1) * ρ 4 + 0)) = szZ ((0) + ((1) * ρ 1 + 0)) := hP _ (List.mem_of_getElem? (i := 0) rfl)
  exact absurd f0 (by omega)
/-- capC5 -/
theorem lem_165_ok (hU : uqG G C) : lem_165.1.2.1 = [] ∧ lemOK (PRd G C D xs) G rgs lem_165 := by
  refine ⟨rfl, fun ρ h ha hT => ?_⟩
  obtain ⟨-, -, hF, hG, hH, hA, hP⟩ := ha
  have g1 : G (ρ 1).toNat = 605 := by
    have q := (hG _ (List.mem_of_getElem? (i := 1) rfl)).2
    rwa [show ev ρ (0, [(1, 1)]) = ρ 1 from ev_v] at q
  rcases (by omega : ρ 2 + 1 ≤ 574 ∨ 574 ≤ ρ 2) with hc | hc
  · refine ⟨_, List.mem_cons_self, ρ, fun _ _ => rfl, fun q hq => absurd hq List.not_mem_nil, trivial, fun f hf => ?_, fun q hq => absurd hq List.not_mem_nil, fun q hq => absurd hq List.not_mem_nil, fun q hq => absurd hq List.not_mem_nil, fun q hq => ?_⟩
    · simp only [List.mem_cons, List.not_mem_nil, or_false] at hf
      subst hf
      show (0 : Int) ≤ ((573) + ((-1) * ρ 2 + 0))
      omega
    · exact absurd hq List.not_mem_nil
  · refine ⟨_, (List.mem_cons_of_mem _ List.mem_cons_self), ρ, fun _ _ => rfl, fun q hq => absurd hq List.not_mem_nil, trivial, fun f hf => ?_, fun q hq => absurd hq List.not_mem_nil, fun q hq => absurd hq List.not_mem_nil, fun q hq => absurd hq List.not_mem_nil, fun q hq => ?_⟩
    · simp only [List.mem_cons, List.not_mem_nil, or_false] at hf
      subst hf
      show (0 : Int) ≤ ((-574) + ((1) * ρ 2 + 0))
      omega
    · exact absurd hq List.not_mem_nil
/-- capCX5 -/
theorem lem_166_ok (hU : uqG G C) : lem_166.1.2.1 = [] ∧ lemOK (PRd G C D xs) G rgs lem_166 := by
  refine ⟨rfl, fun ρ h ha hT => ?_⟩
  obtain ⟨-, -, hF, hG, hH, hA, hP⟩ := ha
  have f0 : (0 : Int) ≤ ((-574) + ((1) * ρ 2 + 0)) := hF _ (List.mem_of_getElem? (i := 0) rfl)
  have f1 : (0 : Int) ≤ ((573) + ((-1) * ρ 2 + 0)) := hF _ (List.mem_of_getElem? (i := 1) rfl)
  have g1 : G (ρ 1).toNat = 605 := by
    have q := (hG _ (List.mem_of_getElem? (i := 1) rfl)).2
    rwa [show ev ρ (0, [(1, 1)]) = ρ 1 from ev_v] at q
  exact absurd f0 (by omega)
/-- room5 -/
theorem lem_167_ok (hU : uqG G C) : lem_167.1.2.1 = [] ∧ lemOK (PRd G C D xs) G rgs lem_167 := by
  refine ⟨rfl, fun ρ h ha hT => ?_⟩
  obtain ⟨-, -, hF, hG, hH, hA, hP⟩ := ha
  have g2 : G (ρ 2).toNat = 605 := by
    have q := (hG _ (List.mem_of_getElem? (i := 2) rfl)).2
    rwa [show ev ρ (0, [(2, 1)]) = ρ 2 from ev_v] at q
  rcases (by omega : ρ 3 ≤ 454 ∨ 455 ≤ ρ 3) with hc | hc
  · refine ⟨_, List.mem_cons_self, ρ, fun _ _ => rfl, fun q hq => absurd hq List.not_mem_nil, trivial, fun f hf => ?_, fun q hq => absurd hq List.not_mem_nil, fun q hq => absurd hq List.not_mem_nil, fun q hq => absurd hq List.not_mem_nil, fun q hq => ?_⟩
    · simp only [List.mem_cons, List.not_mem_nil, or_false] at hf
      subst hf
      show (0 : Int) ≤ ((454) + ((-1) * ρ 3 + 0))
      omega
    · exact absurd hq List.not_mem_nil
  · refine ⟨_, (List.mem_cons_of_mem _ List.mem_cons_self), ρ, fun _ _ => rfl, fun q hq => absurd hq List.not_mem_nil, trivial, fun f hf => ?_, fun q hq => absurd hq List.not_mem_nil, fun q hq => absurd hq List.not_mem_nil, fun q hq => absurd hq List.not_mem_nil, fun q hq => ?_⟩
    · simp only [List.mem_cons, List.not_mem_nil, or_false] at hf
      subst hf
      show (0 : Int) ≤ ((-455) + ((1) * ρ 3 + 0))
      omega
    · exact absurd hq List.not_mem_nil
/-- cap6 -/
theorem lem_168_ok (hU : uqG G C) : lem_168.1.2.1 = [] ∧ lemOK (PRd G C D xs) G rgs lem_168 := by
  refine ⟨rfl, fun ρ h ha hT => ?_⟩
  obtain ⟨-, -, hF, hG, hH, hA, hP⟩ := ha
  have g1 : G (ρ 2).toNat = 606 := by
    have q := (hG _ (List.mem_of_getElem? (i := 1) rfl)).2
    rwa [show ev ρ (0, [(2, 1)]) = ρ 2 from ev_v] at q
  have p0 : ((0) + ((1) * ρ 4 + 0)) = szZ ((0) + ((1) * ρ 1 + 0)) := hP _ (List.mem_of_getElem? (i := 0) rfl)
  rcases (by omega : ρ 3 + ρ 4 ≤ 1150 ∨ 1151 ≤ ρ 3 + ρ 4) with hc | hc
  · refine ⟨_, List.mem_cons_self, ρ, fun _ _ => rfl, fun q hq => absurd hq List.not_mem_nil, trivial, fun f hf => ?_, fun q hq => absurd hq List.not_mem_nil, fun q hq => absurd hq List.not_mem_nil, fun q hq => absurd hq List.not_mem_nil, fun q hq => ?_⟩
    · simp only [List.mem_cons, List.not_mem_nil, or_false] at hf
      subst hf
      show (0 : Int) ≤ ((1150) + ((-1) * ρ 3 + ((-1) * ρ 4 + 0)))
      omega
    · exact absurd hq List.not_mem_nil
  · refine ⟨_, (List.mem_cons_of_mem _ List.mem_cons_self), ρ, fun _ _ => rfl, fun q hq => absurd hq List.not_mem_nil, trivial, fun f hf => ?_, fun q hq => absurd hq List.not_mem_nil, fun q hq => absurd hq List.not_mem_nil, fun q hq => absurd hq List.not_mem_nil, fun q hq => ?_⟩
    · simp only [List.mem_cons, List.not_mem_nil, or_false] at hf
      subst hf
      show (0 : Int) ≤ ((-1151) + ((1) * ρ 3 + ((1) * ρ 4 + 0)))
      omega
    · exact absurd hq List.not_mem_nil
/-- capX6 -/
theorem lem_169_ok (hU : uqG G C) : lem_169.1.2.1 = [] ∧ lemOK (PRd G C D xs) G rgs lem_169 := by
  refine ⟨rfl, fun ρ h ha hT => ?_⟩
  obtain ⟨-, -, hF, hG, hH, hA, hP⟩ := ha
  have f0 : (0 : Int) ≤ ((-1151) + ((1) * ρ 3 + ((1) * ρ 4 + 0))) := hF _ (List.mem_of_getElem? (i := 0) rfl)
  have f1 : (0 : Int) ≤ ((1150) + ((-1) * ρ 3 + ((-1) * ρ 4 + 0))) := hF _ (List.mem_of_getElem? (i := 1) rfl)
  have g1 : G (ρ 2).toNat = 606 := by
    have q := (hG _ (List.mem_of_getElem? (i := 1) rfl)).2
    rwa [show ev ρ (0, [(2, 1)]) = ρ 2 from ev_v] at q
  have p0 : ((0) + ((1) * ρ 4 + 0)) = szZ ((0) + ((1) * ρ 1 + 0)) := hP _ (List.mem_of_getElem? (i := 0) rfl)
  exact absurd f0 (by omega)
/-- capC6 -/
theorem lem_170_ok (hU : uqG G C) : lem_170.1.2.1 = [] ∧ lemOK (PRd G C D xs) G rgs lem_170 := by
  refine ⟨rfl, fun ρ h ha hT => ?_⟩
  obtain ⟨-, -, hF, hG, hH, hA, hP⟩ := ha
  have g1 : G (ρ 1).toNat = 606 := by
    have q := (hG _ (List.mem_of_getElem? (i := 1) rfl)).2
    rwa [show ev ρ (0, [(1, 1)]) = ρ 1 from ev_v] at q
  rcases (by omega : ρ 2 + 1 ≤ 1150 ∨ 1150 ≤ ρ 2) with hc | hc
  · refine ⟨_, List.mem_cons_self, ρ, fun _ _ => rfl, fun q hq => absurd hq List.not_mem_nil, trivial, fun f hf => ?_, fun q hq => absurd hq List.not_mem_nil, fun q hq => absurd hq List.not_mem_nil, fun q hq => absurd hq List.not_mem_nil, fun q hq => ?_⟩
    · simp only [List.mem_cons, List.not_mem_nil, or_false] at hf
      subst hf
      show (0 : Int) ≤ ((1149) + ((-1) * ρ 2 + 0))
      omega
    · exact absurd hq List.not_mem_nil
  · refine ⟨_, (List.mem_cons_of_mem _ List.mem_cons_self), ρ, fun _ _ => rfl, fun q hq => absurd hq List.not_mem_nil, trivial, fun f hf => ?_, fun q hq => absurd hq List.not_mem_nil, fun q hq => absurd hq List.not_mem_nil, fun q hq => absurd hq List.not_mem_nil, fun q hq => ?_⟩
    · simp only [List.mem_cons, List.not_mem_nil, or_false] at hf
      subst hf
      show (0 : Int) ≤ ((-1150) + ((1) * ρ 2 + 0))
      omega
    · exact absurd hq List.not_mem_nil
/-- capCX6 -/
theorem lem_171_ok (hU : uqG G C) : lem_171.1.2.1 = [] ∧ lemOK (PRd G C D xs) G rgs lem_171 := by
  refine ⟨rfl, fun ρ h ha hT => ?_⟩
  obtain ⟨-, -, hF, hG, hH, hA, hP⟩ := ha
  have f0 : (0 : Int) ≤ ((-1150) + ((1) * ρ 2 + 0)) := hF _ (List.mem_of_getElem? (i := 0) rfl)
  have f1 : (0 : Int) ≤ ((1149) + ((-1) * ρ 2 + 0)) := hF _ (List.mem_of_getElem? (i := 1) rfl)
  have g1 : G (ρ 1).toNat = 606 := by
    have q := (hG _ (List.mem_of_getElem? (i := 1) rfl)).2
    rwa [show ev ρ (0, [(1, 1)]) = ρ 1 from ev_v] at q
  exact absurd f0 (by omega)
/-- room6 -/
theorem lem_172_ok (hU : uqG G C) : lem_172.1.2.1 = [] ∧ lemOK (PRd G C D xs) G rgs lem_172 := by
  refine ⟨rfl, fun ρ h ha hT => ?_⟩
  obtain ⟨-, -, hF, hG, hH, hA, hP⟩ := ha
  have g2 : G (ρ 2).toNat = 606 := by
    have q := (hG _ (List.mem_of_getElem? (i := 2) rfl)).2
    rwa [show ev ρ (0, [(2, 1)]) = ρ 2 from ev_v] at q
  rcases (by omega : ρ 3 ≤ 1030 ∨ 1031 ≤ ρ 3) with hc | hc
  · refine ⟨_, List.mem_cons_self, ρ, fun _ _ => rfl, fun q hq => absurd hq List.not_mem_nil, trivial, fun f hf => ?_, fun q hq => absurd hq List.not_mem_nil, fun q hq => absurd hq List.not_mem_nil, fun q hq => absurd hq List.not_mem_nil, fun q hq => ?_⟩
    · simp only [List.mem_cons, List.not_mem_nil, or_false] at hf
      subst hf
      show (0 : Int) ≤ ((1030) + ((-1) * ρ 3 + 0))
      omega
    · exact absurd hq List.not_mem_nil
  · refine ⟨_, (List.mem_cons_of_mem _ List.mem_cons_self), ρ, fun _ _ => rfl, fun q hq => absurd hq List.not_mem_nil, trivial, fun f hf => ?_, fun q hq => absurd hq List.not_mem_nil, fun q hq => absurd hq List.not_mem_nil, fun q hq => absurd hq List.not_mem_nil, fun q hq => ?_⟩
    · simp only [List.mem_cons, List.not_mem_nil, or_false] at hf
      subst hf
      show (0 : Int) ≤ ((-1031) + ((1) * ρ 3 + 0))
      omega
    · exact absurd hq List.not_mem_nil
/-- ldC -/
theorem lem_173_ok (hU : uqG G C) : lem_173.1.2.1 = [] ∧ lemOK (PRd G C D xs) G rgs lem_173 := by
  refine ⟨rfl, fun ρ h ha hT => ?_⟩
  obtain ⟨-, -, hF, hG, hH, hA, hP⟩ := ha
  rcases (by omega : ρ 1 ≤ -1 ∨ ρ 2 + 1 ≤ ρ 1 ∨ (0 ≤ ρ 1 ∧ ρ 1 ≤ ρ 2)) with hc | hc | hc
  · exact ⟨_, List.mem_of_getElem? (i := 0) rfl, ρ, fun _ _ => rfl, pureP (fun f hf => by simp only [List.mem_cons, List.not_mem_nil, or_false] at hf; rcases hf with rfl <;> simp only [ev, evT] <;> omega)⟩
  · exact ⟨_, List.mem_of_getElem? (i := 1) rfl, ρ, fun _ _ => rfl, pureP (fun f hf => by simp only [List.mem_cons, List.not_mem_nil, or_false] at hf; rcases hf with rfl <;> simp only [ev, evT] <;> omega)⟩
  · exact ⟨_, List.mem_of_getElem? (i := 2) rfl, ρ, fun _ _ => rfl, pureP (fun f hf => by simp only [List.mem_cons, List.not_mem_nil, or_false] at hf; rcases hf with rfl | rfl <;> simp only [ev, evT] <;> omega)⟩
/-- ldM -/
theorem lem_174_ok (hU : uqG G C) : lem_174.1.2.1 = [] ∧ lemOK (PRd G C D xs) G rgs lem_174 := by
  refine ⟨rfl, fun ρ h ha hT => ?_⟩
  obtain ⟨-, -, hF, hG, hH, hA, hP⟩ := ha
  rcases (by omega : ρ 1 ≤ -1 ∨ ρ 2 + 1 ≤ ρ 1 ∨ (0 ≤ ρ 1 ∧ ρ 1 ≤ ρ 2)) with hc | hc | hc
  · exact ⟨_, List.mem_of_getElem? (i := 0) rfl, ρ, fun _ _ => rfl, pureP (fun f hf => by simp only [List.mem_cons, List.not_mem_nil, or_false] at hf; rcases hf with rfl <;> simp only [ev, evT] <;> omega)⟩
  · exact ⟨_, List.mem_of_getElem? (i := 1) rfl, ρ, fun _ _ => rfl, pureP (fun f hf => by simp only [List.mem_cons, List.not_mem_nil, or_false] at hf; rcases hf with rfl <;> simp only [ev, evT] <;> omega)⟩
  · exact ⟨_, List.mem_of_getElem? (i := 2) rfl, ρ, fun _ _ => rfl, pureP (fun f hf => by simp only [List.mem_cons, List.not_mem_nil, or_false] at hf; rcases hf with rfl | rfl <;> simp only [ev, evT] <;> omega)⟩
/-- next6 -/
theorem lem_175_ok (hU : uqG G C) : lem_175.1.2.1 = [] ∧ lemOK (PRd G C D xs) G rgs lem_175 := by
  refine ⟨rfl, fun ρ h ha hT => ?_⟩
  obtain ⟨-, -, hF, hG, hH, hA, hP⟩ := ha
  have p0 : ((0) + ((1) * ρ 0 + 0)) = 6 * ((0) + ((1) * ρ 1 + 0)) := hP _ (List.mem_of_getElem? (i := 0) rfl)
  refine ⟨_, List.mem_cons_self, ρ, fun _ _ => rfl, fun q hq => absurd hq List.not_mem_nil, trivial, fun f hf => ?_, fun q hq => absurd hq List.not_mem_nil, fun q hq => absurd hq List.not_mem_nil, fun q hq => absurd hq List.not_mem_nil, fun q hq => ?_⟩
  · exact absurd hf List.not_mem_nil
  · simp only [List.mem_cons, List.not_mem_nil, or_false] at hq
    subst hq
    show ((6) + ((1) * ρ 0 + 0)) = 6 * ((1) + ((1) * ρ 1 + 0))
    omega
/-- fleetC -/
theorem lem_176_ok (hU : uqG G C) : lem_176.1.2.1 = [] ∧ lemOK (PRd G C D xs) G rgs lem_176 := by
  refine ⟨rfl, fun ρ h ha hT => ?_⟩
  obtain ⟨-, -, hF, hG, hH, hA, hP⟩ := ha
  rcases (by omega : ρ 1 ≤ 0 ∨ 1 ≤ ρ 1) with hc | hc
  · refine ⟨_, List.mem_cons_self, ρ, fun _ _ => rfl, fun q hq => absurd hq List.not_mem_nil, trivial, fun f hf => ?_, fun q hq => absurd hq List.not_mem_nil, fun q hq => absurd hq List.not_mem_nil, fun q hq => absurd hq List.not_mem_nil, fun q hq => ?_⟩
    · simp only [List.mem_cons, List.not_mem_nil, or_false] at hf
      subst hf
      show (0 : Int) ≤ ((0) + ((-1) * ρ 1 + 0))
      omega
    · exact absurd hq List.not_mem_nil
  · refine ⟨_, (List.mem_cons_of_mem _ List.mem_cons_self), ρ, fun _ _ => rfl, fun q hq => absurd hq List.not_mem_nil, trivial, fun f hf => ?_, fun q hq => absurd hq List.not_mem_nil, fun q hq => absurd hq List.not_mem_nil, fun q hq => absurd hq List.not_mem_nil, fun q hq => ?_⟩
    · simp only [List.mem_cons, List.not_mem_nil, or_false] at hf
      subst hf
      show (0 : Int) ≤ ((-1) + ((1) * ρ 1 + 0))
      omega
    · exact absurd hq List.not_mem_nil
/-- noLo -/
theorem lem_177_ok (hU : uqG G C) : lem_177.1.2.1 = [] ∧ lemOK (PRd G C D xs) G rgs lem_177 := by
  refine ⟨rfl, fun ρ h ha hT => ?_⟩
  obtain ⟨-, -, hF, hG, hH, hA, hP⟩ := ha
  have f0 : (0 : Int) ≤ ((-1) + ((-1) * ρ 0 + 0)) := hF _ (List.mem_of_getElem? (i := 0) rfl)
  have f1 : (0 : Int) ≤ ((0) + ((1) * ρ 0 + 0)) := hF _ (List.mem_of_getElem? (i := 1) rfl)
  exact absurd f0 (by omega)
/-- noHi -/
theorem lem_178_ok (hU : uqG G C) : lem_178.1.2.1 = [] ∧ lemOK (PRd G C D xs) G rgs lem_178 := by
  refine ⟨rfl, fun ρ h ha hT => ?_⟩
  obtain ⟨-, -, hF, hG, hH, hA, hP⟩ := ha
  have f0 : (0 : Int) ≤ ((-1) + ((1) * ρ 1 + ((-1) * ρ 2 + 0))) := hF _ (List.mem_of_getElem? (i := 0) rfl)
  have f1 : (0 : Int) ≤ ((0) + ((-1) * ρ 1 + ((1) * ρ 2 + 0))) := hF _ (List.mem_of_getElem? (i := 1) rfl)
  exact absurd f0 (by omega)
/-- noTwo -/
theorem lem_179_ok (hU : uqG G C) : lem_179.1.2.1 = [] ∧ lemOK (PRd G C D xs) G rgs lem_179 := by
  refine ⟨rfl, fun ρ h ha hT => ?_⟩
  obtain ⟨-, -, hF, hG, hH, hA, hP⟩ := ha
  have f0 : (0 : Int) ≤ ((-1) + ((1) * ρ 1 + ((-1) * ρ 2 + 0))) := hF _ (List.mem_of_getElem? (i := 0) rfl)
  have f1 : (0 : Int) ≤ ((-1) + ((-1) * ρ 1 + 0)) := hF _ (List.mem_of_getElem? (i := 1) rfl)
  have f2 : (0 : Int) ≤ ((0) + ((1) * ρ 2 + 0)) := hF _ (List.mem_of_getElem? (i := 2) rfl)
  exact absurd f0 (by omega)
/-- bLe -/
theorem lem_180_ok (hU : uqG G C) : lem_180.1.2.1 = [] ∧ lemOK (PRd G C D xs) G rgs lem_180 := by
  refine ⟨rfl, fun ρ h ha hT => ?_⟩
  obtain ⟨-, -, hF, hG, hH, hA, hP⟩ := ha
  have f0 : (0 : Int) ≤ ((1180) + ((-1) * ρ 1 + 0)) := hF _ (List.mem_of_getElem? (i := 0) rfl)
  refine ⟨_, List.mem_cons_self, ρ, fun _ _ => rfl, fun q hq => absurd hq List.not_mem_nil, trivial, fun f hf => ?_, fun q hq => absurd hq List.not_mem_nil, fun q hq => absurd hq List.not_mem_nil, fun q hq => absurd hq List.not_mem_nil, fun q hq => ?_⟩
  · simp only [List.mem_cons, List.not_mem_nil, or_false] at hf
    subst hf
    show (0 : Int) ≤ ((1180) + ((-1) * ρ 1 + 0))
    omega
  · exact absurd hq List.not_mem_nil
/-- bGe -/
theorem lem_181_ok (hU : uqG G C) : lem_181.1.2.1 = [] ∧ lemOK (PRd G C D xs) G rgs lem_181 := by
  refine ⟨rfl, fun ρ h ha hT => ?_⟩
  obtain ⟨-, -, hF, hG, hH, hA, hP⟩ := ha
  have f0 : (0 : Int) ≤ ((-1181) + ((1) * ρ 1 + 0)) := hF _ (List.mem_of_getElem? (i := 0) rfl)
  refine ⟨_, List.mem_cons_self, ρ, fun _ _ => rfl, fun q hq => absurd hq List.not_mem_nil, trivial, fun f hf => ?_, fun q hq => absurd hq List.not_mem_nil, fun q hq => absurd hq List.not_mem_nil, fun q hq => absurd hq List.not_mem_nil, fun q hq => ?_⟩
  · simp only [List.mem_cons, List.not_mem_nil, or_false] at hf
    subst hf
    show (0 : Int) ≤ ((-1181) + ((1) * ρ 1 + 0))
    omega
  · exact absurd hq List.not_mem_nil
/-- dir1 -/
theorem lem_182_ok (hU : uqG G C) : lem_182.1.2.1 = [] ∧ lemOK (PRd G C D xs) G rgs lem_182 := by
  refine ⟨rfl, fun ρ h ha hT => ?_⟩
  obtain ⟨-, -, hF, hG, hH, hA, hP⟩ := ha
  have f0 : (0 : Int) ≤ ((1) + ((123) * ρ 1 + ((-1) * ρ 3 + 0))) := hF _ (List.mem_of_getElem? (i := 0) rfl)
  refine ⟨_, List.mem_cons_self, ρ, fun _ _ => rfl, fun q hq => absurd hq List.not_mem_nil, trivial, fun f hf => ?_, fun q hq => absurd hq List.not_mem_nil, fun q hq => absurd hq List.not_mem_nil, fun q hq => absurd hq List.not_mem_nil, fun q hq => ?_⟩
  · simp only [List.mem_cons, List.not_mem_nil, or_false] at hf
    subst hf
    show (0 : Int) ≤ ((1) + ((123) * ρ 1 + ((-1) * ρ 3 + 0)))
    omega
  · exact absurd hq List.not_mem_nil
/-- dir2 -/
theorem lem_183_ok (hU : uqG G C) : lem_183.1.2.1 = [] ∧ lemOK (PRd G C D xs) G rgs lem_183 := by
  refine ⟨rfl, fun ρ h ha hT => ?_⟩
  obtain ⟨-, -, hF, hG, hH, hA, hP⟩ := ha
  have f0 : (0 : Int) ≤ ((2) + ((123) * ρ 1 + ((-1) * ρ 3 + 0))) := hF _ (List.mem_of_getElem? (i := 0) rfl)
  refine ⟨_, List.mem_cons_self, ρ, fun _ _ => rfl, fun q hq => absurd hq List.not_mem_nil, trivial, fun f hf => ?_, fun q hq => absurd hq List.not_mem_nil, fun q hq => absurd hq List.not_mem_nil, fun q hq => absurd hq List.not_mem_nil, fun q hq => ?_⟩
  · simp only [List.mem_cons, List.not_mem_nil, or_false] at hf
    subst hf
    show (0 : Int) ≤ ((2) + ((123) * ρ 1 + ((-1) * ρ 3 + 0)))
    omega
  · exact absurd hq List.not_mem_nil
/-- dir3 -/
theorem lem_184_ok (hU : uqG G C) : lem_184.1.2.1 = [] ∧ lemOK (PRd G C D xs) G rgs lem_184 := by
  refine ⟨rfl, fun ρ h ha hT => ?_⟩
  obtain ⟨-, -, hF, hG, hH, hA, hP⟩ := ha
  have f0 : (0 : Int) ≤ ((3) + ((123) * ρ 1 + ((-1) * ρ 3 + 0))) := hF _ (List.mem_of_getElem? (i := 0) rfl)
  refine ⟨_, List.mem_cons_self, ρ, fun _ _ => rfl, fun q hq => absurd hq List.not_mem_nil, trivial, fun f hf => ?_, fun q hq => absurd hq List.not_mem_nil, fun q hq => absurd hq List.not_mem_nil, fun q hq => absurd hq List.not_mem_nil, fun q hq => ?_⟩
  · simp only [List.mem_cons, List.not_mem_nil, or_false] at hf
    subst hf
    show (0 : Int) ≤ ((3) + ((123) * ρ 1 + ((-1) * ρ 3 + 0)))
    omega
  · exact absurd hq List.not_mem_nil
/-- digP -/
theorem lem_185_ok (hU : uqG G C) : lem_185.1.2.1 = [] ∧ lemOK (PRd G C D xs) G rgs lem_185 := by
  refine ⟨rfl, fun ρ h ha hT => ?_⟩
  obtain ⟨-, -, hF, hG, hH, hA, hP⟩ := ha
  have f0 : (0 : Int) ≤ ((0) + ((1) * ρ 0 + 0)) := hF _ (List.mem_of_getElem? (i := 0) rfl)
  have p0 : ((0) + ((1) * ρ 1 + 0)) = szZ ((0) + ((1) * ρ 0 + 0)) := hP _ (List.mem_of_getElem? (i := 0) rfl)
  refine ⟨_, List.mem_cons_self, ρ, fun _ _ => rfl, fun q hq => absurd hq List.not_mem_nil, trivial, fun f hf => ?_, fun q hq => absurd hq List.not_mem_nil, fun q hq => absurd hq List.not_mem_nil, fun q hq => absurd hq List.not_mem_nil, fun q hq => ?_⟩
  · exact absurd hf List.not_mem_nil
  · simp only [List.mem_cons, List.not_mem_nil, or_false] at hq
    subst hq
    show ((0) + ((1) * ρ 1 + 0)) = szP (-(((0) + ((-1) * ρ 0 + 0))))
    rw [show (-(((0) + ((-1) * ρ 0 + 0))) : Int) = ρ 0 by omega]
    have e : szZ ((0 : Int) + (1 * ρ 0 + 0)) = szP (ρ 0) := by
      rw [show ((0 : Int) + (1 * ρ 0 + 0)) = ρ 0 by omega]
      unfold szZ
      rw [if_pos (by omega)]
    omega
/-- digN -/
theorem lem_186_ok (hU : uqG G C) : lem_186.1.2.1 = [] ∧ lemOK (PRd G C D xs) G rgs lem_186 := by
  refine ⟨rfl, fun ρ h ha hT => ?_⟩
  obtain ⟨-, -, hF, hG, hH, hA, hP⟩ := ha
  have f0 : (0 : Int) ≤ ((-1) + ((-1) * ρ 0 + 0)) := hF _ (List.mem_of_getElem? (i := 0) rfl)
  have p0 : ((0) + ((1) * ρ 1 + 0)) = szZ ((0) + ((1) * ρ 0 + 0)) := hP _ (List.mem_of_getElem? (i := 0) rfl)
  have e : szZ ((0 : Int) + (1 * ρ 0 + 0)) = 1 + szP (-(ρ 0)) := by
    rw [show ((0 : Int) + (1 * ρ 0 + 0)) = ρ 0 by omega]
    unfold szZ
    rw [if_neg (by omega)]
  have e2 := szP_rg (-(ρ 0))
  refine ⟨_, List.mem_cons_self, ρ, fun _ _ => rfl, fun q hq => absurd hq List.not_mem_nil, trivial, fun f hf => ?_, fun q hq => absurd hq List.not_mem_nil, fun q hq => absurd hq List.not_mem_nil, fun q hq => absurd hq List.not_mem_nil, fun q hq => ?_⟩
  · simp only [List.mem_cons, List.not_mem_nil, or_false] at hf
    subst hf
    show (0 : Int) ≤ ((-2) + ((1) * ρ 1 + 0))
    omega
  · simp only [List.mem_cons, List.not_mem_nil, or_false] at hq
    subst hq
    show ((-1) + ((1) * ρ 1 + 0)) = szP (-(((0) + ((1) * ρ 0 + 0))))
    rw [show (-(((0) + ((1) * ρ 0 + 0))) : Int) = -(ρ 0) by omega]
    omega
/-- digQ -/
theorem lem_187_ok (hU : uqG G C) : lem_187.1.2.1 = [] ∧ lemOK (PRd G C D xs) G rgs lem_187 := by
  refine ⟨rfl, fun ρ h ha hT => ?_⟩
  obtain ⟨-, -, hF, hG, hH, hA, hP⟩ := ha
  have f0 : (0 : Int) ≤ ((0) + ((100) * ρ 0 + ((-1) * ρ 1 + 0))) := hF _ (List.mem_of_getElem? (i := 0) rfl)
  have f1 : (0 : Int) ≤ ((99) + ((-100) * ρ 0 + ((1) * ρ 1 + 0))) := hF _ (List.mem_of_getElem? (i := 1) rfl)
  have f2 : (0 : Int) ≤ ((-100) + ((-1) * ρ 1 + 0)) := hF _ (List.mem_of_getElem? (i := 2) rfl)
  have f3 : (0 : Int) ≤ ((2147483648) + ((1) * ρ 1 + 0)) := hF _ (List.mem_of_getElem? (i := 3) rfl)
  have p0 : ((0) + ((1) * ρ 2 + 0)) = szP (-(((0) + ((1) * ρ 1 + 0)))) := hP _ (List.mem_of_getElem? (i := 0) rfl)
  refine ⟨_, List.mem_cons_self, ρ, fun _ _ => rfl, fun q hq => absurd hq List.not_mem_nil, trivial, fun f hf => ?_, fun q hq => absurd hq List.not_mem_nil, fun q hq => absurd hq List.not_mem_nil, fun q hq => absurd hq List.not_mem_nil, fun q hq => ?_⟩
  · exact absurd hf List.not_mem_nil
  · simp only [List.mem_cons, List.not_mem_nil, or_false] at hq
    subst hq
    show ((-2) + ((1) * ρ 2 + 0)) = szP (-(((0) + ((1) * ρ 0 + 0))))
    have e := szP_div (y := -(ρ 1)) (z := -(ρ 0)) (by omega) (by omega) (by omega) (by omega)
    rw [show (-(((0) + ((1) * ρ 0 + 0))) : Int) = -(ρ 0) by omega, e]
    rw [show (-(((0) + ((1) * ρ 1 + 0))) : Int) = -(ρ 1) by omega] at p0
    omega
/-- dig1 -/
theorem lem_188_ok (hU : uqG G C) : lem_188.1.2.1 = [] ∧ lemOK (PRd G C D xs) G rgs lem_188 := by
  refine ⟨rfl, fun ρ h ha hT => ?_⟩
  obtain ⟨-, -, hF, hG, hH, hA, hP⟩ := ha
  have f0 : (0 : Int) ≤ ((0) + ((-1) * ρ 0 + 0)) := hF _ (List.mem_of_getElem? (i := 0) rfl)
  have p0 : ((0) + ((1) * ρ 1 + 0)) = szP (-(((0) + ((1) * ρ 0 + 0)))) := hP _ (List.mem_of_getElem? (i := 0) rfl)
  have e := (szP_rg (-(ρ 0))).1
  rw [show (-(((0) + ((1) * ρ 0 + 0))) : Int) = -(ρ 0) by omega] at p0
  refine ⟨_, List.mem_cons_self, ρ, fun _ _ => rfl, fun q hq => absurd hq List.not_mem_nil, trivial, fun f hf => ?_, fun q hq => absurd hq List.not_mem_nil, fun q hq => absurd hq List.not_mem_nil, fun q hq => absurd hq List.not_mem_nil, fun q hq => ?_⟩
  · simp only [List.mem_cons, List.not_mem_nil, or_false] at hf
    subst hf
    show (0 : Int) ≤ ((-1) + ((1) * ρ 1 + 0))
    omega
  · exact absurd hq List.not_mem_nil
/-- dig2 -/
theorem lem_189_ok (hU : uqG G C) : lem_189.1.2.1 = [] ∧ lemOK (PRd G C D xs) G rgs lem_189 := by
  refine ⟨rfl, fun ρ h ha hT => ?_⟩
  obtain ⟨-, -, hF, hG, hH, hA, hP⟩ := ha
  have f0 : (0 : Int) ≤ ((-10) + ((-1) * ρ 0 + 0)) := hF _ (List.mem_of_getElem? (i := 0) rfl)
  have p0 : ((0) + ((1) * ρ 1 + 0)) = szP (-(((0) + ((1) * ρ 0 + 0)))) := hP _ (List.mem_of_getElem? (i := 0) rfl)
  have e := szP_2 (y := -(ρ 0)) (by omega)
  rw [show (-(((0) + ((1) * ρ 0 + 0))) : Int) = -(ρ 0) by omega] at p0
  refine ⟨_, List.mem_cons_self, ρ, fun _ _ => rfl, fun q hq => absurd hq List.not_mem_nil, trivial, fun f hf => ?_, fun q hq => absurd hq List.not_mem_nil, fun q hq => absurd hq List.not_mem_nil, fun q hq => absurd hq List.not_mem_nil, fun q hq => ?_⟩
  · simp only [List.mem_cons, List.not_mem_nil, or_false] at hf
    subst hf
    show (0 : Int) ≤ ((-2) + ((1) * ρ 1 + 0))
    omega
  · exact absurd hq List.not_mem_nil
/-- dig3 -/
theorem lem_190_ok (hU : uqG G C) : lem_190.1.2.1 = [] ∧ lemOK (PRd G C D xs) G rgs lem_190 := by
  refine ⟨rfl, fun ρ h ha hT => ?_⟩
  obtain ⟨-, -, hF, hG, hH, hA, hP⟩ := ha
  have f0 : (0 : Int) ≤ ((-100) + ((-1) * ρ 0 + 0)) := hF _ (List.mem_of_getElem? (i := 0) rfl)
  have p0 : ((0) + ((1) * ρ 1 + 0)) = szP (-(((0) + ((1) * ρ 0 + 0)))) := hP _ (List.mem_of_getElem? (i := 0) rfl)
  have e := szP_3 (y := -(ρ 0)) (by omega)
  rw [show (-(((0) + ((1) * ρ 0 + 0))) : Int) = -(ρ 0) by omega] at p0
  refine ⟨_, List.mem_cons_self, ρ, fun _ _ => rfl, fun q hq => absurd hq List.not_mem_nil, trivial, fun f hf => ?_, fun q hq => absurd hq List.not_mem_nil, fun q hq => absurd hq List.not_mem_nil, fun q hq => absurd hq List.not_mem_nil, fun q hq => ?_⟩
  · simp only [List.mem_cons, List.not_mem_nil, or_false] at hf
    subst hf
    show (0 : Int) ≤ ((-3) + ((1) * ρ 1 + 0))
    omega
  · exact absurd hq List.not_mem_nil
end LMS
