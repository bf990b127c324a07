section PLM
variable {V : vV}
/-! what is good -/
theorem GD_no {g pl n : Nat} {r c : Int} (hc : c ≤ 0) : GDv V g pl n r c := fun i h1 h2 => absurd h2 (by omega)
theorem GD_sub {g pl n : Nat} {r c r' c' : Int} (hP : GDv V g pl n r c) (h1 : r ≤ r') (h2 : r' + c' ≤ r + c) : GDv V g pl n r' c' := fun i i1 i2 i3 => hP i (by omega) (by omega) i3
theorem gd_mod {cnt : Nat → Int} {i k : Nat} {v : Int} (hm : i % 1777 = k % 1777) (h : gd cnt k v) : gd cnt i v := by
  unfold gd at h ⊢
  rw [hm]
  exact h
theorem GD_ext {g pl n g2 n2 i k : Nat} {r c r2 c2 c' : Int} (hP : GDv V g pl n r c) (hS : GDv V g2 pl n2 r2 c2) (hv : V g i = V g2 k) (hi : (i : Int) = r + c) (hk1 : r2 ≤ k) (hk2 : (k : Int) < r2 + c2) (hk3 : k < n2) (hm : i % 1777 = k % 1777) (hc : c' = c + 1) : GDv V g pl n r c' := fun i' h1 h2 h3 => by
  by_cases he : i' = i
  · subst he
    rw [hv]
    exact gd_mod hm (hS k hk1 hk2 hk3)
  · exact hP i' h1 (by omega) h3
theorem GD_every {g pl n : Nat} {r c : Int} {m j i : Nat} {v cn : Int} (hP : GDv V g pl n r c) (hi : i = 217 + 5 * m + j) (hm : m < 8) (hj : j < 5) (h1 : r ≤ i) (h2 : (i : Int) < r + c) (h3 : i < n) (hc : V pl (24 + m) = cn) (hjc : (j : Int) < cn) (hv : V g i = v) : 1 ≤ v := by
  rw [← hv]
  exact (hP i h1 h2 h3).1 m j hm hj (by omega) (by
    show (j : Int) < V pl (24 + m)
    rw [hc]
    exact hjc)
theorem GD_join {g pl n i : Nat} {r c r2 c2 r3 c3 : Int} (h1 : GDv V g pl n r c) (h2 : GDv V g pl n r2 c2) (hi : (i : Int) = r + c) (hr : r2 ≤ i + 1) (h3 : r3 = r) (hc : r3 + c3 ≤ r2 + c2) (hg : gd (fun m => V pl (24 + m)) i (V g i)) : GDv V g pl n r3 c3 := fun i' a b d => by
  by_cases he : i' = i
  · subst he
    exact hg
  · by_cases hl : i' < i
    · exact h1 i' (by omega) (by omega) d
    · exact h2 i' (by omega) (by omega) d
theorem gd_stock {cnt : Nat → Int} {i : Nat} {v : Int} (h1 : 137 ≤ i) (h2 : i < 177) (hv : 0 ≤ v) : gd cnt i v := ⟨fun m j m1 j1 e _ => by omega, fun _ _ => hv⟩
/-! loads -/
theorem SJ {m c k : Nat} {v : Int} (a : V 124 (24 + m) = c) (b : V 120 (217 + k) = v) (hv : 1 ≤ v) (hm : m < 8) (hc : c < 5) (hk : k = 5 * m + c) (h1 : GDv V 120 124 1777 0 (217 + k)) (h2 : GDv V 120 124 1777 (218 + k) (1559 - k)) {mm cc : Int} (hmm : mm = m) (hcc : cc = c + 1) : P48 V mm cc := fun i hi => by
  subst hmm
  have gd0 : i ≠ 217 + k → gd (fun m => V 124 (24 + m)) i (V 120 i) := fun hne => by
    by_cases hl : i < 217 + k
    · exact h1 i (by omega) (by omega) hi
    · exact h2 i (by omega) (by omega) hi
  by_cases he : i = 217 + k
  · subst he
    rw [b]
    exact ⟨fun _ _ _ _ _ _ => hv, fun _ _ => by omega⟩
  · refine ⟨fun m' j m1 j1 e hcc' => ?_, fun x y => (gd0 he).2 x y⟩
    have hcc' : (j : Int) < if (m' : Int) = m then cc else V 124 (24 + m') := hcc'
    by_cases hmm : (m' : Int) = m
    · rw [if_pos hmm] at hcc'
      refine (gd0 he).1 m' j m1 j1 e ?_
      have : m' = m := by omega
      subst this
      show (j : Int) < V 124 (24 + m')
      rw [a]
      rw [Nat.mod_eq_of_lt hi] at e
      omega
    · rw [if_neg hmm] at hcc'
      exact (gd0 he).1 m' j m1 j1 e hcc'
theorem SD {m : Nat} {c : Int} (a : V 124 (24 + m) = c) {mm : Int} (hmm : mm = m) (h : P48 V mm c) : GDv V 120 124 1777 0 1777 := fun i _ _ hi => by
  subst hmm
  refine gd_cg (cnt := fun m' => if (m' : Int) = m then c else V 124 (24 + m')) (fun m' _ => ?_) (fun _ => rfl) (h i hi)
  by_cases hm' : (m' : Int) = m
  · have : m' = m := by omega
    subst this
    show V 124 (24 + m') = if (m' : Int) = m' then c else V 124 (24 + m')
    rw [if_pos rfl, a]
  · show V 124 (24 + m') = if (m' : Int) = m then c else V 124 (24 + m')
    rw [if_neg hm']
/-! the rules' nodes -/
theorem node_lo {s l : Int} {n : Nat} (hl : l ≤ s) (h : nodeOK V s n) : nodeOK V l n := ⟨fun k => by
  obtain ⟨a, b, c, d, e⟩ := h.1 k
  exact ⟨by omega, b, by omega, d, e⟩, fun k => by
  obtain ⟨a, b⟩ := h.2.1 k
  exact ⟨by omega, b⟩, h.2.2⟩
theorem closed_join {l s e : Int} (hl : l ≤ s) (h1 : closed V l s) (h2 : closed V s e) : closed V l e := fun n a b => by
  by_cases hn : (n : Int) < s
  · exact h1 n a hn
  · exact node_lo hl (h2 n (by omega) b)
theorem closed_one {l e : Int} (h1 : closed V l e) {n : Nat} (hn : (n : Int) = e) {e' : Int} (he : e' = e + 1) (h : nodeOK V l n) : closed V l e' := fun n' a b => by
  by_cases h' : (n' : Int) < e
  · exact h1 n' a h'
  · have : n' = n := by omega
    subst this
    exact h
theorem frst_pos : ∀ {f : Nat} {e c : Int}, frst V f e c → 1 ≤ c
  | 0, _, _, h => h.elim
  | _ + 1, _, _, h => by
    rcases h.2 with ⟨a, -⟩ | ⟨a, -⟩ <;> omega
/-- the top interval and what lies under it -/
theorem frst_top {f : Nat} {e c y s : Int} (h : frst V f e c) (hc : c = 2048 * y + s) (hs : 1 ≤ s) (hs2 : s ≤ 2047) (hy : 1 ≤ y) : e ≤ 1400 ∧ s - 1 < e ∧ closed V (s - 1) e ∧ ∃ f', frst V f' (s - 1) y := by
  cases f with
  | zero => exact h.elim
  | succ f =>
    obtain ⟨h1, h2⟩ := h
    rcases h2 with ⟨a, b, -⟩ | ⟨a, b, d, g, i⟩
    · omega
    · have e1 : c % 2048 = s := by omega
      have e2 : c / 2048 = y := by omega
      rw [e1] at d g i
      rw [e2] at i
      exact ⟨h1, d, g, f, i⟩
theorem frst_mk {f : Nat} {e c y s : Int} (he : e ≤ 1400) (hc : c = 2048 * y + s) (hs : 1 ≤ s) (hs2 : s ≤ 2047) (hl : s - 1 < e) (hcl : closed V (s - 1) e) (h : frst V f (s - 1) y) : frst V (f + 1) e c := by
  have := frst_pos h
  have e1 : c % 2048 = s := by omega
  have e2 : c / 2048 = y := by omega
  exact ⟨he, Or.inr ⟨by omega, by omega, by rw [e1]; exact hl, by rw [e1]; exact hcl, by rw [e1, e2]; exact h⟩⟩
theorem L70 {n w k a : Int} (h : P70 V n w) (hw : w = 8 * a + k) (h1 : 0 ≤ k) (h2 : k ≤ 7) : V 137 n.toNat = k ∧ V 138 n.toNat = a := by
  obtain ⟨a1, a2, a3, a4, a5⟩ := h
  omega
theorem mkLeaf_ok {w hh k x e z : Int} (h1 : 3 ≤ hh) (h2 : hh ≤ 5) (h3 : 0 ≤ w) (h4 : w ≤ 4) (h5 : 0 ≤ k) (h6 : k ≤ 1399) (p : P60 V k x) {q : Int} (p2 : P70 V k q) (hq : q = 8 * w + hh) (he : e = k + 1) (hz : z = 2048 * x + k + 1) : P60 V e z ∧ P64 z x := by
  obtain ⟨f, p⟩ := p
  obtain ⟨a, b⟩ := L70 p2 hq (by omega) (by omega)
  have hx := frst_pos p
  refine ⟨⟨f + 1, frst_mk (y := x) (s := k + 1) (by omega) (by omega) (by omega) (by omega) (by omega) ?_ (by rwa [show k + 1 - 1 = k by omega])⟩, k + 1, by omega, by omega, by omega, hx⟩
  intro n n1 n2
  have : n = k.toNat := by omega
  subst this
  refine ⟨fun h => by omega, fun h => by omega, fun _ => by omega⟩
theorem mkNot_ok {k x y w e : Int} (h1 : 1 ≤ k) (h2 : k ≤ 1399) (p : P60 V k x) (p2 : P64 x y) (p3 : P70 V k w) (hw : w = 8 * k - 6) (he : e = k + 1) : P60 V e x := by
  obtain ⟨f, p⟩ := p
  obtain ⟨s, s1, s2, s3, s4⟩ := p2
  obtain ⟨a, b⟩ := L70 (k := 2) (a := k - 1) p3 (by omega) (by omega) (by omega)
  obtain ⟨t1, t2, t3, f', t4⟩ := frst_top p s3 s1 s2 s4
  refine ⟨f' + 1, frst_mk (by omega) s3 s1 s2 (by omega) (closed_one t3 (n := k.toNat) (by omega) he ⟨fun h => by omega, fun _ => by omega, fun h => by omega⟩) t4⟩
theorem preOver_ok {n k x y z : Int} (h1 : 0 ≤ n) (h2 : n + 1 ≤ k) (h3 : k ≤ 1399) (hx : x = 2048 * y + n + 2) (p : P60 V k x) (p2 : P64 x y) (hz : z = 2048 * x + k + 1) : P61 V n z ∧ P64 z x := by
  obtain ⟨f, p⟩ := p
  obtain ⟨s, s1, s2, s3, s4⟩ := p2
  obtain ⟨t1, t2, t3, f', t4⟩ := frst_top p s3 s1 s2 s4
  have hs : s = n + 2 := by omega
  subst hs
  refine ⟨⟨h1, x, k, hz, by omega, by omega, f' + 1, fun v => frst_mk t1 s3 s1 s2 t2 ?_ ?_⟩, k + 1, by omega, by omega, by omega, by omega⟩
  · refine closed_cg (V := V) (by omega) (fun g i g1 g2 _ _ => ?_) (fun i i1 _ => ?_) t3
    · unfold upV
      rw [if_neg (by omega)]
    · unfold upV
      rw [if_neg (by omega)]
  · refine frst_cg (V := V) (E := n + 2 - 1) (fun g i g1 g2 _ => ?_) (fun i i1 => ?_) (Int.le_refl _) t4
    · unfold upV
      rw [if_neg (by omega)]
    · unfold upV
      rw [if_neg (by omega)]
theorem merge_ok {n k z x y u w v e : Int} {o : Int} (ho : V 140 n.toNat = o) (hok : o = k) (h1 : 0 ≤ n) (h2 : n + 1 ≤ k) (h3 : k ≤ 1399) (hz : z = 2048 * x + k + 1) (hx : x = 2048 * y + n + 2) (hw1 : 8 * n ≤ w) (hw2 : w ≤ 8 * n + 1) (hv : v = k - 1) (p : P61 V n z) (p1 : P64 y u) (p2 : P64 x y) (p3 : P70 V k w) (p4 : P71 V k v) (he : e = k + 1) : P60 V e y := by
  obtain ⟨-, x', k', hz', k1, k2, f, p⟩ := p
  have hxx : x' = x := by omega
  have hkk : k' = k := by omega
  subst hxx
  subst hkk
  have p := p (V 140 n.toNat)
  have hV : upV V 140 n.toNat (V 140 n.toNat) = V := by
    funext g i
    unfold upV
    split
    next h => rw [h.1, h.2]
    next => rfl
  rw [hV] at p
  obtain ⟨s, s1, s2, s3, s4⟩ := p2
  obtain ⟨t1, t2, t3, f', t4⟩ := frst_top p s3 s1 s2 s4
  have hs : s = n + 2 := by omega
  subst hs
  obtain ⟨r, r1, r2, r3, r4⟩ := p1
  obtain ⟨q1, q2, q3, f2, q4⟩ := frst_top t4 r3 r1 r2 r4
  obtain ⟨a, b⟩ := L70 (k := w - 8 * n) (a := n) p3 (by omega) (by omega) (by omega)
  have c := p4.2.2
  refine ⟨f2 + 1, frst_mk (by omega) r3 r1 r2 (by omega) (closed_one (closed_join (by omega) q3 t3) (n := k'.toNat) (by omega) he ⟨fun _ => ⟨by omega, by omega, by omega, by omega, ?_⟩, fun h => by omega, fun h => by omega⟩) q4⟩
  rw [b, ho]
  omega
theorem fold_ok : ∀ {f f' : Nat} {e c l : Int}, frst V f e c → btm f' c l → 0 ≤ l ∧ l ≤ e ∧ closed V l e
  | 0, _, _, _, _, h, _ => h.elim
  | _ + 1, 0, _, _, _, _, h => h.elim
  | f + 1, f' + 1, e, c, l, h, h' => by
    rcases h.2 with ⟨a, b, d, x⟩ | ⟨a, b, d, x, y⟩
    · rcases h' with ⟨a', b', e'⟩ | ⟨a', -⟩
      · subst e'
        exact ⟨by omega, d, x⟩
      · omega
    · rcases h' with ⟨a', b', e'⟩ | ⟨a', h'⟩
      · omega
      · obtain ⟨l0, l1, l2⟩ := fold_ok y h'
        exact ⟨l0, by omega, closed_join l1 l2 x⟩
theorem down_ok {n k f a b : Int} (ha : V 137 k.toNat = a) (ha1 : a ≤ 1) (hb : V 138 k.toNat = b) (hf : b = f) (h : P68 V n k) : 0 ≤ f ∧ f ≤ k - 1 ∧ P68 V n f := by
  obtain ⟨l, hi, l0, a1, hc, n1, n2, j, hj, hk⟩ := h
  have hkn : k.toNat = itN V n.toNat j := by omega
  obtain ⟨i1, i2⟩ := itN_in l0 hc (n := n.toNat) (by omega) (by omega) hk
  obtain ⟨x1, x2, -⟩ := (hc (itN V n.toNat j) i1 (by omega)).1 (by rw [← hkn, ha]; exact ha1)
  rw [← hkn, hb] at x1 x2
  refine ⟨by omega, by omega, l, hi, l0, a1, hc, n1, n2, j + 1, ?_, fun i hi' => ?_⟩
  · show ((V 138 (itN V n.toNat j)).toNat : Int) = f
    rw [← hkn, hb]
    omega
  · by_cases hij : i = j
    · subst hij
      rw [← hkn, ha]
      exact ha1
    · exact hk i (by omega)
theorem up_ok {n k o g : Int} (ho : V 140 k.toNat = g) (hg : g = o) (hkn : k ≤ n - 1) (h : P68 V n k) : k + 1 ≤ o ∧ o ≤ n ∧ P68 V n o ∧ P69 V n o := by
  obtain ⟨l, hi, l0, a1, hc, n1, n2, j, hj, hk⟩ := h
  cases j with
  | zero =>
    have hj : (n.toNat : Int) = k := hj
    omega
  | succ j =>
    have hk' : ∀ i, i < j → V 137 (itN V n.toNat i) ≤ 1 := fun i hi' => hk i (by omega)
    obtain ⟨i1, i2⟩ := itN_in l0 hc (n := n.toNat) (by omega) (by omega) hk'
    have hkd := hk j (by omega)
    obtain ⟨x1, x2, x3, x4, x5⟩ := (hc (itN V n.toNat j) i1 (by omega)).1 hkd
    have hj : ((V 138 (itN V n.toNat j)).toNat : Int) = k := hj
    have e : k.toNat = (V 138 (itN V n.toNat j)).toNat := by omega
    rw [← e, ho] at x5
    have p : P68 V n o := ⟨l, hi, l0, a1, hc, n1, n2, j, by omega, hk'⟩
    refine ⟨by omega, by omega, p, p, ?_⟩
    rw [show o.toNat = itN V n.toNat j by omega]
    exact hkd
theorem sec_ok {n k s g l : Int} (hs : V 139 k.toNat = g) (hg : g = s) (h : P69 V n k) (p : P67 V n l) : l ≤ s ∧ s ≤ n - 1 ∧ n ≤ l + 699 ∧ 0 ≤ l ∧ P67 V s l := by
  obtain ⟨⟨-, -, -, -, -, -, -, j, hj, hk⟩, h2⟩ := h
  obtain ⟨hi, l0, a1, a2, hc, n1, n2⟩ := p
  obtain ⟨i1, i2⟩ := itN_in l0 hc (n := n.toNat) (by omega) (by omega) hk
  have e : k.toNat = itN V n.toNat j := by omega
  obtain ⟨x1, x2, x3, x4, x5⟩ := (hc (itN V n.toNat j) i1 (by omega)).1 (by rw [← e]; exact h2)
  rw [← e, hs] at x3 x4
  exact ⟨by omega, by omega, by omega, l0, hi, l0, a1, a2, hc, by omega, by omega⟩
theorem leaf_ok {n k l : Int} (h : P68 V n k) (p : P67 V n l) : l ≤ k ∧ k ≤ n ∧ n ≤ l + 699 ∧ P67 V k l := by
  obtain ⟨-, -, -, -, -, -, -, j, hj, hk⟩ := h
  obtain ⟨hi, l0, a1, a2, hc, n1, n2⟩ := p
  obtain ⟨i1, i2⟩ := itN_in l0 hc (n := n.toNat) (by omega) (by omega) hk
  exact ⟨by omega, by omega, by omega, hi, l0, a1, a2, hc, by omega, by omega⟩
theorem noot_ok {n s a b l : Int} (ha : V 137 n.toNat = a) (h2 : a = 2) (hb : V 138 n.toNat = b) (hbs : b = s) (p : P67 V n l) : l ≤ s ∧ s ≤ n - 1 ∧ n ≤ l + 699 ∧ P67 V s l := by
  obtain ⟨hi, l0, a1, a2, hc, n1, n2⟩ := p
  obtain ⟨x1, x2⟩ := (hc n.toNat (by omega) (by omega)).2.1 (by omega)
  exact ⟨by omega, by omega, by omega, hi, l0, a1, a2, hc, by omega, by omega⟩
theorem comp_ok {n a b l : Int} (ha : V 137 n.toNat = a) (h2 : 3 ≤ a) (hb : V 138 n.toNat = b) (p : P67 V n l) : 0 ≤ b ∧ b ≤ 4 := by
  obtain ⟨hi, l0, a1, a2, hc, n1, n2⟩ := p
  have := (hc n.toNat (by omega) (by omega)).2.2 (by omega)
  omega
theorem root_ok {l n c m r : Int} (hc : V 123 50 = c) (hm : V 123 (51 + r.toNat) = m) (hmn : m = n) (r0 : 0 ≤ r) (r1 : r ≤ c - 1) (r3 : r ≤ 3) (p : rts V 123 l) : l ≤ n ∧ n ≤ l + 699 ∧ P67 V n l := by
  obtain ⟨hi, l0, a1, a2, hcl, hr⟩ := p
  have := hr r.toNat (by omega) (by omega)
  exact ⟨by omega, by omega, hi, l0, a1, a2, hcl, by omega, by omega⟩
/-! the route's minutes -/
theorem ab_sym {x y : Int} : ab (x - y) = ab (y - x) := by
  unfold ab
  split <;> split <;> omega
theorem wW_sym {a b : Int} : wW V a b = wW V b a := by
  unfold wW
  rw [ab_sym (x := wX V a), ab_sym (x := wY V a)]
theorem ab_0 {x : Int} : 0 ≤ ab x := by
  unfold ab
  split <;> omega
theorem wW_0 {a b : Int} : 0 ≤ wW V a b := by
  unfold wW
  have := ab_0 (x := wX V a - wX V b)
  have := ab_0 (x := wY V a - wY V b)
  omega
theorem sm_cg {f g : Nat → Int} : ∀ {n : Nat}, (∀ k, k < n → f k = g k) → sm f n = sm g n
  | 0, _ => rfl
  | n + 1, h => by
    show sm f n + f n = sm g n + g n
    rw [sm_cg (fun k hk => h k (by omega)), h n (by omega)]
theorem sm_0 {f : Nat → Int} : ∀ {n : Nat}, (∀ k, k < n → 0 ≤ f k) → 0 ≤ sm f n
  | 0, _ => Int.le_refl _
  | n + 1, h => by
    show 0 ≤ sm f n + f n
    have := sm_0 (f := f) (n := n) (fun k hk => h k (by omega))
    have := h n (by omega)
    omega
theorem sm_le {f : Nat → Int} {B : Int} : ∀ {n : Nat}, (∀ k, k < n → f k ≤ B) → sm f n ≤ n * B
  | 0, _ => by
    show (0 : Int) ≤ ((0 : Nat) : Int) * B
    omega
  | n + 1, h => by
    show sm f n + f n ≤ ((n + 1 : Nat) : Int) * B
    have := sm_le (f := f) (B := B) (n := n) (fun k hk => h k (by omega))
    have := h n (by omega)
    rw [Int.natCast_add, Int.add_mul]
    omega
theorem sm_add (f : Nat → Int) (a : Nat) : ∀ b, sm f (a + b) = sm f a + sm (fun k => f (a + k)) b
  | 0 => by
    show sm f a = sm f a + 0
    omega
  | b + 1 => by
    show sm f (a + b) + f (a + b) = sm f a + (sm (fun k => f (a + k)) b + f (a + b))
    rw [sm_add f a b]
    omega
theorem sm_hd (f : Nat → Int) : ∀ n, sm f (n + 1) = f 0 + sm (fun k => f (k + 1)) n
  | 0 => by
    show 0 + f 0 = f 0 + 0
    omega
  | n + 1 => by
    show sm f (n + 1) + f (n + 1) = f 0 + (sm (fun k => f (k + 1)) n + f (n + 1))
    rw [sm_hd f n]
    omega
theorem sm_rv (g : Nat → Int) : ∀ d, sm (fun k => g (d - 1 - k)) d = sm g d
  | 0 => rfl
  | d + 1 => by
    rw [sm_hd]
    show g (d + 1 - 1 - 0) + sm (fun k => g (d + 1 - 1 - (k + 1))) d = sm g d + g d
    rw [show d + 1 - 1 - 0 = d by omega, sm_cg (g := fun k => g (d - 1 - k)) (fun k _ => by rw [show d + 1 - 1 - (k + 1) = d - 1 - k by omega]), sm_rv g d]
    omega
theorem sm5 (f : Nat → Int) (i d r : Nat) : sm f (i + 1 + d + 1 + r) = sm f i + f i + sm (fun k => f (i + 1 + k)) d + f (i + 1 + d) + sm (fun k => f (i + 1 + d + 1 + k)) r := by
  rw [sm_add f (i + 1 + d + 1) r]
  show sm f (i + 1 + d) + f (i + 1 + d) + _ = _
  rw [sm_add f (i + 1) d]
  rfl
theorem sf_rv1 {ρ : Nat → Int} {i j : Nat} {m p : Int} (h : p < i ∨ (j : Int) < p) : sf (rev i j ρ) m p = sf ρ m p := by
  unfold sf
  split
  next hp =>
    unfold rev
    rw [if_neg (by omega)]
  next => rfl
theorem sf_rv2 {ρ : Nat → Int} {i j : Nat} {m p : Int} (h1 : (i : Int) ≤ p) (h2 : p ≤ j) (hj : (j : Int) < m) (hm : m ≤ 8) : sf (rev i j ρ) m p = sf ρ m (i + j - p) := by
  unfold sf
  rw [if_pos (by omega), if_pos (by omega)]
  unfold rev
  rw [if_pos (by omega)]
  congr 1
  omega
theorem two {ρ : Nat → Int} {m : Int} {i j : Nat} (hij : i < j) (hj : (j : Int) < m) (h8 : m ≤ 8) : pT V (rev i j ρ) m = pT V ρ m - wW V (sf ρ m ((i : Int) - 1)) (sf ρ m i) - wW V (sf ρ m j) (sf ρ m (j + 1)) + wW V (sf ρ m ((i : Int) - 1)) (sf ρ m j) + wW V (sf ρ m i) (sf ρ m (j + 1)) := by
  unfold pT
  obtain ⟨d, hd⟩ : ∃ d, j = i + d := ⟨j - i, by omega⟩
  obtain ⟨r, hr⟩ : ∃ r, m.toNat + 1 = i + 1 + d + 1 + r := ⟨m.toNat + 1 - (i + 1 + d + 1), by omega⟩
  rw [hr, sm5, sm5]
  have a1 : sm (eg V (rev i j ρ) m) i = sm (eg V ρ m) i := sm_cg fun k hk => by
    unfold eg
    rw [sf_rv1 (Or.inl (by omega)), sf_rv1 (Or.inl (by omega))]
  have a2 : eg V (rev i j ρ) m i = wW V (sf ρ m ((i : Int) - 1)) (sf ρ m j) := by
    unfold eg
    rw [sf_rv1 (Or.inl (by omega)), sf_rv2 (by omega) (by omega) hj h8, show (i : Int) + j - i = j by omega]
  have a3 : sm (fun k => eg V (rev i j ρ) m (i + 1 + k)) d = sm (fun k => eg V ρ m (i + 1 + k)) d := by
    rw [← sm_rv (fun k => eg V ρ m (i + 1 + k)) d]
    refine sm_cg fun k hk => ?_
    unfold eg
    rw [sf_rv2 (by omega) (by omega) hj h8, sf_rv2 (by omega) (by omega) hj h8, wW_sym]
    congr 1
    · congr 1
      omega
    · congr 1
      omega
  have a4 : eg V (rev i j ρ) m (i + 1 + d) = wW V (sf ρ m i) (sf ρ m (j + 1)) := by
    unfold eg
    rw [sf_rv2 (by omega) (by omega) hj h8, sf_rv1 (Or.inr (by omega)), show (i : Int) + j - (((i + 1 + d : Nat) : Int) - 1) = i by omega, show ((i + 1 + d : Nat) : Int) = (j : Int) + 1 by omega]
  have a5 : sm (fun k => eg V (rev i j ρ) m (i + 1 + d + 1 + k)) r = sm (fun k => eg V ρ m (i + 1 + d + 1 + k)) r := sm_cg fun k hk => by
    unfold eg
    rw [sf_rv1 (Or.inr (by omega)), sf_rv1 (Or.inr (by omega))]
  have b1 : eg V ρ m i = wW V (sf ρ m ((i : Int) - 1)) (sf ρ m i) := rfl
  have b2 : eg V ρ m (i + 1 + d) = wW V (sf ρ m j) (sf ρ m (j + 1)) := by
    unfold eg
    rw [show (((i + 1 + d : Nat) : Int) - 1) = j by omega, show ((i + 1 + d : Nat) : Int) = (j : Int) + 1 by omega]
  rw [a1, a2, a3, a4, a5, b1, b2]
  omega
theorem rev_no {ρ : Nat → Int} {i j : Nat} (h : j ≤ i) : rev i j ρ = ρ := by
  funext k
  unfold rev
  split
  · congr 1
    omega
  · rfl
theorem sf_in {ρ : Nat → Int} {m p : Int} (h1 : 0 ≤ p) (h2 : p < m) (h3 : p < 8) : sf ρ m p = ρ p.toNat := by
  unfold sf
  rw [if_pos ⟨h1, h2, h3⟩]
theorem sf_out {ρ : Nat → Int} {m p : Int} (h : p < 0 ∨ m ≤ p) : sf ρ m p = -1 := by
  unfold sf
  rw [if_neg (by omega)]
theorem ro_at {i : Nat} (h : i < 8) : ro V i = V 142 i := by
  unfold ro r8
  rw [if_pos h]
theorem sf_rg {m p : Int} (hR : ∀ i, i < 8 → 0 ≤ V 142 i ∧ V 142 i ≤ 7) : -1 ≤ sf (ro V) m p ∧ sf (ro V) m p ≤ 7 := by
  unfold sf
  split
  next h =>
    rw [ro_at (by omega)]
    have := hR p.toNat (by omega)
    omega
  next => omega
theorem stopIn_ok {m p v k : Int} (hv : V 142 p.toNat = v) (h0 : 0 ≤ p) (h1 : p ≤ m - 1) (h2 : m ≤ 8) (hk : k = 16 * m + p + 1) : P80 V k v := by
  unfold P80
  rw [show k / 16 = m by omega, show k % 16 - 1 = p by omega, sf_in h0 (by omega) (by omega), ro_at (by omega), hv]
theorem stopOut_ok {m p v k : Int} (hv : v = -1) (h0 : p = -1 ∨ (m ≤ p ∧ 0 ≤ p)) (h1 : p ≤ 14) (h2 : 0 ≤ m) (hk : k = 16 * m + p + 1) : P80 V k v := by
  unfold P80
  rw [show k / 16 = m by omega, show k % 16 - 1 = p by omega, sf_out (by omega), hv]
theorem way_ok {a b x1 y1 x2 y2 q1 q2 w k d1 d2 : Int} (hx1 : wX V a = x1) (hy1 : wY V a = y1) (hx2 : wX V b = x2) (hy2 : wY V b = y2) (h1 : q1 = ab d1) (h2 : q2 = ab d2) (e1 : d1 = x1 - x2) (e2 : d2 = y1 - y2) (hw : w = q1 + q2) (a0 : -1 ≤ a) (b0 : -1 ≤ b) (b1 : b ≤ 7) (hk : k = 9 * a + b + 10) : P81 V k w := by
  unfold P81 wW
  rw [show k / 9 - 1 = a by omega, show k % 9 - 1 = b by omega, hx1, hx2, hy1, hy2, ← e1, ← e2, ← h1, ← h2, hw]
theorem wX0 {a x : Int} (ha : a < 0) (h : V 123 0 = x) : wX V a = x := by
  unfold wX
  rw [if_pos ha, h]
theorem wY0 {a x : Int} (ha : a < 0) (h : V 123 1 = x) : wY V a = x := by
  unfold wY
  rw [if_pos ha, h]
theorem wX1 {a x : Int} {i : Nat} (h0 : 0 ≤ a) (h7 : a ≤ 7) (h : V 123 i = x) (hi : (i : Int) = 8 + a) : wX V a = x := by
  unfold wX
  rw [if_neg (by omega), show 8 + a.toNat % 8 = i by omega, h]
theorem wY1 {a x : Int} {i : Nat} (h0 : 0 ≤ a) (h7 : a ≤ 7) (h : V 123 i = x) (hi : (i : Int) = 16 + a) : wY V a = x := by
  unfold wY
  rw [if_neg (by omega), show 16 + a.toNat % 8 = i by omega, h]
theorem pair_ok {m p q a b w k1 k2 k3 k : Int} (hR : ∀ i, i < 8 → 0 ≤ V 142 i ∧ V 142 i ≤ 7) (h1 : P80 V k1 a) (h2 : P80 V k2 b) (h3 : P81 V k3 w) (e1 : k1 = 16 * m + p + 1) (e2 : k2 = 16 * m + q + 1) (e3 : k3 = 9 * a + b + 10) (p0 : -1 ≤ p) (p1 : p ≤ 8) (q0 : -1 ≤ q) (q1 : q ≤ 8) (m0 : 0 ≤ m) (hk : k = 4096 * m + 64 * (p + 1) + q + 1) : P79 V k w := by
  unfold P80 at h1 h2
  rw [show k1 / 16 = m by omega, show k1 % 16 - 1 = p by omega] at h1
  rw [show k2 / 16 = m by omega, show k2 % 16 - 1 = q by omega] at h2
  have r1 := sf_rg (V := V) (m := m) (p := p) hR
  have r2 := sf_rg (V := V) (m := m) (p := q) hR
  rw [← h1] at r1
  rw [← h2] at r2
  unfold P81 at h3
  rw [show k3 / 9 - 1 = a by omega, show k3 % 9 - 1 = b by omega] at h3
  unfold P79
  rw [show k / 4096 = m by omega, show k / 64 % 64 - 1 = p by omega, show k % 64 - 1 = q by omega, ← h1, ← h2]
  exact h3
theorem L79 {m p q k w : Int} (h : P79 V k w) (hk : k = 4096 * m + 64 * (p + 1) + q + 1) (p0 : -1 ≤ p) (p1 : p ≤ 8) (q0 : -1 ≤ q) (q1 : q ≤ 8) : w = wW V (sf (ro V) m p) (sf (ro V) m q) := by
  unfold P79 at h
  rwa [show k / 4096 = m by omega, show k / 64 % 64 - 1 = p by omega, show k % 64 - 1 = q by omega] at h
theorem L83 {m i j k S : Int} (hk : k = 256 * m + 16 * i + j) (i0 : 0 ≤ i) (i1 : i ≤ 15) (j0 : 0 ≤ j) (j1 : j ≤ 15) : P83 V k S ↔ S = pT V (rev i.toNat j.toNat (ro V)) m := by
  unfold P83
  rw [show k / 16 % 16 = i by omega, show k % 16 = j by omega, show k / 256 = m by omega]
theorem pT_0 {ρ : Nat → Int} {m : Int} : 0 ≤ pT V ρ m := sm_0 fun _ _ => wW_0
theorem twoOpt_ok {m i j w1 w2 w3 w4 S S' k1 k2 k3 k4 k m' : Int} (i0 : 0 ≤ i) (hij : i + 1 ≤ j) (hj : j + 1 ≤ m) (h8 : m ≤ 8) (h1 : P79 V k1 w1) (h2 : P79 V k2 w2) (h3 : P79 V k3 w3) (h4 : P79 V k4 w4) (h5 : P82 V m' S) (hm : m' = m) (e1 : k1 = 4096 * m + 65 * i + 1) (e2 : k2 = 4096 * m + 65 * j + 66) (e3 : k3 = 4096 * m + 64 * i + j + 1) (e4 : k4 = 4096 * m + 64 * i + j + 66) (hS : S' = S - (w1 + w2) + (w3 + w4)) (hk : k = 256 * m + 16 * i + j) : 0 ≤ S' ∧ P83 V k S' := by
  subst hm
  have a1 := L79 (m := m') (p := i - 1) (q := i) h1 (by omega) (by omega) (by omega) (by omega) (by omega)
  have a2 := L79 (m := m') (p := j) (q := j + 1) h2 (by omega) (by omega) (by omega) (by omega) (by omega)
  have a3 := L79 (m := m') (p := i - 1) (q := j) h3 (by omega) (by omega) (by omega) (by omega) (by omega)
  have a4 := L79 (m := m') (p := i) (q := j + 1) h4 (by omega) (by omega) (by omega) (by omega) (by omega)
  have ht := two (V := V) (ρ := ro V) (m := m') (i := i.toNat) (j := j.toNat) (by omega) (by omega) h8
  rw [show ((i.toNat : Nat) : Int) = i by omega, show ((j.toNat : Nat) : Int) = j by omega, ← a1, ← a2, ← a3, ← a4, ← h5] at ht
  have hS' : S' = pT V (rev i.toNat j.toNat (ro V)) m' := by rw [ht]; omega
  refine ⟨by rw [hS']; exact pT_0, (L83 hk i0 (by omega) (by omega) (by omega)).mpr hS'⟩
theorem revDone_ok {m m' i j k S : Int} (h : P83 V k S) (hij : j ≤ i) (i0 : 0 ≤ i) (i1 : i ≤ 9) (j0 : 0 ≤ j) (j1 : j ≤ 9) (hm : m' = m) (hk : k = 256 * m + 16 * i + j) : P82 V m' S := by
  subst hm
  rw [L83 hk i0 (by omega) j0 (by omega), rev_no (by omega)] at h
  exact h
theorem swap1_ok {m i j v S k c a : Int} (hv : V 142 i.toNat = v) (i0 : 0 ≤ i) (hij : i + 1 ≤ j) (hj : j + 1 ≤ m) (h8 : m ≤ 8) (v0 : 0 ≤ v) (v7 : v ≤ 7) (h : P83 V k S) (hk : k = 256 * m + 16 * i + j) (hc : c = 2048 * S + 128 * m + 8 * j + v) (ha : a = 128 * m + 8 * j + v) : P84 V i c ∧ P92 a c := by
  rw [L83 hk i0 (by omega) (by omega) (by omega)] at h
  refine ⟨⟨i0, by omega, by omega, ?_⟩, by unfold P92; omega⟩
  rw [show c / 2048 = S by omega, show c / 8 % 16 = j by omega, show c % 8 = v by omega, show c / 128 % 16 = m by omega, h]
  congr 1
  funext k
  unfold rev upd1
  have e1 : ro V i.toNat = v := by rw [ro_at (by omega), hv]
  by_cases k1 : k = i.toNat
  · subst k1
    rw [if_pos (by omega), if_neg (by omega), if_neg (by omega), if_pos rfl]
    congr 1
    omega
  · by_cases k2 : k = j.toNat
    · subst k2
      rw [if_pos (by omega), if_neg (by omega), if_pos rfl, ← e1]
      congr 1
      omega
    · by_cases k3 : i.toNat ≤ k ∧ k ≤ j.toNat
      · rw [if_pos k3, if_pos (by omega), if_neg (by omega), if_neg (by omega)]
        congr 1
        omega
      · rw [if_neg k3, if_neg (by omega), if_neg k2, if_neg k1]
theorem swap2_ok {m i j v c c' a a' x y : Int} (hx : V 142 i.toNat = x) (hy : V 142 j.toNat = y) (hxy : x = y) (i0 : 0 ≤ i) (hij : i + 1 ≤ j) (hj : j + 1 ≤ m) (h8 : m ≤ 8) (v0 : 0 ≤ v) (v7 : v ≤ 7) (h : P84 V i c) (h2 : P92 a c) (ha : a = 128 * m + 8 * j + v) (hc : c' = c - 8 * j + 8 * i) (ha' : a' = 128 * m + 8 * i + v) : P85 V j c' ∧ P92 a' c' := by
  unfold P92 at h2
  obtain ⟨-, -, -, h⟩ := h
  rw [show c / 8 % 16 = j by omega, show c % 8 = v by omega, show c / 128 % 16 = m by omega] at h
  refine ⟨⟨by omega, by omega, ?_⟩, by unfold P92; omega⟩
  rw [show c' / 2048 = c / 2048 by omega, show c' / 8 % 16 = i by omega, show c' % 8 = v by omega, show c' / 128 % 16 = m by omega, h]
  congr 2
  have e : upd1 (ro V) i.toNat (ro V j.toNat) = ro V := by
    funext k
    unfold upd1
    split
    next hk => rw [hk, ro_at (by omega), ro_at (by omega), hx, hy, hxy]
    next => rfl
  rw [e]
theorem swap3_ok {m i j v c a x S k : Int} (hx : V 142 j.toNat = x) (hxv : x = v) (i0 : 0 ≤ i) (hij : i + 1 ≤ j) (hj : j + 1 ≤ m) (h8 : m ≤ 8) (v0 : 0 ≤ v) (v7 : v ≤ 7) (h : P85 V j c) (h2 : P92 a c) (ha : a = 128 * m + 8 * i + v) (hS : S = c / 2048) (hk : k = 256 * m + 16 * i + j + 15) : 2048 * S + 128 * m + 8 * i + v = c ∧ P83 V k S := by
  unfold P92 at h2
  refine ⟨by omega, ?_⟩
  obtain ⟨-, -, h⟩ := h
  rw [show c / 8 % 16 = i by omega, show c % 8 = v by omega, show c / 128 % 16 = m by omega] at h
  rw [L83 (m := m) (i := i + 1) (j := j - 1) (by omega) (by omega) (by omega) (by omega) (by omega), hS, h]
  have e : upd1 (ro V) j.toNat v = ro V := by
    funext k
    unfold upd1
    split
    next hk => rw [hk, ro_at (by omega), hx, hxv]
    next => rfl
  rw [e, show i.toNat + 1 = (i + 1).toNat by omega, show j.toNat - 1 = (j - 1).toNat by omega]
theorem initS_ok {m : Int} (h0 : 0 ≤ m) (h8 : m ≤ 8) (hX : ∀ i, i < 24 → (i < 2 ∨ 8 ≤ i) → 0 ≤ V 123 i ∧ V 123 i ≤ 99) : pT V (ro V) m ≤ 1800 := by
  have h1 : ∀ a, 0 ≤ wX V a ∧ wX V a ≤ 99 := fun a => by
    unfold wX
    split
    · exact hX 0 (by omega) (by omega)
    · exact hX _ (by omega) (by omega)
  have h2 : ∀ a, 0 ≤ wY V a ∧ wY V a ≤ 99 := fun a => by
    unfold wY
    split
    · exact hX 1 (by omega) (by omega)
    · exact hX _ (by omega) (by omega)
  have h3 : ∀ k, k < m.toNat + 1 → eg V (ro V) m k ≤ 198 := fun k _ => by
    unfold eg wW ab
    have := h1 (sf (ro V) m ((k : Int) - 1))
    have := h1 (sf (ro V) m k)
    have := h2 (sf (ro V) m ((k : Int) - 1))
    have := h2 (sf (ro V) m k)
    split <;> split <;> omega
  have := sm_le h3
  unfold pT
  omega
/-! order and route -/
theorem ordMove_ok {k k' e m z x y : Int} (hx : V 143 k.toNat = x) (hy : V 143 (k - 1).toNat = y) (hxy : x = y) (h1 : 1 ≤ k) (h2 : k ≤ e) (h3 : e ≤ 8) (m0 : 0 ≤ m) (m8 : m ≤ 8) (h : P87 V k z) (hz : z = 16 * e + m) (hk : k' = k - 1) : P87 V k' z := by
  obtain ⟨a1, a2⟩ := h
  have ez : z / 16 = e := by omega
  rw [ez] at a1 a2
  have em : z % 16 = m := by omega
  rw [em] at a2
  have exy : V 143 k.toNat = V 143 (k.toNat - 1) := by rw [hx, hxy, ← hy]; congr 1; omega
  refine ⟨fun a b hab hb b8 na nb => ?_, fun a ha a8 na => ?_⟩
  · rw [ez] at hb
    by_cases ea : a = k.toNat
    · subst ea
      rw [exy]
      exact a1 _ b (by omega) hb b8 (by omega) (by omega)
    · by_cases eb : b = k.toNat
      · subst eb
        rw [exy]
        exact a1 a _ (by omega) (by omega) (by omega) (by omega) (by omega)
      · exact a1 a b hab hb b8 (by omega) (by omega)
  · rw [ez] at ha
    rw [em]
    by_cases ea : a = k.toNat
    · subst ea
      rw [exy]
      exact a2 _ (by omega) (by omega) (by omega)
    · exact a2 a ha a8 (by omega)
theorem ordPut_ok {k e m z x e' m' : Int} (hx : V 143 k.toNat = x) (hxm : x = m) (h1 : 0 ≤ k) (h2 : k ≤ e) (h3 : e ≤ 8) (m0 : 0 ≤ m) (m7 : m ≤ 7) (h : P87 V k z) (hz : z = 16 * e + m) (he : e' = e + 1) (hm : m' = m + 1) : P86 V e' m' := by
  obtain ⟨a1, a2⟩ := h
  have ez : z / 16 = e := by omega
  rw [ez] at a1 a2
  have em : z % 16 = m := by omega
  rw [em] at a2
  refine ⟨fun a b hab hb b8 => ?_, fun a ha a8 => ?_⟩
  · by_cases ea : a = k.toNat
    · subst ea
      have := a2 b (by omega) b8 (by omega)
      omega
    · by_cases eb : b = k.toNat
      · subst eb
        have := a2 a (by omega) (by omega) (by omega)
        omega
      · exact a1 a b hab (by omega) b8 (by omega) (by omega)
  · by_cases ea : a = k.toNat
    · subst ea
      omega
    · have := a2 a (by omega) a8 (by omega)
      omega
theorem fresh_ok {k e x y c : Int} (hy : V 143 k.toNat = y) (hyx : y = x) (h1 : 0 ≤ k) (h2 : k + 1 ≤ e) (h3 : e ≤ 8) (h : P86 V e c) : P93 V k x := ⟨h1, by omega, by rw [hy, hyx], fun i hi => by
  have := h.1 i k.toNat (by omega) (by omega) (by omega)
  rw [hy, hyx] at this
  exact this⟩
theorem rtHole_ok {m k z : Int} (m0 : 0 ≤ m) (m7 : m ≤ 7) (k0 : 0 ≤ k) (k7 : k ≤ 7) (h : rOK (V 142) (V 143) m k) (hz : z = 16 * m + k) : P94 V m z := by
  have ez : z / 16 = m := by omega
  have em : z % 16 = k := by omega
  refine ⟨fun a b hab hb b8 na nb => h.1 a b hab (by omega) b8, fun a ha a8 na => ?_⟩
  rw [em]
  exact h.2 a (by omega) a8
theorem rtMove_ok {g g' c x y m : Int} (hx : V 142 g.toNat = x) (hy : V 142 (g - 1).toNat = y) (hxy : x = y) (h1 : 1 ≤ g) (h2 : g ≤ m) (h3 : m ≤ 7) (h : P94 V g c) (hg : g' = g - 1) : P94 V g' c := by
  obtain ⟨a1, a2⟩ := h
  have exy : V 142 g.toNat = V 142 (g.toNat - 1) := by rw [hx, hxy, ← hy]; congr 1; omega
  refine ⟨fun a b hab hb b8 na nb => ?_, fun a ha a8 na => ?_⟩
  · by_cases ea : a = g.toNat
    · subst ea
      rw [exy]
      exact a1 _ b (by omega) hb b8 (by omega) (by omega)
    · by_cases eb : b = g.toNat
      · subst eb
        rw [exy]
        exact a1 a _ (by omega) (by omega) (by omega) (by omega) (by omega)
      · exact a1 a b hab hb b8 (by omega) (by omega)
  · by_cases ea : a = g.toNat
    · subst ea
      rw [exy]
      exact a2 _ (by omega) (by omega) (by omega)
    · exact a2 a ha a8 (by omega)
theorem rtPut_ok {g m c x y k m' k' : Int} (hy : V 142 g.toNat = y) (hyx : y = x) (h1 : 0 ≤ g) (h2 : g ≤ m) (h3 : m ≤ 7) (hc : c = 16 * m + k) (k0 : 0 ≤ k) (k7 : k ≤ 7) (h : P94 V g c) (p : P93 V k x) (hm : m' = m + 1) (hk : k' = k + 1) : rOK (V 142) (V 143) m' k' := by
  obtain ⟨a1, a2⟩ := h
  obtain ⟨-, -, p1, p2⟩ := p
  have ez : c / 16 = m := by omega
  have em : c % 16 = k := by omega
  rw [ez] at a1 a2
  rw [em] at a2
  refine ⟨fun a b hab hb b8 => ?_, fun a ha a8 => ?_⟩
  · by_cases ea : a = g.toNat
    · subst ea
      obtain ⟨j, j1, j8, e⟩ := a2 b (by omega) b8 (by omega)
      rw [hy, hyx, e]
      exact fun q => p2 j j1 q.symm
    · by_cases eb : b = g.toNat
      · subst eb
        obtain ⟨j, j1, j8, e⟩ := a2 a (by omega) (by omega) (by omega)
        rw [hy, hyx, e]
        exact p2 j j1
      · exact a1 a b hab (by omega) b8 (by omega) (by omega)
  · by_cases ea : a = g.toNat
    · subst ea
      exact ⟨k.toNat, by omega, by omega, by rw [hy, hyx, p1]⟩
    · obtain ⟨j, j1, j8, e⟩ := a2 a (by omega) a8 (by omega)
      exact ⟨j, by omega, j8, e⟩
theorem upd1_id {ρ : Nat → Int} {i : Nat} {v : Int} (h : ρ i = v) : upd1 ρ i v = ρ := by
  funext k
  unfold upd1
  split
  next hk => rw [hk, h]
  next => rfl
theorem rtSwap1_ok {i v y m k c a : Int} (hy : V 142 i.toNat = y) (hyv : y = v) (v0 : 0 ≤ v) (v7 : v ≤ 7) (i0 : 0 ≤ i) (m0 : 0 ≤ m) (m8 : m ≤ 8) (h : rOK (V 142) (V 143) m k) (hc : c = 128 * k + 8 * m + v) (ha : a = 8 * m + v) : P95 V i c ∧ P89 a c := by
  refine ⟨⟨i0, ?_⟩, by unfold P89; omega⟩
  rw [show c % 8 = v by omega, show c / 8 % 16 = m by omega, show c / 128 = k by omega, upd1_id (by rw [hy, hyv])]
  exact h
theorem rtSwap2_ok {i j v x y m c a : Int} (hx : V 142 i.toNat = x) (hy : V 142 j.toNat = y) (hxy : x = y) (i0 : 0 ≤ i) (hij : i + 1 ≤ j) (hj : j + 1 ≤ m) (m8 : m ≤ 8) (v0 : 0 ≤ v) (v7 : v ≤ 7) (h : P95 V i c) (h2 : P89 a c) (ha : a = 8 * m + v) : P95 V j c := by
  obtain ⟨-, a1, a2⟩ := h
  unfold P89 at h2
  have em : c / 8 % 16 = m := by omega
  rw [em] at a1 a2
  have ev : c % 8 = v := by omega
  rw [ev] at a1 a2
  have e : V 142 i.toNat = V 142 j.toNat := by rw [hx, hy, hxy]
  -- the other place
  have sw : ∀ k : Nat, ∃ k' : Nat, upd1 (V 142) j.toNat v k = upd1 (V 142) i.toNat v k' ∧ ((k : Int) < m → (k' : Int) < m) ∧ k' = if k = i.toNat then j.toNat else if k = j.toNat then i.toNat else k := fun k => by
    refine ⟨_, ?_, fun hk => ?_, rfl⟩
    · unfold upd1
      by_cases k1 : k = i.toNat
      · rw [if_pos k1, if_neg (by omega), if_neg (by omega), k1, e]
      · by_cases k2 : k = j.toNat
        · rw [if_neg k1, if_pos k2, if_pos k2, if_pos rfl]
        · rw [if_neg k1, if_neg k2, if_neg k2, if_neg k1]
    · split
      · omega
      · split <;> omega
  refine ⟨by omega, fun a b hab hb b8 => ?_, fun a ha a8 => ?_⟩
  · rw [em] at hb
    rw [ev]
    obtain ⟨a', e1, m1, q1⟩ := sw a
    obtain ⟨b', e2, m2, q2⟩ := sw b
    rw [e1, e2]
    have ma := m1 (by omega)
    have mb := m2 (by omega)
    have hne : a' ≠ b' := by
      rw [q1, q2]
      repeat' split
      all_goals omega
    rcases Nat.lt_or_gt_of_ne hne with hl | hl
    · exact a1 a' b' hl mb (by omega)
    · exact fun q => a1 b' a' hl ma (by omega) q.symm
  · rw [em] at ha
    rw [ev]
    obtain ⟨a', e1, m1, q1⟩ := sw a
    have ma := m1 ha
    rw [e1]
    exact a2 a' ma (by omega)
theorem rtSwap3_ok {j v y m c a k : Int} (hy : V 142 j.toNat = y) (hyv : y = v) (v0 : 0 ≤ v) (v7 : v ≤ 7) (m0 : 0 ≤ m) (m8 : m ≤ 8) (h : P95 V j c) (h2 : P89 a c) (ha : a = 8 * m + v) (hk : k = c / 128) : 128 * k + 8 * m + v = c ∧ rOK (V 142) (V 143) m k := by
  unfold P89 at h2
  refine ⟨by omega, ?_⟩
  obtain ⟨-, h⟩ := h
  rw [show c % 8 = v by omega, show c / 8 % 16 = m by omega, upd1_id (by rw [hy, hyv]), ← hk] at h
  exact h
theorem rtAll_ok {m k e c M : Int} (h : rOK (V 142) (V 143) m k) (p : P86 V e c) (h1 : k ≤ e) (h2 : c ≤ M) : P97 V m M := ⟨h.1, fun a ha a8 => by
  obtain ⟨j, j1, j8, q⟩ := h.2 a ha a8
  have := p.2 j (by omega) j8
  omega⟩
/-! a day -/
theorem dayOpen_ok {g : Nat} (h : GDv V g 123 1777 0 1777) : P38 V g ∧ P100 V g 0 := ⟨fun m j hm hj hc => (h (217 + 5 * m + j) (by omega) (by omega) (by omega)).1 m j hm hj (by omega) hc, fun k hk hv => by
  have := (h (137 + k) (by omega) (by omega) (by omega)).2 (by omega) (by omega)
  omega⟩
theorem every_ok {g i : Nat} {m k c v : Int} (h : P38 V g) (m0 : 0 ≤ m) (m7 : m ≤ 7) (c5 : c ≤ 5) (h1 : 5 * m ≤ k) (h2 : k + 1 ≤ 5 * m + c) (hc : V 123 (24 + m.toNat) = c) (hv : V g i = v) (hi : (i : Int) = 217 + k) : 1 ≤ v := by
  rw [← hv, show i = 217 + 5 * m.toNat + (k - 5 * m).toNat by omega]
  exact h m.toNat (k - 5 * m).toNat (by omega) (by omega) (by omega)
theorem inv_ok {g : Nat} {m r q : Int} (m0 : 0 ≤ m) (m7 : m ≤ 7) (h : P104 V m r) (p : P100 V g r) (hq : q = 5 * m) : P102 V g q m := by
  obtain ⟨r0, r8, e1, e2⟩ := h
  exact ⟨m0, by omega, fun _ => by omega, r.toNat, by omega, e1, fun i hi => e2 i (by omega), fun k hk _ hv => Or.inl (by
    have := p k hk hv
    rwa [show ((r.toNat : Nat) : Int) = r by omega])⟩
theorem invOpen_ok {g i : Nat} {m k c v q : Int} (m0 : 0 ≤ m) (m7 : m ≤ 7) (c5 : c ≤ 5) (h1 : 5 * m ≤ k) (h2 : k + 1 ≤ 5 * m + c) (hc : V 123 (24 + m.toNat) = c) (hv : V g i = v) (hi : (i : Int) = 137 + k) (h : P102 V g k m) (hq : q = k + 1) : 0 ≤ v ∧ P102 V g q m := by
  obtain ⟨-, -, b1, r, r8, e1, e2, e3⟩ := h
  refine ⟨?_, m0, by omega, fun _ => by omega, r, r8, e1, e2, fun k' hk' hor hv' => ?_⟩
  · by_cases hneg : v < 0
    · exfalso
      have := e3 k.toNat (by omega) (by omega) (by rw [show 137 + k.toNat = i by omega, hv]; exact hneg)
      rcases this with ⟨i', i1, i8, i2, i3⟩ | ⟨a, b, -⟩
      · refine e2 i' (by omega) ?_
        rw [i2]
        omega
      · omega
    · omega
  · by_cases hl : (k' : Int) ≠ k - 1 ∨ k ≤ 5 * m
    · rcases e3 k' hk' hl hv' with a | ⟨a, b, d⟩
      · exact Or.inl a
      · exact Or.inr ⟨a, by omega, d⟩
    · have := b1 (by omega)
      refine Or.inr ⟨by omega, by omega, ?_⟩
      rw [show 24 + k' / 5 = 24 + m.toNat by omega]
      omega
theorem invClose_ok {g : Nat} {m k c r r' : Int} (m0 : 0 ≤ m) (m7 : m ≤ 7) (h2 : 5 * m + c ≤ k) (hc : V 123 (24 + m.toNat) = c) (p : P104 V m r) (h : P102 V g k m) (hr : r' = r + 1) : P100 V g r' := by
  obtain ⟨r0, r8, f1, f2⟩ := p
  obtain ⟨-, -, b1, s, s8, e1, e2, e3⟩ := h
  have hrs : (s : Int) = r := by
    by_cases hl : (s : Int) < r
    · exact absurd e1 (f2 s hl)
    · by_cases hl2 : r.toNat < s
      · exact absurd f1 (e2 _ hl2)
      · omega
  have inM : ∀ k' : Nat, ((k' / 5 : Nat) : Int) = m → ((k' % 5 : Nat) : Int) < V 123 (24 + k' / 5) → vis V r' k' := fun k' a b => ⟨s, by omega, s8, by omega, b⟩
  intro k' hk' hv'
  by_cases hl : (k' : Int) ≠ k - 1 ∨ k ≤ 5 * m
  · rcases e3 k' hk' hl hv' with ⟨i, i1, i8, i2, i3⟩ | ⟨a, b, d⟩
    · exact ⟨i, by omega, i8, i2, i3⟩
    · exact inM k' a d
  · have := b1 (by omega)
    refine inM k' (by omega) ?_
    rw [show 24 + k' / 5 = 24 + m.toNat by omega]
    omega
theorem evening_ok {g : Nat} {m M : Int} (hM : V 123 7 = M) (p : P97 V m M) (h : P100 V g m) {q : Int} (hq : q = 0) : P105 V g q := fun k hk => ⟨fun h1 => by omega, fun hv => by
  obtain ⟨i, i1, i8, i2, i3⟩ := h k hk hv
  have := p.2 i i1 i8
  exact ⟨by omega, i3⟩⟩
theorem eveSplit_ok {g : Nat} {m M c k : Int} (m0 : 0 ≤ m) (hmM : m + 1 ≤ M) (M8 : M ≤ 8) (c5 : c ≤ 5) (h1 : 5 * m ≤ k) (h2 : k + 1 ≤ 5 * m + c) (hc : V 123 (24 + m.toNat) = c) (hM : V 123 7 = M) (h : P105 V g k) : P107 V g k := ⟨by omega, by omega, ⟨by omega, by
  rw [show 24 + k.toNat / 5 = 24 + m.toNat by omega]
  omega⟩, fun k' hk' _ => h k' hk'⟩
theorem eveJoin_ok {g i : Nat} {k v q : Int} (hv : V g i = v) (hi : (i : Int) = 137 + k) (v0 : 0 ≤ v) (h : P107 V g k) (hq : q = k + 1) : P105 V g q := by
  obtain ⟨a, b, d, e⟩ := h
  intro k' hk'
  by_cases he : (k' : Int) = k
  · rw [show 137 + k' = i by omega, hv]
    exact ⟨fun _ => v0, fun h => by omega⟩
  · exact ⟨fun h => (e k' hk' he).1 (by omega), (e k' hk' he).2⟩
theorem eveSkip_ok {g : Nat} {m c k q : Int} (m0 : 0 ≤ m) (c0 : 0 ≤ c) (h1 : 5 * m + c ≤ k) (hc : V 123 (24 + m.toNat) = c) (h : P105 V g k) (hq : q = 5 * m + 5) : P105 V g q := fun k' hk' => ⟨fun h2 => by
  by_cases hl : (k' : Int) < k
  · exact (h k' hk').1 hl
  · by_cases hn : V g (137 + k') < 0
    · exfalso
      obtain ⟨t1, t2⟩ := (h k' hk').2 hn
      rw [show 24 + k' / 5 = 24 + m.toNat by omega] at t2
      omega
    · omega, (h k' hk').2⟩
theorem dayClose_ok {g : Nat} {m M q : Int} (hmM : M ≤ m) (hM : V 123 7 = M) (h : P105 V g q) (hq : q = 5 * m) (h2 : P38 V g) : GDv V g 123 1777 0 1777 := fun i _ _ hi => by
  refine ⟨fun m' j m1 j1 e hc => ?_, fun a b => ?_⟩
  · have := h2 m' j m1 j1 hc
    rwa [show 217 + 5 * m' + j = i by rw [Nat.mod_eq_of_lt hi] at e; omega] at this
  · rw [Nat.mod_eq_of_lt hi] at a b
    obtain ⟨x, y⟩ := h (i - 137) (by omega)
    rw [show 137 + (i - 137) = i by omega] at x y
    by_cases hn : V g i < 0
    · obtain ⟨t1, t2⟩ := y hn
      have := x (by omega)
      omega
    · omega
theorem visStart_ok {m r mm M x : Int} (hx : V 142 r.toNat = x) (hxm : x = m) (r0 : 0 ≤ r) (h1 : r + 1 ≤ mm) (h2 : mm ≤ 8) (h : P97 V mm M) : m + 1 ≤ M ∧ P104 V m r := by
  have := h.2 r.toNat (by omega) (by omega)
  refine ⟨by omega, r0, by omega, by rw [hx, hxm], fun i hi q => ?_⟩
  exact h.1 i r.toNat (by omega) (by omega) (by omega) (by rw [q, hx, hxm])
end PLM
