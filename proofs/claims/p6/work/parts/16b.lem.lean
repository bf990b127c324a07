section LMS
variable {G : Nat → Nat} {h : mH}
theorem el_aA {ρ : Va} {q : LE × LE × sV} {x v : Int} {e1 e2 : LE} (hq : ∃ t n c, h[(ev ρ q.1).toNat]? = some (.inl (t, n, c)) ∧ 0 ≤ ev ρ q.2.1 ∧ ev ρ q.2.1 < n ∧ dV ρ q.2.2 (elV c (ev ρ q.2.1).toNat)) (h1 : ev ρ q.1 = x) (h2 : ev ρ q.2.2.2 = v) (h0 : q.2.2.1 = 0 := by rfl) : el h x.toNat (ev ρ q.2.1).toNat = v ∧ 0 ≤ ev ρ q.2.1 := by
  obtain ⟨t, n, c, g1, g2, g3, g4⟩ := hq
  refine ⟨?_, g2⟩
  rw [h1] at g1
  obtain ⟨r, j, tg, e⟩ := q
  dsimp only at h0 g4 h2 g1 g2 g3 ⊢
  subst h0
  obtain ⟨z, hz, hz2⟩ := g4
  obtain f | f | f | f | f := c
  · rw [el_of g1]
    have hz : Value.int (f _) = Value.int z := hz
    injection hz with hz
    rw [hz]
    exact hz2.trans h2
  · cases hz
  · cases hz
  · cases hz
  · have hz : va_rf _ = Value.int z := hz
    unfold va_rf at hz
    split at hz <;> cases hz
theorem GD_no {g pl n : Nat} {r c : Int} (hc : c ≤ 0) : GDp G g pl n r c h := fun x y hx hy i h1 h2 => absurd h2 (by omega)
theorem GD_sub {g pl n : Nat} {r c r' c' : Int} (hP : GDp G g pl n r c h) (h1 : r ≤ r') (h2 : r' + c' ≤ r + c) : GDp G g pl n r' c' h := fun x y hx hy i i1 i2 i3 => hP x y hx hy i (by omega) (by omega) i3
theorem GD_ext {g pl n g2 n2 A N i k : Nat} {r c r2 c2 : Int} (hU : ∀ x, G x = g → x = A) (hP : GDp G g pl n r c h) (hS : GDp G g2 pl n2 r2 c2 h) (hN : G N = g2) (hv : el h A i = el h N k) (hi : (i : Int) = r + c) (hk1 : r2 ≤ k) (hk2 : (k : Int) < r2 + c2) (hk3 : k < n2) (hm : i % 1777 = k % 1777) : GDp G g pl n r (c + 1) h := by
  intro x y hx hy i' h1 h2 h3
  by_cases he : i' = i
  · subst he
    rw [hU x hx, hv]
    intro m j m1 m2 m3 m4
    exact hS N y hN hy k hk1 hk2 hk3 m j m1 m2 (by omega) m4
  · exact hP x y hx hy i' h1 (by omega) h3
def lem_0 : Ctr := ((1, [], [], [], [], [], [], []), [(1, [], [], [(0, [(0, -1)])], [], [], [], []), (1, [], [], [(-1, [(0, 1)])], [], [], [], [])], [], [])
/-- split0 -/
theorem lem_0_ok (hU : ∀ x y, 118 ≤ G x → G x ≤ 140 → G x = G y → x = y) : lem_0.1.2.1 = [] ∧ lemOK (PRd G) G rgs lem_0 := by
  refine ⟨rfl, fun ρ h ha hT => ?_⟩
  obtain ⟨-, -, hF, hG, hH, hA, hP⟩ := ha
  by_cases hx : ρ 0 ≤ 0
  · refine ⟨_, List.mem_cons_self, ρ, fun _ _ => rfl, fun q hq => absurd hq List.not_mem_nil, trivial, fun f hf => ?_, fun q hq => absurd hq List.not_mem_nil, fun q hq => absurd hq List.not_mem_nil, fun q hq => absurd hq List.not_mem_nil, fun q hq => absurd hq List.not_mem_nil⟩
    obtain rfl := List.mem_singleton.mp hf
    show (0 : Int) ≤ 0 + ((-1) * ρ 0 + 0)
    omega
  · refine ⟨_, List.mem_cons_of_mem _ List.mem_cons_self, ρ, fun _ _ => rfl, fun q hq => absurd hq List.not_mem_nil, trivial, fun f hf => ?_, fun q hq => absurd hq List.not_mem_nil, fun q hq => absurd hq List.not_mem_nil, fun q hq => absurd hq List.not_mem_nil, fun q hq => absurd hq List.not_mem_nil⟩
    obtain rfl := List.mem_singleton.mp hf
    show (0 : Int) ≤ -1 + (1 * ρ 0 + 0)
    omega
def lem_1 : Ctr := ((2, [], [], [(-1, [(1, 1)]), (0, [(1, -1)])], [((0, [(0, 1)]), 22)], [((0, [(0, 1)]), 5, (0, (0, [(1, 1)])))], [], []), [], [], [])
/-- noErr -/
theorem lem_1_ok (hU : ∀ x y, 118 ≤ G x → G x ≤ 140 → G x = G y → x = y) : lem_1.1.2.1 = [] ∧ lemOK (PRd G) G rgs lem_1 := by
  refine ⟨rfl, fun ρ h ha hT => ?_⟩
  obtain ⟨-, -, hF, hG, hH, hA, hP⟩ := ha
  have f0 : (0 : Int) ≤ ((-1) + ((1) * ρ 1 + 0)) := hF _ (List.mem_of_getElem? (i := 0) rfl)
  have f1 : (0 : Int) ≤ ((0) + ((-1) * ρ 1 + 0)) := hF _ (List.mem_of_getElem? (i := 1) rfl)
  have g0 : G (ρ 0).toNat = 22 := by
    have q := (hG _ (List.mem_of_getElem? (i := 0) rfl)).2
    rwa [show ev ρ (0, [(0, 1)]) = ρ 0 from ev_v] at q
  exact absurd f0 (by omega)
def lem_2 : Ctr := ((1, [], [], [], [], [], [], []), [(1, [], [], [], [], [], [], [(40, (0, [(0, 1)]), (0, []))])], [], [])
/-- empty40 -/
theorem lem_2_ok (hU : ∀ x y, 118 ≤ G x → G x ≤ 140 → G x = G y → x = y) : lem_2.1.2.1 = [] ∧ lemOK (PRd G) G rgs lem_2 := by
  refine ⟨rfl, fun ρ h ha hT => ?_⟩
  obtain ⟨-, -, hF, hG, hH, hA, hP⟩ := ha
  refine ⟨_, List.mem_cons_self, ρ, fun _ _ => rfl, fun q hq => absurd hq List.not_mem_nil, trivial, fun f hf => ?_, fun q hq => absurd hq List.not_mem_nil, fun q hq => absurd hq List.not_mem_nil, fun q hq => absurd hq List.not_mem_nil, fun q hq => ?_⟩
  · exact absurd hf List.not_mem_nil
  · simp only [List.mem_cons, List.not_mem_nil, or_false] at hq
    subst hq
    show PRd G 40 ((0) + ((1) * ρ 0 + 0)) ((0) + 0) h
    exact GD_no (by omega)
def lem_3 : Ctr := ((1, [], [], [], [], [], [], []), [(1, [], [], [], [], [], [], [(41, (0, [(0, 1)]), (0, []))])], [], [])
/-- empty41 -/
theorem lem_3_ok (hU : ∀ x y, 118 ≤ G x → G x ≤ 140 → G x = G y → x = y) : lem_3.1.2.1 = [] ∧ lemOK (PRd G) G rgs lem_3 := by
  refine ⟨rfl, fun ρ h ha hT => ?_⟩
  obtain ⟨-, -, hF, hG, hH, hA, hP⟩ := ha
  refine ⟨_, List.mem_cons_self, ρ, fun _ _ => rfl, fun q hq => absurd hq List.not_mem_nil, trivial, fun f hf => ?_, fun q hq => absurd hq List.not_mem_nil, fun q hq => absurd hq List.not_mem_nil, fun q hq => absurd hq List.not_mem_nil, fun q hq => ?_⟩
  · exact absurd hf List.not_mem_nil
  · simp only [List.mem_cons, List.not_mem_nil, or_false] at hq
    subst hq
    show PRd G 41 ((0) + ((1) * ρ 0 + 0)) ((0) + 0) h
    exact GD_no (by omega)
def lem_4 : Ctr := ((1, [], [], [], [], [], [], []), [(1, [], [], [], [], [], [], [(42, (0, [(0, 1)]), (0, []))])], [], [])
/-- empty42 -/
theorem lem_4_ok (hU : ∀ x y, 118 ≤ G x → G x ≤ 140 → G x = G y → x = y) : lem_4.1.2.1 = [] ∧ lemOK (PRd G) G rgs lem_4 := by
  refine ⟨rfl, fun ρ h ha hT => ?_⟩
  obtain ⟨-, -, hF, hG, hH, hA, hP⟩ := ha
  refine ⟨_, List.mem_cons_self, ρ, fun _ _ => rfl, fun q hq => absurd hq List.not_mem_nil, trivial, fun f hf => ?_, fun q hq => absurd hq List.not_mem_nil, fun q hq => absurd hq List.not_mem_nil, fun q hq => absurd hq List.not_mem_nil, fun q hq => ?_⟩
  · exact absurd hf List.not_mem_nil
  · simp only [List.mem_cons, List.not_mem_nil, or_false] at hq
    subst hq
    show PRd G 42 ((0) + ((1) * ρ 0 + 0)) ((0) + 0) h
    exact GD_no (by omega)
def lem_5 : Ctr := ((1, [], [], [], [], [], [], []), [(1, [], [], [], [], [], [], [(43, (0, [(0, 1)]), (0, []))])], [], [])
/-- empty43 -/
theorem lem_5_ok (hU : ∀ x y, 118 ≤ G x → G x ≤ 140 → G x = G y → x = y) : lem_5.1.2.1 = [] ∧ lemOK (PRd G) G rgs lem_5 := by
  refine ⟨rfl, fun ρ h ha hT => ?_⟩
  obtain ⟨-, -, hF, hG, hH, hA, hP⟩ := ha
  refine ⟨_, List.mem_cons_self, ρ, fun _ _ => rfl, fun q hq => absurd hq List.not_mem_nil, trivial, fun f hf => ?_, fun q hq => absurd hq List.not_mem_nil, fun q hq => absurd hq List.not_mem_nil, fun q hq => absurd hq List.not_mem_nil, fun q hq => ?_⟩
  · exact absurd hf List.not_mem_nil
  · simp only [List.mem_cons, List.not_mem_nil, or_false] at hq
    subst hq
    show PRd G 43 ((0) + ((1) * ρ 0 + 0)) ((0) + 0) h
    exact GD_no (by omega)
def lem_6 : Ctr := ((1, [], [], [], [], [], [], []), [(1, [], [], [], [], [], [], [(44, (0, [(0, 1)]), (0, []))])], [], [])
/-- empty44 -/
theorem lem_6_ok (hU : ∀ x y, 118 ≤ G x → G x ≤ 140 → G x = G y → x = y) : lem_6.1.2.1 = [] ∧ lemOK (PRd G) G rgs lem_6 := by
  refine ⟨rfl, fun ρ h ha hT => ?_⟩
  obtain ⟨-, -, hF, hG, hH, hA, hP⟩ := ha
  refine ⟨_, List.mem_cons_self, ρ, fun _ _ => rfl, fun q hq => absurd hq List.not_mem_nil, trivial, fun f hf => ?_, fun q hq => absurd hq List.not_mem_nil, fun q hq => absurd hq List.not_mem_nil, fun q hq => absurd hq List.not_mem_nil, fun q hq => ?_⟩
  · exact absurd hf List.not_mem_nil
  · simp only [List.mem_cons, List.not_mem_nil, or_false] at hq
    subst hq
    show PRd G 44 ((0) + ((1) * ρ 0 + 0)) ((0) + 0) h
    exact GD_no (by omega)
def lem_7 : Ctr := ((1, [], [], [], [], [], [], []), [(1, [], [], [], [], [], [], [(45, (0, [(0, 1)]), (0, []))])], [], [])
/-- empty45 -/
theorem lem_7_ok (hU : ∀ x y, 118 ≤ G x → G x ≤ 140 → G x = G y → x = y) : lem_7.1.2.1 = [] ∧ lemOK (PRd G) G rgs lem_7 := by
  refine ⟨rfl, fun ρ h ha hT => ?_⟩
  obtain ⟨-, -, hF, hG, hH, hA, hP⟩ := ha
  refine ⟨_, List.mem_cons_self, ρ, fun _ _ => rfl, fun q hq => absurd hq List.not_mem_nil, trivial, fun f hf => ?_, fun q hq => absurd hq List.not_mem_nil, fun q hq => absurd hq List.not_mem_nil, fun q hq => absurd hq List.not_mem_nil, fun q hq => ?_⟩
  · exact absurd hf List.not_mem_nil
  · simp only [List.mem_cons, List.not_mem_nil, or_false] at hq
    subst hq
    show PRd G 45 ((0) + ((1) * ρ 0 + 0)) ((0) + 0) h
    exact GD_no (by omega)
def lem_8 : Ctr := ((1, [], [], [], [], [], [], []), [(1, [], [], [], [], [], [], [(43, (0, [(0, 1777)]), (0, []))])], [], [])
/-- empty43x -/
theorem lem_8_ok (hU : ∀ x y, 118 ≤ G x → G x ≤ 140 → G x = G y → x = y) : lem_8.1.2.1 = [] ∧ lemOK (PRd G) G rgs lem_8 := by
  refine ⟨rfl, fun ρ h ha hT => ?_⟩
  obtain ⟨-, -, hF, hG, hH, hA, hP⟩ := ha
  refine ⟨_, List.mem_cons_self, ρ, fun _ _ => rfl, fun q hq => absurd hq List.not_mem_nil, trivial, fun f hf => ?_, fun q hq => absurd hq List.not_mem_nil, fun q hq => absurd hq List.not_mem_nil, fun q hq => absurd hq List.not_mem_nil, fun q hq => ?_⟩
  · exact absurd hf List.not_mem_nil
  · simp only [List.mem_cons, List.not_mem_nil, or_false] at hq
    subst hq
    show PRd G 43 ((0) + ((1777) * ρ 0 + 0)) ((0) + 0) h
    exact GD_no (by omega)
def lem_9 : Ctr := ((6, [], [], [(0, [(3, 1)]), (1776, [(3, -1)]), (0, [(2, 1)])], [((0, [(0, 1)]), 22), ((0, [(1, 1)]), 119), ((0, [(4, 1)]), 118)], [((0, [(0, 1)]), 12, (1, (0, [(4, 1)])))], [((0, [(1, 1)]), (0, [(2, 1777), (3, 1)]), (0, (0, [(5, 1)]))), ((0, [(4, 1)]), (0, [(3, 1)]), (0, (0, [(5, 1)])))], [(40, (0, []), (1777, [])), (41, (0, []), (0, [(2, 1777), (3, 1)]))]), [(6, [], [], [], [], [], [], [(41, (0, []), (1, [(2, 1777), (3, 1)]))])], [], [])
def lem_10 : Ctr := ((6, [], [], [(0, [(3, 1)]), (1776, [(3, -1)]), (0, [(2, 1)])], [((0, [(0, 1)]), 22), ((0, [(1, 1)]), 121), ((0, [(4, 1)]), 118)], [((0, [(0, 1)]), 12, (1, (0, [(4, 1)])))], [((0, [(1, 1)]), (0, [(2, 1777), (3, 1)]), (0, (0, [(5, 1)]))), ((0, [(4, 1)]), (0, [(3, 1)]), (0, (0, [(5, 1)])))], [(40, (0, []), (1777, [])), (42, (0, []), (0, [(2, 1777), (3, 1)]))]), [(6, [], [], [], [], [], [], [(42, (0, []), (1, [(2, 1777), (3, 1)]))])], [], [])
def lem_11 : Ctr := ((6, [], [], [(0, [(3, 1)]), (1776, [(3, -1)]), (0, [(2, 1)])], [((0, [(0, 1)]), 22), ((0, [(1, 1)]), 122), ((0, [(4, 1)]), 118)], [((0, [(0, 1)]), 12, (1, (0, [(4, 1)])))], [((0, [(1, 1)]), (0, [(2, 1777), (3, 1)]), (0, (0, [(5, 1)]))), ((0, [(4, 1)]), (0, [(3, 1)]), (0, (0, [(5, 1)])))], [(40, (0, []), (1777, [])), (43, (0, [(2, 1777)]), (0, [(3, 1)]))]), [(6, [], [], [], [], [], [], [(43, (0, [(2, 1777)]), (1, [(3, 1)]))])], [], [])
def lem_12 : Ctr := ((6, [], [], [(0, [(3, 1)]), (1776, [(3, -1)]), (0, [(2, 1)])], [((0, [(0, 1)]), 22), ((0, [(1, 1)]), 121), ((0, [(4, 1)]), 118)], [((0, [(0, 1)]), 12, (1, (0, [(4, 1)])))], [((0, [(1, 1)]), (0, [(2, 1777), (3, 1)]), (0, (0, [(5, 1)]))), ((0, [(4, 1)]), (0, [(3, 1)]), (0, (0, [(5, 1)])))], [(42, (0, [(2, 1777)]), (1777, [])), (40, (0, []), (0, [(3, 1)]))]), [(6, [], [], [], [], [], [], [(40, (0, []), (1, [(3, 1)]))])], [], [])
def lem_13 : Ctr := ((6, [], [], [(0, [(3, 1)]), (1776, [(3, -1)]), (0, [(2, 1)])], [((0, [(0, 1)]), 22), ((0, [(1, 1)]), 122), ((0, [(4, 1)]), 118)], [((0, [(0, 1)]), 12, (1, (0, [(4, 1)])))], [((0, [(1, 1)]), (0, [(2, 1777), (3, 1)]), (0, (0, [(5, 1)]))), ((0, [(4, 1)]), (0, [(3, 1)]), (0, (0, [(5, 1)])))], [(43, (0, [(2, 1777)]), (1777, [])), (40, (0, []), (0, [(3, 1)]))]), [(6, [], [], [], [], [], [], [(40, (0, []), (1, [(3, 1)]))])], [], [])
def lem_14 : Ctr := ((1, [], [], [(0, [(0, 1)])], [], [], [], [(42, (0, []), (1777, [(0, 1777)]))]), [(1, [], [], [], [], [], [], [(42, (0, [(0, 1777)]), (1777, [])), (42, (0, []), (0, [(0, 1777)]))])], [], [])
/-- partHist -/
theorem lem_14_ok (hU : ∀ x y, 118 ≤ G x → G x ≤ 140 → G x = G y → x = y) : lem_14.1.2.1 = [] ∧ lemOK (PRd G) G rgs lem_14 := by
  refine ⟨rfl, fun ρ h ha hT => ?_⟩
  obtain ⟨-, -, hF, hG, hH, hA, hP⟩ := ha
  have f0 : (0 : Int) ≤ ((0) + ((1) * ρ 0 + 0)) := hF _ (List.mem_of_getElem? (i := 0) rfl)
  have p0 : PRd G 42 ((0) + 0) ((1777) + ((1777) * ρ 0 + 0)) h := hP _ (List.mem_of_getElem? (i := 0) rfl)
  refine ⟨_, List.mem_cons_self, ρ, fun _ _ => rfl, fun q hq => absurd hq List.not_mem_nil, trivial, fun f hf => ?_, fun q hq => absurd hq List.not_mem_nil, fun q hq => absurd hq List.not_mem_nil, fun q hq => absurd hq List.not_mem_nil, fun q hq => ?_⟩
  · exact absurd hf List.not_mem_nil
  · simp only [List.mem_cons, List.not_mem_nil, or_false] at hq
    rcases hq with rfl | rfl
    · show PRd G 42 ((0) + ((1777) * ρ 0 + 0)) ((1777) + 0) h
      exact GD_sub p0 (by omega) (by omega)
    · show PRd G 42 ((0) + 0) ((0) + ((1777) * ρ 0 + 0)) h
      exact GD_sub p0 (by omega) (by omega)
def lem_15 : Ctr := ((0, [], [], [], [], [], [], [(42, (0, []), (10662, []))]), [(0, [], [], [], [], [], [], [(42, (0, []), (0, [])), (42, (1777, []), (8885, []))])], [], [])
/-- cutHist -/
theorem lem_15_ok (hU : ∀ x y, 118 ≤ G x → G x ≤ 140 → G x = G y → x = y) : lem_15.1.2.1 = [] ∧ lemOK (PRd G) G rgs lem_15 := by
  refine ⟨rfl, fun ρ h ha hT => ?_⟩
  obtain ⟨-, -, hF, hG, hH, hA, hP⟩ := ha
  have p0 : PRd G 42 ((0) + 0) ((10662) + 0) h := hP _ (List.mem_of_getElem? (i := 0) rfl)
  refine ⟨_, List.mem_cons_self, ρ, fun _ _ => rfl, fun q hq => absurd hq List.not_mem_nil, trivial, fun f hf => ?_, fun q hq => absurd hq List.not_mem_nil, fun q hq => absurd hq List.not_mem_nil, fun q hq => absurd hq List.not_mem_nil, fun q hq => ?_⟩
  · exact absurd hf List.not_mem_nil
  · simp only [List.mem_cons, List.not_mem_nil, or_false] at hq
    rcases hq with rfl | rfl
    · show PRd G 42 ((0) + 0) ((0) + 0) h
      exact GD_sub p0 (by omega) (by omega)
    · show PRd G 42 ((1777) + 0) ((8885) + 0) h
      exact GD_sub p0 (by omega) (by omega)
def lem_16 : Ctr := ((4, [], [], [(-1777, [(1, 1)]), (10661, [(1, -1)])], [((0, [(0, 1)]), 22), ((0, [(2, 1)]), 121)], [((0, [(0, 1)]), 15, (1, (0, [(2, 1)])))], [((0, [(2, 1)]), (-1777, [(1, 1)]), (0, (0, [(3, 1)]))), ((0, [(2, 1)]), (0, [(1, 1)]), (0, (0, [(3, 1)])))], [(42, (0, []), (-1777, [(1, 1)])), (42, (0, [(1, 1)]), (10662, [(1, -1)]))]), [(4, [], [], [], [], [], [], [(42, (0, []), (-1776, [(1, 1)])), (42, (1, [(1, 1)]), (10661, [(1, -1)]))])], [], [])
def lem_17 : Ctr := ((7, [], [], [(0, [(2, 1)]), (7, [(2, -1)]), (5, [(5, -1)]), (0, [(2, -5), (3, 1)]), (-1, [(2, 5), (3, -1), (5, 1)])], [((0, [(0, 1)]), 22), ((0, [(1, 1)]), 118), ((0, [(4, 1)]), 123)], [((0, [(0, 1)]), 10, (1, (0, [(4, 1)])))], [((0, [(4, 1)]), (24, [(2, 1)]), (0, (0, [(5, 1)]))), ((0, [(1, 1)]), (217, [(3, 1)]), (0, (0, [(6, 1)])))], [(40, (0, []), (1777, []))]), [(7, [], [], [(-1, [(6, 1)])], [], [], [], [])], [], [])
def lem_18 : Ctr := ((7, [], [], [(0, [(2, 1)]), (7, [(2, -1)]), (5, [(5, -1)]), (0, [(2, -5), (3, 1)]), (-1, [(2, 5), (3, -1), (5, 1)])], [((0, [(0, 1)]), 22), ((0, [(1, 1)]), 119), ((0, [(4, 1)]), 123)], [((0, [(0, 1)]), 10, (1, (0, [(4, 1)])))], [((0, [(4, 1)]), (24, [(2, 1)]), (0, (0, [(5, 1)]))), ((0, [(1, 1)]), (217, [(3, 1)]), (0, (0, [(6, 1)])))], [(41, (0, []), (1777, []))]), [(7, [], [], [(-1, [(6, 1)])], [], [], [], [])], [], [])
def lem_19 : Ctr := ((1, [], [], [(0, [(0, 1)]), (1, [(0, -1)])], [], [], [], [(50, (0, []), (0, []))]), [(1, [], [], [], [], [], [], [(49, (0, [(0, 1)]), (0, []))])], [], [])
def lem_20 : Ctr := ((1, [], [], [(0, [(0, 1)]), (1, [(0, -1)])], [], [], [], [(49, (0, [(0, 1)]), (0, [])), (43, (0, [(0, 1777)]), (1777, []))]), [(1, [], [], [], [], [], [], [(50, (0, []), (0, []))])], [], [])
def lem_21 : Ctr := ((4, [], [], [(0, [(1, 1)]), (1, [(1, -1)]), (-1, [(3, 1)])], [((0, [(0, 1)]), 22), ((0, [(2, 1)]), 135)], [((0, [(0, 1)]), 26, (1, (0, [(2, 1)])))], [((0, [(2, 1)]), (0, [(1, 1)]), (0, (0, [(3, 1)])))], [(50, (0, []), (0, []))]), [(4, [], [], [], [], [], [], [(43, (0, [(1, 1777)]), (1777, []))])], [], [])
def lem_22 : Ctr := ((4, [], [], [(0, [(2, -1)]), (0, [(3, -1)])], [((0, [(0, 1)]), 22), ((0, [(1, 1)]), 135)], [((0, [(0, 1)]), 26, (1, (0, [(1, 1)])))], [((0, [(1, 1)]), (0, []), (0, (0, [(2, 1)]))), ((0, [(1, 1)]), (1, []), (0, (0, [(3, 1)])))], []), [(4, [], [], [], [], [], [], [(50, (0, []), (0, []))])], [], [])
def lem_23 : Ctr := ((4, [], [], [(0, [(1, 1)]), (54, [(1, -1)]), (0, [(3, 1)]), (0, [(3, -1)])], [((0, [(0, 1)]), 22), ((0, [(2, 1)]), 124)], [((0, [(0, 1)]), 11, (1, (0, [(2, 1)])))], [((0, [(2, 1)]), (0, [(1, 1)]), (0, (0, [(3, 1)])))], [(47, (0, []), (0, [(1, 1)]))]), [(4, [], [], [], [], [], [], [(47, (0, []), (1, [(1, 1)]))])], [], [])
def lem_24 : Ctr := ((0, [], [], [], [], [], [], []), [(0, [], [], [], [], [], [], [(47, (0, []), (0, []))])], [], [])
/-- empty47 -/
theorem lem_24_ok (hU : ∀ x y, 118 ≤ G x → G x ≤ 140 → G x = G y → x = y) : lem_24.1.2.1 = [] ∧ lemOK (PRd G) G rgs lem_24 := by
  refine ⟨rfl, fun ρ h ha hT => ?_⟩
  obtain ⟨-, -, hF, hG, hH, hA, hP⟩ := ha
  refine ⟨_, List.mem_cons_self, ρ, fun _ _ => rfl, fun q hq => absurd hq List.not_mem_nil, trivial, fun f hf => ?_, fun q hq => absurd hq List.not_mem_nil, fun q hq => absurd hq List.not_mem_nil, fun q hq => absurd hq List.not_mem_nil, fun q hq => ?_⟩
  · exact absurd hf List.not_mem_nil
  · simp only [List.mem_cons, List.not_mem_nil, or_false] at hq
    subst hq
    show PRd G 47 ((0) + 0) ((0) + 0) h
    intro x hx i hi
    omega
def lem_25 : Ctr := ((0, [], [], [], [], [], [], [(47, (0, []), (55, []))]), [(0, [], [], [], [], [], [], [(44, (0, []), (1777, []))])], [], [])
def lem_26 : Ctr := ((1, [], [], [(0, [(0, 1)]), (39, [(0, -1)])], [], [], [], [(44, (0, []), (1777, []))]), [(1, [], [], [], [], [], [], [(44, (0, []), (217, [(0, 1)])), (44, (218, [(0, 1)]), (1559, [(0, -1)]))])], [], [])
/-- slotSplit -/
theorem lem_26_ok (hU : ∀ x y, 118 ≤ G x → G x ≤ 140 → G x = G y → x = y) : lem_26.1.2.1 = [] ∧ lemOK (PRd G) G rgs lem_26 := by
  refine ⟨rfl, fun ρ h ha hT => ?_⟩
  obtain ⟨-, -, hF, hG, hH, hA, hP⟩ := ha
  have f0 : (0 : Int) ≤ ((0) + ((1) * ρ 0 + 0)) := hF _ (List.mem_of_getElem? (i := 0) rfl)
  have f1 : (0 : Int) ≤ ((39) + ((-1) * ρ 0 + 0)) := hF _ (List.mem_of_getElem? (i := 1) rfl)
  have p0 : PRd G 44 ((0) + 0) ((1777) + 0) h := hP _ (List.mem_of_getElem? (i := 0) rfl)
  refine ⟨_, List.mem_cons_self, ρ, fun _ _ => rfl, fun q hq => absurd hq List.not_mem_nil, trivial, fun f hf => ?_, fun q hq => absurd hq List.not_mem_nil, fun q hq => absurd hq List.not_mem_nil, fun q hq => absurd hq List.not_mem_nil, fun q hq => ?_⟩
  · exact absurd hf List.not_mem_nil
  · simp only [List.mem_cons, List.not_mem_nil, or_false] at hq
    rcases hq with rfl | rfl
    · show PRd G 44 ((0) + 0) ((217) + ((1) * ρ 0 + 0)) h
      exact GD_sub p0 (by omega) (by omega)
    · show PRd G 44 ((218) + ((1) * ρ 0 + 0)) ((1559) + ((-1) * ρ 0 + 0)) h
      exact GD_sub p0 (by omega) (by omega)
def lem_27 : Ctr := ((7, [], [], [(-1, [(6, 1)]), (0, [(1, 1)]), (7, [(1, -1)]), (0, [(5, 1)]), (4, [(5, -1)]), (0, [(1, 5), (2, -1), (5, 1)]), (0, [(1, -5), (2, 1), (5, -1)])], [((0, [(0, 1)]), 22), ((0, [(3, 1)]), 120), ((0, [(4, 1)]), 124)], [((0, [(0, 1)]), 13, (1, (0, [(3, 1)]))), ((0, [(0, 1)]), 11, (1, (0, [(4, 1)])))], [((0, [(4, 1)]), (24, [(1, 1)]), (0, (0, [(5, 1)]))), ((0, [(3, 1)]), (217, [(2, 1)]), (0, (0, [(6, 1)])))], [(44, (0, []), (217, [(2, 1)])), (44, (218, [(2, 1)]), (1559, [(2, -1)]))]), [(7, [], [], [], [], [], [], [(48, (0, [(1, 1)]), (1, [(5, 1)]))])], [], [])
def lem_28 : Ctr := ((4, [], [], [(0, [(1, 1)]), (7, [(1, -1)])], [((0, [(0, 1)]), 22), ((0, [(2, 1)]), 124)], [((0, [(0, 1)]), 11, (1, (0, [(2, 1)])))], [((0, [(2, 1)]), (24, [(1, 1)]), (0, (0, [(3, 1)])))], [(48, (0, [(1, 1)]), (0, [(3, 1)]))]), [(4, [], [], [], [], [], [], [(44, (0, []), (1777, []))])], [], [])
def lem_29 : Ctr := ((5, [], [], [(0, [(1, 1)]), (1776, [(1, -1)])], [((0, [(0, 1)]), 22), ((0, [(2, 1)]), 118), ((0, [(3, 1)]), 120)], [((0, [(0, 1)]), 12, (1, (0, [(2, 1)]))), ((0, [(0, 1)]), 13, (1, (0, [(3, 1)])))], [((0, [(2, 1)]), (0, [(1, 1)]), (0, (0, [(4, 1)]))), ((0, [(3, 1)]), (0, [(1, 1)]), (0, (0, [(4, 1)])))], [(44, (0, []), (1777, [])), (45, (0, []), (0, [(1, 1)]))]), [(5, [], [], [], [], [], [], [(45, (0, []), (1, [(1, 1)]))])], [], [])
def lem_30 : Ctr := ((5, [], [], [(0, [(1, 1)]), (54, [(1, -1)])], [((0, [(0, 1)]), 22), ((0, [(2, 1)]), 123), ((0, [(3, 1)]), 124)], [((0, [(0, 1)]), 10, (1, (0, [(2, 1)]))), ((0, [(0, 1)]), 11, (1, (0, [(3, 1)])))], [((0, [(2, 1)]), (0, [(1, 1)]), (0, (0, [(4, 1)]))), ((0, [(3, 1)]), (0, [(1, 1)]), (0, (0, [(4, 1)])))], [(46, (0, []), (0, [(1, 1)]))]), [(5, [], [], [], [], [], [], [(46, (0, []), (1, [(1, 1)]))])], [], [])
def lem_31 : Ctr := ((0, [], [], [], [], [], [], []), [(0, [], [], [], [], [], [], [(46, (0, []), (0, []))])], [], [])
/-- empty46 -/
theorem lem_31_ok (hU : ∀ x y, 118 ≤ G x → G x ≤ 140 → G x = G y → x = y) : lem_31.1.2.1 = [] ∧ lemOK (PRd G) G rgs lem_31 := by
  refine ⟨rfl, fun ρ h ha hT => ?_⟩
  obtain ⟨-, -, hF, hG, hH, hA, hP⟩ := ha
  refine ⟨_, List.mem_cons_self, ρ, fun _ _ => rfl, fun q hq => absurd hq List.not_mem_nil, trivial, fun f hf => ?_, fun q hq => absurd hq List.not_mem_nil, fun q hq => absurd hq List.not_mem_nil, fun q hq => absurd hq List.not_mem_nil, fun q hq => ?_⟩
  · exact absurd hf List.not_mem_nil
  · simp only [List.mem_cons, List.not_mem_nil, or_false] at hq
    subst hq
    show PRd G 46 ((0) + 0) ((0) + 0) h
    intro x y hx hy i hi
    omega
def lem_32 : Ctr := ((0, [], [], [], [], [], [], [(45, (0, []), (1777, [])), (46, (0, []), (55, []))]), [(0, [], [], [], [], [], [], [(40, (0, []), (1777, []))])], [], [])
end LMS
