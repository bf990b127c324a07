/-! what the facts of the text say -/
section TQ
variable {B : Nat → Int} {r r2 n s i e v b c w u : Int}
def tn (r : Int) : Nat := (r % 2048).toNat
def ts (r : Int) : Nat := (r / 2048 % 2048).toNat
theorem dec2 (hr : r = n + 2048 * s) (h0 : 0 ≤ n) (h1 : n ≤ 1200) (h2 : 0 ≤ s) (h3 : s ≤ 1300) : tn r = n.toNat ∧ ts r = s.toNat := by
  unfold tn ts
  omega
theorem dec3 (hr : r = n + 2048 * s + 4194304 * w) (h0 : 0 ≤ n) (h1 : n ≤ 1200) (h2 : 0 ≤ s) (h3 : s ≤ 1300) (h4 : 0 ≤ w) : tn r = n.toNat ∧ ts r = s.toNat ∧ r / 4194304 = w := by
  unfold tn ts
  omega
/-- a byte of the text -/
def q150 (B : Nat → Int) (r c : Int) : Prop := -128 ≤ c ∧ c ≤ 255 ∧ c % 256 = B r.toNat
def qRn (p : Int → Bool) (B : Nat → Int) (r c : Int) : Prop := c = (tRn p B (tn r) (ts r) : Int)
theorem p_bl : isBl (-1) = false := by decide
theorem p_lt : isLt (-1) = false := by decide
theorem p_dg : isDg (-1) = false := by decide
theorem bl_y (h : q150 B i b) (h1 : 32 ≤ b) (h2 : b ≤ 32) : isBl (B i.toNat) = true := by
  obtain ⟨-, -, h3⟩ := h
  unfold isBl
  rw [← h3]
  exact decide_eq_true (by omega)
theorem bl_n (h : q150 B i b) (h1 : b ≤ 31 ∨ 33 ≤ b) : isBl (B i.toNat) = false := by
  obtain ⟨h2, h4, h3⟩ := h
  unfold isBl
  rw [← h3]
  exact decide_eq_false (by omega)
theorem lt_y (h : q150 B i b) (h1 : 97 ≤ b) (h2 : b ≤ 122) : isLt (B i.toNat) = true := by
  obtain ⟨-, -, h3⟩ := h
  unfold isLt
  rw [← h3, decide_eq_true (by omega), decide_eq_true (by omega)]
  rfl
theorem lt_n (h : q150 B i b) (h1 : b ≤ 96 ∨ 123 ≤ b) : isLt (B i.toNat) = false := by
  obtain ⟨h2, h4, h3⟩ := h
  refine ff fun h5 => ?_
  unfold isLt at h5
  simp only [Bool.and_eq_true, decide_eq_true_eq] at h5
  omega
theorem dg_y (h : q150 B i b) (h1 : 48 ≤ b) (h2 : b ≤ 57) : isDg (B i.toNat) = true := by
  obtain ⟨-, -, h3⟩ := h
  unfold isDg
  rw [← h3, decide_eq_true (by omega), decide_eq_true (by omega)]
  rfl
theorem dg_n (h : q150 B i b) (h1 : b ≤ 47 ∨ 58 ≤ b) : isDg (B i.toNat) = false := by
  obtain ⟨h2, h4, h3⟩ := h
  refine ff fun h5 => ?_
  unfold isDg at h5
  simp only [Bool.and_eq_true, decide_eq_true_eq] at h5
  omega
/-- a run -/
theorem rn_new {p : Int → Bool} (hp : p (-1) = false) (hr : r = n + 2048 * i) (h0 : 0 ≤ n) (h1 : n ≤ 1200) (h2 : 0 ≤ i) (h3 : i ≤ n) (he : e = (tRn p B n.toNat i.toNat : Int)) : i ≤ e ∧ e ≤ n ∧ qRn p B r e := by
  obtain ⟨a, b⟩ := dec2 hr h0 h1 h2 (by omega)
  have h5 := @tWh_ge B n.toNat p n.toNat i.toNat
  have h6 := @tWh_le B n.toNat p hp n.toNat i.toNat (by omega)
  unfold tRn at he
  refine ⟨by omega, by omega, ?_⟩
  unfold qRn tRn
  rw [a, b]
  exact he
theorem rn_new1 {p : Int → Bool} (hp : p (-1) = false) (hr : r = n + 2048 * i) (h0 : 0 ≤ n) (h1 : n ≤ 1200) (h2 : 0 ≤ i) (h3 : i + 1 ≤ n) (hb : p (B i.toNat) = true) (he : e = (tRn p B n.toNat i.toNat : Int)) : i + 1 ≤ e ∧ e ≤ n ∧ qRn p B r e := by
  obtain ⟨a, b, c⟩ := rn_new hp hr h0 h1 h2 (by omega) he
  have h5 : p (tAt B n.toNat i.toNat) = true := by unfold tAt; rw [if_pos (by omega)]; exact hb
  have h6 := tWh_step (n := n.toNat) hp h5
  have h7 := @tWh_ge B n.toNat p n.toNat (i.toNat + 1)
  unfold tRn at he
  exact ⟨by omega, b, c⟩
theorem rn_step {p : Int → Bool} (hp : p (-1) = false) (hr : r = n + 2048 * i) (hr2 : r2 = n + 2048 * (i + 1)) (h0 : 0 ≤ n) (h1 : n ≤ 1200) (h2 : 0 ≤ i) (h3 : i + 1 ≤ n) (hb : p (B i.toNat) = true) (h : qRn p B r e) : i + 1 ≤ e ∧ qRn p B r2 e := by
  obtain ⟨a, b⟩ := dec2 hr h0 h1 h2 (by omega)
  obtain ⟨a2, b2⟩ := dec2 hr2 h0 h1 (by omega) (by omega)
  have h5 : p (tAt B n.toNat i.toNat) = true := by unfold tAt; rw [if_pos (by omega)]; exact hb
  have h6 := tWh_step (n := n.toNat) hp h5
  have h7 := @tWh_ge B n.toNat p n.toNat (i.toNat + 1)
  unfold qRn tRn at h ⊢
  rw [a, b] at h
  rw [a2, b2, show (i + 1).toNat = i.toNat + 1 by omega]
  exact ⟨by omega, by omega⟩
theorem rn_stop {p : Int → Bool} (hp : p (-1) = false) (hr : r = n + 2048 * i) (h0 : 0 ≤ n) (h1 : n ≤ 1200) (h2 : 0 ≤ i) (h3 : i ≤ n) (hb : i + 1 ≤ n → p (B i.toNat) = false) (h : qRn p B r e) : e = i := by
  obtain ⟨a, b⟩ := dec2 hr h0 h1 h2 (by omega)
  have h5 : p (tAt B n.toNat i.toNat) = false := by
    unfold tAt
    split
    · exact hb (by omega)
    · exact hp
  have h6 := tWh_stop (n := n.toNat) hp h5
  unfold qRn tRn at h
  rw [a, b, h6] at h
  omega
/-- tokens -/
def q155 (B : Nat → Int) (r c : Int) : Prop := c = (tKd B (tn r) (ts r) : Int)
def q180 (B : Nat → Int) (r c : Int) : Prop := c = ((tKd B (tn r) (ts r) : Int) + 1) % 5
def q156 (B : Nat → Int) (r c : Int) : Prop := (c = -1 ∧ ts r = 0) ∨ (0 ≤ c ∧ ts r = tEn B (tn r) c.toNat)
def q157 (B : Nat → Int) (r c : Int) : Prop := tKd B (tn r) (ts r) = 2 → c = tNm B (tn r) (ts r)
def q158 (B : Nat → Int) (r c : Int) : Prop := (c = -1 ∧ ts r = tRn isBl B (tn r) 0) ∨ (0 ≤ c ∧ ts r = tNx B (tn r) c.toNat)
def q178 (B : Nat → Int) (r c : Int) : Prop := ts r < tn r ∧ isLt (B (ts r)) = true ∧ c = (tRn isLt B (tn r) (ts r) : Int)
def q179 (B : Nat → Int) (r c : Int) : Prop := ts r < tn r ∧ isLt (B (ts r)) = false ∧ isDg (B (ts r)) = true ∧ c = (tRn isDg B (tn r) (ts r) : Int)
def q189 (B : Nat → Int) (r : Int) : Prop := ts r < tn r → isLt (B (ts r)) = false ∧ isDg (B (ts r)) = false
def q181 (B : Nat → Int) (r c : Int) : Prop := tKd B (tn r) (ts r) = 3 → B (ts r) = c
def q154 (B : Nat → Int) (r c : Int) : Prop := r / 2048 ≤ 5 → c = tVl B (tn r) (r / 2048).toNat ∧ 0 ≤ c ∧ c < 10 ^ (r / 2048).toNat
theorem sk_new {r3 : Int} (hr : r = n + 2048 * i) (h0 : 0 ≤ n) (h1 : n ≤ 1200) (h2 : 0 ≤ i) (h3 : i ≤ n) (he : e = (tRn isBl B n.toNat i.toNat : Int)) (hr3 : r3 = n + 2048 * e) (h : q156 B r s) : i ≤ e ∧ e ≤ n ∧ qRn isBl B r e ∧ q158 B r3 s := by
  obtain ⟨a, b⟩ := dec2 hr h0 h1 h2 (by omega)
  obtain ⟨x, y, z⟩ := rn_new p_bl hr h0 h1 h2 h3 he
  obtain ⟨a3, b3⟩ := dec2 hr3 h0 h1 (by omega) (by omega)
  refine ⟨x, y, z, ?_⟩
  unfold q156 at h
  unfold q158
  rw [a, b] at h
  rw [a3, b3]
  rcases h with ⟨h4, h5⟩ | ⟨h4, h5⟩
  · refine Or.inl ⟨h4, ?_⟩
    rw [← h5]
    omega
  · refine Or.inr ⟨h4, ?_⟩
    unfold tNx
    rw [← h5]
    omega
theorem ls_new (hr : r = n + 2048 * i) (h0 : 0 ≤ n) (h1 : n ≤ 1200) (h2 : 0 ≤ i) (h3 : i + 1 ≤ n) (hb : isLt (B i.toNat) = true) (he : e = (tRn isLt B n.toNat i.toNat : Int)) : q178 B r e := by
  obtain ⟨a, b⟩ := dec2 hr h0 h1 h2 (by omega)
  unfold q178
  rw [a, b]
  exact ⟨by omega, hb, he⟩
theorem ds_new (hr : r = n + 2048 * i) (h0 : 0 ≤ n) (h1 : n ≤ 1200) (h2 : 0 ≤ i) (h3 : i + 1 ≤ n) (hl : isLt (B i.toNat) = false) (hb : isDg (B i.toNat) = true) (he : e = (tRn isDg B n.toNat i.toNat : Int)) : q179 B r e := by
  obtain ⟨a, b⟩ := dec2 hr h0 h1 h2 (by omega)
  unfold q179
  rw [a, b]
  exact ⟨by omega, hl, hb, he⟩
theorem nl_new (hr : r = n + 2048 * i) (h0 : 0 ≤ n) (h1 : n ≤ 1200) (h2 : 0 ≤ i) (h3 : i + 1 ≤ n) (hl : isLt (B i.toNat) = false) (hd : isDg (B i.toNat) = false) : q189 B r := by
  obtain ⟨a, b⟩ := dec2 hr h0 h1 h2 (by omega)
  unfold q189
  rw [a, b]
  exact fun _ => ⟨hl, hd⟩
theorem vl_new (hr : r = s) (h0 : 0 ≤ s) (h1 : s ≤ 1200) (hc : c = 0) : q154 B r c := by
  unfold q154
  rw [show (r / 2048).toNat = 0 by omega, hc]
  exact fun _ => ⟨rfl, by omega, by decide⟩
theorem vl_over (hr : r = s + 2048 * (i - s) + 2048) (h0 : 0 ≤ s) (h1 : s ≤ 1200) (h2 : 5 ≤ i - s) : q154 B r c := fun h => by omega
theorem vl_bound (hr : r = s + 2048 * (i - s)) (h0 : 0 ≤ s) (h1 : s ≤ 1200) (h2 : s ≤ i) (h3 : i - s ≤ 4) (h : q154 B r v) : 0 ≤ v ∧ v ≤ 9999 := by
  obtain ⟨-, h4, h5⟩ := h (by omega)
  have h6 : (10 : Int) ^ (r / 2048).toNat ≤ 10000 := by
    have : (r / 2048).toNat ≤ 4 := by omega
    generalize (r / 2048).toNat = k at this
    have : k = 0 ∨ k = 1 ∨ k = 2 ∨ k = 3 ∨ k = 4 := by omega
    rcases this with rfl | rfl | rfl | rfl | rfl <;> decide
  omega
theorem vl_step (hr : r = s + 2048 * (i - s)) (hr2 : r2 = s + 2048 * (i - s) + 2048) (h0 : 0 ≤ s) (h1 : s ≤ 1200) (h2 : s ≤ i) (hb : q150 B i b) (h3 : 48 ≤ b) (h4 : b ≤ 57) (hw : w = 10 * v + b - 48) (h : q154 B r v) : q154 B r2 w := fun h5 => by
  obtain ⟨a1, a2, a3⟩ := h (by omega)
  have e1 : tn r2 = tn r := by unfold tn; omega
  have e2 : tn r = s.toNat := by unfold tn; omega
  have e3 : (r2 / 2048).toNat = (r / 2048).toNat + 1 := by omega
  have e4 : s.toNat + (r / 2048).toNat = i.toNat := by omega
  obtain ⟨-, -, hb3⟩ := hb
  rw [e3, e1]
  have e5 : tVl B (tn r) ((r / 2048).toNat + 1) = 10 * tVl B (tn r) (r / 2048).toNat + (B (tn r + (r / 2048).toNat) - 48) := rfl
  rw [e5, e2, e4, ← hb3, Int.pow_succ]
  rw [e2] at a1
  generalize (10 : Int) ^ (r / 2048).toNat = P at *
  generalize tVl B s.toNat (r / 2048).toNat = T at *
  omega
theorem tk_end (h0 : 0 ≤ n) (h3 : n ≤ s) : tKd B n.toNat s.toNat = 0 ∧ tEn B n.toNat s.toNat = s.toNat := by
  unfold tKd tEn
  rw [if_pos (by omega), if_pos (by omega)]
  exact ⟨rfl, rfl⟩
theorem tk_word (hr : r = n + 2048 * s) (h0 : 0 ≤ n) (h1 : n ≤ 1200) (h2 : 0 ≤ s) (h3 : s + 1 ≤ n) (h : q178 B r i) : tKd B n.toNat s.toNat = (if i - s ≤ 9 then 1 else 4) ∧ tEn B n.toNat s.toNat = i.toNat ∧ 0 ≤ i ∧ i ≤ n := by
  obtain ⟨a, b⟩ := dec2 hr h0 h1 h2 (by omega)
  unfold q178 at h
  rw [a, b] at h
  obtain ⟨h4, h5, h6⟩ := h
  have h7 := @tWh_ge B n.toNat isLt n.toNat s.toNat
  have h77 := @tWh_le B n.toNat isLt p_lt n.toNat s.toNat (by omega)
  have hn : ¬ n.toNat ≤ s.toNat := by omega
  have k1 : tKd B n.toNat s.toNat = (if tRn isLt B n.toNat s.toNat - s.toNat ≤ 9 then 1 else 4) := by
    unfold tKd
    rw [if_neg hn, if_pos h5]
  have k2 : tEn B n.toNat s.toNat = tRn isLt B n.toNat s.toNat := by
    unfold tEn
    rw [if_neg hn, if_pos h5]
  rw [k1, k2]
  unfold tRn at h6 ⊢
  refine ⟨?_, by omega, by omega, by omega⟩
  by_cases h9 : i - s ≤ 9
  · rw [if_pos h9, if_pos (by omega)]
  · rw [if_neg h9, if_neg (by omega)]
theorem tk_num (hr : r = n + 2048 * s) (h0 : 0 ≤ n) (h1 : n ≤ 1200) (h2 : 0 ≤ s) (h3 : s + 1 ≤ n) (h : q179 B r i) : tKd B n.toNat s.toNat = (if i - s ≤ 5 then 2 else 4) ∧ tEn B n.toNat s.toNat = i.toNat ∧ 0 ≤ i ∧ i ≤ n := by
  obtain ⟨a, b⟩ := dec2 hr h0 h1 h2 (by omega)
  unfold q179 at h
  rw [a, b] at h
  obtain ⟨h4, h8, h5, h6⟩ := h
  have h7 := @tWh_ge B n.toNat isDg n.toNat s.toNat
  have h77 := @tWh_le B n.toNat isDg p_dg n.toNat s.toNat (by omega)
  have hn : ¬ n.toNat ≤ s.toNat := by omega
  have k1 : tKd B n.toNat s.toNat = (if tRn isDg B n.toNat s.toNat - s.toNat ≤ 5 then 2 else 4) := by
    unfold tKd
    rw [if_neg hn, if_neg (nt h8), if_pos h5]
  have k2 : tEn B n.toNat s.toNat = tRn isDg B n.toNat s.toNat := by
    unfold tEn
    rw [if_neg hn, if_neg (nt h8), if_pos h5]
  rw [k1, k2]
  unfold tRn at h6 ⊢
  refine ⟨?_, by omega, by omega, by omega⟩
  by_cases h9 : i - s ≤ 5
  · rw [if_pos h9, if_pos (by omega)]
  · rw [if_neg h9, if_neg (by omega)]
theorem tk_one (h0 : 0 ≤ n) (h2 : 0 ≤ s) (h3 : s + 1 ≤ n) (hl : isLt (B s.toNat) = false) (hd : isDg (B s.toNat) = false) : tKd B n.toNat s.toNat = (if isSg (B s.toNat) = true then 3 else 4) ∧ tEn B n.toNat s.toNat = s.toNat + 1 := by
  have hn : ¬ n.toNat ≤ s.toNat := by omega
  constructor
  · unfold tKd
    rw [if_neg hn, if_neg (nt hl), if_neg (nt hd)]
  · unfold tEn
    rw [if_neg hn, if_neg (nt hl), if_neg (nt hd)]
theorem sg_in (h : u = 59 ∨ u = 40 ∨ u = 41 ∨ u = 60 ∨ u = 62 ∨ u = 61) : isSg u = true ∧ isLt u = false ∧ isDg u = false := by
  rcases h with rfl | rfl | rfl | rfl | rfl | rfl <;> decide
theorem sg_out (h : u ≤ 39 ∨ (42 ≤ u ∧ u ≤ 58) ∨ 63 ≤ u) : isSg u = false := ff fun h1 => by
  unfold isSg at h1
  simp only [Bool.or_eq_true, decide_eq_true_eq] at h1
  omega
theorem tk_sign (h0 : 0 ≤ n) (h2 : 0 ≤ s) (h3 : s + 1 ≤ n) (hB : B s.toNat = u) (hu : u = 59 ∨ u = 40 ∨ u = 41 ∨ u = 60 ∨ u = 62 ∨ u = 61) : tKd B n.toNat s.toNat = 3 ∧ tEn B n.toNat s.toNat = s.toNat + 1 := by
  obtain ⟨a, b, c⟩ := sg_in hu
  have h := tk_one (B := B) h0 h2 h3 (by rw [hB]; exact b) (by rw [hB]; exact c)
  rw [hB, if_pos a] at h
  exact h
theorem tk_bad (hr : r = n + 2048 * s) (h0 : 0 ≤ n) (h1 : n ≤ 1200) (h2 : 0 ≤ s) (h3 : s + 1 ≤ n) (hB : B s.toNat = u) (hu : u ≤ 39 ∨ (42 ≤ u ∧ u ≤ 58) ∨ 63 ≤ u) (hN : q189 B r) : tKd B n.toNat s.toNat = 4 ∧ tEn B n.toNat s.toNat = s.toNat + 1 := by
  obtain ⟨a, b⟩ := dec2 hr h0 h1 h2 (by omega)
  unfold q189 at hN
  rw [a, b] at hN
  obtain ⟨x, y⟩ := hN (by omega)
  have h := tk_one (B := B) h0 h2 h3 x y
  rw [hB, if_neg (nt (sg_out hu))] at h
  exact h
/-- what is told of a token -/
theorem o155 {k : Nat} (hr : r = n + 2048 * s) (h0 : 0 ≤ n) (h1 : n ≤ 1200) (h2 : 0 ≤ s) (h3 : s ≤ n) (hk : tKd B n.toNat s.toNat = k) (hc : c = k) : q155 B r c := by
  obtain ⟨a, b⟩ := dec2 hr h0 h1 h2 (by omega)
  unfold q155
  rw [a, b, hk]
  exact hc
theorem o180 {k : Nat} (hr : r = n + 2048 * s) (h0 : 0 ≤ n) (h1 : n ≤ 1200) (h2 : 0 ≤ s) (h3 : s ≤ n) (hk : tKd B n.toNat s.toNat = k) (hc : c = ((k : Int) + 1) % 5) : q180 B r c := by
  obtain ⟨a, b⟩ := dec2 hr h0 h1 h2 (by omega)
  unfold q180
  rw [a, b, hk]
  exact hc
theorem o156 (hr : r = n + 2048 * e) (h0 : 0 ≤ n) (h1 : n ≤ 1200) (h2 : 0 ≤ e) (h3 : e ≤ 1300) (hs : 0 ≤ s) (he : tEn B n.toNat s.toNat = e.toNat) : q156 B r s := by
  obtain ⟨a, b⟩ := dec2 hr h0 h1 h2 h3
  refine Or.inr ⟨hs, ?_⟩
  rw [a, b]
  exact he.symm
theorem o157n {k : Nat} (hr : r = n + 2048 * s) (h0 : 0 ≤ n) (h1 : n ≤ 1200) (h2 : 0 ≤ s) (h3 : s ≤ n) (hk : tKd B n.toNat s.toNat = k) (hc : k ≠ 2) : q157 B r c := by
  obtain ⟨a, b⟩ := dec2 hr h0 h1 h2 (by omega)
  unfold q157
  rw [a, b, hk]
  exact fun q => absurd q hc
theorem o157 (hr : r = n + 2048 * s) (h0 : 0 ≤ n) (h1 : n ≤ 1200) (h2 : 0 ≤ s) (h3 : s ≤ n) (he : tEn B n.toNat s.toNat = i.toNat) (hi : s ≤ i) (h5 : i - s ≤ 5) (hr2 : r2 = s + 2048 * (i - s)) (hv : q154 B r2 v) : q157 B r v := by
  obtain ⟨a, b⟩ := dec2 hr h0 h1 h2 (by omega)
  obtain ⟨c1, -, -⟩ := hv (by omega)
  unfold q157 tNm
  rw [a, b, he, c1, show tn r2 = s.toNat by unfold tn; omega, show (r2 / 2048).toNat = i.toNat - s.toNat by omega]
  exact fun _ => rfl
theorem o181n {k : Nat} (hr : r = n + 2048 * s) (h0 : 0 ≤ n) (h1 : n ≤ 1200) (h2 : 0 ≤ s) (h3 : s ≤ n) (hk : tKd B n.toNat s.toNat = k) (hc : k ≠ 3) : q181 B r c := by
  obtain ⟨a, b⟩ := dec2 hr h0 h1 h2 (by omega)
  unfold q181
  rw [a, b, hk]
  exact fun q => absurd q hc
theorem o181 (hr : r = n + 2048 * s) (h0 : 0 ≤ n) (h1 : n ≤ 1200) (h2 : 0 ≤ s) (h3 : s ≤ n) (hB : B s.toNat = c) : q181 B r c := by
  obtain ⟨a, b⟩ := dec2 hr h0 h1 h2 (by omega)
  unfold q181
  rw [b]
  exact fun _ => hB
/-- out of what is told -/
theorem k155 (hr : r = n + 2048 * s) (h0 : 0 ≤ n) (h1 : n ≤ 1200) (h2 : 0 ≤ s) (h3 : s ≤ n) (h : q155 B r c) : (tKd B n.toNat s.toNat : Int) = c := by
  obtain ⟨a, b⟩ := dec2 hr h0 h1 h2 (by omega)
  unfold q155 at h
  rw [a, b] at h
  exact h.symm
theorem kdx4 {n s : Nat} : tKd B n s ≤ 4 := by
  unfold tKd
  repeat' split
  all_goals omega
theorem k180 (hr : r = n + 2048 * s) (h0 : 0 ≤ n) (h1 : n ≤ 1200) (h2 : 0 ≤ s) (h3 : s ≤ n) (h : q180 B r c) : c = ((tKd B n.toNat s.toNat : Int) + 1) % 5 ∧ tKd B n.toNat s.toNat ≤ 4 := by
  obtain ⟨a, b⟩ := dec2 hr h0 h1 h2 (by omega)
  unfold q180 at h
  rw [a, b] at h
  exact ⟨h, kdx4⟩
theorem k156 (hr : r = n + 2048 * e) (h0 : 0 ≤ n) (h1 : n ≤ 1200) (h2 : 0 ≤ e) (h3 : e ≤ 1300) (hs : 0 ≤ s) (h : q156 B r s) : tEn B n.toNat s.toNat = e.toNat := by
  obtain ⟨a, b⟩ := dec2 hr h0 h1 h2 h3
  unfold q156 at h
  rw [a, b] at h
  rcases h with h | h
  · omega
  · exact h.2.symm
theorem k157 (hr : r = n + 2048 * s) (h0 : 0 ≤ n) (h1 : n ≤ 1200) (h2 : 0 ≤ s) (h3 : s ≤ n) (hk : tKd B n.toNat s.toNat = 2) (h : q157 B r c) : tNm B n.toNat s.toNat = c := by
  obtain ⟨a, b⟩ := dec2 hr h0 h1 h2 (by omega)
  unfold q157 at h
  rw [a, b] at h
  exact (h hk).symm
theorem k158 {t : Int} (hr : r = n + 2048 * t) (h0 : 0 ≤ n) (h1 : n ≤ 1200) (h2 : 0 ≤ t) (h3 : t ≤ n) (hs : 0 ≤ s) (h : q158 B r s) : tNx B n.toNat s.toNat = t.toNat := by
  obtain ⟨a, b⟩ := dec2 hr h0 h1 h2 (by omega)
  unfold q158 at h
  rw [a, b] at h
  rcases h with h | h
  · omega
  · exact h.2.symm
theorem k181 (hr : r = n + 2048 * s) (h0 : 0 ≤ n) (h1 : n ≤ 1200) (h2 : 0 ≤ s) (h3 : s ≤ n) (hk : tKd B n.toNat s.toNat = 3) (h : q181 B r c) : B s.toNat = c := by
  obtain ⟨a, b⟩ := dec2 hr h0 h1 h2 (by omega)
  unfold q181 at h
  rw [a, b] at h
  exact h hk
theorem en_gt {n s : Nat} (hk : tKd B n s ≠ 0) : s < n ∧ s + 1 ≤ tEn B n s := by
  have hn : ¬ n ≤ s := fun h => hk (by unfold tKd; rw [if_pos h])
  refine ⟨by omega, ?_⟩
  unfold tEn
  rw [if_neg hn]
  have go : ∀ {p : Int → Bool}, p (-1) = false → p (B s) = true → s + 1 ≤ tRn p B n s := fun {p} hp hb => by
    have h5 : p (tAt B n s) = true := by unfold tAt; rw [if_pos (by omega)]; exact hb
    have h6 := tWh_step (n := n) hp h5
    have h7 := @tWh_ge B n p n (s + 1)
    unfold tRn
    omega
  split
  next h => exact go p_lt h
  next =>
    split
    next h => exact go p_dg h
    next => omega
theorem nx_gt {n s : Nat} (hk : tKd B n s ≠ 0) : s + 1 ≤ tNx B n s := by
  have h1 := (en_gt hk).2
  have h2 := @tWh_ge B n isBl n (tEn B n s)
  unfold tNx tRn
  omega
theorem pos_end {n s : Nat} (h : n ≤ s) : tKd B n s = 0 := by unfold tKd; rw [if_pos h]
/-- words and signs -/
def b01 (b : Bool) : Int := if b = true then 1 else 0
def q159 (B : Nat → Int) (r c : Int) : Prop := c = b01 (tIsB B (tn r) (ts r) (wd (r / 4194304).toNat))
def q160 (B : Nat → Int) (r c : Int) : Prop := c = b01 (tSgB B (tn r) (ts r) (r / 4194304))
def q161 (B : Nat → Int) (r c : Int) : Prop := ∀ j : Nat, (j : Int) < c → B ((tn r) + j) = (wd (r / 2048).toNat).getD j 0
def q182 (r c : Int) : Prop := c = ((wd r.toNat).length : Int)
def q177 (r c : Int) : Prop := c = (wd (r / 64).toNat).getD (r % 64).toNat 0
theorem b01_1 {b : Bool} (h : (1 : Int) = b01 b) : b = true := by cases b with | true => rfl | false => cases h
theorem b01_0 {b : Bool} (h : (0 : Int) = b01 b) : b = false := by cases b with | false => rfl | true => cases h
theorem k160 (hr : r = n + 2048 * s + 4194304 * c) (h0 : 0 ≤ n) (h1 : n ≤ 1200) (h2 : 0 ≤ s) (h3 : s ≤ n) (h4 : 0 ≤ c) (h : q160 B r v) : v = b01 (tSgB B n.toNat s.toNat c) := by
  obtain ⟨a, b, e⟩ := dec3 hr h0 h1 h2 (by omega) h4
  unfold q160 at h
  rw [a, b, e] at h
  exact h
theorem o160 (hr : r = n + 2048 * s + 4194304 * c) (h0 : 0 ≤ n) (h1 : n ≤ 1200) (h2 : 0 ≤ s) (h3 : s ≤ n) (h4 : 0 ≤ c) (h : v = b01 (tSgB B n.toNat s.toNat c)) : q160 B r v := by
  obtain ⟨a, b, e⟩ := dec3 hr h0 h1 h2 (by omega) h4
  unfold q160
  rw [a, b, e]
  exact h
theorem k159 (hr : r = n + 2048 * s + 4194304 * w) (h0 : 0 ≤ n) (h1 : n ≤ 1200) (h2 : 0 ≤ s) (h3 : s ≤ n) (h4 : 0 ≤ w) (h : q159 B r v) : v = b01 (tIsB B n.toNat s.toNat (wd w.toNat)) := by
  obtain ⟨a, b, e⟩ := dec3 hr h0 h1 h2 (by omega) h4
  unfold q159 at h
  rw [a, b, e] at h
  exact h
theorem o159 (hr : r = n + 2048 * s + 4194304 * w) (h0 : 0 ≤ n) (h1 : n ≤ 1200) (h2 : 0 ≤ s) (h3 : s ≤ n) (h4 : 0 ≤ w) (h : v = b01 (tIsB B n.toNat s.toNat (wd w.toNat))) : q159 B r v := by
  obtain ⟨a, b, e⟩ := dec3 hr h0 h1 h2 (by omega) h4
  unfold q159
  rw [a, b, e]
  exact h
theorem sg_kno {n s : Nat} (h : tKd B n s ≠ 3) : (0 : Int) = b01 (tSgB B n s v) := by
  rw [ff (b := tSgB B n s v) fun q => h (sg_el.mp q).1]
  rfl
theorem sg_bno {n s : Nat} (h : B s ≠ v) : (0 : Int) = b01 (tSgB B n s v) := by
  rw [ff (b := tSgB B n s v) fun q => h (sg_el.mp q).2]
  rfl
theorem sg_yes {n s : Nat} (hk : tKd B n s = 3) (h : B s = v) : (1 : Int) = b01 (tSgB B n s v) := by
  rw [sg_el.mpr ⟨hk, h⟩]
  rfl
theorem wd_kno {n s w : Nat} (h : tKd B n s ≠ 1) : (0 : Int) = b01 (tIsB B n s (wd w)) := by
  rw [ff (b := tIsB B n s (wd w)) fun q => h (is_el.mp q).1]
  rfl
theorem wd_lno {n s w : Nat} (h : tEn B n s ≠ s + (wd w).length) : (0 : Int) = b01 (tIsB B n s (wd w)) := by
  rw [ff (b := tIsB B n s (wd w)) fun q => h (is_el.mp q).2.1]
  rfl
theorem wd_eno {n s w j : Nat} (hj : j < (wd w).length) (h : B (s + j) ≠ (wd w).getD j 0) : (0 : Int) = b01 (tIsB B n s (wd w)) := by
  rw [ff (b := tIsB B n s (wd w)) fun q => h ((is_el.mp q).2.2 j hj)]
  rfl
theorem wd_yes {j : Int} (hk : tKd B n.toNat s.toNat = 1) (he : tEn B n.toNat s.toNat = i.toNat) (h2 : 0 ≤ s) (h4 : s ≤ 1200) (hw : 0 ≤ w) (hl : (i - s : Int) = ((wd w.toNat).length : Int)) (hr : r = s + 2048 * w) (h : q161 B r j) (hj : ((wd w.toNat).length : Int) ≤ j) : (1 : Int) = b01 (tIsB B n.toNat s.toNat (wd w.toNat)) := by
  rw [is_el.mpr ⟨hk, by omega, fun k hk2 => ?_⟩]
  · rfl
  · have h5 := h k (by omega)
    rw [show tn r = s.toNat by unfold tn; omega, show (r / 2048).toNat = w.toNat by omega] at h5
    exact h5
theorem mt_new (hc : c = 0) : q161 B r c := fun j hj => by omega
theorem mt_step {j : Int} (hr : r = s + 2048 * w) (h2 : 0 ≤ s) (h4 : s ≤ 1200) (hw : 0 ≤ w) (h0 : 0 ≤ j) (hc : c = j + 1) (hB : B (s.toNat + j.toNat) = (wd w.toNat).getD j.toNat 0) (h : q161 B r j) : q161 B r c := fun k hk => by
  by_cases hkj : (k : Int) < j
  · exact h k hkj
  · have : k = j.toNat := by omega
    subst this
    rw [show tn r = s.toNat by unfold tn; omega, show (r / 2048).toNat = w.toNat by omega]
    exact hB
theorem k177 {j : Int} (hr : r = j + 64 * w) (h0 : 0 ≤ j) (h1 : j ≤ 63) (hw : 0 ≤ w) (h : q177 r c) : c = (wd w.toNat).getD j.toNat 0 := by
  unfold q177 at h
  rw [show (r / 64).toNat = w.toNat by omega, show (r % 64).toNat = j.toNat by omega] at h
  exact h
theorem wd_let : ∀ w : Nat, w < 21 → ∀ j : Nat, j < (wd w).length → 97 ≤ (wd w).getD j 0 ∧ (wd w).getD j 0 ≤ 122 := by decide +kernel
theorem wd_len : ∀ w : Nat, w < 21 → (wd w).length ≤ 8 := by decide +kernel
/-- where the parse stands -/
def qRC (k : Nat) (B : Nat → Int) (r c : Int) : Prop := 0 ≤ c ∧ Rch B (tn r) (k, ts r, (r / 268435456 % 16).toNat, (r / 4294967296 % 1024).toNat, (r / 4398046511104).toNat) c.toNat
theorem rc_dec {d K R : Int} (hr : r = n + 2048 * s + 268435456 * d + 4294967296 * K + 4398046511104 * R) (h0 : 0 ≤ n) (h1 : n ≤ 1200) (h2 : 0 ≤ s) (h3 : s ≤ n) (h4 : 0 ≤ d) (h5 : d ≤ 15) (h6 : 0 ≤ K) (h7 : K ≤ 1023) (h8 : 0 ≤ R) : tn r = n.toNat ∧ ts r = s.toNat ∧ (r / 268435456 % 16).toNat = d.toNat ∧ (r / 4294967296 % 1024).toNat = K.toNat ∧ (r / 4398046511104).toNat = R.toNat := by
  unfold tn ts
  refine ⟨by omega, by omega, by omega, by omega, by omega⟩
theorem rc_el {k : Nat} {d K R ac : Int} (h : qRC k B r ac) (hr : r = n + 2048 * s + 268435456 * d + 4294967296 * K + 4398046511104 * R) (h0 : 0 ≤ n) (h1 : n ≤ 1200) (h2 : 0 ≤ s) (h3 : s ≤ n) (h4 : 0 ≤ d) (h5 : d ≤ 15) (h6 : 0 ≤ K) (h7 : K ≤ 1023) (h8 : 0 ≤ R) : Rch B n.toNat (k, s.toNat, d.toNat, K.toNat, R.toNat) ac.toNat := by
  obtain ⟨a, b, c, e, f⟩ := rc_dec hr h0 h1 h2 h3 h4 h5 h6 h7 h8
  unfold qRC at h
  rw [a, b, c, e, f] at h
  exact h.2
theorem rc_in {k S D' K' R' A : Nat} {d K R ac : Int} (hr : r = n + 2048 * s + 268435456 * d + 4294967296 * K + 4398046511104 * R) (h0 : 0 ≤ n) (h1 : n ≤ 1200) (h2 : 0 ≤ s) (h3 : s ≤ n) (h4 : 0 ≤ d) (h5 : d ≤ 15) (h6 : 0 ≤ K) (h7 : K ≤ 1023) (h8 : 0 ≤ R) (h : Rch B n.toNat (k, S, D', K', R') A) (hs : S = s.toNat) (hd : D' = d.toNat) (hK : K' = K.toNat) (hR : R' = R.toNat) (hA : ac = (A : Int)) : qRC k B r ac := by
  obtain ⟨a, b, c, e, f⟩ := rc_dec hr h0 h1 h2 h3 h4 h5 h6 h7 h8
  unfold qRC
  rw [a, b, c, e, f, ← hs, ← hd, ← hK, ← hR, show ac.toNat = A by omega]
  exact ⟨by omega, h⟩
/-- what the text comes to -/
def q166 (B : Nat → Int) (r c : Int) : Prop := outB B r.toNat c
def q192 (B : Nat → Int) (r c : Int) : Prop := ∃ R : Nat, outB B r.toNat (-1 - (R : Int)) ∧ c = ((R / 8 % 16 : Nat) : Int)
def q186 (B : Nat → Int) (r c : Int) : Prop := ∃ R : Nat, outB B r.toNat (-1 - (R : Int)) ∧ c = ((R % 8 : Nat) : Int)
def q187 (B : Nat → Int) (r c : Int) : Prop := ∃ R : Nat, outB B r.toNat (-1 - (R : Int)) ∧ c = ((R / 1024 % 8 : Nat) : Int)
/-- the record that the text ends with -/
def q174 (B : Nat → Int) (r c : Int) : Prop := 0 ≤ c ∧ endA B r.toNat c.toNat
def q163 (B : Nat → Int) (r : Int) : Prop := (tKd B (tn r) (ts r) ≠ 2 → outB B (tn r) (4096 + ts r)) ∧ (tKd B (tn r) (ts r) = 2 → tNm B (tn r) (ts r) < r / 4194304 % 16384 ∨ r / 68719476736 - 1 < tNm B (tn r) (ts r) → outB B (tn r) (8192 + ts r))
def q164 (B : Nat → Int) (r c : Int) : Prop := tKd B (tn r) (ts r) = 2 ∧ c = tNm B (tn r) (ts r)
def q165 (B : Nat → Int) (r : Int) : Prop := tIsB B (tn r) (ts r) (wd (r / 4194304).toNat) = false → outB B (tn r) (4096 + ts r)
theorem o163 {lo hi : Int} (hr : r = n + 2048 * s + 4194304 * lo + 68719476736 * (hi + 1)) (h0 : 0 ≤ n) (h1 : n ≤ 1200) (h2 : 0 ≤ s) (h3 : s ≤ n) (h4 : 0 ≤ lo) (h5 : lo ≤ 16383) (h : (tKd B n.toNat s.toNat ≠ 2 → outB B n.toNat (4096 + s.toNat)) ∧ (tKd B n.toNat s.toNat = 2 → tNm B n.toNat s.toNat < lo ∨ hi < tNm B n.toNat s.toNat → outB B n.toNat (8192 + s.toNat))) : q163 B r := by
  have a : tn r = n.toNat := by unfold tn; omega
  have b : ts r = s.toNat := by unfold ts; omega
  have c : r / 4194304 % 16384 = lo := by omega
  have e : r / 68719476736 - 1 = hi := by omega
  unfold q163
  rw [a, b, c, e]
  exact h
theorem k163 {lo hi : Int} (hr : r = n + 2048 * s + 4194304 * lo + 68719476736 * (hi + 1)) (h0 : 0 ≤ n) (h1 : n ≤ 1200) (h2 : 0 ≤ s) (h3 : s ≤ n) (h4 : 0 ≤ lo) (h5 : lo ≤ 16383) (h : q163 B r) : (tKd B n.toNat s.toNat ≠ 2 → outB B n.toNat (4096 + s.toNat)) ∧ (tKd B n.toNat s.toNat = 2 → tNm B n.toNat s.toNat < lo ∨ hi < tNm B n.toNat s.toNat → outB B n.toNat (8192 + s.toNat)) := by
  have a : tn r = n.toNat := by unfold tn; omega
  have b : ts r = s.toNat := by unfold ts; omega
  have c : r / 4194304 % 16384 = lo := by omega
  have e : r / 68719476736 - 1 = hi := by omega
  unfold q163 at h
  rw [a, b, c, e] at h
  exact h
theorem k164 (hr : r = n + 2048 * s) (h0 : 0 ≤ n) (h1 : n ≤ 1200) (h2 : 0 ≤ s) (h3 : s ≤ n) (h : q164 B r c) : tKd B n.toNat s.toNat = 2 ∧ tNm B n.toNat s.toNat = c := by
  obtain ⟨a, b⟩ := dec2 hr h0 h1 h2 (by omega)
  unfold q164 at h
  rw [a, b] at h
  exact ⟨h.1, h.2.symm⟩
theorem o164 (hr : r = n + 2048 * s) (h0 : 0 ≤ n) (h1 : n ≤ 1200) (h2 : 0 ≤ s) (h3 : s ≤ n) (hk : tKd B n.toNat s.toNat = 2) (h : q157 B r c) : q164 B r c := by
  obtain ⟨a, b⟩ := dec2 hr h0 h1 h2 (by omega)
  unfold q164
  unfold q157 at h
  rw [a, b] at h ⊢
  exact ⟨hk, h hk⟩
theorem k165 (hr : r = n + 2048 * s + 4194304 * w) (h0 : 0 ≤ n) (h1 : n ≤ 1200) (h2 : 0 ≤ s) (h3 : s ≤ n) (h4 : 0 ≤ w) (h : q165 B r) (h5 : tIsB B n.toNat s.toNat (wd w.toNat) = false) : outB B n.toNat (4096 + s.toNat) := by
  obtain ⟨a, b, e⟩ := dec3 hr h0 h1 h2 (by omega) h4
  unfold q165 at h
  rw [a, b, e] at h
  exact h h5
theorem o165 (hr : r = n + 2048 * s + 4194304 * w) (h0 : 0 ≤ n) (h1 : n ≤ 1200) (h2 : 0 ≤ s) (h3 : s ≤ n) (h4 : 0 ≤ w) (h : tIsB B n.toNat s.toNat (wd w.toNat) = false → outB B n.toNat (4096 + s.toNat)) : q165 B r := by
  obtain ⟨a, b, e⟩ := dec3 hr h0 h1 h2 (by omega) h4
  unfold q165
  rw [a, b, e]
  exact h
theorem o166 {k : Int} {S : Nat} (hr : r = n) (h : outB B n.toNat (k + S)) (h2 : 0 ≤ s) (hS : S = s.toNat) (hc : c = k + s) : q166 B r c := by
  unfold q166
  rw [hr, hc, show k + s = k + (S : Int) by omega]
  exact h
/-- a value word; and, or -/
def q191 (B : Nat → Int) (r c : Int) : Prop := c = b01 (tIv B (tn r) (ts r))
def q197 (B : Nat → Int) (r c : Int) : Prop := c = b01 (tAo B (tn r) (ts r))
theorem k191 (hr : r = n + 2048 * s) (h0 : 0 ≤ n) (h1 : n ≤ 1200) (h2 : 0 ≤ s) (h3 : s ≤ n) (h : q191 B r c) : c = b01 (tIv B n.toNat s.toNat) := by
  obtain ⟨a, b⟩ := dec2 hr h0 h1 h2 (by omega)
  unfold q191 at h
  rw [a, b] at h
  exact h
theorem o191 (hr : r = n + 2048 * s) (h0 : 0 ≤ n) (h1 : n ≤ 1200) (h2 : 0 ≤ s) (h3 : s ≤ n) (h : c = b01 (tIv B n.toNat s.toNat)) : q191 B r c := by
  obtain ⟨a, b⟩ := dec2 hr h0 h1 h2 (by omega)
  unfold q191
  rw [a, b]
  exact h
theorem k197 (hr : r = n + 2048 * s) (h0 : 0 ≤ n) (h1 : n ≤ 1200) (h2 : 0 ≤ s) (h3 : s ≤ n) (h : q197 B r c) : c = b01 (tAo B n.toNat s.toNat) := by
  obtain ⟨a, b⟩ := dec2 hr h0 h1 h2 (by omega)
  unfold q197 at h
  rw [a, b] at h
  exact h
theorem o197 (hr : r = n + 2048 * s) (h0 : 0 ≤ n) (h1 : n ≤ 1200) (h2 : 0 ≤ s) (h3 : s ≤ n) (h : c = b01 (tAo B n.toNat s.toNat)) : q197 B r c := by
  obtain ⟨a, b⟩ := dec2 hr h0 h1 h2 (by omega)
  unfold q197
  rw [a, b]
  exact h
/-- pure ones -/
def q167 (r c : Int) : Prop := 0 ≤ c ∧ c < 2 ^ (r / 2).toNat ∧ (r % 2 = 1 → r / 2 = 0 ∨ c % 2 = 1)
def q169 (r c : Int) : Prop := ∃ (x : Int) (k : Nat), r = x + 1099511627776 * k ∧ 1 ≤ k ∧ k ≤ 31 ∧ -2147483648 ≤ x ∧ x ≤ 2147483647 ∧ c = x / (2 ^ k : Nat)
end TQ
