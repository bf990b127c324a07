section RC
/-! numbers as rows of digits -/
def dg (b x i : Nat) : Nat := x / b ^ i % b
theorem dg_lt {b x i : Nat} (hb : 0 < b) : dg b x i < b := Nat.mod_lt _ hb
theorem dg_mod {b x n i : Nat} (h : i < n) : dg b (x % b ^ n) i = dg b x i := by
  unfold dg
  rw [← Nat.mod_mul_right_div_self (x % b ^ n) (b ^ i) b, ← Nat.mod_mul_right_div_self x (b ^ i) b, ← Nat.pow_succ, Nat.mod_mod_of_dvd _ (Nat.pow_dvd_pow b h)]
theorem dg_divn {b x n i : Nat} : dg b (x / b ^ n) i = dg b x (n + i) := by
  unfold dg
  rw [Nat.div_div_eq_div_mul, ← Nat.pow_add]
theorem dg_div {b x i : Nat} : dg b (x / b) i = dg b x (i + 1) := by
  have h := @dg_divn b x 1 i
  rw [Nat.pow_one, Nat.add_comm] at h
  exact h
theorem dg_0 {b x : Nat} : dg b x 0 = x % b := by
  unfold dg
  rw [Nat.pow_zero, Nat.div_one]
theorem dg_c0 {b x v : Nat} (hv : v < b) : dg b (x * b + v) 0 = v := by
  rw [dg_0, Nat.mul_comm, Nat.mul_add_mod, Nat.mod_eq_of_lt hv]
theorem cons_div {b x v : Nat} (hv : v < b) : (x * b + v) / b = x := by
  rw [Nat.mul_comm, Nat.mul_add_div (by omega), Nat.div_eq_of_lt hv, Nat.add_zero]
theorem dg_cS {b x v i : Nat} (hv : v < b) : dg b (x * b + v) (i + 1) = dg b x i := by
  rw [← dg_div, cons_div hv]
/-- a digit set -/
def setD (b x k v : Nat) : Nat := x % b ^ k + b ^ k * (v % b + b * (x / b ^ (k + 1)))
theorem setD_mod {b x k v : Nat} : setD b x k v % b ^ k = x % b ^ k := by
  unfold setD
  rw [Nat.add_mul_mod_self_left, Nat.mod_mod]
theorem setD_div {b x k v : Nat} (hb : 0 < b) : setD b x k v / b ^ k = v % b + b * (x / b ^ (k + 1)) := by
  have hp : 0 < b ^ k := Nat.pow_pos hb
  unfold setD
  rw [Nat.add_mul_div_left _ _ hp, Nat.div_eq_of_lt (Nat.mod_lt _ hp), Nat.zero_add]
theorem setD_div1 {b x k v : Nat} (hb : 0 < b) : setD b x k v / b ^ (k + 1) = x / b ^ (k + 1) := by
  rw [show b ^ (k + 1) = b ^ k * b by rw [Nat.pow_succ], ← Nat.div_div_eq_div_mul (setD b x k v), setD_div hb, Nat.add_mul_div_left _ _ hb, Nat.div_eq_of_lt (Nat.mod_lt _ hb), Nat.zero_add]
  rfl
theorem dg_set {b x k v j : Nat} (hb : 0 < b) : dg b (setD b x k v) j = if j = k then v % b else dg b x j := by
  split
  next h =>
    subst h
    unfold dg
    rw [setD_div hb, Nat.add_mul_mod_self_left, Nat.mod_mod]
  next h =>
    by_cases hl : j < k
    · rw [← dg_mod hl, setD_mod, dg_mod hl]
    · obtain ⟨i, rfl⟩ : ∃ i, j = k + 1 + i := ⟨j - (k + 1), by omega⟩
      rw [← dg_divn, setD_div1 hb, dg_divn]
theorem setD_lt {b x k v n : Nat} (hb : 0 < b) (hk : k < n) (hx : x < b ^ n) : setD b x k v < b ^ n := by
  obtain ⟨i, rfl⟩ : ∃ i, n = k + 1 + i := ⟨n - (k + 1), by omega⟩
  have hp : 0 < b ^ k := Nat.pow_pos hb
  have hY : x / b ^ (k + 1) < b ^ i := Nat.div_lt_of_lt_mul (by rw [← Nat.pow_add]; exact hx)
  have h1 : x % b ^ k < b ^ k := Nat.mod_lt _ hp
  have h2 : v % b < b := Nat.mod_lt _ hb
  have h3 : v % b + b * (x / b ^ (k + 1)) + 1 ≤ b * b ^ i := by
    have h4 : b * (x / b ^ (k + 1) + 1) ≤ b * b ^ i := Nat.mul_le_mul_left b hY
    rw [Nat.mul_add, Nat.mul_one] at h4
    omega
  have h5 : b ^ k * (v % b + b * (x / b ^ (k + 1)) + 1) ≤ b ^ k * (b * b ^ i) := Nat.mul_le_mul_left _ h3
  have h6 : b ^ k * (b * b ^ i) = b ^ (k + 1 + i) := by rw [Nat.pow_add, Nat.pow_succ, Nat.mul_assoc]
  rw [h6, Nat.mul_add, Nat.mul_one] at h5
  unfold setD
  omega
/-! a record: 76 parts of 16 bits -/
def cp (V k : Nat) : Nat := dg 65536 V k
def setC (V k v : Nat) : Nat := setD 65536 V k v
def RB : Nat := 65536 ^ 76
theorem RB_pos : 0 < RB := Nat.pow_pos (by decide)
theorem cp_lt {V k : Nat} : cp V k < 65536 := dg_lt (by decide)
theorem cp_set {V k v j : Nat} : cp (setC V k v) j = if j = k then v % 65536 else cp V j := dg_set (by decide)
theorem cp_eq {V k v : Nat} (hv : v < 65536) : cp (setC V k v) k = v := by
  rw [cp_set, if_pos rfl, Nat.mod_eq_of_lt hv]
theorem cp_ne {V k v j : Nat} (h : j ≠ k) : cp (setC V k v) j = cp V j := by
  rw [cp_set, if_neg h]
theorem setC_lt {V k v : Nat} (hk : k < 76) (hV : V < RB) : setC V k v < RB := setD_lt (by decide) hk hV
theorem cp_0 {k : Nat} : cp 0 k = 0 := by
  unfold cp dg
  rw [Nat.zero_div, Nat.zero_mod]
/-- a day -/
def fz (V : Nat) : Nat → Nat
  | 0 => V
  | n + 1 => setC (fz V n) (4 + n) 0
theorem cp_fz {V j : Nat} : ∀ {n : Nat}, cp (fz V n) j = if 4 ≤ j ∧ j < 4 + n then 0 else cp V j
  | 0 => by
    rw [if_neg (by omega)]
    rfl
  | n + 1 => by
    show cp (setC (fz V n) (4 + n) 0) j = _
    by_cases h : j = 4 + n
    · subst h
      rw [cp_eq (by decide), if_pos (by omega)]
    · rw [cp_ne h, cp_fz]
      by_cases h2 : 4 ≤ j ∧ j < 4 + n
      · rw [if_pos h2, if_pos (by omega)]
      · rw [if_neg h2, if_neg (by omega)]
theorem fz_lt {V : Nat} (hV : V < RB) : ∀ {n : Nat}, n ≤ 8 → fz V n < RB
  | 0, _ => hV
  | n + 1, h => setC_lt (by omega) (fz_lt hV (by omega))
def day1 (W : Nat) : Nat := fz (setC W 0 (cp W 0 + 1)) 8
theorem day1_lt {W : Nat} (hW : W < RB) : day1 W < RB := fz_lt (setC_lt (by decide) hW) (by decide)
theorem cp_day1 {W j : Nat} (h : cp W 0 + 1 < 65536) : cp (day1 W) j = if j = 0 then cp W 0 + 1 else if 4 ≤ j ∧ j < 12 then 0 else cp W j := by
  unfold day1
  rw [cp_fz]
  by_cases h0 : j = 0
  · subst h0
    rw [if_neg (by omega), if_pos rfl, cp_eq h]
  · rw [if_neg h0]
    by_cases h2 : 4 ≤ j ∧ j < 12
    · rw [if_pos h2, if_pos h2]
    · rw [if_neg h2, if_neg h2, cp_ne h0]
/-- no machine is forced -/
def noF (V : Nat) : Prop := ∀ k, 4 ≤ k → k < 12 → cp V k = 0
theorem noF_day1 {W : Nat} (h : cp W 0 + 1 < 65536) : noF (day1 W) := fun k h1 h2 => by
  rw [cp_day1 h, if_neg (by omega), if_pos ⟨h1, h2⟩]
def dayN (V : Nat) : Nat → Nat
  | 0 => V
  | n + 1 => day1 (dayN V n)
/-- a machine more; a slot more -/
def newM (a m : Nat) : Nat := setC (setC (setC a 3 (m + 1)) (20 + m) 1) (28 + m) 0
def newS (a m s v : Nat) : Nat := setC (setC a (12 + m) (s + 1)) (36 + 5 * m + s) v
theorem cp_newM {a m j : Nat} (hm : m < 8) : cp (newM a m) j = if j = 3 then m + 1 else if j = 20 + m then 1 else if j = 28 + m then 0 else cp a j := by
  unfold newM
  by_cases h1 : j = 28 + m
  · subst h1
    rw [cp_eq (by decide), if_neg (by omega), if_neg (by omega), if_pos rfl]
  · rw [cp_ne h1]
    by_cases h2 : j = 20 + m
    · subst h2
      rw [cp_eq (by decide), if_neg (by omega), if_pos rfl]
    · rw [cp_ne h2]
      by_cases h3 : j = 3
      · subst h3
        rw [cp_eq (by omega), if_pos rfl]
      · rw [cp_ne h3, if_neg h3, if_neg h2, if_neg h1]
theorem newM_lt {a m : Nat} (hm : m < 8) (ha : a < RB) : newM a m < RB := setC_lt (by omega) (setC_lt (by omega) (setC_lt (by omega) ha))
theorem cp_newS {a m s v j : Nat} (hs : s < 5) (hm : m < 8) (hv : v < 65536) : cp (newS a m s v) j = if j = 12 + m then s + 1 else if j = 36 + 5 * m + s then v else cp a j := by
  unfold newS
  by_cases h1 : j = 36 + 5 * m + s
  · subst h1
    rw [cp_eq hv, if_neg (by omega), if_pos rfl]
  · rw [cp_ne h1]
    by_cases h2 : j = 12 + m
    · subst h2
      rw [cp_eq (by omega), if_pos rfl]
    · rw [cp_ne h2, if_neg h2, if_neg h1]
theorem newS_lt {a m s v : Nat} (hs : s < 5) (hm : m < 8) (ha : a < RB) : newS a m s v < RB := setC_lt (by omega) (setC_lt (by omega) ha)
/-! rows of records: the newest is the last digit -/
def dig (L i : Nat) : Nat := dg RB L i
theorem dig_lt {L i : Nat} : dig L i < RB := dg_lt RB_pos
/-- what the facts of numbers alone say -/
def qCp (r c : Int) : Prop := c = (cp (r / 128).toNat (r % 128).toNat : Int)
def qSet (r c : Int) : Prop := c = (setC (r / 16777216).toNat (r / 65536 % 256).toNat (r % 65536).toNat : Int)
def qPush (r c : Int) : Prop := c = (((r / (RB : Int)).toNat % RB ^ 5) * RB + (r % (RB : Int)).toNat : Nat)
def qTop (r c : Int) : Prop := c = (r.toNat % RB : Nat)
def qTail (r c : Int) : Prop := c = (r.toNat / RB : Nat)
def qDrop (r c : Int) : Prop := c = (r.toNat % RB ^ 5 : Nat)
def qCnt (r c : Int) : Prop := c = if r ≤ 5 then r + 1 else 6
def qDay (r c : Int) : Prop := c = (dayN (r / 256).toNat (r % 256).toNat : Int)
def qDay1 (r c : Int) : Prop := c = (day1 r.toNat : Int)
def qNM (r c : Int) : Prop := c = (newM (r / 16).toNat (r % 16).toNat : Int)
def qNS (r c : Int) : Prop := c = (newS ((r - 512) / 4096).toNat ((r - 512) / 512 % 8).toNat ((r - 512) / 64 % 8).toNat ((r - 512) % 64).toNat : Int)
def qMp (r c : Int) : Prop := c = (cp (r / 32).toNat ((if r % 4 = 0 then 20 else if r % 4 = 1 then 28 else if r % 4 = 2 then 4 else 12) + (r / 4 % 8).toNat) : Int)
def qEv (r c : Int) : Prop := c = (cp (r / 64).toNat (36 + 5 * (r / 8 % 8).toNat + (r % 8).toNat) : Int)
theorem oCp {r V c : Int} {k : Nat} (hr : r = 128 * V + k) (hk : k < 128) (h : c = (cp V.toNat k : Int)) : qCp r c := by
  unfold qCp
  rw [show r / 128 = V by omega, show (r % 128).toNat = k by omega]
  exact h
theorem kCp {r V c : Int} {k : Nat} (hr : r = 128 * V + k) (hk : k < 128) (h : qCp r c) : c = (cp V.toNat k : Int) := by
  unfold qCp at h
  rwa [show r / 128 = V by omega, show (r % 128).toNat = k by omega] at h
theorem oSet {r V v c : Int} {k : Nat} (hr : r = 16777216 * V + 65536 * k + v) (hk : k < 256) (h0 : 0 ≤ v) (h1 : v < 65536) (h : c = (setC V.toNat k v.toNat : Int)) : qSet r c := by
  unfold qSet
  rw [show r / 16777216 = V by omega, show (r / 65536 % 256).toNat = k by omega, show r % 65536 = v by omega]
  exact h
theorem kSet {r V v c : Int} {k : Nat} (hr : r = 16777216 * V + 65536 * k + v) (hk : k < 256) (h0 : 0 ≤ v) (h1 : v < 65536) (h : qSet r c) : c = (setC V.toNat k v.toNat : Int) := by
  unfold qSet at h
  rwa [show r / 16777216 = V by omega, show (r / 65536 % 256).toNat = k by omega, show r % 65536 = v by omega] at h
theorem RBi : (0 : Int) < (RB : Int) := Int.ofNat_lt.mpr RB_pos
theorem pr_dec {r L V : Int} (hr : r = (RB : Int) * L + V) (h0 : 0 ≤ V) (h1 : V.toNat < RB) : r / (RB : Int) = L ∧ r % (RB : Int) = V := by
  have hV : V < (RB : Int) := by
    have := Int.toNat_of_nonneg h0
    omega
  subst hr
  constructor
  · rw [Int.mul_add_ediv_left _ _ (Int.ne_of_gt RBi), Int.ediv_eq_zero_of_lt h0 hV, Int.add_zero]
  · rw [Int.mul_add_emod_self_left, Int.emod_eq_of_lt h0 hV]
theorem oPush {r L V c : Int} (hr : r = (RB : Int) * L + V) (h0 : 0 ≤ V) (h1 : V.toNat < RB) (h : c = ((L.toNat % RB ^ 5) * RB + V.toNat : Nat)) : qPush r c := by
  obtain ⟨a, b⟩ := pr_dec hr h0 h1
  unfold qPush
  rw [a, b]
  exact h
theorem kPush {r L V c : Int} (hr : r = (RB : Int) * L + V) (h0 : 0 ≤ V) (h1 : V.toNat < RB) (h : qPush r c) : c = ((L.toNat % RB ^ 5) * RB + V.toNat : Nat) := by
  obtain ⟨a, b⟩ := pr_dec hr h0 h1
  unfold qPush at h
  rwa [a, b] at h
theorem push_lt {L V u : Nat} (hL : L < RB ^ u) (hV : V < RB) : L * RB + V < RB ^ (u + 1) := by
  rw [Nat.pow_succ]
  have h : (L + 1) * RB ≤ RB ^ u * RB := Nat.mul_le_mul_right _ hL
  rw [Nat.add_mul, Nat.one_mul] at h
  omega
theorem drop_lt {L : Nat} : L % RB ^ 5 < RB ^ 5 := Nat.mod_lt _ (Nat.pow_pos RB_pos)
theorem drop_eq {L u : Nat} (hL : L < RB ^ u) (hu : u ≤ 5) : L % RB ^ 5 = L := Nat.mod_eq_of_lt (Nat.lt_of_lt_of_le hL (Nat.pow_le_pow_right RB_pos hu))
theorem tail_lt {L u : Nat} (hL : L < RB ^ (u + 1)) : L / RB < RB ^ u := Nat.div_lt_of_lt_mul (by rw [Nat.mul_comm, ← Nat.pow_succ]; exact hL)
theorem dig_drop {L i : Nat} (h : i < 5) : dig (L % RB ^ 5) i = dig L i := dg_mod h
theorem dig_tail {L i : Nat} : dig (L / RB) i = dig L (i + 1) := dg_div
theorem dig_top {L : Nat} : dig L 0 = L % RB := dg_0
theorem dig_p0 {L V : Nat} (hV : V < RB) : dig (L * RB + V) 0 = V := dg_c0 hV
theorem dig_pS {L V i : Nat} (hV : V < RB) : dig (L * RB + V) (i + 1) = dig L i := dg_cS hV
theorem oDay {r V c : Int} {i : Nat} (hr : r = 256 * V + i) (hi : i < 256) (h : c = (dayN V.toNat i : Int)) : qDay r c := by
  unfold qDay
  rw [show r / 256 = V by omega, show (r % 256).toNat = i by omega]
  exact h
theorem kDay {r V c : Int} {i : Nat} (hr : r = 256 * V + i) (hi : i < 256) (h : qDay r c) : c = (dayN V.toNat i : Int) := by
  unfold qDay at h
  rwa [show r / 256 = V by omega, show (r % 256).toNat = i by omega] at h
theorem kNM {r a c : Int} {m : Nat} (hr : r = 16 * a + m) (hm : m < 16) (h : qNM r c) : c = (newM a.toNat m : Int) := by
  unfold qNM at h
  rwa [show r / 16 = a by omega, show (r % 16).toNat = m by omega] at h
theorem oNM {r a c : Int} {m : Nat} (hr : r = 16 * a + m) (hm : m < 16) (h : c = (newM a.toNat m : Int)) : qNM r c := by
  unfold qNM
  rw [show r / 16 = a by omega, show (r % 16).toNat = m by omega]
  exact h
theorem kNS {r a c : Int} {m s v : Nat} (hr : r = 4096 * a + 512 * m + 512 + 64 * s + v) (hm : m < 8) (hs : s < 8) (hv : v < 64) (h : qNS r c) : c = (newS a.toNat m s v : Int) := by
  unfold qNS at h
  rwa [show (r - 512) / 4096 = a by omega, show ((r - 512) / 512 % 8).toNat = m by omega, show ((r - 512) / 64 % 8).toNat = s by omega, show ((r - 512) % 64).toNat = v by omega] at h
theorem oNS {r a c : Int} {m s v : Nat} (hr : r = 4096 * a + 512 * m + 512 + 64 * s + v) (hm : m < 8) (hs : s < 8) (hv : v < 64) (h : c = (newS a.toNat m s v : Int)) : qNS r c := by
  unfold qNS
  rw [show (r - 512) / 4096 = a by omega, show ((r - 512) / 512 % 8).toNat = m by omega, show ((r - 512) / 64 % 8).toNat = s by omega, show ((r - 512) % 64).toNat = v by omega]
  exact h
/-- a remainder -/
def q130 (r c : Int) : Prop := c = (r / 8589934592) % (r % 8589934592)
theorem o130 {r x y c : Int} (hr : r = 8589934592 * x + y) (h0 : 0 ≤ y) (h1 : y < 8589934592) (h : c = x % y) : q130 r c := by
  unfold q130
  rw [show r / 8589934592 = x by omega, show r % 8589934592 = y by omega]
  exact h
theorem k130 {r x y c : Int} (hr : r = 8589934592 * x + y) (h0 : 0 ≤ y) (h1 : y < 8589934592) (h : q130 r c) : c = x % y := by
  unfold q130 at h
  rwa [show r / 8589934592 = x by omega, show r % 8589934592 = y by omega] at h
end RC
