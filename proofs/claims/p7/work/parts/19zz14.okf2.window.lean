/-! A row's instruction out of a window of the code: the decoder reads no byte elsewhere. -/
section DW
/-- what r reads in b, it reads in c, o bytes on -/
def SH {α : Type} (c b : ByteArray) (o : Nat) (r : Decoder α) : Prop := ∀ (p : Nat) (v : α) (q : Nat), r.runAt b p = .ok (v, q) → r.runAt c (o + p) = .ok (v, o + q)
variable {c b : ByteArray} {o : Nat}
theorem sh_pure {α : Type} (x : α) : SH c b o (pure x) := by
  intro p v q h
  have h : (Except.ok (x, p) : Except DecodeError (α × Nat)) = .ok (v, q) := h
  cases h
  rfl
theorem sh_throw {α : Type} (e : DecodeError) : SH c b o (throw e : Decoder α) := by
  intro p v q h
  have h : (Except.error e : Except DecodeError (α × Nat)) = .ok (v, q) := h
  cases h
theorem ra_bind {α β : Type} (r : Decoder α) (f : α → Decoder β) (a : ByteArray) (k : Nat) : (r >>= f).runAt a k = (match r.runAt a k with | .ok s => (f s.1).runAt a s.2 | .error e => .error e) := by
  show Except.bind (r.runAt a k) (fun s => (f s.1).runAt a s.2) = _
  cases r.runAt a k <;> rfl
theorem sh_bind {α β : Type} {r : Decoder α} {f : α → Decoder β} (h1 : SH c b o r) (h2 : ∀ x, SH c b o (f x)) : SH c b o (r >>= f) := by
  intro p v q h
  rw [ra_bind] at h ⊢
  cases hr : r.runAt b p with
  | error e => rw [hr] at h; cases h
  | ok s =>
    rw [hr] at h
    rw [h1 p s.1 s.2 hr]
    exact h2 s.1 s.2 v q h
theorem sh_map {α β : Type} {r : Decoder α} {f : α → β} (h1 : SH c b o r) : SH c b o (f <$> r) := by
  have e : f <$> r = r >>= fun x => pure (f x) := rfl
  rw [e]
  exact sh_bind h1 fun x => sh_pure _
theorem sh_u1 (hw : ∀ (p : Nat) (h : p < b.size), ∃ h2 : o + p < c.size, c[o + p] = b[p]) : SH c b o (Reader.u1 : Decoder Nat) := by
  have e : ∀ (a : ByteArray) (k : Nat), (Reader.u1 : Decoder Nat).runAt a k = if h : k < a.size then .ok ((a[k]'h).toNat, k + 1) else .error (HasTruncated.truncated k) := by
    intro a k
    by_cases h : k < a.size
    · rw [dif_pos h]
      show (dite (k < a.size) (fun h => (do set (k + 1); pure (a[k]'h).toNat : Decoder Nat)) (fun _ => throw (HasTruncated.truncated k))).runAt a k = _
      rw [dif_pos h]; rfl
    · rw [dif_neg h]
      show (dite (k < a.size) (fun h => (do set (k + 1); pure (a[k]'h).toNat : Decoder Nat)) (fun _ => throw (HasTruncated.truncated k))).runAt a k = _
      rw [dif_neg h]; rfl
  intro p v q h
  rw [e] at h ⊢
  by_cases hp : p < b.size
  · rw [dif_pos hp] at h
    cases h
    obtain ⟨h2, h3⟩ := hw p hp
    rw [dif_pos h2, h3]
    rfl
  · rw [dif_neg hp] at h
    cases h
theorem sh_pad (ho : o % 4 = 0) (hs : ∀ n, n ≤ b.size → o + n ≤ c.size) : SH c b o Decoder.padding := by
  have e : ∀ (a : ByteArray) (k : Nat), Decoder.padding.runAt a k = if k + (4 - k % 4) % 4 ≤ a.size then .ok ((), k + (4 - k % 4) % 4) else .error (HasTruncated.truncated a.size) := by
    intro a k
    by_cases h : k + (4 - k % 4) % 4 ≤ a.size
    · rw [if_pos h]
      show ((ite (k + (4 - k % 4) % 4 ≤ a.size) (do set (k + (4 - k % 4) % 4); pure (a.extract k (k + (4 - k % 4) % 4)) : Decoder ByteArray) (throw (HasTruncated.truncated a.size))) >>= fun _ => (pure () : Decoder Unit)).runAt a k = _
      rw [if_pos h]; rfl
    · rw [if_neg h]
      show ((ite (k + (4 - k % 4) % 4 ≤ a.size) (do set (k + (4 - k % 4) % 4); pure (a.extract k (k + (4 - k % 4) % 4)) : Decoder ByteArray) (throw (HasTruncated.truncated a.size))) >>= fun _ => (pure () : Decoder Unit)).runAt a k = _
      rw [if_neg h]; rfl
  intro p v q h
  rw [e] at h ⊢
  have e4 : (o + p) % 4 = p % 4 := by omega
  rw [e4]
  by_cases hp : p + (4 - p % 4) % 4 ≤ b.size
  · rw [if_pos hp] at h
    cases h
    have h2 := hs _ hp
    rw [if_pos (by omega)]
    rw [show o + p + (4 - p % 4) % 4 = o + (p + (4 - p % 4) % 4) by omega]
  · rw [if_neg hp] at h
    cases h
theorem sh_go {α : Type} {r : Decoder α} (hr : SH c b o r) : ∀ (k : Nat) (acc : Array α), SH c b o (Reader.times.go r k acc)
  | 0, acc => sh_pure _
  | k + 1, acc => sh_bind hr fun x => sh_go hr k _
set_option maxRecDepth 1000000 in
set_option maxHeartbeats 40000000 in
theorem sh_instr (ho : o % 4 = 0) (hs : ∀ n, n ≤ b.size → o + n ≤ c.size) (hw : ∀ (p : Nat) (h : p < b.size), ∃ h2 : o + p < c.size, c[o + p] = b[p]) (pc : Nat) : SH c b o (Decoder.instr pc) := by
  have h1 : SH c b o (Reader.u1 : Decoder Nat) := sh_u1 hw
  have h2 : SH c b o (Reader.u2 : Decoder Nat) := sh_bind h1 fun _ => sh_bind h1 fun _ => sh_pure _
  have h4 : SH c b o (Reader.u4 : Decoder Nat) := sh_bind h2 fun _ => sh_bind h2 fun _ => sh_pure _
  have t1 : SH c b o (Reader.s1 : Decoder Int) := sh_map h1
  have t2 : SH c b o (Reader.s2 : Decoder Int) := sh_map h2
  have t4 : SH c b o (Reader.s4 : Decoder Int) := sh_map h4
  have hp : SH c b o Decoder.padding := sh_pad ho hs
  have ht : ∀ {α : Type} (n : Nat) (r : Decoder α), SH c b o r → SH c b o (Reader.times n r) := fun n r hr => sh_go hr n #[]
  have k1 : SH c b o (Decoder.tableswitch pc) := by
    unfold Decoder.tableswitch
    repeat' first | assumption | exact sh_pure _ | exact sh_throw _ | exact ht _ _ t4 | refine sh_bind ?_ (fun _ => ?_) | split | dsimp only
  have k2 : SH c b o (Decoder.lookupswitch pc) := by
    unfold Decoder.lookupswitch
    have hq : SH c b o (do pure (← Reader.s4, ← Reader.s4) : Decoder (Int × Int)) := sh_bind t4 fun _ => sh_bind t4 fun _ => sh_pure _
    repeat' first | assumption | exact sh_pure _ | exact sh_throw _ | exact ht _ _ hq | refine sh_bind ?_ (fun _ => ?_) | split | dsimp only
  have k3 : SH c b o (Decoder.invokeinterface pc) := by
    unfold Decoder.invokeinterface
    repeat' first | assumption | exact sh_pure _ | exact sh_throw _ | refine sh_bind ?_ (fun _ => ?_) | split | dsimp only
  have k4 : SH c b o (Decoder.invokedynamic pc) := by
    unfold Decoder.invokedynamic
    repeat' first | assumption | exact sh_pure _ | exact sh_throw _ | refine sh_bind ?_ (fun _ => ?_) | split | dsimp only
  have k5 : SH c b o (Decoder.newarray pc) := by
    unfold Decoder.newarray
    repeat' first | assumption | exact sh_pure _ | exact sh_throw _ | refine sh_bind ?_ (fun _ => ?_) | split | dsimp only
  have k6 : SH c b o (Decoder.multianewarray pc) := by
    unfold Decoder.multianewarray
    repeat' first | assumption | exact sh_pure _ | exact sh_throw _ | refine sh_bind ?_ (fun _ => ?_) | split | dsimp only
  have k7 : SH c b o (Decoder.wide pc) := by
    unfold Decoder.wide
    repeat' first | assumption | exact sh_pure _ | exact sh_throw _ | refine sh_bind ?_ (fun _ => ?_) | split | dsimp only
  unfold Decoder.instr
  refine sh_bind h1 fun x => ?_
  split <;> repeat' first | assumption | exact sh_pure _ | exact sh_throw _ | refine sh_bind ?_ (fun _ => ?_)
def winB (c : ByteArray) (o n : Nat) : ByteArray := ⟨((c.data.toList.drop o).take n).toArray⟩
theorem win_len {c : ByteArray} {o n : Nat} : (winB c o n).size = min n (c.size - o) := by
  show (((c.data.toList.drop o).take n).toArray).size = min n (c.data.size - o)
  simp
theorem win_at {c : ByteArray} {o n : Nat} (p : Nat) (h : p < (winB c o n).size) : ∃ h2 : o + p < c.size, c[o + p] = (winB c o n)[p] := by
  have h0 := h
  rw [win_len] at h0
  have h2 : o + p < c.size := by omega
  refine ⟨h2, ?_⟩
  have h' : p < (((c.data.toList.drop o).take n).toArray).size := h
  show c.data[o + p]'h2 = (((c.data.toList.drop o).take n).toArray)[p]'h'
  simp
theorem decode_win {c : ByteArray} {o n pc len : Nat} {i : Instr} (ho : o % 4 = 0) (hop : o ≤ pc) (h : (Decoder.instr pc).runAt (winB c o n) (pc - o) = .ok (i, pc - o + len)) : decode c pc = .ok (i, len) := by
  have hs : ∀ m, m ≤ (winB c o n).size → o + m ≤ c.size ∨ m = 0 := fun m hm => by rw [win_len] at hm; omega
  have h3 : (Decoder.instr pc).runAt c pc = .ok (i, pc + len) := by
    by_cases hc : o ≤ c.size
    · have h4 := sh_instr (c := c) (b := winB c o n) (o := o) ho (fun m hm => by have := hs m hm; omega) (fun p hp => win_at p hp) pc _ _ _ h
      rw [show o + (pc - o) = pc by omega, show o + (pc - o + len) = pc + len by omega] at h4
      exact h4
    · exfalso
      have h5 : (winB c o n).size = 0 := by rw [win_len]; omega
      have h6 : winB c o n = ⟨#[]⟩ := by
        show (⟨_⟩ : ByteArray) = ⟨#[]⟩
        have h7 : (((c.data.toList.drop o).take n).toArray).size = 0 := h5
        rw [Array.eq_empty_of_size_eq_zero h7]
      rw [h6] at h
      unfold Decoder.instr at h
      rw [ra_bind] at h
      have h8 : (Reader.u1 : Decoder Nat).runAt ⟨#[]⟩ (pc - o) = .error (HasTruncated.truncated (pc - o)) := rfl
      rw [h8] at h
      cases h
  unfold decode
  rw [h3]
  show Except.ok (i, pc + len - pc) = _
  rw [Nat.add_sub_cancel_left]
end DW
