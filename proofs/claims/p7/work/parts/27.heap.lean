section LWZ
/-! the first heap, checked in pieces -/
def onJ (p : List (Nat × mE) → Bool) : Bool := match lwJ with
  | some (.inl (_, _, _, j, _, _)) => p j.2
  | _ => false
theorem onJ_and {p q : List (Nat × mE) → Bool} (h1 : onJ p = true) (h2 : onJ q = true) : onJ (fun l => p l && q l) = true := by
  unfold onJ at *
  generalize lwJ = z at *
  rcases z with _ | ⟨_, _, _, j, _, _⟩ | _
  · cases h1
  · exact (Bool.and_eq_true _ _).mpr ⟨h1, h2⟩
  · cases h1
theorem onJ_im {p q : List (Nat × mE) → Bool} (h : ∀ l, p l = true → q l = true) (h1 : onJ p = true) : onJ q = true := by
  unfold onJ at *
  generalize lwJ = z at *
  rcases z with _ | ⟨_, _, _, j, _, _⟩ | _
  · cases h1
  · exact h _ h1
  · cases h1
/-- an array of zeros all whose segments take 0 -/
def cellZ (sp : gS) (e : mE) : Bool := match sp, e with
  | .inr (t, n, p, sg), .inl (t', n', .inl f) => Nat.beq t' t && (Nat.beq n' n && (Nat.beq 0 (kdN t n) && (Nat.blt 0 p && (allN (fun i => decide (f i = 0)) n && allN (fun r => match segAt sg r 0 with | some (_, q) => fOKb q (.int 0) | none => false) p))))
  | _, _ => false
theorem allN_of {p : Nat → Bool} : ∀ {n : Nat}, (∀ i, i < n → p i = true) → allN p n = true
  | 0, _ => rfl
  | n + 1, h => by
    simp only [allN, Bool.and_eq_true]
    exact ⟨h n (Nat.lt_succ_self n), allN_of fun i hi => h i (Nat.lt_succ_of_lt hi)⟩
theorem cellZ_ok {sp : gS} {e : mE} (h : cellZ sp e = true) : cellB sp e = true := by
  unfold cellZ at h
  split at h
  next t n p sg t' n' f =>
    simp only [Bool.and_eq_true] at h
    obtain ⟨h1, h2, h3, h4, h5, h6⟩ := h
    have hp : 0 < p := Nat.le_of_ble_eq_true h4
    simp only [cellB, Bool.and_eq_true]
    refine ⟨h1, h2, h3, allN_of fun i hi => ?_⟩
    have h7 := allN_ok h6 (i % p) (Nat.mod_lt i hp)
    have h8 : f i = 0 := of_decide_eq_true (allN_ok h5 i hi)
    unfold elB
    split at h7
    next k q hs =>
      rw [hs]
      show fOKb q (.int (f i)) = true
      rw [h8]; exact h7
    next => cases h7
  next => cases h
def jCz (l : List (Nat × mE)) (x : Nat) : Bool := match gjB l x with
  | none => false
  | some e => clean e && (match lkGS rgL (lwGr x) with
    | some sp => cellZ sp e || cellB sp e
    | none => true)
theorem jCz_ok {l : List (Nat × mE)} {x : Nat} (h : jCz l x = true) : jCk l x = true := by
  unfold jCz at h
  unfold jCk
  split at h
  next => cases h
  next e he =>
    rw [he]
    dsimp only
    rw [Bool.and_eq_true] at h ⊢
    refine ⟨h.1, ?_⟩
    have h2 := h.2
    split at h2
    next sp hsp =>
      rw [hsp]
      rcases (Bool.or_eq_true _ _).mp h2 with h3 | h3
      · exact cellZ_ok h3
      · exact h3
    next hno =>
      rw [hno]
def jCr (a n : Nat) (l : List (Nat × mE)) : Bool := allN (fun i => jCz l (a + i)) n
theorem jCr_ok {l : List (Nat × mE)} {a n : Nat} (h0 : allN (jCk l) a = true) (h : jCr a n l = true) : allN (jCk l) (a + n) = true := by
  refine allN_of fun i hi => ?_
  by_cases h1 : i < a
  · exact allN_ok h0 i h1
  · have h2 := allN_ok h (i - a) (by omega)
    rw [show a + (i - a) = i by omega] at h2
    exact jCz_ok h2
def lwJd : Bool := match lwJ with
  | some (.inl (pc, lv, st, j, uc, us)) => Nat.beq pc 28 && (st.isEmpty && (Nat.beq j.1 790 && (Nat.ble uc 657 && (Nat.ble us 50952 && ((glB lv 0 (isR 132) && (glB lv 1 (isR 133) && (glB lv 2 (isR 758) && (glB lv 3 (isR 788) && (glB lv 4 (isR 789) && glB lv 5 is0))))) &&
    ((jST j.2 && (jF j.2 133 5 (isR 144) && (jF j.2 133 6 (isR 153) && (jF j.2 758 28 is0 && (jF j.2 758 10 (isR 760) && (jF j.2 144 6 is0 && (jF j.2 150 3 is0 && (jF j.2 144 10 (isR 150) && (jF j.2 153 10 (isR 159) && (jF j.2 133 1 is0 && (jF j.2 758 2 is0 && (jF j.2 758 34 is0 && (jF j.2 758 27 is0 && (jF j.2 133 13 (isR 756) && (jF j.2 756 0 (isR 757) && (jF j.2 756 3 is0 && (jF j.2 133 2 (isR 135) && (jF j.2 135 3 is0 && (jF j.2 135 4 isM && (jF j.2 758 5 is0 && jF j.2 758 6 isM)))))))))))))))))))) && (jZ j.2 757 16 && (jZ j.2 760 55 && (jZ j.2 762 1777 && (jZ j.2 776 2 && jS j.2))))))))))
  | _ => false
theorem lwJ_join (h1 : lwJd = true) (h2 : onJ (fun l => allN (jCk l) 790) = true) : lwJc = true := by
  unfold lwJd at h1
  unfold onJ at h2
  unfold lwJc
  generalize lwJ = z at *
  rcases z with _ | ⟨pc, lv, st, j, uc, us⟩ | _
  · cases h1
  · dsimp only at h1 h2 ⊢
    simp only [Bool.and_eq_true] at h1 ⊢
    obtain ⟨c1, c2, c3, c4, c5, c6, c7, c8⟩ := h1
    exact ⟨c1, c2, c3, c4, c5, c6, h2, c7, c8⟩
  · cases h1
theorem lwJd_ok : lwJd = true := by decide +kernel
theorem jCr_0 : onJ (jCr 0 120) = true := by decide +kernel
theorem jCr_1 : onJ (jCr 120 120) = true := by decide +kernel
theorem jCr_2 : onJ (jCr 240 120) = true := by decide +kernel
theorem jCr_3 : onJ (jCr 360 120) = true := by decide +kernel
theorem jCr_4 : onJ (jCr 480 120) = true := by decide +kernel
theorem jCr_5 : onJ (jCr 600 100) = true := by decide +kernel
theorem jCr_6 : onJ (jCr 700 90) = true := by decide +kernel
theorem jCq_0 : onJ (fun l => allN (jCk l) 120) = true := onJ_im (fun l h => by rw [Bool.and_eq_true] at h; exact jCr_ok (a := 0) (n := 120) h.1 h.2) (onJ_and (onJ_im (q := fun l => allN (jCk l) 0) (fun _ _ => rfl) jCr_0) jCr_0)
theorem jCq_1 : onJ (fun l => allN (jCk l) 240) = true := onJ_im (fun l h => by rw [Bool.and_eq_true] at h; exact jCr_ok (a := 120) (n := 120) h.1 h.2) (onJ_and (jCq_0) jCr_1)
theorem jCq_2 : onJ (fun l => allN (jCk l) 360) = true := onJ_im (fun l h => by rw [Bool.and_eq_true] at h; exact jCr_ok (a := 240) (n := 120) h.1 h.2) (onJ_and (jCq_1) jCr_2)
theorem jCq_3 : onJ (fun l => allN (jCk l) 480) = true := onJ_im (fun l h => by rw [Bool.and_eq_true] at h; exact jCr_ok (a := 360) (n := 120) h.1 h.2) (onJ_and (jCq_2) jCr_3)
theorem jCq_4 : onJ (fun l => allN (jCk l) 600) = true := onJ_im (fun l h => by rw [Bool.and_eq_true] at h; exact jCr_ok (a := 480) (n := 120) h.1 h.2) (onJ_and (jCq_3) jCr_4)
theorem jCq_5 : onJ (fun l => allN (jCk l) 700) = true := onJ_im (fun l h => by rw [Bool.and_eq_true] at h; exact jCr_ok (a := 600) (n := 100) h.1 h.2) (onJ_and (jCq_4) jCr_5)
theorem jCq_6 : onJ (fun l => allN (jCk l) 790) = true := onJ_im (fun l h => by rw [Bool.and_eq_true] at h; exact jCr_ok (a := 700) (n := 90) h.1 h.2) (onJ_and (jCq_5) jCr_6)
theorem lwJ_ok : lwJc = true := lwJ_join lwJd_ok jCq_6
end LWZ
