/-! The Bool of a run over all that fits. -/
section RUNB
abbrev mPb : Type := Option Nat → Option Value → jH → mKn → Bool
abbrev mCb : Type := Nat → List Value → jH → mKn → mPb → Bool
def runB (asc : mAs) (df : List (List Value)) (mt : Nat → Option mM) (call : mCb) (D : mM) (post : mPb) : Nat → Nat → mL → List Value → jH → Nat → Nat → mKn → Bool
  | 0, _, _, _, _, _, _, _ => false
  | n + 1, pc, lv, st, j, uc, us, K => match rowAt (drw D) pc with
    | none => false
    | some (i, len, lk) => match tkR asc (gj j.2) i pc lv st K with
      | some al => al.all fun a => runB asc df mt call D post n a.1 a.2.1 a.2.2.1 j uc us a.2.2.2
      | none => match tkA i pc lv st with
       | some q => runB asc df mt call D post n q.1 lv q.2 j uc us K
       | none => match tkW i pc st j with
       | some q => runB asc df mt call D post n q.1 lv q.2.1 q.2.2 uc us K
       | none => match stpj none df (dml D) pc i len lk lv st j with
        | some (pc2, lv2, st2, j2, kc, ks) => gPre i st && gTop i st2 && gWr i j2 && decide (kc = 0 ∨ (uc + kc ≤ dkr D ∧ us + ks ≤ dnr D)) && runB asc df mt call D post n pc2 lv2 st2 j2 (uc + kc) (us + ks) K
        | none => match fin (drt D) i st with
          | some v => decide (uc ≤ dkr D ∧ us ≤ dnr D) && post none v j K
          | none => match calg mt i lk st (gj j.2) with
            | some (D2, as, r) => decide (uc + max (dkr D2) (dkx D2) ≤ max (dkr D) (dkx D) ∧ us + max (dnr D2) (dnx D2) ≤ max (dnr D) (dnx D)) &&
              call lk.2.1 as j K fun ex v j2 K2 => match ex with
                | none => runB asc df mt call D post n (pc + 3) lv (v.toList ++ r) j2 (uc + dkr D2) (us + dnr D2) K2
                | some E => match hdl (dhh D) (dhx D) pc E with
                  | some hp => runB asc df mt call D post n hp lv [.retAddr 0] j2 (uc + dkx D2) (us + dnx D2) K2
                  | none => decide (uc + dkx D2 ≤ dkx D ∧ us + dnx D2 ≤ dnx D) && post (some E) none j2 K2
            | none => isNew i && decide (lk.1 = 20 ∧ lk.2.1 ≤ 2 ∧ st = [] ∧ dhh D = [] ∧ uc + 1 ≤ dkx D ∧ us + 6 ≤ dnx D) && post (some lk.2.1) none j K
def pOK (f : Nat → Int32) (post : mPb) (Post : mPost) : Prop := ∀ e v j K, post e v j K = true → kOK f K → (∀ w, v = some w → nTk w = true) → ∀ h, rD j h → Post e v h
def cbOK (cb : mCb) (call : mCall) : Prop := ∀ (f : Nat → Int32) y as j K post Post, cb y as j K post = true → kOK f K → ∀ h, rD j h → pOK f post Post → call y (sgS f as) h Post
variable {f : Nat → Int32} {asc : mAs} {sc : mSc} {df : List (List Value)} {mt : Nat → Option mM} {cb : mCb} {call : mCall} {D : mM} {post : mPb} {d : Nat} {Post : mPost}
theorem pOK_fS {z : Int32} (hp : pOK f post Post) : pOK (fS f z) post Post := fun e v j K h1 h2 => hp e v j K h1 (kOK_fS.mp h2)
theorem runB_ok (hc : cbOK cb call) (hd : 5 ≤ d) : ∀ (n : Nat) {f : Nat → Int32} (_ : scR f asc sc) (_ : pOK f post Post) {pc : Nat} {lv : mL} {st : List Value} {j : jH} {uc us : Nat} {K : mKn}, runB asc df mt cb D post n pc lv st j uc us K = true → kOK f K →
    ∀ h, rD j h → ∀ m, n ≤ m → run sc df mt call D d m pc (sgL f lv) (sgS f st) h uc us Post
  | 0, f, _, _, pc, lv, st, j, uc, us, K, hb => by cases hb
  | n + 1, f, hs, hp, pc, lv, st, j, uc, us, K, hb => by
    intro hk h hr m hm
    obtain ⟨m, rfl⟩ : ∃ m2, m = m2 + 1 := ⟨m - 1, by omega⟩
    have ih0 := @runB_ok hc hd n
    have ih := @ih0 f hs hp
    have hG : ∀ x e, gj j.2 x = some e → clean e = true → h[x]? = some e := fun x e => rD_get hr
    have hm : n ≤ m := by omega
    unfold runB at hb
    unfold run
    split at hb
    · cases hb
    next i len lk hrow =>
    rw [hrow]
    dsimp only
    split at hb
    next al hal =>
      obtain ⟨a, ha, hk2, hst⟩ := tk_ok (df := df) (nL := dml D) (len := len) (lk := lk) hs hk hG hal
      rw [hst]
      dsimp only
      exact ⟨Or.inl rfl, ih (List.all_eq_true.mp hb a ha) hk2 h hr m hm⟩
    next =>
    split at hb
    next q hq =>
      obtain ⟨z, hst⟩ := tkA_ok (f := f) (sc := sc) (df := df) (nL := dml D) (len := len) (lk := lk) (h := h) hq
      rw [hst]
      dsimp only
      exact ⟨Or.inl rfl, @ih0 (fS f z) (scR_fS hs) (pOK_fS hp) _ _ _ _ _ _ _ hb (kOK_fS.mpr hk) h hr m hm⟩
    next =>
    split at hb
    next q hq =>
      obtain ⟨h2, hst, hr2⟩ := tkW_ok (f := f) (sc := sc) (df := df) (nL := dml D) (len := len) (lk := lk) (lv := lv) hr hq
      rw [hst]
      dsimp only
      exact ⟨Or.inl rfl, ih hb hk h2 hr2 m hm⟩
    next =>
    split at hb
    next pc2 lv2 st2 j2 kc ks hsj =>
      simp only [Bool.and_eq_true, decide_eq_true_eq] at hb
      obtain ⟨⟨⟨⟨g1, g2⟩, g5⟩, g3⟩, g4⟩ := hb
      obtain ⟨h2, hs2, hr2⟩ := stpj_sg (f := f) (sc := sc) hr hsj g1 g2 g5
      rw [hs2]
      dsimp only
      exact ⟨g3, ih g4 hk h2 hr2 m hm⟩
    next =>
    split at hb
    next v hf =>
      simp only [Bool.and_eq_true, decide_eq_true_eq] at hb
      obtain ⟨f1, f2, f3⟩ := fin_no (f := f) (lk := lk) hf
      rw [f1, f2]
      dsimp only
      exact ⟨hb.1.1, hb.1.2, hp _ _ _ _ hb.2 hk f3 h hr⟩
    next =>
    split at hb
    next D2 as r hca =>
      simp only [Bool.and_eq_true, decide_eq_true_eq] at hb
      obtain ⟨c1, c2, c3, c4⟩ := cal_no (f := f) hG hca
      rw [c1, c2, c3, c4]
      dsimp only
      refine ⟨hb.1.1, hb.1.2, hc f _ _ _ _ _ _ hb.2 hk h hr ?_⟩
      intro e v j2 K2 hpost hk2 hv h2 hr2
      cases e with
      | none =>
        have e1 := ih hpost hk2 h2 hr2 m hm
        rw [ret_sg hv] at e1
        exact e1
      | some E =>
        dsimp only at hpost ⊢
        split at hpost
        next hpp hh =>
          rw [hh]
          exact ih hpost hk2 h2 hr2 m hm
        next hh =>
          rw [hh]
          simp only [Bool.and_eq_true, decide_eq_true_eq] at hpost
          exact ⟨hpost.1.1, hpost.1.2, hp _ _ _ _ hpost.2 hk2 (fun w hw => by cases hw) h2 hr2⟩
    next =>
      simp only [Bool.and_eq_true, decide_eq_true_eq] at hb
      obtain ⟨⟨hi, h20⟩, hpost⟩ := hb
      cases i with
      | new idx =>
        obtain ⟨n1, n2, n3, n4⟩ := new_no (idx := idx) h20.1
        rw [n1, n2, n3, n4]
        dsimp only
        refine ⟨h20.1, h20.2.1, ?_, h20.2.2.2.1, hd, h20.2.2.2.2.1, h20.2.2.2.2.2, hp _ _ _ _ hpost hk (fun w hw => by cases hw) h hr⟩
        rw [h20.2.2.1]
        rfl
      | _ => cases hi
def wpB (df : List (List Value)) (mt : Nat → Option mM) (F : Nat) : Nat → mCb
  | 0, _, _, _, _, _ => false
  | d + 1, y, as, j, K, post => if as.all nTk = true then (match ejM df mt F (d + 1) y as j with
      | some (e, v, j2) => post e v j2 K
      | none => false)
    else match mt y with
      | none => false
      | some D => decide ((as.map fun v => v.category).sum ≤ dml D) && runB none df mt (wpB df mt F d) D post F 0 (lv_args 0 as) [] j 0 0 K
theorem wpB_ok {F : Nat} (hF : F ≤ 2 ^ 40) : ∀ (k d : Nat), k + 5 ≤ d → cbOK (wpB df mt F k) (wpM df mt d)
  | 0, d, hk => fun f y as j K post Post hb => by cases hb
  | k + 1, d, hkd => fun f y as j K post Post hb => by
    intro hk h hr hp
    unfold wpB at hb
    split at hb
    next ha =>
      split at hb
      next e1 v j2 hj =>
        exact ejM_ok hF (k + 1) d hkd f _ _ _ _ _ _ _ hj hr _ (fun h2 hr2 hv => hp _ _ _ _ hb hk hv h2 hr2)
      next => cases hb
    next =>
      obtain ⟨d, rfl⟩ : ∃ d2, d = d2 + 1 := ⟨d - 1, by omega⟩
      split at hb
      next => cases hb
      next D2 hm =>
      simp only [Bool.and_eq_true, decide_eq_true_eq] at hb
      unfold wpM
      rw [hm]
      dsimp only
      refine ⟨by rw [cats_sg]; exact hb.1, ?_⟩
      have h1 := runB_ok (asc := none) (sc := none) (call := wpM df mt d) (d := d) (wpB_ok hF k d (by omega)) (by omega) F (f := f) (show scR f none none from trivial) hp hb.2 hk h hr (2 ^ 40) hF
      rw [← args_sg, show sgS f ([] : List Value) = [] from rfl] at h1
      exact h1
end RUNB
