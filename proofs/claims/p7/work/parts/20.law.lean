/-! THE CLAIM OUT OF ONE WALK OF THE LAW'S BODY. Your part is whole_start (and what it stands on); all else here is the same for every law, but numbers. -/
def R_law : String := "VendingRoutesLaw"
def lw_P (b : Addr) (xs : List Int32) (args : Array Value) (s : State) : Prop := args = #[.ref b] ∧ s.IntsAt b xs ∧ xs.length ≤ 3072 ∧ (Jvm.Cond.and given_1 narrow_1).before args s = true
/-- what a walk over the start with the record d0 says of its end, said of the start itself -/
theorem lw_closed {s t : State} {o : Outcome} {d0 : Drawn} {L : List Loc} {k n : Nat} (hd0 : s.drawn.sameBut d0 lw_cs) (hv : ∃ v, o = .returned v) (hW : (s.setDrawn d0).WarmedH t.vm) (hs : (s.setDrawn d0).sameButNew ({ t with vm := s.vm } : State) L k n) : State.butDraws s t lw_cs (fun t1 => Framed s o t1 L k n) := by
  have h2 : t.drawn = d0 := congrArg State.drawn hs.1
  refine ⟨⟨hv, hW, State.sameButNew.setDrawn hs s.drawn⟩, ?_, by decide⟩
  rw [h2]
  exact hd0
def lw_Q (_ : Array Value) (s : State) (o : Outcome) (t : State) : Prop := o = .returned (some (.int 1)) ∧ State.butDraws s t lw_cs (fun t1 => Framed s o t1 [] 601024 7293034)
def lw_Z (below : List Frame) (a : Array Value) (s : State) : State → Prop := fun t => ∃ o, t.status = .running ∧ Ended t below o ∧ lw_Q a s o t
/-- the law's own end, with 1 on the stack, nothing written that was there before, its room as the claim has it; d0: the record of draws at this point (at the entry s.drawn: begin with 'refine W.base ?_' and 'have hd0 := Drawn.sameBut.refl s.drawn lw_cs') -/
theorem lw_ret {p : Program} {l : Launch} {e : Env} {s : State} {m : MethodId} {below : List Frame} {meth : Method} {c : Code} {b : Nat} {d0 : Drawn} (hd0 : s.drawn.sameBut d0 lw_cs) (hx : p.tables.exec = Jvm.exec) (hb : c.code = code) (hr : meth.sig.returnType = ret) (hlocks : meth.locks = false) {pc : Nat} {H : Heap} {ls : Array Slot} (hdg : decode code pc = .ok (.ireturn, 1)) : W p l e room_1 (s.setDrawn d0) m #[Value.ref b] below meth c H [] 601024 7293034 (lw_Z below #[Value.ref b] s) (F0 m pc ls [.int 1]) := by
  intro T hT X
  obtain ⟨fs, hret, hrun, hended, hW, hframe⟩ := X.leave (v := some (.int 1)) (hlocks := hlocks) (fun h => by rw [hr] at h; cases h)
  have hmeth' : T.vm.method? m = some meth := X.method'
  refine ⟨T.setFrames fs, ?_, .returned (some (.int 1)), hrun, hended, rfl, lw_closed hd0 ⟨_, rfl⟩ hW hframe⟩
  jvm_step X.here [X.here.top, hx, hb, hdg, hmeth', hr, ret, narrow_b1]
  (try refine ⟨rfl, ?_⟩); (try refine ⟨rfl, ?_⟩)
  first | (intro acts; rw [hret _ acts rfl rfl rfl]) | rw [hret _ _ rfl rfl rfl]
  exact Steps.refl _
/-- what holds at the law's entry: the machine, the code, the tables' words (any of lw_tbl by 'hts w (by decide +kernel)'), the script of L ints xs at the cell b, what the Statement gives of the start (any of its parts by flat_of_before) -/
def lw_At (p : Program) (s : State) (m : MethodId) (meth : Method) (c : Code) (b L : Nat) (xs : Nat → Int32) : Prop :=
  p.tables.exec = Jvm.exec ∧ c.code = code ∧ meth.sig.returnType = ret ∧ c.maxLocals = 9 ∧ s.vm.findClass R_law = some m.cls ∧ (∀ w ∈ lw_tbl, w.before #[Value.ref b] s = true) ∧ va_X b L xs s s.heap ∧ b < s.heap.size ∧ meth.locks = false ∧ (Jvm.Cond.and given_1 narrow_1).before #[Value.ref b] s = true ∧ c.exceptionTable.toList = [] ∧ meth.name = "law"
section LE
theorem sbn_forget {s t : State} {L : List Loc} {k n : Nat} (hL : ∀ q ∈ L, s.heap.size ≤ q.base) (h : s.sameButNew t L k n) : s.sameButNew t [] k n := by
  obtain ⟨h1, h2, h3, h4, h5, h6⟩ := h
  refine ⟨h1, h2, h3, h4, h5, fun a c hc => ?_⟩
  obtain ⟨c9, e1, e2, e3, e4⟩ := h6 a c hc
  refine ⟨c9, e1, e2, e3, fun i _ => e4 i (fun hm => ?_)⟩
  have h7 := hL _ hm
  have h8 : a < s.heap.size := (Array.getElem?_eq_some_iff.mp hc).1
  exact absurd h8 (Nat.not_lt.mpr h7)
theorem pick_list {α : Type} {P : α → Nat → Prop} : ∀ l : List α, (∀ q ∈ l, ∃ a, P q a) → ∃ L : List Nat, L.length = l.length ∧ ∀ (i : Nat) (q : α), l[i]? = some q → ∃ a, L[i]? = some a ∧ P q a
  | [], _ => ⟨[], rfl, fun i q h => by simp at h⟩
  | x :: xs, h => by
    obtain ⟨a, ha⟩ := h x List.mem_cons_self
    obtain ⟨L, h1, h2⟩ := pick_list xs (fun q hq => h q (List.mem_cons_of_mem _ hq))
    refine ⟨a :: L, by simp [h1], fun i q hq => ?_⟩
    match i, hq with
    | 0, hq => cases hq; exact ⟨a, rfl, ha⟩
    | i + 1, hq => exact h2 i q hq
theorem sx_w1 : ∀ q ∈ mSx, Cond.stringRef q.1 q.2.1 q.2.2.1 ∈ lw_tbl := by decide +kernel
theorem sx_w2 : ∀ q ∈ mSx, Cond.exactly (.string q.1 q.2.1) "java/lang/String" ∈ flatC (Jvm.Cond.and given_1 narrow_1) := by decide +kernel
theorem sx_at : ∀ q ∈ mSx, mSx[q.2.2.2]? = some q := by decide +kernel
theorem sx_len : mSx.length = 65 := by decide +kernel
theorem ar_w : ∀ C ∈ mAr, Cond.arrayOver (.object C) ∈ lw_tbl := by decide +kernel
theorem ng_w : ∀ w ∈ ngW, w ∈ lw_tbl ∧ w.onTables = true := by decide +kernel
theorem nn_w : ∀ q ∈ ngN, Cond.methodLinkNest q.1 q.2.1 q.2.2.1 q.2.2.2 ∈ lw_tbl := by decide +kernel
theorem nc_w : ∀ a, a < 3 → ∀ b, b < 3 → a ≠ b → Cond.not (.castable (eNm a) (eNm b)) ∈ flatC (Jvm.Cond.and given_1 narrow_1) := by decide +kernel
def lwPost : mPost := fun ex v _ => ex = none ∧ v = some (.int 1)
/-- what is given of the Strings and of Integer's digits, in its own order -/
def isSub : List Cond → List Cond → Bool
  | [], _ => true
  | _ :: _, [] => false
  | w :: ws, c :: cs => if w = c then isSub ws cs else isSub (w :: ws) cs
theorem isSub_ok : ∀ {cs ws : List Cond}, isSub ws cs = true → ∀ w ∈ ws, w ∈ cs
  | _, [], _ => fun w hw => absurd hw List.not_mem_nil
  | [], w :: ws, h => by cases h
  | c :: cs, w :: ws, h => by
    unfold isSub at h
    split at h
    next hc =>
      intro x hx
      rcases List.mem_cons.mp hx with rfl | hx
      · rw [hc]; exact List.mem_cons_self
      · exact List.mem_cons_of_mem _ (isSub_ok h x hx)
    next => exact fun x hx => List.mem_cons_of_mem _ (isSub_ok h x hx)
def arW (t : Term) : List Int32 → Nat → List Cond
  | [], _ => []
  | b :: r, j => .eq (.elem t (.int (Int32.ofNat j))) (.int b) :: arW t r (j + 1)
theorem arW_at {t : Term} : ∀ {bs : List Int32} {k j : Nat}, j < bs.length → Cond.eq (.elem t (.int (Int32.ofNat (k + j)))) (.int (bs.getD j 0)) ∈ arW t bs k
  | b :: r, k, 0, _ => List.mem_cons_self
  | b :: r, k, j + 1, h => by
    have := arW_at (t := t) (bs := r) (k := k + 1) (j := j) (by simpa using h)
    rw [show k + 1 + j = k + (j + 1) by omega] at this
    exact List.mem_cons_of_mem _ this
def arT (t : Term) (bs : List Int32) : List Cond := .arrayOf t .byte :: .eq (.length t) (.int (Int32.ofNat bs.length)) :: arW t bs 0
def stV (q : String × Nat × String × Nat) : Term := .field (.string q.1 q.2.1) "java/lang/String" "value" "[B"
def stW (i : Nat) : List Cond := match mSx[i]? with
  | some q => .exactly (.string q.1 q.2.1) "java/lang/String" :: .eq (.field (.string q.1 q.2.1) "java/lang/String" "coder" "B") (.int 0) :: arT (stV q) (strL.getD i [])
  | none => []
def dgT (nm : String) : Term := .static "java/lang/Integer" nm "[B"
def stO : List Nat := [0, 1, 2, 3, 4, 5, 6, 7, 8, 9, 10, 11, 12, 13, 14, 15, 16, 17, 18, 19, 20, 21, 22, 23, 24, 25, 26, 27, 28, 29, 30, 31, 32, 33, 34, 35, 36, 37, 38, 39, 40, 41, 42, 43, 44, 45, 46, 47, 48, 49, 50, 51, 52, 53, 54, 55, 56, 57, 58, 59, 60, 61, 62, 63, 64]
theorem st_w : isSub (arT (dgT "DigitOnes") (strL.getD 65 []) ++ (arT (dgT "DigitTens") (strL.getD 66 []) ++ stO.flatMap stW)) (flatC (Jvm.Cond.and given_1 narrow_1)) = true := by decide +kernel
theorem stO_all : ∀ i, i < 65 → i ∈ stO := by decide +kernel
theorem str_n : ∀ i, i < 67 → (strL.getD i []).length < 2 ^ 31 := by decide +kernel
/-- an array of bytes that is given -/
theorem arT_ok {args : Array Value} {s : State} {tm : Term} {bs : List Int32} {A : Nat → Prop} (hn : bs.length < 2 ^ 31) (h : ∀ w ∈ arT tm bs, w.before args s = true) (hA : ∀ a : Nat, a < s.heap.size → ¬ A a) : ∃ t : Nat, tm.eval args s none [] s = some (.ref t) ∧ va_T .byte t bs.length (fun j => .int (bs.getD j 0)) A s s.heap :=
  va_Tof (f := fun j => .int (bs.getD j 0)) hn (h _ List.mem_cons_self) (va_eqt (h _ (List.mem_cons_of_mem _ List.mem_cons_self))) (fun j hj => va_eqt (h _ (List.mem_cons_of_mem _ (List.mem_cons_of_mem _ (by have := arW_at (t := tm) (k := 0) hj; rw [Nat.zero_add] at this; exact this))))) hA
set_option maxHeartbeats 8000000 in
/-- the law's entry: what the small machine says of the law's run holds -/
theorem law_enter {p : Program} {e : Env} {s : State} {m : MethodId} {below : List Frame} {meth : Method} {c : Code} (l : Launch) (hflags : l.flags = flags0) {b L : Nat} {xs : Nat → Int32} (C0 : lw_At p s m meth c b L xs)
    (hrun : run (some (132, L, xs)) mDf mt (wpM mDf mt 1999) m_law 1999 (2 ^ 40) 0 [(0, .ref 132)] [] h00 0 0 lwPost) : W p l e room_1 s m #[Value.ref b] below meth c s.heap [] 0 0 (lw_Z below #[Value.ref b] s) (entryFrame m ([Value.ref b] : List Value).toArray 9) := by
  obtain ⟨hx, hb, hr, hml, hown, hts, hX, hbl, hlocks, hgv, htab, hin⟩ := id C0
  have hg := flat_of_before _ hgv
  have hl : l.stackTraces = false := by unfold Launch.stackTraces; rw [hflags]; decide +kernel
  obtain ⟨A, hAe⟩ : ∃ A : Nat → Prop, A = fun q : Nat => s.heap.size ≤ q := ⟨_, rfl⟩
  have hA0 : ∀ a : Nat, a < s.heap.size → ¬ A a := fun a h => by rw [hAe]; exact Nat.not_le.mpr h
  have hA : ∀ q : Nat, s.heap.size ≤ q → A q := fun q h => by rw [hAe]; exact h
  have hsw : ∀ w ∈ arT (dgT "DigitOnes") (strL.getD 65 []) ++ (arT (dgT "DigitTens") (strL.getD 66 []) ++ stO.flatMap stW), w.before #[Value.ref b] s = true := fun w hw => hg w (isSub_ok st_w w hw)
  have hstr : ∀ i, i < 65 → ∃ q : String × Nat × String × Nat, mSx[i]? = some q ∧ ∃ a t : Nat, vk_R q.1 q.2.1 q.2.2.1 a s ∧ va_O "java/lang/String" a A s s.heap ∧ va_OF "java/lang/String" "coder" "B" (.int 0) a A s s.heap ∧ va_OF "java/lang/String" "value" "[B" (.ref t) a A s s.heap ∧ va_T .byte t (strL.getD i []).length (fun j => .int ((strL.getD i []).getD j 0)) A s s.heap := by
    intro i hi
    obtain ⟨q, hq⟩ : ∃ q, mSx[i]? = some q := ⟨_, List.getElem?_eq_getElem (by rw [sx_len]; exact hi)⟩
    have hW : ∀ w ∈ stW i, w.before #[Value.ref b] s = true := fun w hw => hsw w (List.mem_append_right _ (List.mem_append_right _ (List.mem_flatMap.mpr ⟨i, stO_all i hi, hw⟩)))
    unfold stW at hW
    rw [hq] at hW
    dsimp only at hW
    have w1 := hts _ (sx_w1 q (List.mem_of_getElem? hq))
    have w2 := hW _ List.mem_cons_self
    have w3 := hW _ (List.mem_cons_of_mem _ List.mem_cons_self)
    obtain ⟨a2, c, cA, kA, q1, -⟩ := Cond.exactly_spec (first := s) (o := none) (s := s) (idx := []) (t := .string q.1 q.2.1) (cls := "java/lang/String") w2
    obtain ⟨t, ht, hT⟩ := arT_ok (A := A) (str_n i (by omega)) (fun w hw => hW w (List.mem_cons_of_mem _ (List.mem_cons_of_mem _ hw))) hA0
    exact ⟨q, hq, a2, t, vk_R.of w1 q1, va_Oof w2 q1 hA0, vk_OFof q1 (va_eqt w3) hA0, vk_OFof q1 ht hA0, hT⟩
  obtain ⟨dO, hdO1, hdO2⟩ := arT_ok (A := A) (str_n 65 (by omega)) (fun w hw => hsw w (List.mem_append_left _ hw)) hA0
  obtain ⟨dT, hdT1, hdT2⟩ := arT_ok (A := A) (str_n 66 (by omega)) (fun w hw => hsw w (List.mem_append_right _ (List.mem_append_left _ hw))) hA0
  have h65 : ∀ i : Nat, ∃ z : Nat × Nat, i < 65 → ∃ q : String × Nat × String × Nat, mSx[i]? = some q ∧ vk_R q.1 q.2.1 q.2.2.1 z.1 s ∧ va_O "java/lang/String" z.1 A s s.heap ∧ va_OF "java/lang/String" "coder" "B" (.int 0) z.1 A s s.heap ∧ va_OF "java/lang/String" "value" "[B" (.ref z.2) z.1 A s s.heap ∧ va_T .byte z.2 (strL.getD i []).length (fun j => .int ((strL.getD i []).getD j 0)) A s s.heap := by
    intro i
    by_cases hi : i < 65
    · obtain ⟨q, hq, a, t, k1, k2, k3, k4, k5⟩ := hstr i hi
      exact ⟨(a, t), fun _ => ⟨q, hq, k1, k2, k3, k4, k5⟩⟩
    · exact ⟨(0, 0), fun h => absurd h hi⟩
  obtain ⟨ad, had⟩ := Classical.axiomOfChoice h65
  obtain ⟨Lw, hLw⟩ : ∃ Lw : List Nat, Lw = (List.range 65).map (fun i => (ad i).1) ++ ((List.range 65).map (fun i => (ad i).2) ++ [dO, dT, b]) := ⟨_, rfl⟩
  have hLn : Lw.length = 133 := by rw [hLw]; simp
  have hLa : ∀ i, i < 65 → Lw[i]? = some (ad i).1 := fun i hi => by rw [hLw, List.getElem?_append_left (by simpa using hi), List.getElem?_map, List.getElem?_range hi]; rfl
  have hLb : ∀ i, i < 65 → Lw[65 + i]? = some (ad i).2 := fun i hi => by
    rw [hLw, List.getElem?_append_right (by simp)]
    simp only [List.length_map, List.length_range, Nat.add_sub_cancel_left]
    rw [List.getElem?_append_left (by simpa using hi), List.getElem?_map, List.getElem?_range hi]
    rfl
  have hLr : ∀ i, Lw[130 + i]? = [dO, dT, b][i]? := fun i => by
    rw [hLw, List.getElem?_append_right (by simp; omega), List.getElem?_append_right (by simp; omega)]
    simp only [List.length_map, List.length_range]
    rw [show 130 + i - 65 - 65 = i by omega]
  have hb0 : Lw[132]? = some b := hLr 2
  have hid : ∀ q ∈ mSx, q.2.2.2 < 65 := fun q hq => by
    have h1 := (List.getElem?_eq_some_iff.mp (sx_at q hq)).1
    rw [sx_len] at h1
    exact h1
  have hEV : eV A 65 Lw mSx mAr s := by
    refine ⟨vx_Zqof (hts (.laysStatic Bundle.tN "UNASSIGNED_STACK" Bundle.steD) (by decide +kernel)) (hts (.initialized Bundle.tN) (by decide +kernel)) (hg (.isRef (.static Bundle.tN "UNASSIGNED_STACK" Bundle.steD)) (by decide +kernel)) hA0,
      vx_Zqof (hts (.laysStatic Bundle.tN "SUPPRESSED_SENTINEL" Bundle.listD) (by decide +kernel)) (hts (.initialized Bundle.tN) (by decide +kernel)) (hg (.isRef (.static Bundle.tN "SUPPRESSED_SENTINEL" Bundle.listD)) (by decide +kernel)) hA0,
      fun C hC => va_AO.of (hts _ (ar_w C hC)), ?_, ?_, fun w hw => va_Nw.of (ng_w w hw).2 (hts _ (ng_w w hw).1), fun a b ha hb hn => va_Nc.of (hg _ (nc_w a (by omega) b (by omega) hn)),
      va_Zof (hts (.laysStatic "java/lang/String" "COMPACT_STRINGS" "Z") (by decide +kernel)) (hts (.initialized "java/lang/String") (by decide +kernel)) (va_eqi (hg (.eq (.static "java/lang/String" "COMPACT_STRINGS" "Z") (.int 1)) (by decide +kernel))) hA0,
      fun q hq => va_Nw.of rfl (hts _ (nn_w q hq)), ?_, ?_, va_Zqof (hts (.laysStatic "jdk/internal/util/Preconditions" "SIOOBE_FORMATTER" "Ljava/util/function/BiFunction;") (by decide +kernel)) (hts (.initialized "jdk/internal/util/Preconditions") (by decide +kernel)) (hg (.isRef (.static "jdk/internal/util/Preconditions" "SIOOBE_FORMATTER" "Ljava/util/function/BiFunction;")) (by decide +kernel)) hA0⟩
    · intro k hk
      obtain ⟨q, -, -, k2, -⟩ := had k hk
      exact ⟨_, hLa k hk, k2⟩
    · intro q hq
      obtain ⟨q', hq', k1, -⟩ := had _ (hid q hq)
      cases (sx_at q hq).symm.trans hq'
      exact ⟨_, hLa _ (hid q hq), k1⟩
    · intro k z hz
      by_cases hk : k < 65
      · unfold cstZ at hz
        rw [if_pos hk] at hz
        cases hz
        obtain ⟨q, -, -, k2, k3, k4, -⟩ := had k hk
        exact ⟨_, hLa k hk, k2, k3, 65 + k, (ad k).2, rfl, hLb k hk, k4⟩
      · unfold cstZ at hz
        rw [if_neg hk] at hz
        have hlen : strL.length = 67 := by decide +kernel
        by_cases hk2 : k < 132
        · rw [List.getElem?_eq_getElem (by rw [hlen]; omega)] at hz
          cases hz
          have hgd : strL.getD (k - 65) [] = strL[k - 65]'(by rw [hlen]; omega) := by rw [List.getD_eq_getElem?_getD, List.getElem?_eq_getElem (by rw [hlen]; omega)]; rfl
          rw [← hgd]
          by_cases hk3 : k < 130
          · obtain ⟨q, -, -, -, -, -, k5⟩ := had (k - 65) (by omega)
            exact ⟨_, by have := hLb (k - 65) (by omega); rwa [show 65 + (k - 65) = k by omega] at this, k5⟩
          · rcases (by omega : k = 130 ∨ k = 131) with rfl | rfl
            · exact ⟨dO, hLr 0, hdO2⟩
            · exact ⟨dT, hLr 1, hdT2⟩
        · rw [List.getElem?_eq_none (by rw [hlen]; omega)] at hz
          dsimp only at hz
          split at hz
          next hk4 => cases hz; subst hk4; exact ⟨b, hb0, trivial⟩
          next => cases hz
    · intro q hq
      simp only [stT, List.mem_cons, List.not_mem_nil, or_false] at hq
      rcases hq with rfl | rfl
      · exact ⟨dO, hLr 0, va_Zof (hts (.laysStatic "java/lang/Integer" "DigitOnes" "[B") (by decide +kernel)) (hts (.initialized "java/lang/Integer") (by decide +kernel)) hdO1 hA0⟩
      · exact ⟨dT, hLr 1, va_Zof (hts (.laysStatic "java/lang/Integer" "DigitTens" "[B") (by decide +kernel)) (hts (.initialized "java/lang/Integer") (by decide +kernel)) hdT1 hA0⟩
  have hKn : ∀ k : Nat, ∃ (cC : ClassId) (iS : Nat → Nat), ∀ r, mCl[k]? = some r → u_Kn s r.1 r.2.1 r.2.2 cC iS := by
    intro k
    cases h : mCl[k]? with
    | none => exact ⟨m.cls, fun _ => 0, fun r h' => by cases h'⟩
    | some r =>
      obtain ⟨fs, -, f⟩ := clF_of _ _ h
      obtain ⟨cC, iS, hk⟩ := u_known (lw_tx_ok hts) (fun w hw => mG_tbl _ (f.1 w hw)) (lw_tx_ok hts _ (mG_tbl _ f.2.2.2.1))
      exact ⟨cC, iS, fun r' h' => by cases h'; exact hk⟩
  have hK : va_K (fun k => (hKn k).choose, fun k => (hKn k).choose_spec.choose) mCl [] s := ⟨fun c q hq => (hKn c).choose_spec.choose_spec q hq, fun k q h => by simp at h⟩
  have hH : rH mCl 133 Lw [] h00 [] := by
    refine ⟨by rw [hLn]; simp [h00], by simp [h00], fun k x hk => ?_⟩
    have hk1 : k < 133 := by
      have := (List.getElem?_eq_some_iff.mp hk).1
      simpa [h00] using this
    obtain ⟨z, hz⟩ := Option.isSome_iff_exists.mp (cst_some k hk1)
    cases (h00_at hk1 hz).symm.trans hk
    exact Or.inl ⟨z, rfl, hz⟩
  have hl0 := lv_entry ([.ref b]) (n := 9) (Nat.le_of_ble_eq_true rfl)
  rw [lg_entry_eq]
  generalize (lg_sl ([.ref b]) ++ List.replicate (9 - (lg_sl ([.ref b])).length) Slot.unset).toArray = ls at hl0 ⊢
  have hout := run_ok (ns := 133) (n1 := 65) (R := room_1) (e := e) (below := below) (cl := mCl) (B := (fun k => (hKn k).choose, fun k => (hKn k).choose_spec.choose)) (A := A) lw_bits hl mG_good ok_all (fun y as h Post D2 hy hc => wp_ok lw_bits hl mG_good ok_all _ y as h Post D2 hy hc) (D := m_law) (trivial : okHs mG _ [] []) ok_law hx hb hml hown (fun w hw => lw_tx_ok hts w (mG_tbl w hw)) hr hlocks htab hin hEV hA (fun x n f h => by cases h; exact ⟨b, hb0, hX, hbl, hA0 b hbl⟩)
    (by decide +kernel) (by decide +kernel) (by decide +kernel) (by decide +kernel) _ _ _ _ _ _ _ _ hrun (Nat.zero_le _) (Nat.zero_le _) s.drawn ls _ [] s.heap [] Lw [] [] (Drawn.sameBut.refl s.drawn lw_cs) hl0 ⟨rfl, ⟨b, hb0, rfl⟩, trivial⟩ trivial hH hK (fun k q h => by simp at h) ⟨fun i j p q h => by simp at h, fun k q h => by simp at h⟩ va_S.rf (List.prefix_refl _)
  refine W.base (mx_mono (fun t ht => ?_) hout)
  obtain ⟨o, h1, h2, d, hd, h3⟩ := ht
  rcases h3 with ⟨⟨⟨v, vr, h4, L2, rfl, hp, hrv, -⟩, -⟩, L3, ⟨hv, hW, hsame⟩, hL3⟩ | ⟨q, -, E, ce, L3, ⟨⟨k, h4, L2, -, -, hp, -⟩, -⟩, -⟩
  · obtain ⟨-, rfl⟩ := hp
    obtain ⟨w, rfl, hw⟩ := hrv
    have hw : w = .int 1 := hw
    subst hw
    exact ⟨_, h1, h2, rfl, lw_closed hd ⟨_, rfl⟩ hW (sbn_forget (s := s.setDrawn d) (fun q hq => by have h9 := hL3 q hq; rw [hAe] at h9; exact h9) hsame)⟩
  · exact absurd hp.1 (by simp)
end LE
