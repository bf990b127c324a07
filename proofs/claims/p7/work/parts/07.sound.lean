section MS
/-- the words that stay, though not by the tables' own rule -/
def ngW : List Cond := [.castable "java/lang/IllegalStateException" "java/lang/IllegalStateException", .castable "java/lang/IndexOutOfBoundsException" "java/lang/IndexOutOfBoundsException", .castable "java/lang/IllegalArgumentException" "java/lang/IllegalArgumentException", .declares (Bundle.initS "java/lang/RuntimeException"), .declares (Bundle.initS "java/lang/Exception"), .declares (Bundle.initS "java/lang/Throwable")]
theorem ngW_warm {s U : State} (hW : s.WarmedH U.vm) (h : ∀ w ∈ ngW, va_Nw w s) : ∀ w ∈ ngW, va_Nw w U := by
  intro w hw
  have h0 := h w hw
  simp only [ngW, List.mem_cons, List.not_mem_nil, or_false] at hw
  rcases hw with rfl | rfl | rfl | rfl | rfl | rfl
  · exact va_Nw.warmC hW h0
  · exact va_Nw.warmC hW h0
  · exact va_Nw.warmC hW h0
  · exact va_Nw.warmD hW h0
  · exact va_Nw.warmD hW h0
  · exact va_Nw.warmD hW h0
/-- the private constructors that nest mates call: who, by which entry, which, the nest's host -/
def ngN : List (String × Nat × MethodName × String) := [("VendingRoutes", 19, ⟨"VendingRoutes$Parser", "<init>", "()V"⟩, "VendingRoutes"), ("VendingRoutes$Parser", 11, ⟨"VendingRoutes$Scanner", "<init>", "()V"⟩, "VendingRoutes"), ("VendingRoutes", 26, ⟨"VendingRoutes$Planner", "<init>", "()V"⟩, "VendingRoutes"), ("VendingRoutes", 42, ⟨"VendingRoutes$Fleet", "<init>", "()V"⟩, "VendingRoutes"), ("VendingRoutes$Fleet", 29, ⟨"VendingRoutes$Rulebook", "<init>", "()V"⟩, "VendingRoutes"), ("VendingRoutes$Machine", 17, ⟨"VendingRoutes$Slot", "<init>", "()V"⟩, "VendingRoutes")]
/-- what a method finds beside the tables and the cells -/
def eV (A : Nat → Prop) (ns : Nat) (L : List Nat) (sx : List (String × Nat × String × Nat)) (ar : List String) (s : State) : Prop :=
  vx_Zq Bundle.tN "UNASSIGNED_STACK" Bundle.steD A s s.heap ∧ vx_Zq Bundle.tN "SUPPRESSED_SENTINEL" Bundle.listD A s s.heap ∧ (∀ C ∈ ar, va_AO C s) ∧ strO ns L A s ∧
  (∀ q ∈ sx, ∃ a, L[q.2.2.2]? = some a ∧ vk_R q.1 q.2.1 q.2.2.1 a s) ∧ (∀ w ∈ ngW, va_Nw w s) ∧ (∀ a b : Nat, a ≤ 2 → b ≤ 2 → a ≠ b → va_Nc (eNm a) (eNm b) s) ∧ va_Z "java/lang/String" "COMPACT_STRINGS" "Z" (.int 1) A s s.heap ∧ (∀ q ∈ ngN, va_Nw (.methodLinkNest q.1 q.2.1 q.2.2.1 q.2.2.2) s) ∧
  cstO A L s ∧ (∀ q ∈ stT, ∃ a, L[q.2]? = some a ∧ va_Z "java/lang/Integer" q.1 "[B" (.ref a) A s s.heap) ∧ va_Zq "jdk/internal/util/Preconditions" "SIOOBE_FORMATTER" "Ljava/util/function/BiFunction;" A s s.heap
theorem eV_mono {A : Nat → Prop} {ns : Nat} {L L1 : List Nat} {sx : List (String × Nat × String × Nat)} {ar : List String} {s : State} (hL : L <+: L1) (h : eV A ns L sx ar s) : eV A ns L1 sx ar s := by
  obtain ⟨h1, h2, h3, h4, h5, h6, h7, h8, h9, h10, h11, h12⟩ := h
  have up : ∀ {k a : Nat}, L[k]? = some a → L1[k]? = some a := fun z => by obtain ⟨t, rfl⟩ := hL; rw [List.getElem?_append_left (List.getElem?_eq_some_iff.mp z).1]; exact z
  exact ⟨h1, h2, h3, fun k hk => (h4 k hk).imp fun a z => ⟨up z.1, z.2⟩, fun q hq => (h5 q hq).imp fun a z => ⟨up z.1, z.2⟩, h6, h7, h8, h9, cstO_mono hL h10, fun q hq => (h11 q hq).imp fun a z => ⟨up z.1, z.2⟩, h12⟩
theorem eV_to {A : Nat → Prop} {ns : Nat} {L : List Nat} {sx : List (String × Nat × String × Nat)} {ar : List String} {s U : State} {locs : List Loc} (hW : s.WarmedH U.vm) (hS : va_S A s.heap U.heap locs) (h : eV A ns L sx ar s) : eV A ns L sx ar U := by
  obtain ⟨h1, h2, h3, h4, h5, h6, h7, h8, h9, h10, h11, h12⟩ := h
  have ha := hW.alike
  have hq : ∀ a : Nat, a < s.heap.size → ¬ A a → U.heap[a]? = s.heap[a]? := hS.2.1
  exact ⟨(h1.kept hq).moved ha, (h2.kept hq).moved ha, fun C hC => va_AO.moved ha (h3 C hC), fun k hk => (h4 k hk).imp fun a z => ⟨z.1, va_O.moved ha (z.2.kept hq)⟩, fun q hq => (h5 q hq).imp fun a z => ⟨z.1, vk_R.warm hW z.2⟩, ngW_warm hW h6, fun a b x y n => va_Nc.moved ha (h7 a b x y n), (h8.kept hq).moved ha, fun q hq => va_Nw.warmM hW (h9 q hq), cstO_to ha hq h10, fun q hq1 => (h11 q hq1).imp fun a z => ⟨z.1, (z.2.kept hq).moved ha⟩, (h12.kept hq).moved ha⟩
def sW (D : mM) (G : List Cond) : List Cond := cdW (dy D) (dcc D) (dml D) (drt D) (dhh D) :: G
def rOV (L : List Nat) (v w : Option Value) : Prop := match v with
  | none => w = none
  | some x => ∃ y, w = some y ∧ rV L x y
variable {l : Launch} {B : va_G} {cl : List vw_C} {ns n1 : Nat} {A : Nat → Prop} {df : List (List Value)} {G : List Cond} {ar : List String} {sx : List (String × Nat × String × Nat)} {mt : Nat → Option mM} {cs : List Choice}
/-- how the cells stand behind a method -/
def mAt (B : va_G) (cl : List vw_C) (ns : Nat) (A : Nat → Prop) (L : List Nat) (h : mH) (L2 : List Nat) (t : State) : Prop := ∃ tys ws, L <+: L2 ∧ va_K B cl tys t ∧ va_P B cl ws t.heap ∧ va_D A ws ∧ rH cl ns L2 tys h ws
def mQc (B : va_G) (cl : List vw_C) (ns : Nat) (A : Nat → Prop) (L : List Nat) (Post : mPost) : Array Value → State → Outcome → State → Prop := fun _ st o t =>
  (∃ (v vr : Option Value) (h2 : mH) (L2 : List Nat), o = .returned vr ∧ Post none v h2 ∧ rOV L2 v vr ∧ mAt B cl ns A L h2 L2 t) ∧ va_F A st t
def mXc (B : va_G) (cl : List vw_C) (ns : Nat) (A : Nat → Prop) (L : List Nat) (Post : mPost) : String → State → State → Prop := fun E st t =>
  (∃ (k : Nat) (h2 : mH) (L2 : List Nat), E = eNm k ∧ k ≤ 2 ∧ Post (some k) none h2 ∧ mAt B cl ns A L h2 L2 t) ∧ va_F A st t
def mPc (B : va_G) (cl : List vw_C) (n1 : Nat) (A : Nat → Prop) (sx : List (String × Nat × String × Nat)) (ar : List String) (L : List Nat) (tys : List (ClassId × FieldType)) (ws : va_W) (asr : List Value) : Array Value → State → Prop := fun v U =>
  v = asr.toArray ∧ va_K B cl tys U ∧ va_P B cl ws U.heap ∧ va_D A ws ∧ eV A n1 L sx ar U ∧ ∀ q, U.heap.size ≤ q → A q
theorem mPc_blind {L : List Nat} {tys : List (ClassId × FieldType)} {ws : va_W} {asr : List Value} : FrameBlind (mPc B cl n1 A sx ar L tys ws asr) := by
  intro a U g mk ⟨h1, h2, h3, h4, h5, h6⟩
  refine ⟨h1, va_K.moved (u := U) (U := U.calling g mk a) (Vm.Alike.refl U.vm) h2, h3, h4, ?_, h6⟩
  exact eV_to (s := U) (U := U.calling g mk a) (locs := []) (State.WarmedH.refl U) va_S.rf h5
/-- a contract by what the small machine says of a call -/
def mMet (cs : List Choice) (l : Launch) (B : va_G) (cl : List vw_C) (ns n1 : Nat) (A : Nat → Prop) (sx : List (String × Nat × String × Nat)) (ar : List String) (G : List Cond) (d : Nat) (D : mM) (as : List Value) (h : mH) (Post : mPost) : Prop :=
  ∀ (L : List Nat) (tys : List (ClassId × FieldType)) (ws : va_W) (asr : List Value), rS L as asr → rH cl ns L tys h ws → mx_Met cs l (dy D) (sW D G) (dR d D) (mPc B cl n1 A sx ar L tys ws asr) (mQc B cl ns A L Post) (mXc B cl ns A L Post) (dkr D) (dnr D) (dkx D) (dnx D) A
/-! what the rows of a method's table rest on -/
def okThr (G : List Cond) (sx : List (String × Nat × String × Nat)) (D : mM) (pc idx E : Nat) : Prop := ∃ (is ic : Nat) (tx : String) (sid : Nat),
  Cond.classLink (dy D).cls idx (eNm E) ∈ G ∧ Cond.initialized (eNm E) ∈ G ∧ ((dy D).cls, is, tx, sid) ∈ sx ∧ (∀ w ∈ (vx_atS (dy D).cls ic (eNm E) eSup).filter goodWord, w ∈ G) ∧ (∀ w ∈ (vx_atS (dy D).cls ic (eNm E) eSup).filter (fun w => !goodWord w), w ∈ ngW) ∧
  (∀ w ∈ Cond.classLink (dy D).cls idx (eNm E) :: Cond.initialized (eNm E) :: vx_atS (dy D).cls ic (eNm E) eSup, vx_ot w = true) ∧
  decode (dcc D) (pc + 3) = .ok (.dup, 1) ∧
  ((decode (dcc D) (pc + 4) = .ok (.ldc is, 2) ∧ decode (dcc D) (pc + 6) = .ok (.invokespecial ic, 3) ∧ decode (dcc D) (pc + 9) = .ok (.athrow, 1)) ∨
   (decode (dcc D) (pc + 4) = .ok (.ldc_w is, 3) ∧ decode (dcc D) (pc + 7) = .ok (.invokespecial ic, 3) ∧ decode (dcc D) (pc + 10) = .ok (.athrow, 1)))
def okRow (cl : List vw_C) (df : List (List Value)) (G : List Cond) (ar : List String) (sx : List (String × Nat × String × Nat)) (ns : Nat) (mt : Nat → Option mM) (D : mM) (r : mR) : Prop :=
  decode (dcc D) r.1 = .ok (r.2.1, lnI r.2.1 r.2.2.1) ∧ match r.2.1 with
  | .getfield idx => r.2.2.2.1 ≠ 20 ∧ okGK cl G (dy D).cls idx r.2.2.2
  | .putfield idx => r.2.2.2.1 ≠ 20 ∧ okPf cl G (dy D).cls ((dy D).name = "<init>") idx r.2.2.2.2.1 r.2.2.2.2.2.1 r.2.2.2.2.2.2
  | .aastore => r.2.2.2.1 ≠ 20 ∧ r.2.2.2.2.1 = ns
  | .new idx => (r.2.2.2.1 = 20 ∧ okThr G sx D r.1 idx r.2.2.2.2.1) ∨ (r.2.2.2.1 ≠ 20 ∧ okNew cl df G (dy D).cls idx r.2.2.2.2.1)
  | .newarray at0 => r.2.2.2.1 ≠ 20 ∧ okArr G at0
  | .anewarray idx => r.2.2.2.1 ≠ 20 ∧ okANew cl G ar (dy D).cls idx r.2.2.2.2.1
  | .ldc idx => r.2.2.2.1 ≠ 20 ∧ (r.2.2.2.1 = 0 → Cond.constant (dy D).cls idx (Int32.ofInt r.2.2.2.2.2.2) ∈ G) ∧ (r.2.2.2.1 = 1 → Cond.constantFloat (dy D).cls idx (UInt32.ofNat r.2.2.2.2.1) ∈ G) ∧ (r.2.2.2.1 = 2 → ∃ tx, ((dy D).cls, idx, tx, r.2.2.2.2.1) ∈ sx)
  | .ldc_w idx => r.2.2.2.1 ≠ 20 ∧ (r.2.2.2.1 = 0 → Cond.constant (dy D).cls idx (Int32.ofInt r.2.2.2.2.2.2) ∈ G) ∧ (r.2.2.2.1 = 2 → ∃ tx, ((dy D).cls, idx, tx, r.2.2.2.2.1) ∈ sx)
  | .getstatic idx => r.2.2.2.1 ≠ 20 ∧ (r.2.2.2.1 = 3 → Cond.fieldLink (dy D).cls idx "java/lang/String" "COMPACT_STRINGS" "Z" ∈ G) ∧ (r.2.2.2.1 = 4 → ∃ nm, (nm, r.2.2.2.2.1) ∈ stT ∧ Cond.fieldLink (dy D).cls idx "java/lang/Integer" nm "[B" ∈ G) ∧ (r.2.2.2.1 = 5 → Cond.fieldLink (dy D).cls idx "jdk/internal/util/Preconditions" "SIOOBE_FORMATTER" "Ljava/util/function/BiFunction;" ∈ G)
  | .invokespecial idx => r.2.2.2.1 ≠ 20 ∧ (r.2.2.2.1 = 9 → Cond.methodLink (dy D).cls idx Lib.objectInit ∈ G ∧ Cond.instanceMethod Lib.objectInit ∈ G ∧ Cond.code Lib.objectInit ⟨#[0xb1]⟩ 1 none ∈ G) ∧
    (r.2.2.2.1 = 1 → ∀ D2, mt r.2.2.2.2.1 = some D2 → Cond.instanceMethod (dy D2) ∈ G ∧
      ((r.2.2.2.2.2.1 = 1 ∧ (dy D2).name ≠ "<init>" ∧ Cond.methodLink (dy D).cls idx (dy D2) ∈ G ∧ Cond.sameMethod (dy D2).cls (dy D2).cls (dy D2).name (dy D2).desc ∈ G ∧ Cond.superclass (dy D).cls (dy D2).cls ∈ G) ∨
       ((dy D2).name = "<init>" ∧ drt D2 = none ∧ dhh D2 = [] ∧ (Cond.methodLink (dy D).cls idx (dy D2) ∈ G ∨ ∃ host, ((dy D).cls, idx, dy D2, host) ∈ ngN))))
  | .invokevirtual idx => r.2.2.2.1 ≠ 20 ∧ (r.2.2.2.1 = 1 → ∀ D2, mt r.2.2.2.2.1 = some D2 → ∃ C, Cond.methodLink (dy D).cls idx (dy D2) ∈ G ∧ Cond.instanceMethod (dy D2) ∈ G ∧ Cond.selects C (dy D2) (dy D2) ∈ G ∧ ((r.2.2.2.2.2.1 ≠ 7 ∧ (cl[dci D2]?.map fun r => r.1) = some C) ∨ (cl[dci D2]? = none ∧ C = "java/lang/String")))
  | .invokestatic idx => r.2.2.2.1 ≠ 20 ∧ (r.2.2.2.1 = 1 → ∀ D2, mt r.2.2.2.2.1 = some D2 → Cond.methodLink (dy D).cls idx (dy D2) ∈ G ∧ Cond.static (dy D2) ∈ G) ∧
    (r.2.2.2.1 = 10 → Cond.methodLink (dy D).cls idx Lib.Math.min.name ∈ G ∧ Cond.static Lib.Math.min.name ∈ G ∧ Cond.initialized "java/lang/Math" ∈ G ∧ Cond.code Lib.Math.min.name Lib.Math.min.code 2 (some .int) ∈ G) ∧
    (r.2.2.2.1 = 11 → Cond.methodLink (dy D).cls idx Lib.Math.max.name ∈ G ∧ Cond.static Lib.Math.max.name ∈ G ∧ Cond.initialized "java/lang/Math" ∈ G ∧ Cond.code Lib.Math.max.name Lib.Math.max.code 2 (some .int) ∈ G) ∧
    (r.2.2.2.1 = 12 → Cond.methodLink (dy D).cls idx Lib.Math.abs.name ∈ G ∧ Cond.static Lib.Math.abs.name ∈ G ∧ Cond.initialized "java/lang/Math" ∈ G ∧ Cond.code Lib.Math.abs.name Lib.Math.abs.code 1 (some .int) ∈ G) ∧
    (r.2.2.2.1 = 16 → okCopy G (dy D).cls idx)
  | _ => r.2.2.2.1 ≠ 20
def okHs (G : List Cond) (own : String) : List (Nat × Nat × Nat × Nat) → List Nat → Prop
  | q :: hs, x :: xs => q.2.2.2 ≠ 0 ∧ Cond.classLink own q.2.2.2 (eNm x) ∈ G ∧ x ≤ 2 ∧ okHs G own hs xs
  | [], [] => True
  | _, _ => False
def okD (cl : List vw_C) (df : List (List Value)) (G : List Cond) (ar : List String) (sx : List (String × Nat × String × Nat)) (ns : Nat) (mt : Nat → Option mM) (D : mM) : Prop :=
  plainName (dy D).cls = true ∧ cdW (dy D) (dcc D) (dml D) (drt D) (dhh D) ∈ G ∧ Cond.initialized (dy D).cls ∈ G ∧ ((dy D).cls ≠ "java/lang/invoke/MethodHandle" ∧ (dy D).cls ≠ "java/lang/invoke/VarHandle") ∧
  (parseMethodDescriptor (dy D).desc).map (fun d => d.parameters.length) = some (dna D) ∧ dml D ≤ 23 ∧ okHs G (dy D).cls (dhh D) (dhx D) ∧ ∀ r ∈ drw D, okRow cl df G ar sx ns mt D r
theorem popN_spec {L : List Nat} : ∀ {n : Nat} {st as r str : List Value}, popN n st = some (as, r) → rS L st str → ∃ asr rr, str = asr.reverse ++ rr ∧ rS L as asr ∧ rS L r rr ∧ asr.length = n
  | 0, st, as, r, str, h, hS => by cases h; exact ⟨[], str, rfl, trivial, hS, rfl⟩
  | n + 1, [], as, r, str, h, hS => by cases h
  | n + 1, v :: st, as, r, str, h, hS => by
    unfold popN at h
    split at h
    next a r' hp =>
      cases h
      obtain ⟨w, str', rfl, hv, hS1⟩ := rS_V hS
      obtain ⟨asr, rr, rfl, h1, h2, h3⟩ := popN_spec hp hS1
      exact ⟨asr ++ [w], rr, by simp, rS_app h1 ⟨hv, trivial⟩, h2, by simp [h3]⟩
    next => cases h
theorem lg_sl_len : ∀ vs : List Value, (lg_sl vs).length = (vs.map fun v => v.category).sum
  | [] => rfl
  | v :: vs => by
    have := lg_sl_len vs
    unfold lg_sl at this ⊢
    rw [List.flatMap_cons, List.length_append, this, List.map_cons, List.sum_cons]
    rcases lv_cat v with h | h <;> simp [h]
theorem hdl_some {G : List Cond} {own : String} {pc E hp : Nat} : ∀ {hs : List (Nat × Nat × Nat × Nat)} {xs : List Nat}, okHs G own hs xs → hdl hs xs pc E = some hp →
    ∃ pre q suf, hs = pre ++ q :: suf ∧ (q.1 ≤ pc ∧ pc < q.2.1) ∧ q.2.2.1 = hp ∧ q.2.2.2 ≠ 0 ∧ Cond.classLink own q.2.2.2 (eNm E) ∈ G ∧ ∀ z ∈ pre, ¬ (z.1 ≤ pc ∧ pc < z.2.1) ∨ (z.2.2.2 ≠ 0 ∧ ∃ x, x ≤ 2 ∧ E ≠ x ∧ Cond.classLink own z.2.2.2 (eNm x) ∈ G)
  | [], [], _, h => by cases h
  | q :: hs, x :: xs, hok, h => by
    unfold hdl at h
    split at h
    next hc =>
      cases h
      obtain ⟨h1, h2, rfl⟩ := hc
      exact ⟨[], q, hs, rfl, ⟨h1, h2⟩, rfl, hok.1, hok.2.1, fun z hz => absurd hz List.not_mem_nil⟩
    next hc =>
      obtain ⟨pre, q', suf, rfl, h2, h3, h4, h5, h6⟩ := hdl_some hok.2.2.2 h
      refine ⟨q :: pre, q', suf, rfl, h2, h3, h4, h5, fun z hz => ?_⟩
      rcases List.mem_cons.mp hz with rfl | hz
      · by_cases hcv : z.1 ≤ pc ∧ pc < z.2.1
        · exact Or.inr ⟨hok.1, x, hok.2.2.1, fun e0 => hc ⟨hcv.1, hcv.2, e0.symm⟩, hok.2.1⟩
        · exact Or.inl hcv
      · exact h6 z hz
  | [], _ :: _, hok, _ => hok.elim
  | _ :: _, [], hok, _ => hok.elim
theorem hdl_none {G : List Cond} {own : String} {pc E : Nat} : ∀ {hs : List (Nat × Nat × Nat × Nat)} {xs : List Nat}, okHs G own hs xs → hdl hs xs pc E = none →
    ∀ z ∈ hs, ¬ (z.1 ≤ pc ∧ pc < z.2.1) ∨ (z.2.2.2 ≠ 0 ∧ ∃ x, x ≤ 2 ∧ E ≠ x ∧ Cond.classLink own z.2.2.2 (eNm x) ∈ G)
  | [], [], _, _ => fun z hz => absurd hz List.not_mem_nil
  | q :: hs, x :: xs, hok, h => by
    unfold hdl at h
    split at h
    next hc => cases h
    next hc =>
      intro z hz
      rcases List.mem_cons.mp hz with rfl | hz
      · by_cases hcv : z.1 ≤ pc ∧ pc < z.2.1
        · exact Or.inr ⟨hok.1, x, hok.2.2.1, fun e0 => hc ⟨hcv.1, hcv.2, e0.symm⟩, hok.2.1⟩
        · exact Or.inl hcv
      · exact hdl_none hok.2.2.2 h z hz
  | [], _ :: _, hok, _ => hok.elim
  | _ :: _, [], hok, _ => hok.elim
theorem covers_no {x : ExceptionTableEntry} {pc : Nat} (h : ¬ (x.startPc ≤ pc ∧ pc < x.endPc)) : covers x pc = false := by
  cases hc : covers x pc with
  | false => rfl
  | true =>
    simp only [covers, Bool.and_eq_true, decide_eq_true_eq] at hc
    exact absurd hc h
end MS
