section
/-! ===== BEGIN words of one list among another's, by their places ===== -/
theorem goodIn_r {big : List Cond} (ws : List Cond) (ps : List Nat) (hp : ws = ps.filterMap (fun i => big[i]?)) (h : ws.all goodWord = true) : GoodIn big ws := by
  intro w hw
  have h1 := List.all_eq_true.mp h w hw
  rw [hp] at hw
  obtain ⟨i, -, hi⟩ := List.mem_filterMap.mp hw
  have hm : w ∈ big := by first | exact List.mem_of_getElem? hi | exact List.getElem?_mem hi
  exact ⟨hm, good_of_word h1⟩
theorem goodIn_app {big a b : List Cond} (ha : GoodIn big a) (hb : GoodIn big b) : GoodIn big (a ++ b) := fun w h => (List.mem_append.mp h).elim (ha w) (hb w)
theorem goodIn_ca {big a b : List Cond} {c : Cond} (ha : GoodIn big (c :: a)) (hb : GoodIn big b) : GoodIn big (c :: (a ++ b)) := fun w h => (List.mem_cons.mp h).elim (fun e => ha w (List.mem_cons.mpr (Or.inl e))) (fun h => (List.mem_append.mp h).elim (fun h => ha w (List.mem_cons.mpr (Or.inr h))) (hb w))
theorem goodIn_sub {big ws : List Cond} (hm : ∀ w ∈ ws, w ∈ big) (h : ws.all goodWord = true) : GoodIn big ws := fun w hw => ⟨hm w hw, good_of_word (List.all_eq_true.mp h w hw)⟩
/-! ===== END ===== -/
/-! ===== BEGIN exceptions that leave a method, and their catching by the caller (launches without stack traces) ===== -/
section VXA
/-! The laws vx_back, vx_callV, vx_callS, vx_callSW, vx_throw0, vx_throwS follow proofs of the library, with one case more: JvmDerived/Free/Laws.lean (Back.of_free), Shelf42/LK1.lean (callV, callS), Shelf/KitTraced.lean (throwNew0V, throwNewS). -/
/-- where a method has thrown q: the class by its name, the cell, what was written, the world -/
def vx_T (XC : String → State → State → Prop) (st : State) (q : Addr) (t : State) (mc ms : Nat) (free : Addr → Prop) : Prop :=
  ∃ (E : String) (ce : Cell) (L : List Loc), XC E st t ∧ t.heap[q]? = some ce ∧ ce.vm = .none ∧ st.vm.findClass E = some ce.cls ∧ st.WarmedH t.vm ∧ st.sameButNew ({ t with vm := st.vm } : State) L mc ms ∧ ∀ z ∈ L, free z.base
def vx_Q (Qc : Array Value → State → Outcome → State → Prop) (XC : String → State → State → Prop) (mc ms : Nat) (free : Addr → Prop) : Array Value → State → Outcome → State → Prop := fun a st o t =>
  (Qc a st o t ∧ ∃ L, FrameEnd st o t L mc ms ∧ ∀ q ∈ L, free q.base) ∨ ∃ q, o = .threw q ∧ vx_T XC st q t mc ms free
/-- a callee that returns or throws -/
def vx_Met (l : Launch) (y : MethodName) (ws : List Cond) (rm : Room) (Pc : Array Value → State → Prop) (Qc : Array Value → State → Outcome → State → Prop) (XC : String → State → State → Prop) (mc ms : Nat) (free : Addr → Prop) : Prop :=
  MetFree l y (headSpec ws rm) Pc (fun _ _ _ _ _ => True) (vx_Q Qc XC mc ms free)
def vx_Post (XC : String → State → State → Prop) (mc ms : Nat) (free : Addr → Prop) : Pt → Array Value → Addr → Pt → Prop := fun A a q B =>
  ∃ (g : JFrame) (mk : MethodId) (t : State) (L : List Loc) (E : String) (ce : Cell), B.U.heap = t.heap ∧ B.U.vm = t.vm ∧ XC E (A.U.calling g mk a) t ∧ t.heap[q]? = some ce ∧ ce.vm = .none ∧ A.U.vm.findClass E = some ce.cls ∧ B.locs = A.locs ++ L ∧ (∀ z ∈ L, free z.base) ∧ B.cells = A.cells + mc ∧ B.slots = A.slots + ms
def vx_Back (l : Launch) (R : Room) (p : Program) (e : Env) (below : List Frame) (s : State) (sargs : Array Value) (y : MethodName) (len W9 : Nat)
    (Pre : Pt → Array Value → Prop) (Post : Pt → Array Value → Option Value → Pt → Prop) (PostX : Pt → Array Value → Addr → Pt → Prop) : Prop :=
  ∀ (m : MethodId) (meth : Method) (c : Code) (A : Pt) (g : JFrame) (ig : Instr) (mk : MethodId) (a : Array Value),
    Stand p l e R s m sargs below meth c A.U A.locs A.cells A.slots → g.method = m → g.locals.size = c.maxLocals → decode c.code g.pc = .ok (ig, len) →
    2 * g.monitorRoom + (g.stack.map fun v => v.category).sum ≤ W9 → A.U.methodNamed? y = some mk → Pre A a →
    (∃ (v : Option Value) (B : Pt), Stand p l e R s m sargs below meth c B.U B.locs B.cells B.slots ∧ Post A a v B ∧
      Steps p.tables e below (doInvoke e (A.U.setTop g) [] mk a).1 (B.U.setTop { g with pc := g.pc + len, stack := v.toList ++ g.stack })) ∨
    (∃ (q : Addr) (B : Pt), Stand p l e R s m sargs below meth c B.U B.locs B.cells B.slots ∧ PostX A a q B ∧
      Steps p.tables e below (doInvoke e (A.U.setTop g) [] mk a).1 ((B.U.setTop g).pushFrame (.throwing q)))
section Payer
variable {l : Launch} {R : Room} {p : Program} {e : Env} {below : List Frame} {s : State} {sargs : Array Value} {y : MethodName} {len W9 : Nat}
theorem vx_back {ws : List Cond} {rm : Room} {Pc : Array Value → State → Prop} {Qc : Array Value → State → Outcome → State → Prop} {XC : String → State → State → Prop} {mc ms : Nat} {free : Addr → Prop} {bytes : ByteArray} {maxL : Nat} {ret : Option FieldType}
    (hM : vx_Met l y ws rm Pc Qc XC mc ms free) (hblind : FrameBlind Pc) (hrc : rm.cells = mc) (hrs : rm.slots = ms)
    (hframes : rm.frames + 1 ≤ R.frames) (hlocals : W9 + (maxL + 11) + rm.locals ≤ R.locals)
    (hws : ∀ w ∈ ws, ∀ a' U, s.WarmedH U.vm → w.before a' U = true) (hcode : Cond.code y bytes maxL ret ∈ ws) (hinit : ∀ a' U, s.WarmedH U.vm → (Cond.initialized y.cls).before a' U = true) :
    vx_Back l R p e below s sargs y len W9 (PreOf R mc ms Pc) (PostOf Qc mc ms free) (vx_Post XC mc ms free) := by
  intro m meth c A g ig mk a X hg hsize hdg hW hn hp
  have h1 : (headSpec ws rm).pre.before a A.U = true := atoms_intro fun w hw => hws w hw _ _ X.warmed
  have h2 : (Cond.code y bytes maxL ret).before a A.U = true := hws _ hcode _ _ X.warmed
  have h3 : (Cond.initialized y.cls).before a A.U = true := hinit _ _ X.warmed
  have h4 : A.cells + (headSpec ws rm).room.cells ≤ R.cells := by rw [show (headSpec ws rm).room.cells = mc from hrc]; exact hp.1
  have h5 : A.slots + (headSpec ws rm).room.slots ≤ R.slots := by rw [show (headSpec ws rm).room.slots = ms from hrs]; exact hp.2.1
  have hPc : Pc a (A.U.calling g mk a) := hblind _ _ _ _ hp.2.2
  obtain ⟨U, Ls, c0, s0⟩ := A
  dsimp only [Pt.U, Pt.locs, Pt.cells, Pt.slots] at h1 h2 h3 h4 h5 X hn hPc ⊢
  obtain ⟨methY, cY, hmY, hcY, -, hlY, -, -, -, -⟩ := Cond.code_spec hn h2
  obtain ⟨kY, hkY, -⟩ := className_of_methodNamed hn
  have hinitY : kY.init = .initialized := Cond.initialized_spec (findClass_of_methodNamed hn) hkY h3
  have h : At U g.method c below := by rw [hg]; exact X.here
  have hlocals9 : W9 + (maxL + 11) + (headSpec ws rm).room.locals ≤ R.locals := hlocals
  have happ : (headSpec ws rm).appliesLoose y e.platform (U.calling g mk a) = true :=
    Spec.appliesLoose_calling (g := g) h hdg hn hkY hinitY
      (X.room_calling (g := g) (R' := (headSpec ws rm).room) hsize hmY hcY hframes (by rw [hlY]; omega) h4 h5) h1
  obtain ⟨mid, hmid⟩ := h.above
  have hfr : (U.setTop g).frames = (.java g :: mid) ++ below := by rw [State.frames_setTop' g h.top, hmid]; rfl
  obtain ⟨o, s₂, hsteps, -, hend, hq⟩ := Steps.callFree hM p X.admits X.cas X.clock (acts := []) hfr happ hPc trivial
  have hq' : vx_Q Qc XC mc ms free a (U.calling g mk a) o s₂ := hq
  rw [State.frames_setTop' g h.top] at hend
  obtain ⟨g₀, hg0⟩ := Option.isSome_iff_exists.mp h.top
  obtain ⟨r, hr⟩ := State.topJava?_eq_some.mp hg0
  have hr' : (({ U with heap := s₂.heap, slotsUsed := s₂.slotsUsed } : State).setVm s₂.vm).frames = .java g₀ :: r := hr
  rcases hq' with ⟨hqc, L, hfe, hL⟩ | ⟨q, rfl, E, ce, L, hx, hce, hcv, hcl, hW₂, hsm, hL⟩
  · obtain ⟨⟨v, rfl⟩, hW₂, e2, q2, q3, q4, q5, q6⟩ := id hfe
    have e3 : s₂ = ({ (U.calling g mk a).setFrames s₂.frames with heap := s₂.heap, slotsUsed := s₂.slotsUsed } : State).setVm s₂.vm := by
      have : s₂ = ({ s₂ with vm := (U.calling g mk a).vm } : State).setVm s₂.vm := rfl
      rw [e2] at this
      exact this
    obtain ⟨c₂, i₂, len₂, hc₂, hd₂, hf₂⟩ := hend
    have hW' : U.WarmedH s₂.vm := hW₂
    have hcc : c₂ = c := by
      have h1 : s₂.code? g.method = U.code? g.method := by
        rw [State.code?_eq, State.code?_eq, hW'.alike.method?]
      exact Option.some.inj (hc₂.symm.trans (h1.trans h.code))
    subst hcc
    have hlen : len₂ = len := by rw [hdg] at hd₂; cases hd₂; rfl
    subst hlen
    have hs₂ : s₂ = (({ U with heap := s₂.heap, slotsUsed := s₂.slotsUsed } : State).setVm s₂.vm).setTop { g with pc := g.pc + len₂, stack := v.toList ++ g.stack } := by
      refine e3.trans ?_
      rw [hf₂, State.calling_eq h.top, State.setFrames_setFrames, State.setTop_of_frames _ hr', hr]
      rfl
    have hsame : U.sameButNew ({ U with heap := s₂.heap, slotsUsed := s₂.slotsUsed } : State) L mc ms := by
      refine ⟨?_, q2, q3, q4, q5, q6⟩
      obtain ⟨t, ht, -⟩ := State.frames_cons hr
      show ({ U with heap := s₂.heap, slotsUsed := s₂.slotsUsed } : State) = { U.setFrames U.frames with heap := s₂.heap, slotsUsed := s₂.slotsUsed }
      rw [State.setFrames_self ht]
    subst hg
    refine Or.inl ⟨v, ⟨(({ U with heap := s₂.heap, slotsUsed := s₂.slotsUsed } : State).setVm s₂.vm), Ls ++ L, c0 + mc, s0 + ms⟩,
      ⟨X.admits, X.cas, X.clock, X.frames, X.room, X.hears, X.method, X.code, (X.here.setHeapUsed s₂.heap s₂.slotsUsed).setVm hW'.alike, X.tail, State.WarmedH.trans X.warmed hW', X.limits, X.bytes, X.same.trans (hsame.setVm s.vm)⟩,
      ⟨g, mk, s₂, L, rfl, rfl, hqc, rfl, hL, rfl, rfl⟩, ?_⟩
    show Steps p.tables e below _ ((({ U with heap := s₂.heap, slotsUsed := s₂.slotsUsed } : State).setVm s₂.vm).setTop { g with pc := g.pc + len₂, stack := v.toList ++ g.stack })
    rw [← hs₂]
    exact hsteps
  · obtain ⟨e2, q2, q3, q4, q5, q6⟩ := id hsm
    have e3 : s₂ = ({ (U.calling g mk a).setFrames s₂.frames with heap := s₂.heap, slotsUsed := s₂.slotsUsed } : State).setVm s₂.vm := by
      have : s₂ = ({ s₂ with vm := (U.calling g mk a).vm } : State).setVm s₂.vm := rfl
      rw [e2] at this
      exact this
    have hf₂ : s₂.frames = .throwing q :: .java g :: U.frames.tail := hend
    have hW' : U.WarmedH s₂.vm := hW₂
    have hs₂ : s₂ = ((({ U with heap := s₂.heap, slotsUsed := s₂.slotsUsed } : State).setVm s₂.vm).setTop g).pushFrame (.throwing q) := by
      refine e3.trans ?_
      rw [hf₂, State.calling_eq h.top, State.setFrames_setFrames, State.pushFrame, State.frames_setTop _ hr', State.setTop_of_frames _ hr', State.setFrames_setFrames, hr]
      rfl
    have hsame : U.sameButNew ({ U with heap := s₂.heap, slotsUsed := s₂.slotsUsed } : State) L mc ms := by
      refine ⟨?_, q2, q3, q4, q5, q6⟩
      obtain ⟨t, ht, -⟩ := State.frames_cons hr
      show ({ U with heap := s₂.heap, slotsUsed := s₂.slotsUsed } : State) = { U.setFrames U.frames with heap := s₂.heap, slotsUsed := s₂.slotsUsed }
      rw [State.setFrames_self ht]
    subst hg
    refine Or.inr ⟨q, ⟨(({ U with heap := s₂.heap, slotsUsed := s₂.slotsUsed } : State).setVm s₂.vm), Ls ++ L, c0 + mc, s0 + ms⟩,
      ⟨X.admits, X.cas, X.clock, X.frames, X.room, X.hears, X.method, X.code, (X.here.setHeapUsed s₂.heap s₂.slotsUsed).setVm hW'.alike, X.tail, State.WarmedH.trans X.warmed hW', X.limits, X.bytes, X.same.trans (hsame.setVm s.vm)⟩,
      ⟨g, mk, s₂, L, E, ce, rfl, rfl, hx, hce, hcv, hcl, rfl, hL, rfl, rfl⟩, ?_⟩
    show Steps p.tables e below _ (((({ U with heap := s₂.heap, slotsUsed := s₂.slotsUsed } : State).setVm s₂.vm).setTop g).pushFrame (.throwing q))
    rw [← hs₂]
    exact hsteps
end Payer
section Calls
variable {p : Program} {l : Launch} {e : Env} {R : Room} {s : State} {m : MethodId} {args : Array Value} {below : List Frame} {meth : Method} {c : Code} {T : State} {locs : List Loc} {cells slots : Nat}
theorem vx_callV (X : Stand p l e R s m args below meth c T locs cells slots) (hexec : p.tables.exec = Jvm.exec) {own C : String} {index : Nat} {y : MethodName} {bytes : ByteArray} {maxL : Nat} {ret : Option FieldType}
    (hown : s.vm.findClass own = some m.cls) (hlink : (Cond.methodLink own index y).before args s = true) (hinst : (Cond.instanceMethod y).before args s = true) (hsel : (Cond.selects C y y).before args s = true)
    (hcode : (Cond.code y bytes maxL ret).before args s = true) (hy : y.cls ≠ "java/lang/invoke/MethodHandle" ∧ y.cls ≠ "java/lang/invoke/VarHandle")
    {W9 : Nat} {Pre : Pt → Array Value → Prop} {Post : Pt → Array Value → Option Value → Pt → Prop} {PostX : Pt → Array Value → Addr → Pt → Prop} (hK : vx_Back l R p e below s args y 3 W9 Pre Post PostX)
    {b : Addr} {cellB : Cell} (hcell : T.heap[b]? = some cellB) (hobj : cellB.vm.isStatics = false) (hcls : s.vm.findClass C = some cellB.cls)
    {g : JFrame} (hg : g.method = m) (hsize : g.locals.size = c.maxLocals) {argsL rest : List Value} (hlen : ∀ sig, parseMethodDescriptor y.desc = some sig → argsL.length = sig.parameters.length)
    (hstack : g.stack = argsL.reverse ++ .ref b :: rest) (hW : 2 * g.monitorRoom + (rest.map fun v => v.category).sum ≤ W9) (hdg : decode c.code g.pc = .ok (.invokevirtual index, 3))
    (hpre : ∀ vm₁, s.WarmedH vm₁ → Pre ⟨T.setVm vm₁, locs, cells, slots⟩ (Value.ref b :: argsL).toArray) :
    (∃ (v : Option Value) (vm₁ : Vm) (B : Pt), s.WarmedH vm₁ ∧ Stand p l e R s m args below meth c B.U B.locs B.cells B.slots ∧ Post ⟨T.setVm vm₁, locs, cells, slots⟩ (Value.ref b :: argsL).toArray v B ∧
      ∀ target, Steps p.tables e below (B.U.setTop { g with pc := g.pc + 3, stack := v.toList ++ rest }) target → Steps p.tables e below (T.setTop g) target) ∨
    (∃ (q : Addr) (vm₁ : Vm) (B : Pt), s.WarmedH vm₁ ∧ Stand p l e R s m args below meth c B.U B.locs B.cells B.slots ∧ PostX ⟨T.setVm vm₁, locs, cells, slots⟩ (Value.ref b :: argsL).toArray q B ∧
      Steps p.tables e below (T.setTop g) ((B.U.setTop { g with stack := rest }).pushFrame (.throwing q))) := by
  obtain ⟨mk, methM, hnamed, hmethM, hstM, habM⟩ := Cond.instanceMethod_spec hinst
  obtain ⟨methM', cM, hmethM', -, -, -, -, -, -, hsigM⟩ := Cond.code_spec hnamed hcode
  cases hmethM.symm.trans hmethM'
  obtain ⟨c2, r2, m2, q1, q2, q3, q4, kP, hkP, hkPi⟩ := Cond.selects_spec hsel
  cases hcls.symm.trans q1
  cases (State.methodFound?_of_named hnamed hy).symm.trans q2
  cases hnamed.symm.trans q3
  have hselP : selectMethod e.platform s.vm cellB.cls mk = .method mk := by rw [Launch.admits_selectMethod X.admits]; exact q4
  obtain ⟨vm₁, X₁, hstep₁⟩ := X.invokevirtual hexec hown hlink hnamed hmethM hstM hkP hkPi hy (a := b) (cell := cellB) hcell
    (fun z h => by rw [h] at hobj; cases hobj) hselP hmethM habM hkP hkPi (g := g) hg (argsL := argsL) (rest := rest) (hlen _ hsigM) hstack hdg
  rcases hK m meth c ⟨T.setVm vm₁, locs, cells, slots⟩ { g with stack := rest } (.invokevirtual index) mk (Value.ref b :: argsL).toArray X₁ hg hsize hdg hW (X₁.named hnamed) (hpre vm₁ X₁.warmed) with ⟨v, B, X', hpost, hsteps⟩ | ⟨q, B, X', hpost, hsteps⟩
  · exact Or.inl ⟨v, vm₁, B, X₁.warmed, X', hpost, fun target h => hstep₁ _ fun acts => by rw [doInvoke_state]; exact hsteps.trans h⟩
  · exact Or.inr ⟨q, vm₁, B, X₁.warmed, X', hpost, hstep₁ _ fun acts => by rw [doInvoke_state]; exact hsteps⟩
theorem vx_callS (X : Stand p l e R s m args below meth c T locs cells slots) (hexec : p.tables.exec = Jvm.exec) {own : String} {index : Nat} {y : MethodName} {bytes : ByteArray} {maxL : Nat} {ret : Option FieldType}
    (hown : s.vm.findClass own = some m.cls) (hlink : (Cond.methodLink own index y).before args s = true) (hstat : (Cond.static y).before args s = true) (hinit : (Cond.initialized y.cls).before args s = true)
    (hcode : (Cond.code y bytes maxL ret).before args s = true) (hy : y.cls ≠ "java/lang/invoke/MethodHandle" ∧ y.cls ≠ "java/lang/invoke/VarHandle")
    {W9 : Nat} {Pre : Pt → Array Value → Prop} {Post : Pt → Array Value → Option Value → Pt → Prop} {PostX : Pt → Array Value → Addr → Pt → Prop} (hK : vx_Back l R p e below s args y 3 W9 Pre Post PostX)
    {g : JFrame} (hg : g.method = m) (hsize : g.locals.size = c.maxLocals) {argsL rest : List Value} (hlen : ∀ sig, parseMethodDescriptor y.desc = some sig → argsL.length = sig.parameters.length)
    (hstack : g.stack = argsL.reverse ++ rest) (hW : 2 * g.monitorRoom + (rest.map fun v => v.category).sum ≤ W9) (hdg : decode c.code g.pc = .ok (.invokestatic index, 3))
    (hpre : ∀ vm₁, s.WarmedH vm₁ → Pre ⟨T.setVm vm₁, locs, cells, slots⟩ argsL.toArray) :
    (∃ (v : Option Value) (vm₁ : Vm) (B : Pt), s.WarmedH vm₁ ∧ Stand p l e R s m args below meth c B.U B.locs B.cells B.slots ∧ Post ⟨T.setVm vm₁, locs, cells, slots⟩ argsL.toArray v B ∧
      ∀ target, Steps p.tables e below (B.U.setTop { g with pc := g.pc + 3, stack := v.toList ++ rest }) target → Steps p.tables e below (T.setTop g) target) ∨
    (∃ (q : Addr) (vm₁ : Vm) (B : Pt), s.WarmedH vm₁ ∧ Stand p l e R s m args below meth c B.U B.locs B.cells B.slots ∧ PostX ⟨T.setVm vm₁, locs, cells, slots⟩ argsL.toArray q B ∧
      Steps p.tables e below (T.setTop g) ((B.U.setTop { g with stack := rest }).pushFrame (.throwing q))) := by
  obtain ⟨mk, hnamed⟩ := Cond.code_named hcode
  obtain ⟨methM, cM, hmethM, -, -, -, -, -, -, hsigM⟩ := Cond.code_spec hnamed hcode
  have hstatic : methM.isStatic = true := Cond.static_spec hnamed hmethM hstat
  obtain ⟨kP, hkP, -⟩ := className_of_methodNamed hnamed
  have hinitP : kP.init = .initialized := Cond.initialized_spec (findClass_of_methodNamed hnamed) hkP hinit
  obtain ⟨vm₁, X₁, hstep₁⟩ := X.invokestatic hexec hown hlink hnamed hmethM hstatic hkP hinitP hy (g := g) hg (argsL := argsL) (rest := rest) (hlen _ hsigM) hstack hdg
  rcases hK m meth c ⟨T.setVm vm₁, locs, cells, slots⟩ { g with stack := rest } (.invokestatic index) mk argsL.toArray X₁ hg hsize hdg hW (X₁.named hnamed) (hpre vm₁ X₁.warmed) with ⟨v, B, X', hpost, hsteps⟩ | ⟨q, B, X', hpost, hsteps⟩
  · exact Or.inl ⟨v, vm₁, B, X₁.warmed, X', hpost, fun target h => hstep₁ _ fun acts => by rw [doInvoke_state]; exact hsteps.trans h⟩
  · exact Or.inr ⟨q, vm₁, B, X₁.warmed, X', hpost, hstep₁ _ fun acts => by rw [doInvoke_state]; exact hsteps⟩
end Calls
theorem vx_cls {s : State} {T : State} {vm₁ : Vm} {E : String} {k : ClassId} (hW : s.WarmedH vm₁) (h : (T.setVm vm₁).vm.findClass E = some k) : s.vm.findClass E = some k := by
  have h1 : vm₁.findClass E = some k := h
  rw [hW.alike.findClass] at h1
  exact h1
/-- the method's frame g, with q thrown over it -/
def vx_W (p : Program) (l : Launch) (e : Env) (R : Room) (s : State) (m : MethodId) (args : Array Value) (below : List Frame) (meth : Method) (c : Code) (H : Heap) (locs : List Loc) (cells slots : Nat) (Q : State → Prop) (g : JFrame) (q : Addr) : Prop :=
  ∀ T : State, T.heap = H → Stand p l e R s m args below meth c T locs cells slots → ∃ t, Steps p.tables e below ((T.setTop g).pushFrame (.throwing q)) t ∧ Q t
def vx_Run (p : Program) (l : Launch) (e : Env) (R : Room) (s : State) (m : MethodId) (args : Array Value) (below : List Frame) (meth : Method) (c : Code) (H : Heap) (locs : List Loc) (cells slots mc ms : Nat) (g : JFrame) (rest : List Value) (Qa : State → Outcome → State → Prop) (XC : String → State → State → Prop) (free : Addr → Prop) : Prop :=
  ∀ T : State, T.heap = H → Stand p l e R s m args below meth c T locs cells slots →
    (∃ (v : Option Value) (st₀ t T' : State) (L : List Loc), st₀.heap = H ∧ Stand p l e R s m args below meth c T' (locs ++ L) (cells + mc) (slots + ms) ∧ (∀ q ∈ L, free q.base) ∧ T'.heap = t.heap ∧ T'.vm = t.vm ∧ Qa st₀ (.returned v) t ∧
      Goes p e below T g T' { g with pc := g.pc + 3, stack := v.toList ++ rest }) ∨
    (∃ (q : Addr) (st₀ t T' : State) (L : List Loc) (E : String) (ce : Cell), st₀.heap = H ∧ Stand p l e R s m args below meth c T' (locs ++ L) (cells + mc) (slots + ms) ∧ (∀ z ∈ L, free z.base) ∧ T'.heap = t.heap ∧ T'.vm = t.vm ∧ XC E st₀ t ∧ t.heap[q]? = some ce ∧ ce.vm = .none ∧ s.vm.findClass E = some ce.cls ∧
      Steps p.tables e below (T.setTop g) ((T'.setTop { g with stack := rest }).pushFrame (.throwing q)))
def vx_X {S : Type} (px : S → Prop) (B : String → S → State → Prop) (A : Nat → Prop) : String → State → State → Prop := fun E st t => ∃ u : S, px u ∧ B E u t ∧ va_F A st t
section Runs
variable {p : Program} {l : Launch} {e : Env} {R : Room} {s : State} {m : MethodId} {args : Array Value} {below : List Frame} {meth : Method} {c : Code} {H : Heap} {locs : List Loc} {cells slots : Nat}
variable {y : MethodName} {bytes cc : ByteArray} {maxL nL mc ms n index : Nat} {ret : Option FieldType} {ws : List Cond} {rm : Room} {Pc : Array Value → State → Prop} {Qc : Array Value → State → Outcome → State → Prop} {XC : String → State → State → Prop} {free : Addr → Prop} {Ts : List Cond} {own C : String} {b : Addr} {As rest : List Value} {g : JFrame}
theorem vx_callBack (cb : CallB R s args own index y bytes maxL ret ws rm mc ms n) (hM : vx_Met l y ws rm Pc Qc XC mc ms free) (hbl : FrameBlind Pc) : vx_Back l R p e below s args y 3 8 (PreOf R mc ms Pc) (PostOf Qc mc ms free) (vx_Post XC mc ms free) := by
  obtain ⟨hrc, hrs, hfr, hlo, hws, hcw, -, hini, -⟩ := cb
  exact vx_back (bytes := bytes) (maxL := maxL) (ret := ret) hM hbl hrc hrs hfr hlo hws hcw (fun a' U hW => word_at hW (Or.inl (by first | rfl | simp [Cond.onTables, Cond.keeps, Cond.steady])) hini)
theorem vx_runV (S : CallFix p m c cc nL s args Ts own) (hM : vx_Met l y ws rm Pc Qc XC mc ms free) (cw : CallW R s args own C index y bytes maxL ret ws rm mc ms n) (hp : PreV s H C b Pc As)
    (hg : g.method = m) (hn : As.length = n) (hsize : g.locals.size = nL) (hstack : g.stack = As.reverse ++ .ref b :: rest) (hW : 2 * g.monitorRoom + (rest.map fun v => v.category).sum ≤ 8) (hdg : decode cc g.pc = .ok (.invokevirtual index, 3)) (hf : cells + mc ≤ R.cells ∧ slots + ms ≤ R.slots) :
    vx_Run p l e R s m args below meth c H locs cells slots mc ms g rest (Qc (Value.ref b :: As).toArray) XC free := by
  have hK : vx_Back l R p e below s args y 3 8 (PreOf R mc ms Pc) (PostOf Qc mc ms free) (vx_Post XC mc ms free) := vx_callBack cw.1 hM hp.1
  obtain ⟨⟨-, -, -, -, -, -, hcode, -, hy, hlen, hl⟩, hin, hse⟩ := cw
  obtain ⟨hx, hb, hml, ho, -⟩ := S
  obtain ⟨-, ⟨cellB, hcB, hoB, hclB⟩, hPc⟩ := hp
  intro T hT X
  rcases vx_callV X hx (C := C) (bytes := bytes) (maxL := maxL) (ret := ret) ho hl hin hse hcode hy hK (by rw [hT]; exact hcB) hoB hclB hg (hsize.trans hml.symm) (argsL := As) (rest := rest) (fun sig h => hn.trans (hlen sig h)) hstack hW (by rw [hb]; exact hdg)
    (fun vm₁ hW₁ => ⟨hf.1, hf.2, hPc (T.setVm vm₁) hT hW₁⟩) with ⟨v, vm₁, ⟨U', l2, c2, s2⟩, hW₁, X', ⟨g', mk, t, L, e1, e2, hq, h1, hL, h2, h3⟩, st⟩ | ⟨q, vm₁, ⟨U', l2, c2, s2⟩, hW₁, X', ⟨g', mk, t, L, E, ce, e1, e2, hq, hce, hcv, hcl, h1, hL, h2, h3⟩, st⟩
  · dsimp only [Pt.U, Pt.locs, Pt.cells, Pt.slots] at X' e1 e2 h1 h2 h3 st
    subst h1; subst h2; subst h3
    exact Or.inl ⟨v, (T.setVm vm₁).calling g' mk (Value.ref b :: As).toArray, t, U', L, hT, X', hL, e1, e2, hq, st⟩
  · dsimp only [Pt.U, Pt.locs, Pt.cells, Pt.slots] at X' e1 e2 h1 h2 h3 st hcl
    subst h1; subst h2; subst h3
    exact Or.inr ⟨q, (T.setVm vm₁).calling g' mk (Value.ref b :: As).toArray, t, U', L, E, ce, hT, X', hL, e1, e2, hq, hce, hcv, vx_cls hW₁ hcl, st⟩
theorem vx_runS (S : CallFix p m c cc nL s args Ts own) (hM : vx_Met l y ws rm Pc Qc XC mc ms free) (cw : CallB R s args own index y bytes maxL ret ws rm mc ms n ∧ (Cond.static y).before args s = true) (hp : PreS s H Pc As)
    (hg : g.method = m) (hn : As.length = n) (hsize : g.locals.size = nL) (hstack : g.stack = As.reverse ++ rest) (hW : 2 * g.monitorRoom + (rest.map fun v => v.category).sum ≤ 8) (hdg : decode cc g.pc = .ok (.invokestatic index, 3)) (hf : cells + mc ≤ R.cells ∧ slots + ms ≤ R.slots) :
    vx_Run p l e R s m args below meth c H locs cells slots mc ms g rest (Qc As.toArray) XC free := by
  have hK : vx_Back l R p e below s args y 3 8 (PreOf R mc ms Pc) (PostOf Qc mc ms free) (vx_Post XC mc ms free) := vx_callBack cw.1 hM hp.1
  obtain ⟨⟨-, -, -, -, -, -, hcode, hini, hy, hlen, hl⟩, hstt⟩ := cw
  obtain ⟨hx, hb, hml, ho, -⟩ := S
  intro T hT X
  rcases vx_callS X hx (bytes := bytes) (maxL := maxL) (ret := ret) ho hl hstt hini hcode hy hK hg (hsize.trans hml.symm) (argsL := As) (rest := rest) (fun sig h => hn.trans (hlen sig h)) hstack hW (by rw [hb]; exact hdg)
    (fun vm₁ hW₁ => ⟨hf.1, hf.2, hp.2 (T.setVm vm₁) hT hW₁⟩) with ⟨v, vm₁, ⟨U', l2, c2, s2⟩, hW₁, X', ⟨g', mk, t, L, e1, e2, hq, h1, hL, h2, h3⟩, st⟩ | ⟨q, vm₁, ⟨U', l2, c2, s2⟩, hW₁, X', ⟨g', mk, t, L, E, ce, e1, e2, hq, hce, hcv, hcl, h1, hL, h2, h3⟩, st⟩
  · dsimp only [Pt.U, Pt.locs, Pt.cells, Pt.slots] at X' e1 e2 h1 h2 h3 st
    subst h1; subst h2; subst h3
    exact Or.inl ⟨v, (T.setVm vm₁).calling g' mk As.toArray, t, U', L, hT, X', hL, e1, e2, hq, st⟩
  · dsimp only [Pt.U, Pt.locs, Pt.cells, Pt.slots] at X' e1 e2 h1 h2 h3 st hcl
    subst h1; subst h2; subst h3
    exact Or.inr ⟨q, (T.setVm vm₁).calling g' mk As.toArray, t, U', L, E, ce, hT, X', hL, e1, e2, hq, hce, hcv, vx_cls hW₁ hcl, st⟩
end Runs
section Rows
variable {p : Program} {l : Launch} {e : Env} {R : Room} {s : State} {m : MethodId} {args : Array Value} {below : List Frame} {meth : Method} {c : Code} {H : Heap} {locs : List Loc} {cells slots : Nat} {Q : State → Prop}
variable {mc ms : Nat} {free : Addr → Prop} {A0 A1 : Nat → Prop} {H0 : Heap} {a : Array Value} {pc : Nat} {ls : Array Slot} {st0 rest : List Value}
theorem vx_keep {st₀ t T' : State} {L : List Loc} (h0 : st₀.heap = H) (e1 : T'.heap = t.heap) (hS : va_S A0 H0 H locs) (hA : ∀ q, q < H.size → A1 q → A0 q) (hf : ∀ q, free q → A0 q) (hL : ∀ q ∈ L, free q.base) (hF : va_F A1 st₀ t) :
    H.size ≤ T'.heap.size ∧ (∀ q : Nat, q < H.size → ¬ A1 q → T'.heap[q]? = H[q]?) ∧ va_S A0 H0 T'.heap (locs ++ L) := by
  obtain ⟨hz, hk⟩ := hF
  rw [h0] at hz hk
  exact ⟨by rw [e1]; exact hz, fun q h1 h2 => by rw [e1]; exact hk q h1 h2,
    ⟨Nat.le_trans hS.1 (by rw [e1]; exact hz), fun q h1 h2 => by rw [e1, hk q (Nat.lt_of_lt_of_le h1 hS.1) (fun z => h2 (hA q (Nat.lt_of_lt_of_le h1 hS.1) z))]; exact hS.2.1 q h1 h2, fun q hq => by
      rcases List.mem_append.mp hq with h | h
      · exact hS.2.2 q h
      · exact hf _ (hL q h)⟩⟩
theorem vx_calli {S SX : Type} {post : Int32 → S → Prop} {px : SX → Prop} {B : S → State → Prop} {BX : String → SX → State → Prop} {AX : Nat → Prop} (hr : vx_Run p l e R s m args below meth c H locs cells slots mc ms (F0 m pc ls st0) rest (va_Qi post B A1 a) (vx_X px BX AX) free) (hS : va_S A0 H0 H locs) (hA : ∀ q, q < H.size → A1 q → A0 q) (hf : ∀ q, free q → A0 q) (hAX : ∀ q, q < H.size → AX q → A0 q)
    (kx : ∀ (E : String) (ce : Cell) (q9 : Addr) (u : SX) (t : State) (H1 : Heap) (locs1 : List Loc), t.heap = H1 → s.vm.Alike t.vm → px u → BX E u t → H.size ≤ H1.size → (∀ q : Nat, q < H.size → ¬ AX q → H1[q]? = H[q]?) → va_S A0 H0 H1 locs1 → H1[q9]? = some ce → ce.vm = .none → s.vm.findClass E = some ce.cls → vx_W p l e R s m args below meth c H1 locs1 (cells + mc) (slots + ms) Q (F0 m pc ls rest) q9)
    (kk : ∀ (r : Int32) (u : S) (t : State) (H1 : Heap) (locs1 : List Loc), t.heap = H1 → s.vm.Alike t.vm → post r u → B u t → H.size ≤ H1.size → (∀ q : Nat, q < H.size → ¬ A1 q → H1[q]? = H[q]?) → va_S A0 H0 H1 locs1 → W p l e R s m args below meth c H1 locs1 (cells + mc) (slots + ms) Q (F0 m (pc + 3) ls (.int r :: rest))) : W p l e R s m args below meth c H locs cells slots Q (F0 m pc ls st0) := by
  intro T hT X
  rcases hr T hT X with ⟨v, st₀, t, T', L, h0, X', hL, e1, e2, ⟨⟨r, u, hv, hp, hb⟩, hF⟩, st⟩ | ⟨q, st₀, t, T', L, E, ce, h0, X', hL, e1, e2, ⟨u, hp, hb, hF⟩, hce, hcv, hcl, st⟩
  · cases hv
    obtain ⟨k1, k2, k3⟩ := vx_keep h0 e1 hS hA hf hL hF
    obtain ⟨t2, a1, b1⟩ := kk r u t T'.heap (locs ++ L) e1.symm (by rw [← e2]; exact X'.warmed.alike) hp hb k1 k2 k3 T' rfl X'
    exact ⟨t2, st t2 a1, b1⟩
  · obtain ⟨k1, k2, k3⟩ := vx_keep h0 e1 hS hAX hf hL hF
    obtain ⟨t2, a1, b1⟩ := kx E ce q u t T'.heap (locs ++ L) e1.symm (by rw [← e2]; exact X'.warmed.alike) hp hb k1 k2 k3 (by rw [e1]; exact hce) hcv hcl T' rfl X'
    exact ⟨t2, st.trans a1, b1⟩
theorem vx_calll {S SX : Type} {post : Int64 → S → Prop} {px : SX → Prop} {B : S → State → Prop} {BX : String → SX → State → Prop} {AX : Nat → Prop} (hr : vx_Run p l e R s m args below meth c H locs cells slots mc ms (F0 m pc ls st0) rest (va_Ql post B A1 a) (vx_X px BX AX) free) (hS : va_S A0 H0 H locs) (hA : ∀ q, q < H.size → A1 q → A0 q) (hf : ∀ q, free q → A0 q) (hAX : ∀ q, q < H.size → AX q → A0 q)
    (kx : ∀ (E : String) (ce : Cell) (q9 : Addr) (u : SX) (t : State) (H1 : Heap) (locs1 : List Loc), t.heap = H1 → s.vm.Alike t.vm → px u → BX E u t → H.size ≤ H1.size → (∀ q : Nat, q < H.size → ¬ AX q → H1[q]? = H[q]?) → va_S A0 H0 H1 locs1 → H1[q9]? = some ce → ce.vm = .none → s.vm.findClass E = some ce.cls → vx_W p l e R s m args below meth c H1 locs1 (cells + mc) (slots + ms) Q (F0 m pc ls rest) q9)
    (kk : ∀ (r : Int64) (u : S) (t : State) (H1 : Heap) (locs1 : List Loc), t.heap = H1 → s.vm.Alike t.vm → post r u → B u t → H.size ≤ H1.size → (∀ q : Nat, q < H.size → ¬ A1 q → H1[q]? = H[q]?) → va_S A0 H0 H1 locs1 → W p l e R s m args below meth c H1 locs1 (cells + mc) (slots + ms) Q (F0 m (pc + 3) ls (.long r :: rest))) : W p l e R s m args below meth c H locs cells slots Q (F0 m pc ls st0) := by
  intro T hT X
  rcases hr T hT X with ⟨v, st₀, t, T', L, h0, X', hL, e1, e2, ⟨⟨r, u, hv, hp, hb⟩, hF⟩, st⟩ | ⟨q, st₀, t, T', L, E, ce, h0, X', hL, e1, e2, ⟨u, hp, hb, hF⟩, hce, hcv, hcl, st⟩
  · cases hv
    obtain ⟨k1, k2, k3⟩ := vx_keep h0 e1 hS hA hf hL hF
    obtain ⟨t2, a1, b1⟩ := kk r u t T'.heap (locs ++ L) e1.symm (by rw [← e2]; exact X'.warmed.alike) hp hb k1 k2 k3 T' rfl X'
    exact ⟨t2, st t2 a1, b1⟩
  · obtain ⟨k1, k2, k3⟩ := vx_keep h0 e1 hS hAX hf hL hF
    obtain ⟨t2, a1, b1⟩ := kx E ce q u t T'.heap (locs ++ L) e1.symm (by rw [← e2]; exact X'.warmed.alike) hp hb k1 k2 k3 (by rw [e1]; exact hce) hcv hcl T' rfl X'
    exact ⟨t2, st.trans a1, b1⟩
theorem vx_callf {S SX : Type} {post : UInt32 → S → Prop} {px : SX → Prop} {B : S → State → Prop} {BX : String → SX → State → Prop} {AX : Nat → Prop} (hr : vx_Run p l e R s m args below meth c H locs cells slots mc ms (F0 m pc ls st0) rest (va_Qf post B A1 a) (vx_X px BX AX) free) (hS : va_S A0 H0 H locs) (hA : ∀ q, q < H.size → A1 q → A0 q) (hf : ∀ q, free q → A0 q) (hAX : ∀ q, q < H.size → AX q → A0 q)
    (kx : ∀ (E : String) (ce : Cell) (q9 : Addr) (u : SX) (t : State) (H1 : Heap) (locs1 : List Loc), t.heap = H1 → s.vm.Alike t.vm → px u → BX E u t → H.size ≤ H1.size → (∀ q : Nat, q < H.size → ¬ AX q → H1[q]? = H[q]?) → va_S A0 H0 H1 locs1 → H1[q9]? = some ce → ce.vm = .none → s.vm.findClass E = some ce.cls → vx_W p l e R s m args below meth c H1 locs1 (cells + mc) (slots + ms) Q (F0 m pc ls rest) q9)
    (kk : ∀ (r : UInt32) (u : S) (t : State) (H1 : Heap) (locs1 : List Loc), t.heap = H1 → s.vm.Alike t.vm → post r u → B u t → H.size ≤ H1.size → (∀ q : Nat, q < H.size → ¬ A1 q → H1[q]? = H[q]?) → va_S A0 H0 H1 locs1 → W p l e R s m args below meth c H1 locs1 (cells + mc) (slots + ms) Q (F0 m (pc + 3) ls (.float r :: rest))) : W p l e R s m args below meth c H locs cells slots Q (F0 m pc ls st0) := by
  intro T hT X
  rcases hr T hT X with ⟨v, st₀, t, T', L, h0, X', hL, e1, e2, ⟨⟨r, u, hv, hp, hb⟩, hF⟩, st⟩ | ⟨q, st₀, t, T', L, E, ce, h0, X', hL, e1, e2, ⟨u, hp, hb, hF⟩, hce, hcv, hcl, st⟩
  · cases hv
    obtain ⟨k1, k2, k3⟩ := vx_keep h0 e1 hS hA hf hL hF
    obtain ⟨t2, a1, b1⟩ := kk r u t T'.heap (locs ++ L) e1.symm (by rw [← e2]; exact X'.warmed.alike) hp hb k1 k2 k3 T' rfl X'
    exact ⟨t2, st t2 a1, b1⟩
  · obtain ⟨k1, k2, k3⟩ := vx_keep h0 e1 hS hAX hf hL hF
    obtain ⟨t2, a1, b1⟩ := kx E ce q u t T'.heap (locs ++ L) e1.symm (by rw [← e2]; exact X'.warmed.alike) hp hb k1 k2 k3 (by rw [e1]; exact hce) hcv hcl T' rfl X'
    exact ⟨t2, st.trans a1, b1⟩
theorem vx_calld {S SX : Type} {post : UInt64 → S → Prop} {px : SX → Prop} {B : S → State → Prop} {BX : String → SX → State → Prop} {AX : Nat → Prop} (hr : vx_Run p l e R s m args below meth c H locs cells slots mc ms (F0 m pc ls st0) rest (va_Qd post B A1 a) (vx_X px BX AX) free) (hS : va_S A0 H0 H locs) (hA : ∀ q, q < H.size → A1 q → A0 q) (hf : ∀ q, free q → A0 q) (hAX : ∀ q, q < H.size → AX q → A0 q)
    (kx : ∀ (E : String) (ce : Cell) (q9 : Addr) (u : SX) (t : State) (H1 : Heap) (locs1 : List Loc), t.heap = H1 → s.vm.Alike t.vm → px u → BX E u t → H.size ≤ H1.size → (∀ q : Nat, q < H.size → ¬ AX q → H1[q]? = H[q]?) → va_S A0 H0 H1 locs1 → H1[q9]? = some ce → ce.vm = .none → s.vm.findClass E = some ce.cls → vx_W p l e R s m args below meth c H1 locs1 (cells + mc) (slots + ms) Q (F0 m pc ls rest) q9)
    (kk : ∀ (r : UInt64) (u : S) (t : State) (H1 : Heap) (locs1 : List Loc), t.heap = H1 → s.vm.Alike t.vm → post r u → B u t → H.size ≤ H1.size → (∀ q : Nat, q < H.size → ¬ A1 q → H1[q]? = H[q]?) → va_S A0 H0 H1 locs1 → W p l e R s m args below meth c H1 locs1 (cells + mc) (slots + ms) Q (F0 m (pc + 3) ls (.double r :: rest))) : W p l e R s m args below meth c H locs cells slots Q (F0 m pc ls st0) := by
  intro T hT X
  rcases hr T hT X with ⟨v, st₀, t, T', L, h0, X', hL, e1, e2, ⟨⟨r, u, hv, hp, hb⟩, hF⟩, st⟩ | ⟨q, st₀, t, T', L, E, ce, h0, X', hL, e1, e2, ⟨u, hp, hb, hF⟩, hce, hcv, hcl, st⟩
  · cases hv
    obtain ⟨k1, k2, k3⟩ := vx_keep h0 e1 hS hA hf hL hF
    obtain ⟨t2, a1, b1⟩ := kk r u t T'.heap (locs ++ L) e1.symm (by rw [← e2]; exact X'.warmed.alike) hp hb k1 k2 k3 T' rfl X'
    exact ⟨t2, st t2 a1, b1⟩
  · obtain ⟨k1, k2, k3⟩ := vx_keep h0 e1 hS hAX hf hL hF
    obtain ⟨t2, a1, b1⟩ := kx E ce q u t T'.heap (locs ++ L) e1.symm (by rw [← e2]; exact X'.warmed.alike) hp hb k1 k2 k3 (by rw [e1]; exact hce) hcv hcl T' rfl X'
    exact ⟨t2, st.trans a1, b1⟩
theorem vx_callv {S SX : Type} {post : S → Prop} {px : SX → Prop} {B : S → State → Prop} {BX : String → SX → State → Prop} {AX : Nat → Prop} (hr : vx_Run p l e R s m args below meth c H locs cells slots mc ms (F0 m pc ls st0) rest (va_Qv post B A1 a) (vx_X px BX AX) free) (hS : va_S A0 H0 H locs) (hA : ∀ q, q < H.size → A1 q → A0 q) (hf : ∀ q, free q → A0 q) (hAX : ∀ q, q < H.size → AX q → A0 q)
    (kx : ∀ (E : String) (ce : Cell) (q9 : Addr) (u : SX) (t : State) (H1 : Heap) (locs1 : List Loc), t.heap = H1 → s.vm.Alike t.vm → px u → BX E u t → H.size ≤ H1.size → (∀ q : Nat, q < H.size → ¬ AX q → H1[q]? = H[q]?) → va_S A0 H0 H1 locs1 → H1[q9]? = some ce → ce.vm = .none → s.vm.findClass E = some ce.cls → vx_W p l e R s m args below meth c H1 locs1 (cells + mc) (slots + ms) Q (F0 m pc ls rest) q9)
    (kk : ∀ (u : S) (t : State) (H1 : Heap) (locs1 : List Loc), t.heap = H1 → s.vm.Alike t.vm → post u → B u t → H.size ≤ H1.size → (∀ q : Nat, q < H.size → ¬ A1 q → H1[q]? = H[q]?) → va_S A0 H0 H1 locs1 → W p l e R s m args below meth c H1 locs1 (cells + mc) (slots + ms) Q (F0 m (pc + 3) ls (rest))) : W p l e R s m args below meth c H locs cells slots Q (F0 m pc ls st0) := by
  intro T hT X
  rcases hr T hT X with ⟨v, st₀, t, T', L, h0, X', hL, e1, e2, ⟨⟨u, hv, hp, hb⟩, hF⟩, st⟩ | ⟨q, st₀, t, T', L, E, ce, h0, X', hL, e1, e2, ⟨u, hp, hb, hF⟩, hce, hcv, hcl, st⟩
  · cases hv
    obtain ⟨k1, k2, k3⟩ := vx_keep h0 e1 hS hA hf hL hF
    obtain ⟨t2, a1, b1⟩ := kk u t T'.heap (locs ++ L) e1.symm (by rw [← e2]; exact X'.warmed.alike) hp hb k1 k2 k3 T' rfl X'
    exact ⟨t2, st t2 a1, b1⟩
  · obtain ⟨k1, k2, k3⟩ := vx_keep h0 e1 hS hAX hf hL hF
    obtain ⟨t2, a1, b1⟩ := kx E ce q u t T'.heap (locs ++ L) e1.symm (by rw [← e2]; exact X'.warmed.alike) hp hb k1 k2 k3 (by rw [e1]; exact hce) hcv hcl T' rfl X'
    exact ⟨t2, st.trans a1, b1⟩
/-- caught by the row x of this method's table; the rows ahead don't take it -/
theorem vx_catch {own name : String} {E : String} {ce : Cell} {q : Addr} (hown : s.vm.findClass own = some m.cls) (pre : List ExceptionTableEntry) (x : ExceptionTableEntry) (suf : List ExceptionTableEntry) (hsplit : c.exceptionTable.toList = pre ++ x :: suf)
    (hpass : ∀ z ∈ pre, covers z pc = false ∨ (z.catchType ≠ 0 ∧ ∃ nm : String, (Cond.classLink own z.catchType nm).before args s = true ∧ va_Nc E nm s)) (hx : covers x pc = true) (h0 : x.catchType ≠ 0)
    (hlink : (Cond.classLink own x.catchType name).before args s = true) (hcast : (Cond.castable E name).before args s = true) (hcell : H[q]? = some ce) (hv : ce.vm = .none) (hcl : s.vm.findClass E = some ce.cls)
    (kk : W p l e R s m args below meth c H locs cells slots Q (F0 m x.handlerPc ls [.ref q])) : vx_W p l e R s m args below meth c H locs cells slots Q (F0 m pc ls rest) q := by
  intro T hT X
  have hpl : e.platform.magicAccessors = ({} : Platform).magicAccessors := by rw [X.admits.platform]
  obtain ⟨c3, c4, hc3, hc4, hasg⟩ := Cond.castable_spec hcast
  cases Option.some.inj (hc3.symm.trans hcl)
  obtain ⟨c5, hc5, hcl5⟩ := Cond.classLink_spec hown hlink e.platform hpl
  cases Option.some.inj (hc4.symm.trans hc5)
  obtain ⟨vm', X', st⟩ := X.thenCaughtThrough q (g := F0 m pc ls rest) rfl (Steps.refl _) (by rw [hT]; exact hcell) (by rw [hv]; rfl) (by obtain ⟨k9, h9, -⟩ := Vm.findClass_spec hcl; exact ⟨k9, h9⟩) pre x suf hsplit
    (fun z hz => by
      rcases hpass z hz with h | ⟨hz0, nm, hl1, hn1⟩
      · exact Or.inl h
      · obtain ⟨c6, hc6, hcl6⟩ := Cond.classLink_spec hown hl1 e.platform hpl
        obtain ⟨a8, b8, h1, h2, h3⟩ := hn1
        cases Option.some.inj (h1.symm.trans hcl)
        cases Option.some.inj (h2.symm.trans hc6)
        exact Or.inr ⟨hz0, _, hcl6, h3⟩) hx (Or.inr ⟨h0, c4, hcl5, hasg⟩)
  obtain ⟨t, a1, b1⟩ := kk (T.setVm vm') hT X'
  exact ⟨t, st.trans a1, b1⟩
end Rows
section Ends
variable {p : Program} {l : Launch} {e : Env} {R : Room} {s : State} {m : MethodId} {args : Array Value} {below : List Frame} {meth : Method} {c : Code} {H : Heap} {locs : List Loc} {cells slots : Nat} {Q : State → Prop}
variable {mc ms : Nat} {free : Addr → Prop} {A0 A1 : Nat → Prop} {H0 : Heap} {a : Array Value} {ls : Array Slot} {st0 rest : List Value}
variable {Qc : Array Value → State → Outcome → State → Prop} {XC : String → State → State → Prop}
/-- what a body that may throw owes at its end -/
def vx_MQ (below : List Frame) (Qc : Array Value → State → Outcome → State → Prop) (XC : String → State → State → Prop) (a : Array Value) (s : State) (mc ms : Nat) (free : Addr → Prop) : State → Prop := fun t =>
  ∃ o, t.status = .running ∧ Ended t below o ∧ vx_Q Qc XC mc ms free a s o t
theorem vx_ret {g : JFrame} {mc ms : Nat} (k : W p l e R s m args below meth c H locs cells slots (MQ below Qc args s mc ms free) g) : W p l e R s m args below meth c H locs cells slots (vx_MQ below Qc XC args s mc ms free) g := by
  intro T hT X
  obtain ⟨t, a1, o, b1, b2, b3, b4⟩ := k T hT X
  exact ⟨t, a1, o, b1, b2, Or.inl ⟨b3, b4⟩⟩
/-- not caught here: it goes on to the caller -/
theorem vx_widen {g : JFrame} {q : Addr} {k n : Nat} (h1 : cells ≤ k) (h2 : slots ≤ n) (kk : vx_W p l e R s m args below meth c H locs k n Q g q) : vx_W p l e R s m args below meth c H locs cells slots Q g q := fun T hT X => kk T hT (stand_widen X h1 h2)
theorem vx_out {pc : Nat} {E : String} {ce : Cell} {q : Addr} {mc ms : Nat} (hout : ∀ x ∈ c.exceptionTable.toList, covers x pc = false) (hlocks : meth.locks = false) (hcell : H[q]? = some ce) (hv : ce.vm = .none) (hcl : s.vm.findClass E = some ce.cls)
    (hx : ∀ t : State, t.heap = H → s.vm.Alike t.vm → XC E s t) (hf : ∀ z ∈ locs, free z.base) (hc : cells ≤ mc) (hs : slots ≤ ms) :
    vx_W p l e R s m args below meth c H locs cells slots (vx_MQ below Qc XC args s mc ms free) (F0 m pc ls rest) q := by
  intro T hT X
  obtain ⟨st1, hrun, hend, hW, hsm⟩ := X.leaveThrown q (g := F0 m pc ls rest) rfl rfl rfl hout hlocks
  have hcell9 : (T.setFrames (.throwing q :: below)).heap[q]? = some ce := by
    show T.heap[q]? = some ce
    rw [hT]; exact hcell
  exact ⟨_, st1, .threw q, hrun, hend, Or.inr ⟨q, rfl, E, ce, locs, hx _ hT hW.alike, hcell9, hv, hcl, hW, hsm.mono hc hs, hf⟩⟩
theorem vx_frame {U : State} {k n : Nat} (h : s.sameButNew ({ U with vm := s.vm } : State) locs k n) : s.heap.size ≤ U.heap.size ∧ ∀ q : Nat, q < s.heap.size → (∀ z ∈ locs, z.base ≠ q) → U.heap[q]? = s.heap[q]? := by
  obtain ⟨-, h2, -, -, -, h6⟩ := h
  refine ⟨h2, fun q hq hz => ?_⟩
  obtain ⟨c9, e1, e2, e3, e4⟩ := h6 q _ (Array.getElem?_eq_getElem hq)
  have hs : c9.slots = (s.heap[q]).slots := Array.ext_getElem? fun i => e4 i fun hm => hz _ hm rfl
  have h9 : c9 = s.heap[q] := by
    rw [hs] at e2
    exact e2
  have e5 : U.heap[q]? = some c9 := e1
  rw [e5, h9, Array.getElem?_eq_getElem hq]
/-- the words of a throw but the four that speak of the heap -/
def vx_no (w : Cond) : Bool := decide (w ≠ .isRef (.static Bundle.tN "UNASSIGNED_STACK" Bundle.steD)) && decide (w ≠ .isRef (.static Bundle.tN "SUPPRESSED_SENTINEL" Bundle.listD)) && decide (w ≠ .laysStatic Bundle.tN "UNASSIGNED_STACK" Bundle.steD) && decide (w ≠ .laysStatic Bundle.tN "SUPPRESSED_SENTINEL" Bundle.listD)
def vx_at0 (own : String) (ic : Nat) (X : String) (names : List String) : List Cond := (Bundle.ownAtoms0 own ic X names).filter vx_no
def vx_atS (own : String) (ic : Nat) (X : String) (names : List String) : List Cond := (Bundle.ownAtoms own ic X names).filter vx_no
/-- a word that the tables alone decide, or a good one -/
def vx_ot (w : Cond) : Bool := w.onTables || goodWord w
theorem vx_ot_at {args a' : Array Value} {s U : State} {w : Cond} (hW : s.WarmedH U.vm) (hvm : s.vm = U.vm) (hg : vx_ot w = true) (h : w.before args s = true) : w.before a' U = true := by
  simp only [vx_ot, Bool.or_eq_true] at hg
  rcases hg with hg | hg
  · exact va_tabs hg hvm h
  · exact word_at hW (good_of_word hg) h
/-- a list's words: the good ones out of the method's own list, the others by premises of their own -/
theorem vx_hat {args : Array Value} {s : State} {L B : List Cond} (h1 : ∀ w ∈ L.filter goodWord, w.before args s = true) (h2 : ∀ w ∈ L.filter (fun w => !goodWord w), w ∈ B) (h3 : ∀ w ∈ B, w.before args s = true) : ∀ w ∈ L, w.before args s = true := by
  intro w hw
  by_cases g : goodWord w = true
  · exact h1 w (List.mem_filter.mpr ⟨hw, g⟩)
  · refine h3 w (h2 w (List.mem_filter.mpr ⟨hw, ?_⟩))
    show (!goodWord w) = true
    cases hgw : goodWord w
    · rfl
    · exact absurd hgw g
theorem vx_c {args : Array Value} {s : State} {w : Cond} {B : List Cond} (h : w.before args s = true) (t : ∀ w ∈ B, w.before args s = true) : ∀ w' ∈ w :: B, w'.before args s = true := fun w' h' => (List.mem_cons.mp h').elim (fun e => by rw [e]; exact h) (t w')
theorem vx_n {args : Array Value} {s : State} : ∀ w ∈ ([] : List Cond), w.before args s = true := fun _ h => nomatch h
theorem vx_own {args : Array Value} {s : State} {L : List Cond} (h1 : ∀ w ∈ L.filter vx_no, w.before args s = true)
    (hU : (Cond.isRef (.static Bundle.tN "UNASSIGNED_STACK" Bundle.steD)).before args s = true) (hN : (Cond.isRef (.static Bundle.tN "SUPPRESSED_SENTINEL" Bundle.listD)).before args s = true)
    (lU : (Cond.laysStatic Bundle.tN "UNASSIGNED_STACK" Bundle.steD).before args s = true) (lN : (Cond.laysStatic Bundle.tN "SUPPRESSED_SENTINEL" Bundle.listD).before args s = true) : ∀ w ∈ L, w.before args s = true := by
  intro w hw
  by_cases e1 : w = .isRef (.static Bundle.tN "UNASSIGNED_STACK" Bundle.steD)
  · rw [e1]; exact hU
  · by_cases e2 : w = .isRef (.static Bundle.tN "SUPPRESSED_SENTINEL" Bundle.listD)
    · rw [e2]; exact hN
    · by_cases e3 : w = .laysStatic Bundle.tN "UNASSIGNED_STACK" Bundle.steD
      · rw [e3]; exact lU
      · by_cases e4 : w = .laysStatic Bundle.tN "SUPPRESSED_SENTINEL" Bundle.listD
        · rw [e4]; exact lN
        · exact h1 w (List.mem_filter.mpr ⟨hw, by unfold vx_no; rw [decide_eq_true e1, decide_eq_true e2, decide_eq_true e3, decide_eq_true e4]; rfl⟩)
/-- where a static field lies, its class's statics cell in H -/
def vx_L (C n d : String) (A : Nat → Prop) (U : State) (H : Heap) : Prop := ∃ (c : ClassId) (k : Class) (i : Nat) (f : Field) (a : Nat) (cell : Cell), U.vm.findClass C = some c ∧ U.fieldFound? C n d = some (c, k, i, f) ∧ f.isStatic = true ∧ k.statics = some a ∧ H[a]? = some cell ∧ cell.vm.isStatics = true ∧ cell.cls = c ∧ f.slot < cell.slots.size ∧ k.staticTypes[f.slot]? = some f.type ∧ ¬ A a
theorem vx_L.moved {C n d : String} {A : Nat → Prop} {u U : State} {H : Heap} (hvm : u.vm.Alike U.vm) (h : vx_L C n d A u H) : vx_L C n d A U H := by
  obtain ⟨c, k, i, f, a, cell, h1, h2, h3, h4, h5, h6, h7, h8, h9, h10⟩ := h
  obtain ⟨k', hi', he⟩ := State.fieldFound?_setVm hvm h2
  exact ⟨c, k', i, f, a, cell, by rw [hvm.findClass]; exact h1, hi', h3, by rw [he]; exact h4, h5, h6, h7, h8, by rw [he]; exact h9, h10⟩
theorem vx_L.kept {C n d : String} {A : Nat → Prop} {U : State} {H H1 : Heap} (h : vx_L C n d A U H) (hq : ∀ a : Nat, a < H.size → ¬ A a → H1[a]? = H[a]?) : vx_L C n d A U H1 := by
  obtain ⟨c, k, i, f, a, cell, h1, h2, h3, h4, h5, h6, h7, h8, h9, h10⟩ := h
  exact ⟨c, k, i, f, a, cell, h1, h2, h3, h4, by rw [hq a (Array.getElem?_eq_some_iff.mp h5).1 h10]; exact h5, h6, h7, h8, h9, h10⟩
theorem vx_L.narrow {C n d : String} {A B : Nat → Prop} {U : State} {H : Heap} (h : vx_L C n d A U H) (hAB : ∀ q, B q → A q) : vx_L C n d B U H := by
  obtain ⟨c, k, i, f, a, cell, h1, h2, h3, h4, h5, h6, h7, h8, h9, h10⟩ := h
  exact ⟨c, k, i, f, a, cell, h1, h2, h3, h4, h5, h6, h7, h8, h9, fun z => h10 (hAB _ z)⟩
theorem vx_L.word {C n d : String} {A : Nat → Prop} {s : State} {args : Array Value} (h : vx_L C n d A s s.heap) : (Cond.laysStatic C n d).before args s = true := by
  obtain ⟨c, k, i, f, a, cell, h1, h2, h3, h4, h5, h6, h7, h8, h9, -⟩ := h
  show (Cond.laysStatic C n d).holds args s none s [] = true
  exact Cond.laysStatic_of h1 h2 h3 h4 h5 h6 h7 h8 h9
/-- .. and what it holds: null or some reference -/
def vx_Zq (C n d : String) (A : Nat → Prop) (U : State) (H : Heap) : Prop := va_Zq C n d A U H ∧ vx_L C n d A U H
theorem vx_Zq.moved {C n d : String} {A : Nat → Prop} {u U : State} {H : Heap} (hvm : u.vm.Alike U.vm) (h : vx_Zq C n d A u H) : vx_Zq C n d A U H := ⟨va_Zq.moved hvm h.1, vx_L.moved hvm h.2⟩
theorem vx_Zq.kept {C n d : String} {A : Nat → Prop} {U : State} {H H1 : Heap} (h : vx_Zq C n d A U H) (hq : ∀ a : Nat, a < H.size → ¬ A a → H1[a]? = H[a]?) : vx_Zq C n d A U H1 := ⟨va_Zq.kept h.1 hq, vx_L.kept h.2 hq⟩
theorem vx_Zq.narrow {C n d : String} {A B : Nat → Prop} {U : State} {H : Heap} (h : vx_Zq C n d A U H) (hAB : ∀ q, B q → A q) : vx_Zq C n d B U H := ⟨va_Zq.narrow h.1 hAB, vx_L.narrow h.2 hAB⟩
theorem vx_Zqof {args : Array Value} {s : State} {C n d : String} {A : Nat → Prop} (hl : (Cond.laysStatic C n d).before args s = true) (hini : (Cond.initialized C).before args s = true) (h : (Cond.isRef (.static C n d)).before args s = true) (hA : ∀ a : Nat, a < s.heap.size → ¬ A a) : vx_Zq C n d A s s.heap := by
  refine ⟨va_Zqof hl hini h hA, ?_⟩
  obtain ⟨c, k, i, f, a, cell, h1, h2, h3, h4, h5, h6, h7, h8, h9⟩ := Cond.laysStatic_spec hl
  exact ⟨c, k, i, f, a, cell, h1, h2, h3, h4, h5, h6, h7, h8, h9, hA a (Array.getElem?_eq_some_iff.mp h5).1⟩
theorem vx_isRef {C n d : String} {v : Value} {A : Nat → Prop} {s : State} {args : Array Value} (h : va_Z C n d v A s s.heap) (hv : v.isRef = true) : (Cond.isRef (.static C n d)).before args s = true := by
  obtain ⟨cf, kf, fi, f, a, cell, h1, h2, h3, h4, h5, h6, h7, -⟩ := h
  have he : (Term.static C n d).eval args s none [] s = some v := by
    simp [Term.eval, State.fieldNamed?, h1, h2, h4, h5, h6, h7]
  simp only [Cond.before, Cond.holds, Cond.value, he]
  cases v <;> simp_all [Value.isRef]
theorem vx_isRefq {C n d : String} {A : Nat → Prop} {s : State} {args : Array Value} (h : va_Zq C n d A s s.heap) : (Cond.isRef (.static C n d)).before args s = true := by
  rcases h with h | ⟨t, h⟩
  · exact vx_isRef h rfl
  · exact vx_isRef h rfl
/-- the same frame, seen from here: as if the method were called anew in this heap -/
theorem vx_rebase {T : State} (X : Stand p l e R s m args below meth c T locs cells slots) {R' : Room} (hf : R'.frames ≤ R.frames) (hl : R'.locals ≤ R.locals) (hc : cells + R'.cells ≤ R.cells) (hs : slots + R'.slots ≤ R.slots) :
    Stand p l e R' ((T.setVm s.vm).setFrames (.invoking m args :: below)) m args below meth c T [] 0 0 := by
  have htop : (T.setVm s.vm).topJava?.isSome := X.here.top
  have hF : ((T.setVm s.vm).setFrames (.invoking m args :: below)).frames = .invoking m args :: below := State.frames_setFrames _ (State.cur_lt_of_top htop)
  obtain ⟨g₀, hg0⟩ := Option.isSome_iff_exists.mp htop
  obtain ⟨r, hr⟩ := State.topJava?_eq_some.mp hg0
  have hl9 : e.platform.stackLimits (T.setVm s.vm).me = e.platform.stackLimits s.me := X.limits
  have hb9 : (T.setVm s.vm).me.stackBytes = s.me.stackBytes := X.bytes
  refine ⟨X.admits, X.cas, X.clock, hF, ?_, X.hears, X.method, X.code, X.here, X.tail, X.warmed, ?_, ?_, ?_⟩
  · have h := X.room
    have hU : ((T.setVm s.vm).setFrames (.invoking m args :: below)).localsInUse = s.localsInUse := by
      rw [State.localsInUse_invoking hF (meth := meth) (c := c) X.method X.code, State.localsInUse_invoking X.frames X.method X.code]
    simp only [State.hasRoom, Bool.and_eq_true, decide_eq_true_eq] at h ⊢
    obtain ⟨⟨⟨⟨h1, h2, h3, h4, h5, h6⟩, h7⟩, h8⟩, h9⟩ := h
    rw [X.frames, List.length_cons] at h2 h3
    have q1 := X.heapSize
    have q2 := X.used
    simp only [hF, hU, List.length_cons, State.stackLimits_setFrames, State.stackBytes_setFrames, hl9, hb9]
    refine ⟨⟨⟨⟨by omega, by omega, by omega, by omega, by omega, h6⟩, ?_⟩, ?_⟩, X.book⟩
    · show T.heap.size + R'.cells ≤ e.platform.maxCells
      omega
    · show T.slotsUsed + R'.slots ≤ e.platform.maxSlots
      omega
  · rw [State.stackLimits_setFrames]; rfl
  · rw [State.stackBytes_setFrames]; rfl
  · refine ⟨?_, Nat.le_refl _, Nat.le_refl _, ?_, ?_, fun a c9 h9 => ⟨c9, h9, rfl, rfl, fun _ _ => rfl⟩⟩
    · obtain ⟨t, ht, -⟩ := State.frames_cons hr
      show T.setVm s.vm = { ((T.setVm s.vm).setFrames (.invoking m args :: below)).setFrames (T.setVm s.vm).frames with heap := T.heap, slotsUsed := T.slotsUsed }
      rw [State.setFrames_setFrames, State.setFrames_self ht]
      rfl
    · show T.slotsUsed = T.slotsUsed + ((T.heap.toList.drop T.heap.size).map (·.slots.size)).sum
      rw [List.drop_eq_nil_of_le (Nat.le_of_eq Array.length_toList)]
      rfl
    · show ((T.heap.toList.drop T.heap.size).map (·.slots.size)).sum ≤ 0
      rw [List.drop_eq_nil_of_le (Nat.le_of_eq Array.length_toList)]
      exact Nat.le_refl _
/-- 'throw new E()': new; dup; invokespecial; athrow -/
theorem vx_throw0 {cc : ByteArray} {pc : Nat} (hexec : p.tables.exec = Jvm.exec) (hb : c.code = cc) (hl : l.stackTraces = false) {own cls : String} {names : List String} {ik ic mc ms : Nat} {A : Nat → Prop}
    (hown : s.vm.findClass own = some m.cls) (hcls : Bundle.fit cls = true) (hnames : ∀ n ∈ names, Bundle.fit n = true)
    (hk : (Cond.classLink own ik cls).before args s = true) (hini : (Cond.initialized cls).before args s = true) (hat : ∀ w ∈ vx_at0 own ic cls names, w.before args s = true)
    (hgood : ∀ w ∈ Cond.classLink own ik cls :: Cond.initialized cls :: vx_at0 own ic cls names, vx_ot w = true)
    (hU : vx_Zq Bundle.tN "UNASSIGNED_STACK" Bundle.steD A s s.heap) (hN : vx_Zq Bundle.tN "SUPPRESSED_SENTINEL" Bundle.listD A s s.heap) (hS : va_S A s.heap H locs) (hsize : ls.size = c.maxLocals)
    (d0 : decode cc pc = .ok (.new ik, 3)) (d3 : decode cc (pc + 3) = .ok (.dup, 1)) (d4 : decode cc (pc + 4) = .ok (.invokespecial ic, 3)) (d7 : decode cc (pc + 7) = .ok (.athrow, 1))
    (hout : ∀ x ∈ c.exceptionTable.toList, covers x (pc + 7) = false)
    (hRframes : names.length + 3 < R.frames) (hRlocals : (rest.map fun v => v.category).sum + (13 * (names.length + 1) + 42) ≤ R.locals) (hRcells : cells + 1 ≤ R.cells) (hRslots : slots + 6 ≤ R.slots) (hlocks : meth.locks = false)
    (hx : ∀ t : State, s.vm.Alike t.vm → H.size ≤ t.heap.size → (∀ q : Nat, q < H.size → t.heap[q]? = H[q]?) → XC cls s t)
    (hf : ∀ z ∈ locs, free z.base) (hc : cells + 1 ≤ mc) (hs : slots + 6 ≤ ms) :
    W p l e R s m args below meth c H locs cells slots (vx_MQ below Qc XC args s mc ms free) (F0 m pc ls rest) := by
  intro T hT X
  have htr : e.platform.stackTraces = false := (show e.platform.stackTraces = l.stackTraces by rw [X.admits.platform]).trans hl
  have Y := vx_rebase X (R' := { frames := R.frames, locals := R.locals, cells := 1, slots := 6 }) (Nat.le_refl _) (Nat.le_refl _) hRcells hRslots
  obtain ⟨s', hA⟩ : ∃ z, z = (T.setVm s.vm).setFrames (.invoking m args :: below) := ⟨_, rfl⟩
  rw [← hA] at Y
  have hvm : s'.vm = s.vm := by rw [hA]; rfl
  have hhp : s'.heap = H := by rw [hA]; exact hT
  have hW0 : s.WarmedH s'.vm := by rw [hvm]; exact State.WarmedH.refl s
  have hat' : ∀ w ∈ vx_at0 own ic cls names, w.before args s' = true := fun w hw => vx_ot_at hW0 hvm.symm (hgood w (List.mem_cons_of_mem _ (List.mem_cons_of_mem _ hw))) (hat w hw)
  have hk' : (Cond.classLink own ik cls).before args s' = true := vx_ot_at hW0 hvm.symm (hgood _ List.mem_cons_self) hk
  have hini' : (Cond.initialized cls).before args s' = true := vx_ot_at hW0 hvm.symm (hgood _ (List.mem_cons_of_mem _ List.mem_cons_self)) hini
  have hU' : vx_Zq Bundle.tN "UNASSIGNED_STACK" Bundle.steD A s' s'.heap := by rw [hhp]; exact vx_Zq.moved hW0.alike (hU.kept hS.2.1)
  have hN' : vx_Zq Bundle.tN "SUPPRESSED_SENTINEL" Bundle.listD A s' s'.heap := by rw [hhp]; exact vx_Zq.moved hW0.alike (hN.kept hS.2.1)
  have h : ∀ w ∈ Bundle.ownAtoms0 own ic cls names, w.before args s' = true := vx_own hat' (vx_isRefq hU'.1) (vx_isRefq hN'.1) hU'.2.word hN'.2.word
  have hown' : s'.vm.findClass own = some m.cls := by rw [hvm]; exact hown
  have hins : (Cond.instantiable cls 6).before args s' = true := h _ (by simp [Bundle.ownAtoms0])
  obtain ⟨vm₁, cX, kX, hfX, hkX, -, -, X₁, st1⟩ := Y.newCold hexec (own := own) (C := cls) (index := ik) (n := 6) hown' hk' hins hini'
    (g := F0 m pc ls rest) rfl (by rw [hb]; exact d0) (Nat.le_refl _) (Nat.le_refl _)
  generalize hT1 : (T.setVm vm₁).pushCell { cls := cX, slots := kX.instanceTypes.map defaultValue, vm := .none } = T1 at X₁ st1
  have hcat : (Value.ref T.heap.size).category = 1 := rfl
  have hcellA : T1.heap[T.heap.size]? = some (freshCell cX kX) := by rw [← hT1]; exact State.heap_pushCell_size _ _
  have d3' : decode c.code (pc + 3) = .ok (.dup, 1) := by rw [hb]; exact d3
  obtain ⟨U, hsteps, hrun, hend, hW, hsame, ce, hce, hO⟩ := X₁.ctorThrow0 hexec htr (own := own) (cls := cls) (names := names) (ic := ic) hown' hcls hnames h (fun x hx => nomatch hx) hfX hkX hcellA (by rw [hhp, hT]; exact Nat.le_refl _)
    (g := { method := m, pc := pc + 4, locals := ls, stack := .ref T.heap.size :: .ref T.heap.size :: rest, locked := none }) rfl hsize rfl rfl (rest := rest) rfl
    (by rw [hb]; exact d4) (by rw [hb]; exact d7) hout hRframes (by simp only [List.map_cons, List.sum_cons, hcat]; omega) hlocks
  obtain ⟨f1, f2⟩ := vx_frame hsame
  rw [hhp] at f1 f2
  have hWs : s.WarmedH U.vm := State.WarmedH.trans hW0 hW
  have hcl : s.vm.findClass cls = some ce.cls := by
    have h9 := hO.cls
    rw [hvm] at h9
    exact h9
  have hall : s.sameButNew ({ U with vm := s.vm } : State) locs mc ms := by
    subst hA
    obtain ⟨e1, e2⟩ := hsame
    rw [State.setFrames_setFrames] at e1
    have h2 : (T.setVm s.vm).sameButNew ({ U with vm := s.vm } : State) [] (0 + 1) (0 + 6) := ⟨e1, e2⟩
    have h3 := X.same.trans h2
    rw [List.append_nil] at h3
    exact h3.mono hc hs
  refine ⟨U, ?_, .threw T.heap.size, hrun, hend, Or.inr ⟨T.heap.size, rfl, cls, ce, locs, hx U hWs.alike f1 (fun q hq => f2 q hq (fun z hz => nomatch hz)), hce, hO.vm, hcl, hWs, hall, hf⟩⟩
  refine st1 _ ?_
  show Steps p.tables e below (T1.setTop { method := m, pc := pc + 3, locals := ls, stack := .ref T.heap.size :: rest, locked := none }) _
  jvm_step X₁.here [X₁.here.top, hexec, d3', Value.category]
  exact hsteps
/-- 'throw new E("text")': new; dup; ldc; invokespecial; athrow -/
theorem vx_throwS {cc : ByteArray} {pc : Nat} (hexec : p.tables.exec = Jvm.exec) (hb : c.code = cc) (hl : l.stackTraces = false) {own cls text : String} {names : List String} {ik is ic mc ms sa : Nat} {A : Nat → Prop}
    (hown : s.vm.findClass own = some m.cls) (hcls : Bundle.fit cls = true) (hnames : ∀ n ∈ names, Bundle.fit n = true)
    (hk : (Cond.classLink own ik cls).before args s = true) (hini : (Cond.initialized cls).before args s = true) (hstr : vk_R own is text sa s) (hat : ∀ w ∈ vx_atS own ic cls names, w.before args s = true)
    (hgood : ∀ w ∈ Cond.classLink own ik cls :: Cond.initialized cls :: vx_atS own ic cls names, vx_ot w = true)
    (hU : vx_Zq Bundle.tN "UNASSIGNED_STACK" Bundle.steD A s s.heap) (hN : vx_Zq Bundle.tN "SUPPRESSED_SENTINEL" Bundle.listD A s s.heap) (hS : va_S A s.heap H locs) (hsize : ls.size = c.maxLocals)
    (d0 : decode cc pc = .ok (.new ik, 3)) (d3 : decode cc (pc + 3) = .ok (.dup, 1)) (d4 : decode cc (pc + 4) = .ok (.ldc is, 2)) (d6 : decode cc (pc + 6) = .ok (.invokespecial ic, 3)) (d9 : decode cc (pc + 9) = .ok (.athrow, 1))
    (hout : ∀ x ∈ c.exceptionTable.toList, covers x (pc + 9) = false)
    (hRframes : names.length + 3 < R.frames) (hRlocals : (rest.map fun v => v.category).sum + (13 * (names.length + 1) + 43) ≤ R.locals) (hRcells : cells + 1 ≤ R.cells) (hRslots : slots + 6 ≤ R.slots) (hlocks : meth.locks = false)
    (hx : ∀ t : State, s.vm.Alike t.vm → H.size ≤ t.heap.size → (∀ q : Nat, q < H.size → t.heap[q]? = H[q]?) → XC cls s t)
    (hf : ∀ z ∈ locs, free z.base) (hc : cells + 1 ≤ mc) (hs : slots + 6 ≤ ms) :
    W p l e R s m args below meth c H locs cells slots (vx_MQ below Qc XC args s mc ms free) (F0 m pc ls rest) := by
  intro T hT X
  have htr : e.platform.stackTraces = false := (show e.platform.stackTraces = l.stackTraces by rw [X.admits.platform]).trans hl
  have Y := vx_rebase X (R' := { frames := R.frames, locals := R.locals, cells := 1, slots := 6 }) (Nat.le_refl _) (Nat.le_refl _) hRcells hRslots
  obtain ⟨s', hA⟩ : ∃ z, z = (T.setVm s.vm).setFrames (.invoking m args :: below) := ⟨_, rfl⟩
  rw [← hA] at Y
  have hvm : s'.vm = s.vm := by rw [hA]; rfl
  have hhp : s'.heap = H := by rw [hA]; exact hT
  have hW0 : s.WarmedH s'.vm := by rw [hvm]; exact State.WarmedH.refl s
  have hat' : ∀ w ∈ vx_atS own ic cls names, w.before args s' = true := fun w hw => vx_ot_at hW0 hvm.symm (hgood w (List.mem_cons_of_mem _ (List.mem_cons_of_mem _ hw))) (hat w hw)
  have hk' : (Cond.classLink own ik cls).before args s' = true := vx_ot_at hW0 hvm.symm (hgood _ List.mem_cons_self) hk
  have hini' : (Cond.initialized cls).before args s' = true := vx_ot_at hW0 hvm.symm (hgood _ (List.mem_cons_of_mem _ List.mem_cons_self)) hini
  have hU' : vx_Zq Bundle.tN "UNASSIGNED_STACK" Bundle.steD A s' s'.heap := by rw [hhp]; exact vx_Zq.moved hW0.alike (hU.kept hS.2.1)
  have hN' : vx_Zq Bundle.tN "SUPPRESSED_SENTINEL" Bundle.listD A s' s'.heap := by rw [hhp]; exact vx_Zq.moved hW0.alike (hN.kept hS.2.1)
  have h : ∀ w ∈ Bundle.ownAtoms own ic cls names, w.before args s' = true := vx_own hat' (vx_isRefq hU'.1) (vx_isRefq hN'.1) hU'.2.word hN'.2.word
  have hown' : s'.vm.findClass own = some m.cls := by rw [hvm]; exact hown
  have hins : (Cond.instantiable cls 6).before args s' = true := h _ (by simp [Bundle.ownAtoms])
  obtain ⟨vm₁, cX, kX, hfX, hkX, -, -, X₁, st1⟩ := Y.newCold hexec (own := own) (C := cls) (index := ik) (n := 6) hown' hk' hins hini'
    (g := F0 m pc ls rest) rfl (by rw [hb]; exact d0) (Nat.le_refl _) (Nat.le_refl _)
  generalize hT1 : (T.setVm vm₁).pushCell { cls := cX, slots := kX.instanceTypes.map defaultValue, vm := .none } = T1 at X₁ st1
  have hcat : (Value.ref T.heap.size).category = 1 := rfl
  have hcellA : T1.heap[T.heap.size]? = some (freshCell cX kX) := by rw [← hT1]; exact State.heap_pushCell_size _ _
  have d3' : decode c.code (pc + 3) = .ok (.dup, 1) := by rw [hb]; exact d3
  have d4' : decode c.code (pc + 4) = .ok (.ldc is, 2) := by rw [hb]; exact d4
  have hstr' : vk_R own is text sa s' := vk_R.warm hW0 hstr
  obtain ⟨U, hsteps, hrun, hend, hW, hsame, ce, hce, hO⟩ := X₁.ctorThrowS hexec htr (own := own) (cls := cls) (names := names) (ic := ic) hown' hcls hnames h (fun x hx => nomatch hx) hfX hkX hcellA (by rw [hhp, hT]; exact Nat.le_refl _) (msg := .ref sa) rfl
    (g := { method := m, pc := pc + 6, locals := ls, stack := .ref sa :: .ref T.heap.size :: .ref T.heap.size :: rest, locked := none }) rfl hsize rfl rfl (rest := rest) rfl
    (by rw [hb]; exact d6) (by rw [hb]; exact d9) hout hRframes (by simp only [List.map_cons, List.sum_cons, hcat]; omega) hlocks
  obtain ⟨f1, f2⟩ := vx_frame hsame
  rw [hhp] at f1 f2
  have hWs : s.WarmedH U.vm := State.WarmedH.trans hW0 hW
  have hcl : s.vm.findClass cls = some ce.cls := by
    have h9 := hO.cls
    rw [hvm] at h9
    exact h9
  have hall : s.sameButNew ({ U with vm := s.vm } : State) locs mc ms := by
    subst hA
    obtain ⟨e1, e2⟩ := hsame
    rw [State.setFrames_setFrames] at e1
    have h2 : (T.setVm s.vm).sameButNew ({ U with vm := s.vm } : State) [] (0 + 1) (0 + 6) := ⟨e1, e2⟩
    have h3 := X.same.trans h2
    rw [List.append_nil] at h3
    exact h3.mono hc hs
  refine ⟨U, ?_, .threw T.heap.size, hrun, hend, Or.inr ⟨T.heap.size, rfl, cls, ce, locs, hx U hWs.alike f1 (fun q hq => f2 q hq (fun z hz => nomatch hz)), hce, hO.vm, hcl, hWs, hall, hf⟩⟩
  refine st1 _ ?_
  show Steps p.tables e below (T1.setTop { method := m, pc := pc + 3, locals := ls, stack := .ref T.heap.size :: rest, locked := none }) _
  jvm_step X₁.here [X₁.here.top, hexec, d3', Value.category]
  exact X₁.ldcString hexec (own := own) (text := text) (index := is) (a := sa) hown' hstr'.1 hstr'.2
    (g := { method := m, pc := pc + 4, locals := ls, stack := .ref T.heap.size :: .ref T.heap.size :: rest, locked := none }) rfl d4' _ hsteps
/-- 'throw new E("text")', the text by a wide index -/
theorem vx_throwSW {cc : ByteArray} {pc : Nat} (hexec : p.tables.exec = Jvm.exec) (hb : c.code = cc) (hl : l.stackTraces = false) {own cls text : String} {names : List String} {ik is ic mc ms sa : Nat} {A : Nat → Prop}
    (hown : s.vm.findClass own = some m.cls) (hcls : Bundle.fit cls = true) (hnames : ∀ n ∈ names, Bundle.fit n = true)
    (hk : (Cond.classLink own ik cls).before args s = true) (hini : (Cond.initialized cls).before args s = true) (hstr : vk_R own is text sa s) (hat : ∀ w ∈ vx_atS own ic cls names, w.before args s = true)
    (hgood : ∀ w ∈ Cond.classLink own ik cls :: Cond.initialized cls :: vx_atS own ic cls names, vx_ot w = true)
    (hU : vx_Zq Bundle.tN "UNASSIGNED_STACK" Bundle.steD A s s.heap) (hN : vx_Zq Bundle.tN "SUPPRESSED_SENTINEL" Bundle.listD A s s.heap) (hS : va_S A s.heap H locs) (hsize : ls.size = c.maxLocals)
    (d0 : decode cc pc = .ok (.new ik, 3)) (d3 : decode cc (pc + 3) = .ok (.dup, 1)) (d4 : decode cc (pc + 4) = .ok (.ldc_w is, 3)) (d7 : decode cc (pc + 7) = .ok (.invokespecial ic, 3)) (d10 : decode cc (pc + 10) = .ok (.athrow, 1))
    (hout : ∀ x ∈ c.exceptionTable.toList, covers x (pc + 10) = false)
    (hRframes : names.length + 3 < R.frames) (hRlocals : (rest.map fun v => v.category).sum + (13 * (names.length + 1) + 43) ≤ R.locals) (hRcells : cells + 1 ≤ R.cells) (hRslots : slots + 6 ≤ R.slots) (hlocks : meth.locks = false)
    (hx : ∀ t : State, s.vm.Alike t.vm → H.size ≤ t.heap.size → (∀ q : Nat, q < H.size → t.heap[q]? = H[q]?) → XC cls s t)
    (hf : ∀ z ∈ locs, free z.base) (hc : cells + 1 ≤ mc) (hs : slots + 6 ≤ ms) :
    W p l e R s m args below meth c H locs cells slots (vx_MQ below Qc XC args s mc ms free) (F0 m pc ls rest) := by
  intro T hT X
  have htr : e.platform.stackTraces = false := (show e.platform.stackTraces = l.stackTraces by rw [X.admits.platform]).trans hl
  have Y := vx_rebase X (R' := { frames := R.frames, locals := R.locals, cells := 1, slots := 6 }) (Nat.le_refl _) (Nat.le_refl _) hRcells hRslots
  obtain ⟨s', hA⟩ : ∃ z, z = (T.setVm s.vm).setFrames (.invoking m args :: below) := ⟨_, rfl⟩
  rw [← hA] at Y
  have hvm : s'.vm = s.vm := by rw [hA]; rfl
  have hhp : s'.heap = H := by rw [hA]; exact hT
  have hW0 : s.WarmedH s'.vm := by rw [hvm]; exact State.WarmedH.refl s
  have hat' : ∀ w ∈ vx_atS own ic cls names, w.before args s' = true := fun w hw => vx_ot_at hW0 hvm.symm (hgood w (List.mem_cons_of_mem _ (List.mem_cons_of_mem _ hw))) (hat w hw)
  have hk' : (Cond.classLink own ik cls).before args s' = true := vx_ot_at hW0 hvm.symm (hgood _ List.mem_cons_self) hk
  have hini' : (Cond.initialized cls).before args s' = true := vx_ot_at hW0 hvm.symm (hgood _ (List.mem_cons_of_mem _ List.mem_cons_self)) hini
  have hU' : vx_Zq Bundle.tN "UNASSIGNED_STACK" Bundle.steD A s' s'.heap := by rw [hhp]; exact vx_Zq.moved hW0.alike (hU.kept hS.2.1)
  have hN' : vx_Zq Bundle.tN "SUPPRESSED_SENTINEL" Bundle.listD A s' s'.heap := by rw [hhp]; exact vx_Zq.moved hW0.alike (hN.kept hS.2.1)
  have h : ∀ w ∈ Bundle.ownAtoms own ic cls names, w.before args s' = true := vx_own hat' (vx_isRefq hU'.1) (vx_isRefq hN'.1) hU'.2.word hN'.2.word
  have hown' : s'.vm.findClass own = some m.cls := by rw [hvm]; exact hown
  have hins : (Cond.instantiable cls 6).before args s' = true := h _ (by simp [Bundle.ownAtoms])
  obtain ⟨vm₁, cX, kX, hfX, hkX, -, -, X₁, st1⟩ := Y.newCold hexec (own := own) (C := cls) (index := ik) (n := 6) hown' hk' hins hini'
    (g := F0 m pc ls rest) rfl (by rw [hb]; exact d0) (Nat.le_refl _) (Nat.le_refl _)
  generalize hT1 : (T.setVm vm₁).pushCell { cls := cX, slots := kX.instanceTypes.map defaultValue, vm := .none } = T1 at X₁ st1
  have hcat : (Value.ref T.heap.size).category = 1 := rfl
  have hcellA : T1.heap[T.heap.size]? = some (freshCell cX kX) := by rw [← hT1]; exact State.heap_pushCell_size _ _
  have d3' : decode c.code (pc + 3) = .ok (.dup, 1) := by rw [hb]; exact d3
  have d4' : decode c.code (pc + 4) = .ok (.ldc_w is, 3) := by rw [hb]; exact d4
  have hstr' : vk_R own is text sa s' := vk_R.warm hW0 hstr
  obtain ⟨U, hsteps, hrun, hend, hW, hsame, ce, hce, hO⟩ := X₁.ctorThrowS hexec htr (own := own) (cls := cls) (names := names) (ic := ic) hown' hcls hnames h (fun x hx => nomatch hx) hfX hkX hcellA (by rw [hhp, hT]; exact Nat.le_refl _) (msg := .ref sa) rfl
    (g := { method := m, pc := pc + 7, locals := ls, stack := .ref sa :: .ref T.heap.size :: .ref T.heap.size :: rest, locked := none }) rfl hsize rfl rfl (rest := rest) rfl
    (by rw [hb]; exact d7) (by rw [hb]; exact d10) hout hRframes (by simp only [List.map_cons, List.sum_cons, hcat]; omega) hlocks
  obtain ⟨f1, f2⟩ := vx_frame hsame
  rw [hhp] at f1 f2
  have hWs : s.WarmedH U.vm := State.WarmedH.trans hW0 hW
  have hcl : s.vm.findClass cls = some ce.cls := by
    have h9 := hO.cls
    rw [hvm] at h9
    exact h9
  have hall : s.sameButNew ({ U with vm := s.vm } : State) locs mc ms := by
    subst hA
    obtain ⟨e1, e2⟩ := hsame
    rw [State.setFrames_setFrames] at e1
    have h2 : (T.setVm s.vm).sameButNew ({ U with vm := s.vm } : State) [] (0 + 1) (0 + 6) := ⟨e1, e2⟩
    have h3 := X.same.trans h2
    rw [List.append_nil] at h3
    exact h3.mono hc hs
  refine ⟨U, ?_, .threw T.heap.size, hrun, hend, Or.inr ⟨T.heap.size, rfl, cls, ce, locs, hx U hWs.alike f1 (fun q hq => f2 q hq (fun z hz => nomatch hz)), hce, hO.vm, hcl, hWs, hall, hf⟩⟩
  refine st1 _ ?_
  show Steps p.tables e below (T1.setTop { method := m, pc := pc + 3, locals := ls, stack := .ref T.heap.size :: rest, locked := none }) _
  jvm_step X₁.here [X₁.here.top, hexec, d3', Value.category]
  exact X₁.ldcStringW hexec (own := own) (text := text) (index := is) (a := sa) hown' hstr'.1 hstr'.2
    (g := { method := m, pc := pc + 4, locals := ls, stack := .ref T.heap.size :: .ref T.heap.size :: rest, locked := none }) rfl d4' _ hsteps
end Ends
section Bodies
variable {l : Launch}
theorem vx_ofW {y : MethodName} {ws ws' : List Cond} {rm : Room} {Pc : Array Value → State → Prop} {Qc : Array Value → State → Outcome → State → Prop} {XC : String → State → State → Prop} {mc ms : Nat} {free : Addr → Prop} {cc : ByteArray} {maxL : Nat} {ret : Option FieldType}
    (hy : plainName y.cls = true) (hw : ws = Cond.code y cc maxL ret :: ws')
    (body : ∀ p e s m args below meth c s₁, BodyLoose p l y (headSpec ws rm) cc maxL ret e s m args below meth c s₁ → c.maxLocals = maxL → (∀ x ∈ c.exceptionTable.toList, False) → Pc args s →
      W p l e (headSpec ws rm).room s m args below meth c s.heap [] 0 0 (vx_MQ below Qc XC args s mc ms free) (entryFrame m args maxL)) : vx_Met l y ws rm Pc Qc XC mc ms free := by
  refine MetFree.of_bodyS (code := cc) (maxLocals := maxL) (ret := ret) hy ?_ ?_
  · intro args s m h hn
    obtain ⟨meth, c, h1, h2, h3, h4, h5, h6, -, -⟩ := Cond.code_spec hn (atoms_spec (ws := ws) h _ (by rw [hw]; exact List.mem_cons_self))
    exact ⟨meth, c, h1, h2, h3, h4, h5, h6⟩
  · intro p e s m args below meth c s₁ B hml hP _
    have hh0 : s₁.heap = s.heap := by rw [B.state]; rfl
    have ht : ∀ x ∈ c.exceptionTable.toList, False := by
      obtain ⟨meth9, c9, h1, h2, -, -, -, -, h7, -⟩ := Cond.code_spec B.named (atoms_spec (ws := ws) B.pre _ (by rw [hw]; exact List.mem_cons_self))
      cases Option.some.inj (h1.symm.trans B.method)
      cases Option.some.inj (h2.symm.trans (Stand.of_body B).code)
      intro x hx
      rw [Array.isEmpty_iff.mp h7] at hx
      cases hx
    obtain ⟨t, a1, o, b1, b2, b3⟩ := body p e s m args below meth c s₁ B hml ht hP s₁ hh0 (Stand.of_body B)
    exact ⟨t, o, a1, b1, b2, b3⟩
/-- the table of a body with handlers -/
theorem vx_table {p : Program} {x y : MethodName} {S : Spec} {cc bytes : ByteArray} {maxL maxL' : Nat} {ret ret' : Option FieldType} {e : Env} {s s₁ : State} {m : MethodId} {args : Array Value} {below : List Frame} {meth : Method} {c : Code} {hh : List (Nat × Nat × Nat × Nat)}
    (B : BodyLoose p l y S cc maxL ret e s m args below meth c s₁) (h : (Cond.codeWith y bytes maxL' ret' hh).before args s = true) : c.exceptionTable.toList = tableOf hh := by
  obtain ⟨m9, meth9, c9, hn9, h1, h2, -, -, h6, -⟩ := Cond.codeWith_spec h
  cases Option.some.inj (hn9.symm.trans B.named)
  cases Option.some.inj (h1.symm.trans B.method)
  cases Option.some.inj (h2.symm.trans (Stand.of_body B).code)
  rw [← h6, table_eq]
end Bodies
end VXA
/-! ===== END ===== -/
/-! ===== BEGIN a static call of a method with an exception table ===== -/
section VXS
variable {p : Program} {l : Launch} {e : Env} {R : Room} {s : State} {m : MethodId} {args : Array Value} {below : List Frame} {meth : Method} {c : Code} {T : State} {H : Heap} {locs : List Loc} {cells slots : Nat}
abbrev vx_CSW (R : Room) (s : State) (args : Array Value) (own : String) (index : Nat) (y : MethodName) (bytes : ByteArray) (maxL : Nat) (ret : Option FieldType) (hh : List (Nat × Nat × Nat × Nat)) (ws : List Cond) (rm : Room) (mc ms n : Nat) : Prop :=
  (rm.cells = mc ∧ rm.slots = ms ∧ rm.frames + 1 ≤ R.frames ∧ 8 + (maxL + 11) + rm.locals ≤ R.locals ∧ (∀ w ∈ ws, ∀ (a' : Array Value) (U : State), s.WarmedH U.vm → w.before a' U = true) ∧ Cond.codeWith y bytes maxL ret hh ∈ ws) ∧
  (Cond.codeWith y bytes maxL ret hh).before args s = true ∧ (Cond.initialized y.cls).before args s = true ∧ (y.cls ≠ "java/lang/invoke/MethodHandle" ∧ y.cls ≠ "java/lang/invoke/VarHandle") ∧
  (∀ sig, parseMethodDescriptor y.desc = some sig → n = sig.parameters.length) ∧ (Cond.methodLink own index y).before args s = true ∧ (Cond.static y).before args s = true
theorem vx_cwSW {own : String} {index maxL mc ms : Nat} {y : MethodName} {bytes : ByteArray} {ret : Option FieldType} {hh : List (Nat × Nat × Nat × Nat)} {Ts ws ws' : List Cond} {rm : Room} (n : Nat) (ht : ∀ w ∈ Ts, w.before args s = true) (hT : GoodIn Ts (va_wsS own index y ws)) (hw : ws = Cond.codeWith y bytes maxL ret hh :: ws') (hrc : rm.cells = mc) (hrs : rm.slots = ms)
    (hd : y.cls ≠ "java/lang/invoke/MethodHandle" ∧ y.cls ≠ "java/lang/invoke/VarHandle" ∧ (parseMethodDescriptor y.desc).map (fun d => d.parameters.length) = some n) (hR : rm.frames + 1 ≤ R.frames ∧ 8 + (maxL + 11) + rm.locals ≤ R.locals) :
    vx_CSW R s args own index y bytes maxL ret hh ws rm mc ms n := by
  have ok : ∀ w ∈ va_wsS own index y ws, w.before args s = true := fun w h => ht w (hT w h).1
  have hG : GoodIn Ts ws := fun w h => hT w (by unfold va_wsS; exact List.mem_append_right _ h)
  have hc : Cond.codeWith y bytes maxL ret hh ∈ ws := by rw [hw]; exact List.mem_cons_self
  refine ⟨⟨hrc, hrs, hR.1, hR.2, pay_in ht hG, hc⟩, ht _ (hG _ hc).1, ok _ (by simp [va_wsS]), ⟨hd.1, hd.2.1⟩, fun sig h => ?_, ok _ (by simp [va_wsS]), ok _ (by simp [va_wsS])⟩
  have h2 := hd.2.2
  rw [h] at h2
  exact (Option.some.inj h2).symm
theorem vx_callSW (X : Stand p l e R s m args below meth c T locs cells slots) (hexec : p.tables.exec = Jvm.exec) {own : String} {index : Nat} {y : MethodName} {bytes : ByteArray} {maxL : Nat} {ret : Option FieldType} {hh : List (Nat × Nat × Nat × Nat)}
    (hown : s.vm.findClass own = some m.cls) (hlink : (Cond.methodLink own index y).before args s = true) (hstat : (Cond.static y).before args s = true) (hinit : (Cond.initialized y.cls).before args s = true)
    (hcode : (Cond.codeWith y bytes maxL ret hh).before args s = true) (hy : y.cls ≠ "java/lang/invoke/MethodHandle" ∧ y.cls ≠ "java/lang/invoke/VarHandle")
    {W9 : Nat} {Pre : Pt → Array Value → Prop} {Post : Pt → Array Value → Option Value → Pt → Prop} (hK : Back l R p e below s args y 3 W9 Pre Post)
    {g : JFrame} (hg : g.method = m) (hsize : g.locals.size = c.maxLocals) {argsL rest : List Value} (hlen : ∀ sig, parseMethodDescriptor y.desc = some sig → argsL.length = sig.parameters.length)
    (hstack : g.stack = argsL.reverse ++ rest) (hW : 2 * g.monitorRoom + (rest.map fun v => v.category).sum ≤ W9) (hdg : decode c.code g.pc = .ok (.invokestatic index, 3))
    (hpre : ∀ vm₁, s.WarmedH vm₁ → Pre ⟨T.setVm vm₁, locs, cells, slots⟩ argsL.toArray) :
    ∃ (v : Option Value) (vm₁ : Vm) (B : Pt), s.WarmedH vm₁ ∧ Stand p l e R s m args below meth c B.U B.locs B.cells B.slots ∧ Post ⟨T.setVm vm₁, locs, cells, slots⟩ argsL.toArray v B ∧
      ∀ target, Steps p.tables e below (B.U.setTop { g with pc := g.pc + 3, stack := v.toList ++ rest }) target → Steps p.tables e below (T.setTop g) target := by
  obtain ⟨mk, methM, cM, hnamed, hmethM, -, -, -, -, -, -, hsigM⟩ := Cond.codeWith_spec hcode
  have hstatic : methM.isStatic = true := Cond.static_spec hnamed hmethM hstat
  obtain ⟨kP, hkP, -⟩ := className_of_methodNamed hnamed
  have hinitP : kP.init = .initialized := Cond.initialized_spec (findClass_of_methodNamed hnamed) hkP hinit
  obtain ⟨vm₁, X₁, hstep₁⟩ := X.invokestatic hexec hown hlink hnamed hmethM hstatic hkP hinitP hy (g := g) hg (argsL := argsL) (rest := rest) (hlen _ hsigM) hstack hdg
  obtain ⟨v, B, X', hpost, hsteps⟩ := hK m meth c ⟨T.setVm vm₁, locs, cells, slots⟩ { g with stack := rest } (.invokestatic index) mk argsL.toArray X₁ hg hsize hdg hW (X₁.named hnamed) (hpre vm₁ X₁.warmed)
  exact ⟨v, vm₁, B, X₁.warmed, X', hpost, fun target h => hstep₁ _ fun acts => by rw [doInvoke_state]; exact hsteps.trans h⟩
theorem vx_runSW {y : MethodName} {bytes cc : ByteArray} {maxL nL mc ms n index : Nat} {ret : Option FieldType} {hh : List (Nat × Nat × Nat × Nat)} {ws : List Cond} {rm : Room} {Pc : Array Value → State → Prop} {Qc : Array Value → State → Outcome → State → Prop} {free : Addr → Prop} {Ts : List Cond} {own : String} {As rest : List Value} {g : JFrame}
    (S : CallFix p m c cc nL s args Ts own) (hM : Met l y ws rm Pc Qc mc ms free) (cw : vx_CSW R s args own index y bytes maxL ret hh ws rm mc ms n) (hp : PreS s H Pc As)
    (hg : g.method = m) (hn : As.length = n) (hsize : g.locals.size = nL) (hstack : g.stack = As.reverse ++ rest) (hW : 2 * g.monitorRoom + (rest.map fun v => v.category).sum ≤ 8) (hdg : decode cc g.pc = .ok (.invokestatic index, 3)) (hf : cells + mc ≤ R.cells ∧ slots + ms ≤ R.slots) :
    va_Run p l e R s m args below meth c H locs cells slots mc ms g rest (Qc As.toArray) (free) := by
  obtain ⟨⟨hrc, hrs, hfr, hlo, hws, hcw⟩, hcode, hini, hy, hlen, hl, hstt⟩ := cw
  have hK : Back l R p e below s args y 3 8 (PreOf R mc ms Pc) (PostOf Qc mc ms free) := va_backW (hh := hh) (bytes := bytes) (maxL := maxL) (ret := ret) hM hp.1 hrc hrs hfr hlo hws hcw (fun a' U hW => word_at hW (Or.inl (by first | rfl | simp [Cond.onTables, Cond.keeps, Cond.steady])) hini)
  obtain ⟨hx, hb, hml, ho, -⟩ := S
  intro T hT X
  obtain ⟨v, vm₁, ⟨U', l2, c2, s2⟩, hW₁, X', ⟨g', mk, t, L, e1, e2, hq, h1, hL, h2, h3⟩, st⟩ := vx_callSW X hx (hh := hh) (bytes := bytes) (maxL := maxL) (ret := ret) ho hl hstt hini hcode hy hK hg (hsize.trans hml.symm) (argsL := As) (rest := rest) (fun sig h => hn.trans (hlen sig h)) hstack hW (by rw [hb]; exact hdg)
    (fun vm₁ hW₁ => ⟨hf.1, hf.2, hp.2 (T.setVm vm₁) hT hW₁⟩)
  dsimp only [Pt.U, Pt.locs, Pt.cells, Pt.slots] at X' e1 e2 h1 h2 h3 st
  subst h1; subst h2; subst h3
  exact ⟨v, (T.setVm vm₁).calling g' mk As.toArray, t, U', L, hT, X', hL, e1, e2, hq, st⟩
/-- not caught here, past rows that name other classes: it goes on to the caller -/
theorem vx_outP {p : Program} {l : Launch} {e : Env} {R : Room} {s : State} {m : MethodId} {args : Array Value} {below : List Frame} {meth : Method} {c : Code} {H : Heap} {locs : List Loc} {cells slots : Nat} {free : Addr → Prop} {ls : Array Slot} {rest : List Value} {Qc : Array Value → State → Outcome → State → Prop} {XC : String → State → State → Prop}
    {pc : Nat} {own E : String} {ce : Cell} {q : Addr} {mc ms : Nat} (hown : s.vm.findClass own = some m.cls) (hlocks : meth.locks = false)
    (hpass : ∀ z ∈ c.exceptionTable.toList, covers z pc = false ∨ (z.catchType ≠ 0 ∧ ∃ nm : String, (Cond.classLink own z.catchType nm).before args s = true ∧ va_Nc E nm s)) (hcell : H[q]? = some ce) (hv : ce.vm = .none) (hcl : s.vm.findClass E = some ce.cls)
    (hx : ∀ t : State, t.heap = H → s.vm.Alike t.vm → XC E s t) (hf : ∀ z ∈ locs, free z.base) (hc : cells ≤ mc) (hs : slots ≤ ms) :
    vx_W p l e R s m args below meth c H locs cells slots (vx_MQ below Qc XC args s mc ms free) (F0 m pc ls rest) q := by
  intro T hT X
  have hpl : e.platform.magicAccessors = ({} : Platform).magicAccessors := by rw [X.admits.platform]
  obtain ⟨vm', hW', X', st⟩ := X.outThrough hlocks q (g := F0 m pc ls rest) rfl rfl rfl (cell := ce) (by rw [hT]; exact hcell) (by rw [hv]; rfl)
    (by obtain ⟨k9, h9, -⟩ := Vm.findClass_spec hcl; exact ⟨k9, h9⟩) (fun z hz => by
      rcases hpass z hz with h | ⟨hz0, nm, hl1, hn1⟩
      · exact Or.inl h
      · obtain ⟨c6, hc6, hcl6⟩ := Cond.classLink_spec hown hl1 e.platform hpl
        obtain ⟨a8, b8, h1, h2, h3⟩ := hn1
        cases Option.some.inj (h1.symm.trans hcl)
        cases Option.some.inj (h2.symm.trans hc6)
        exact Or.inr ⟨hz0, _, hcl6, h3⟩)
  obtain ⟨g₀, hfr⟩ := X'.frames_eq
  have hcell9 : ((T.setVm vm').setFrames (.throwing q :: below)).heap[q]? = some ce := by
    show T.heap[q]? = some ce
    rw [hT]; exact hcell
  have hend : Ended ((T.setVm vm').setFrames (.throwing q :: below)) below (.threw q) := State.frames_setFrames _ (State.cur_lt_of_frames hfr)
  refine ⟨(T.setVm vm').setFrames (.throwing q :: below), ?_, .threw q, X'.here.running, hend, Or.inr ⟨q, rfl, E, ce, locs, hx _ hT (X'.ends _).1.alike, hcell9, hv, hcl, (X'.ends _).1, (X'.ends _).2.mono hc hs, hf⟩⟩
  rw [X.pushThrowing_eq]
  exact st
/-- a thing of a world lies in the heap -/
theorem vx_lt {D : va_G} {cl : List vw_C} {ws : va_W} {H1 : Heap} (h : va_P D cl ws H1) {k : Nat} {q : Nat × va_E} (hk : ws[k]? = some q) : q.1 < H1.size := (h k q hk).lt
end VXS
/-! ===== END ===== -/
end
section
/-! Contracts of methods that return or throw and may draw, with a room of their own for each end (after vx_back, Back.of_freeD, callV_D of the kit). -/
section MXA
def mx_Q (cs : List Choice) (Qc : Array Value → State → Outcome → State → Prop) (XC : String → State → State → Prop) (kr nr kx nx : Nat) (free : Addr → Prop) : Array Value → State → Outcome → State → Prop := fun a st o t =>
  ∃ d : Drawn, st.drawn.sameBut d cs ∧ ((Qc a (st.setDrawn d) o t ∧ ∃ L, FrameEnd (st.setDrawn d) o t L kr nr ∧ ∀ q ∈ L, free q.base) ∨ ∃ q, o = .threw q ∧ vx_T XC (st.setDrawn d) q t kx nx free)
def mx_Met (cs : List Choice) (l : Launch) (y : MethodName) (ws : List Cond) (rm : Room) (Pc : Array Value → State → Prop) (Qc : Array Value → State → Outcome → State → Prop) (XC : String → State → State → Prop) (kr nr kx nx : Nat) (free : Addr → Prop) : Prop :=
  MetFree l y (headSpec ws rm) Pc (fun _ _ _ _ _ => True) (mx_Q cs Qc XC kr nr kx nx free)
/-- a method's word: with its table of handlers, or without one -/
def cdW (y : MethodName) (cc : ByteArray) (maxL : Nat) (ret : Option FieldType) (hh : List (Nat × Nat × Nat × Nat)) : Cond := match hh with
  | [] => .code y cc maxL ret
  | h :: r => .codeWith y cc maxL ret (h :: r)
theorem cdW_spec {y : MethodName} {cc : ByteArray} {maxL : Nat} {ret : Option FieldType} {hh : List (Nat × Nat × Nat × Nat)} {args : Array Value} {s : State} (h : (cdW y cc maxL ret hh).before args s = true) :
    ∃ m meth c, s.methodNamed? y = some m ∧ s.vm.method? m = some meth ∧ meth.code = some c ∧ c.code = cc ∧ c.maxLocals = maxL ∧ c.exceptionTable.toList.map (fun h => (h.startPc, h.endPc, h.handlerPc, h.catchType)) = hh ∧ meth.sig.returnType = ret ∧ meth.locks = false ∧ parseMethodDescriptor y.desc = some meth.sig := by
  cases hh with
  | nil =>
    have h : (Cond.code y cc maxL ret).before args s = true := h
    obtain ⟨m, hn⟩ := Cond.code_named h
    obtain ⟨meth, c, h1, h2, h3, h4, h5, h6, h7, h8⟩ := Cond.code_spec hn h
    refine ⟨m, meth, c, hn, h1, h2, h3, h4, ?_, h5, h6, h8⟩
    rw [Array.isEmpty_iff.mp h7]; rfl
  | cons a r =>
    have h : (Cond.codeWith y cc maxL ret (a :: r)).before args s = true := h
    exact Cond.codeWith_spec h
def mx_Post (XC : String → State → State → Prop) (mc ms : Nat) (free : Addr → Prop) : Pt → Array Value → Addr → Pt → Prop := vx_Post XC mc ms free
def mx_Back (cs : List Choice) (l : Launch) (R : Room) (p : Program) (e : Env) (below : List Frame) (s : State) (sargs : Array Value) (y : MethodName) (len W9 : Nat)
    (Pre : Pt → Array Value → Prop) (Post : Pt → Array Value → Option Value → Pt → Prop) (PostX : Pt → Array Value → Addr → Pt → Prop) : Prop :=
  ∀ (m : MethodId) (meth : Method) (c : Code) (A : Pt) (g : JFrame) (ig : Instr) (mk : MethodId) (a : Array Value),
    Stand p l e R s m sargs below meth c A.U A.locs A.cells A.slots → g.method = m → g.locals.size = c.maxLocals → decode c.code g.pc = .ok (ig, len) →
    2 * g.monitorRoom + (g.stack.map fun v => v.category).sum ≤ W9 → A.U.methodNamed? y = some mk → Pre A a →
    (∃ (v : Option Value) (B : Pt) (d : Drawn), s.drawn.sameBut d cs ∧ Stand p l e R (s.setDrawn d) m sargs below meth c B.U B.locs B.cells B.slots ∧ Post ⟨A.U.setDrawn d, A.locs, A.cells, A.slots⟩ a v B ∧
      Steps p.tables e below (doInvoke e (A.U.setTop g) [] mk a).1 (B.U.setTop { g with pc := g.pc + len, stack := v.toList ++ g.stack })) ∨
    (∃ (q : Addr) (B : Pt) (d : Drawn), s.drawn.sameBut d cs ∧ Stand p l e R (s.setDrawn d) m sargs below meth c B.U B.locs B.cells B.slots ∧ PostX ⟨A.U.setDrawn d, A.locs, A.cells, A.slots⟩ a q B ∧
      Steps p.tables e below (doInvoke e (A.U.setTop g) [] mk a).1 ((B.U.setTop g).pushFrame (.throwing q)))
section Payer
variable {cs : List Choice} {l : Launch} {R : Room} {p : Program} {e : Env} {below : List Frame} {s : State} {sargs : Array Value} {y : MethodName} {len W9 : Nat}
set_option maxHeartbeats 1000000 in
theorem mx_back {ws : List Cond} {rm : Room} {Pc : Array Value → State → Prop} {Qc : Array Value → State → Outcome → State → Prop} {XC : String → State → State → Prop} {kr nr kx nx : Nat} {free : Addr → Prop} {bytes : ByteArray} {maxL : Nat} {ret : Option FieldType} {hh : List (Nat × Nat × Nat × Nat)}
    (hM : mx_Met cs l y ws rm Pc Qc XC kr nr kx nx free) (hblind : FrameBlind Pc)
    (hframes : rm.frames + 1 ≤ R.frames) (hlocals : W9 + (maxL + 11) + rm.locals ≤ R.locals)
    (hws : ∀ w ∈ ws, ∀ a' U, s.WarmedH U.vm → w.before a' U = true) (hcode : cdW y bytes maxL ret hh ∈ ws) (hinit : ∀ a' U, s.WarmedH U.vm → (Cond.initialized y.cls).before a' U = true) :
    mx_Back cs l R p e below s sargs y len W9 (fun A a => A.cells + rm.cells ≤ R.cells ∧ A.slots + rm.slots ≤ R.slots ∧ Pc a A.U) (PostOf Qc kr nr free) (vx_Post XC kx nx free) := by
  intro m meth c A g ig mk a X hg hsize hdg hW hn hp
  have h1 : (headSpec ws rm).pre.before a A.U = true := atoms_intro fun w hw => hws w hw _ _ X.warmed
  have h2 : (cdW y bytes maxL ret hh).before a A.U = true := hws _ hcode _ _ X.warmed
  have h3 : (Cond.initialized y.cls).before a A.U = true := hinit _ _ X.warmed
  have h4 : A.cells + (headSpec ws rm).room.cells ≤ R.cells := hp.1
  have h5 : A.slots + (headSpec ws rm).room.slots ≤ R.slots := hp.2.1
  have hPc : Pc a (A.U.calling g mk a) := hblind _ _ _ _ hp.2.2
  obtain ⟨U, Ls, c0, s0⟩ := A
  dsimp only [Pt.U, Pt.locs, Pt.cells, Pt.slots] at h1 h2 h3 h4 h5 X hn hPc ⊢
  obtain ⟨m9, methY, cY, hn9, hmY, hcY, -, hlY, -⟩ := cdW_spec h2
  cases Option.some.inj (hn9.symm.trans hn)
  obtain ⟨kY, hkY, -⟩ := className_of_methodNamed hn
  have hinitY : kY.init = .initialized := Cond.initialized_spec (findClass_of_methodNamed hn) hkY h3
  have h : At U g.method c below := by rw [hg]; exact X.here
  have hlocals9 : W9 + (maxL + 11) + (headSpec ws rm).room.locals ≤ R.locals := hlocals
  have happ : (headSpec ws rm).appliesLoose y e.platform (U.calling g mk a) = true :=
    Spec.appliesLoose_calling (g := g) h hdg hn hkY hinitY
      (X.room_calling (g := g) (R' := (headSpec ws rm).room) hsize hmY hcY hframes (by rw [hlY]; omega) h4 h5) h1
  obtain ⟨mid, hmid⟩ := h.above
  have hfr : (U.setTop g).frames = (.java g :: mid) ++ below := by rw [State.frames_setTop' g h.top, hmid]; rfl
  obtain ⟨o, s₂, hsteps, -, hend, hq⟩ := Steps.callFree hM p X.admits X.cas X.clock (acts := []) hfr happ hPc trivial
  have hq' : mx_Q cs Qc XC kr nr kx nx free a (U.calling g mk a) o s₂ := hq
  rw [State.frames_setTop' g h.top] at hend
  obtain ⟨d, hd, hqd⟩ := hq'
  have hcdr : (U.calling g mk a).drawn = s.drawn := by
    rw [State.calling_eq h.top]
    exact X.drawn_eq
  rw [hcdr] at hd
  have h' : At (U.setDrawn d) g.method c below := h.setDrawn d
  have X' : Stand p l e R (s.setDrawn d) m sargs below meth c (U.setDrawn d) Ls c0 s0 := X.drew d
  have hcd : (U.calling g mk a).setDrawn d = (U.setDrawn d).calling g mk a := by
    rw [State.calling_eq h.top, State.calling_eq h'.top]
    rfl
  rw [hcd] at hqd
  obtain ⟨g₀, hg0⟩ := Option.isSome_iff_exists.mp h.top
  obtain ⟨r, hr⟩ := State.topJava?_eq_some.mp hg0
  have hrV : (U.setDrawn d).frames = .java g₀ :: r := hr
  have hr' : (({ U.setDrawn d with heap := s₂.heap, slotsUsed := s₂.slotsUsed } : State).setVm s₂.vm).frames = .java g₀ :: r := hr
  rcases hqd with ⟨hqc, L, hfe, hL⟩ | ⟨q, rfl, E, ce, L, hx, hce, hcv, hcl, hW₂, hsm, hL⟩
  · obtain ⟨⟨v, rfl⟩, hW₂, e2, q2, q3, q4, q5, q6⟩ := id hfe
    have e3 : s₂ = ({ ((U.setDrawn d).calling g mk a).setFrames s₂.frames with heap := s₂.heap, slotsUsed := s₂.slotsUsed } : State).setVm s₂.vm := by
      have : s₂ = ({ s₂ with vm := ((U.setDrawn d).calling g mk a).vm } : State).setVm s₂.vm := rfl
      rw [e2] at this
      exact this
    obtain ⟨c₂, i₂, len₂, hc₂, hd₂, hf₂⟩ := hend
    have hW' : (U.setDrawn d).WarmedH s₂.vm := hW₂
    have hcc : c₂ = c := by
      have h1 : s₂.code? g.method = (U.setDrawn d).code? g.method := by
        rw [State.code?_eq, State.code?_eq, hW'.alike.method?]
      exact Option.some.inj (hc₂.symm.trans (h1.trans h'.code))
    subst hcc
    have hlen : len₂ = len := by rw [hdg] at hd₂; cases hd₂; rfl
    subst hlen
    have hs₂ : s₂ = (({ U.setDrawn d with heap := s₂.heap, slotsUsed := s₂.slotsUsed } : State).setVm s₂.vm).setTop { g with pc := g.pc + len₂, stack := v.toList ++ g.stack } := by
      refine e3.trans ?_
      rw [hf₂, State.calling_eq h'.top, State.setFrames_setFrames, State.setTop_of_frames _ hr', hr]
      rfl
    have hsame : (U.setDrawn d).sameButNew ({ U.setDrawn d with heap := s₂.heap, slotsUsed := s₂.slotsUsed } : State) L kr nr := by
      refine ⟨?_, q2, q3, q4, q5, q6⟩
      obtain ⟨t, ht, -⟩ := State.frames_cons hrV
      show ({ U.setDrawn d with heap := s₂.heap, slotsUsed := s₂.slotsUsed } : State) = { (U.setDrawn d).setFrames (U.setDrawn d).frames with heap := s₂.heap, slotsUsed := s₂.slotsUsed }
      rw [State.setFrames_self ht]
    subst hg
    refine Or.inl ⟨v, ⟨(({ U.setDrawn d with heap := s₂.heap, slotsUsed := s₂.slotsUsed } : State).setVm s₂.vm), Ls ++ L, c0 + kr, s0 + nr⟩, d, hd,
      ⟨X'.admits, X'.cas, X'.clock, X'.frames, X'.room, X'.hears, X'.method, X'.code, (X'.here.setHeapUsed s₂.heap s₂.slotsUsed).setVm hW'.alike, X'.tail, State.WarmedH.trans X'.warmed hW', X'.limits, X'.bytes, X'.same.trans (hsame.setVm (s.setDrawn d).vm)⟩,
      ⟨g, mk, s₂, L, rfl, rfl, hqc, rfl, hL, rfl, rfl⟩, ?_⟩
    show Steps p.tables e below _ ((({ U.setDrawn d with heap := s₂.heap, slotsUsed := s₂.slotsUsed } : State).setVm s₂.vm).setTop { g with pc := g.pc + len₂, stack := v.toList ++ g.stack })
    rw [← hs₂]
    exact hsteps
  · obtain ⟨e2, q2, q3, q4, q5, q6⟩ := id hsm
    have e3 : s₂ = ({ ((U.setDrawn d).calling g mk a).setFrames s₂.frames with heap := s₂.heap, slotsUsed := s₂.slotsUsed } : State).setVm s₂.vm := by
      have : s₂ = ({ s₂ with vm := ((U.setDrawn d).calling g mk a).vm } : State).setVm s₂.vm := rfl
      rw [e2] at this
      exact this
    have hf₂ : s₂.frames = .throwing q :: .java g :: U.frames.tail := hend
    have hW' : (U.setDrawn d).WarmedH s₂.vm := hW₂
    have hs₂ : s₂ = ((({ U.setDrawn d with heap := s₂.heap, slotsUsed := s₂.slotsUsed } : State).setVm s₂.vm).setTop g).pushFrame (.throwing q) := by
      refine e3.trans ?_
      rw [hf₂, State.calling_eq h'.top, State.setFrames_setFrames, State.pushFrame, State.frames_setTop _ hr', State.setTop_of_frames _ hr', State.setFrames_setFrames, hr]
      rfl
    have hsame : (U.setDrawn d).sameButNew ({ U.setDrawn d with heap := s₂.heap, slotsUsed := s₂.slotsUsed } : State) L kx nx := by
      refine ⟨?_, q2, q3, q4, q5, q6⟩
      obtain ⟨t, ht, -⟩ := State.frames_cons hrV
      show ({ U.setDrawn d with heap := s₂.heap, slotsUsed := s₂.slotsUsed } : State) = { (U.setDrawn d).setFrames (U.setDrawn d).frames with heap := s₂.heap, slotsUsed := s₂.slotsUsed }
      rw [State.setFrames_self ht]
    subst hg
    refine Or.inr ⟨q, ⟨(({ U.setDrawn d with heap := s₂.heap, slotsUsed := s₂.slotsUsed } : State).setVm s₂.vm), Ls ++ L, c0 + kx, s0 + nx⟩, d, hd,
      ⟨X'.admits, X'.cas, X'.clock, X'.frames, X'.room, X'.hears, X'.method, X'.code, (X'.here.setHeapUsed s₂.heap s₂.slotsUsed).setVm hW'.alike, X'.tail, State.WarmedH.trans X'.warmed hW', X'.limits, X'.bytes, X'.same.trans (hsame.setVm (s.setDrawn d).vm)⟩,
      ⟨g, mk, s₂, L, E, ce, rfl, rfl, hx, hce, hcv, hcl, rfl, hL, rfl, rfl⟩, ?_⟩
    show Steps p.tables e below _ (((({ U.setDrawn d with heap := s₂.heap, slotsUsed := s₂.slotsUsed } : State).setVm s₂.vm).setTop g).pushFrame (.throwing q))
    rw [← hs₂]
    exact hsteps
end Payer
section Calls
variable {cs : List Choice} {p : Program} {l : Launch} {e : Env} {R : Room} {s : State} {m : MethodId} {args : Array Value} {below : List Frame} {meth : Method} {c : Code} {H : Heap} {locs : List Loc} {cells slots : Nat} {Q : State → Prop}
/-- how a call goes on: it returns, or it throws -/
def mx_On (cs : List Choice) (p : Program) (l : Launch) (e : Env) (R : Room) (s : State) (m : MethodId) (args : Array Value) (below : List Frame) (meth : Method) (c : Code) (H : Heap) (locs : List Loc) (cells slots kr nr kx nx : Nat) (A : Nat → Prop) (H0 : Heap) (Q : State → Prop) (pc : Nat) (ls : Array Slot) (rest : List Value) (Qa : State → Outcome → State → Prop) (XC : String → State → State → Prop) : Prop :=
  (∀ (v : Option Value) (st₀ t : State) (locs1 : List Loc) (d : Drawn), s.drawn.sameBut d cs → s.vm.Alike t.vm → Qa st₀ (.returned v) t → va_S A H0 t.heap locs1 →
    W p l e R (s.setDrawn d) m args below meth c t.heap locs1 (cells + kr) (slots + nr) Q (F0 m (pc + 3) ls (v.toList ++ rest))) ∧
  (∀ (E : String) (ce : Cell) (q : Addr) (st₀ t : State) (locs1 : List Loc) (d : Drawn), s.drawn.sameBut d cs → s.vm.Alike t.vm → XC E st₀ t → va_S A H0 t.heap locs1 → t.heap[q]? = some ce → ce.vm = .none → s.vm.findClass E = some ce.cls →
    vx_W p l e R (s.setDrawn d) m args below meth c t.heap locs1 (cells + kx) (slots + nx) Q (F0 m pc ls rest) q)
theorem mx_go {y : MethodName} {bytes : ByteArray} {maxL : Nat} {ret : Option FieldType} {hh : List (Nat × Nat × Nat × Nat)} {ws : List Cond} {rm : Room} {Pc : Array Value → State → Prop} {Qc : Array Value → State → Outcome → State → Prop} {XC : String → State → State → Prop} {kr nr kx nx : Nat} {A : Nat → Prop} {H0 : Heap} {ig : Instr} {pc : Nat} {ls : Array Slot} {st0 rest : List Value} {a : Array Value}
    (hM : mx_Met cs l y ws rm Pc Qc XC kr nr kx nx A) (hbl : FrameBlind Pc) (hfr : rm.frames + 1 ≤ R.frames) (hlo : 8 + (maxL + 11) + rm.locals ≤ R.locals)
    (hws : ∀ w ∈ ws, ∀ (a' : Array Value) (U : State), s.WarmedH U.vm → w.before a' U = true) (hcw : cdW y bytes maxL ret hh ∈ ws) (hini : (Cond.initialized y.cls).before args s = true)
    (hPc : ∀ U : State, U.heap = H → s.WarmedH U.vm → Pc a U) (hcells : cells + rm.cells ≤ R.cells) (hslots : slots + rm.slots ≤ R.slots)
    (hsize : ls.size = c.maxLocals) (hrest : (rest.map fun v => v.category).sum ≤ 8) (hdg : decode c.code pc = .ok (ig, 3))
    (hS : va_S A H0 H locs) (hQF : ∀ st t o, Qc a st o t → va_F A st t) (hXF : ∀ E st t, XC E st t → va_F A st t)
    (hon : mx_On cs p l e R s m args below meth c H locs cells slots kr nr kx nx A H0 Q pc ls rest (Qc a) XC)
    (hgo : ∀ T : State, T.heap = H → Stand p l e R s m args below meth c T locs cells slots → ∃ (mk : MethodId) (vm₁ : Vm), Stand p l e R s m args below meth c (T.setVm vm₁) locs cells slots ∧ (T.setVm vm₁).methodNamed? y = some mk ∧
      ∀ target, Steps p.tables e below (doInvoke e ((T.setVm vm₁).setTop (F0 m pc ls rest)) [] mk a).1 target → Steps p.tables e below (T.setTop (F0 m pc ls st0)) target) :
    W p l e R s m args below meth c H locs cells slots Q (F0 m pc ls st0) := by
  intro T hT X
  obtain ⟨mk, vm₁, X₁, hn, hst⟩ := hgo T hT X
  have hK := mx_back (cs := cs) (R := R) (p := p) (e := e) (below := below) (s := s) (sargs := args) (len := 3) (W9 := 8) (bytes := bytes) (maxL := maxL) (ret := ret) (hh := hh) hM hbl hfr hlo hws hcw (fun a' U hW => word_at hW (Or.inl (by first | rfl | simp [Cond.onTables, Cond.keeps, Cond.steady])) hini)
  have hrm : 2 * (F0 m pc ls rest).monitorRoom + ((F0 m pc ls rest).stack.map fun v => v.category).sum ≤ 8 := lv_room hrest
  have hFr : ∀ (st₀ t : State) (L : List Loc), st₀.heap = H → va_F A st₀ t → (∀ q ∈ L, A q.base) → va_S A H0 t.heap (locs ++ L) := fun st₀ t L h0 hF hL => (vx_keep (A1 := A) (free := A) (st₀ := st₀) (t := t) (T' := t) (L := L) h0 rfl hS (fun _ _ z => z) (fun _ z => z) hL hF).2.2
  rcases hK m meth c ⟨T.setVm vm₁, locs, cells, slots⟩ (F0 m pc ls rest) ig mk a X₁ rfl hsize hdg hrm hn ⟨hcells, hslots, hPc (T.setVm vm₁) hT X₁.warmed⟩ with ⟨v, ⟨U', l2, c2, s2⟩, d, hd, X', ⟨g', mk', t, L, e1, e2, hq, h1, hL, h2, h3⟩, st⟩ | ⟨q, ⟨U', l2, c2, s2⟩, d, hd, X', ⟨g', mk', t, L, E, ce, e1, e2, hq, hce, hcv, hcl, h1, hL, h2, h3⟩, st⟩
  · dsimp only [Pt.U, Pt.locs, Pt.cells, Pt.slots] at X' e1 e2 h1 h2 h3 st hq
    subst h1; subst h2; subst h3
    obtain ⟨t2, a1, b1⟩ := hon.1 v _ t (locs ++ L) d hd (by rw [← e2]; exact X'.warmed.alike) hq (hFr _ t L (show (((T.setVm vm₁).setDrawn d).calling g' mk' a).heap = H from hT) (hQF _ _ _ hq) hL) U' e1 X'
    exact ⟨t2, hst _ (st.trans a1), b1⟩
  · dsimp only [Pt.U, Pt.locs, Pt.cells, Pt.slots] at X' e1 e2 h1 h2 h3 st hq hcl
    subst h1; subst h2; subst h3
    obtain ⟨t2, a1, b1⟩ := hon.2 E ce q _ t (locs ++ L) d hd (by rw [← e2]; exact X'.warmed.alike) hq (hFr _ t L (show (((T.setVm vm₁).setDrawn d).calling g' mk' a).heap = H from hT) (hXF _ _ _ hq) hL) hce hcv (vx_cls (T := T) X₁.warmed hcl) U' e1 X'
    exact ⟨t2, hst _ (st.trans a1), b1⟩
/-- what an instance method's call finds -/
theorem mx_goV {y : MethodName} {bytes : ByteArray} {maxL : Nat} {ret : Option FieldType} {hh : List (Nat × Nat × Nat × Nat)} {own C : String} {index : Nat} {b : Addr} {cellB : Cell} {pc : Nat} {ls : Array Slot} {As rest : List Value} {n : Nat} (hexec : p.tables.exec = Jvm.exec)
    (hown : s.vm.findClass own = some m.cls) (hlink : (Cond.methodLink own index y).before args s = true) (hinst : (Cond.instanceMethod y).before args s = true) (hsel : (Cond.selects C y y).before args s = true)
    (hcode : (cdW y bytes maxL ret hh).before args s = true) (hy : y.cls ≠ "java/lang/invoke/MethodHandle" ∧ y.cls ≠ "java/lang/invoke/VarHandle")
    (hcell : H[b]? = some cellB) (hobj : cellB.vm.isStatics = false) (hcls : s.vm.findClass C = some cellB.cls) (hn : (parseMethodDescriptor y.desc).map (fun d => d.parameters.length) = some n) (hAs : As.length = n)
    (hdg : decode c.code pc = .ok (.invokevirtual index, 3)) : ∀ T : State, T.heap = H → Stand p l e R s m args below meth c T locs cells slots → ∃ (mk : MethodId) (vm₁ : Vm), Stand p l e R s m args below meth c (T.setVm vm₁) locs cells slots ∧ (T.setVm vm₁).methodNamed? y = some mk ∧
      ∀ target, Steps p.tables e below (doInvoke e ((T.setVm vm₁).setTop (F0 m pc ls rest)) [] mk (Value.ref b :: As).toArray).1 target → Steps p.tables e below (T.setTop (F0 m pc ls (As.reverse ++ .ref b :: rest))) target := by
  intro T hT X
  obtain ⟨mk, methM, hnamed, hmethM, hstM, habM⟩ := Cond.instanceMethod_spec hinst
  obtain ⟨mk', methM', cM, hnamed', hmethM', -, -, -, -, -, -, hsigM⟩ := cdW_spec hcode
  cases hnamed.symm.trans hnamed'
  cases hmethM.symm.trans hmethM'
  obtain ⟨c2, r2, m2, q1, q2, q3, q4, kP, hkP, hkPi⟩ := Cond.selects_spec hsel
  cases hcls.symm.trans q1
  cases (State.methodFound?_of_named hnamed hy).symm.trans q2
  cases hnamed.symm.trans q3
  have hselP : selectMethod e.platform s.vm cellB.cls mk = .method mk := by rw [Launch.admits_selectMethod X.admits]; exact q4
  rw [hsigM] at hn
  obtain ⟨vm₁, X₁, hstep₁⟩ := X.invokevirtual hexec hown hlink hnamed hmethM hstM hkP hkPi hy (a := b) (cell := cellB) (by rw [hT]; exact hcell)
    (fun z h => by rw [h] at hobj; cases hobj) hselP hmethM habM hkP hkPi (g := F0 m pc ls (As.reverse ++ .ref b :: rest)) rfl (argsL := As) (rest := rest) (hAs.trans (Option.some.inj hn).symm) rfl hdg
  exact ⟨mk, vm₁, X₁, X₁.named hnamed, fun target h => hstep₁ _ fun acts => by rw [doInvoke_state]; exact h⟩
theorem mx_goS {y : MethodName} {bytes : ByteArray} {maxL : Nat} {ret : Option FieldType} {hh : List (Nat × Nat × Nat × Nat)} {own : String} {index : Nat} {pc : Nat} {ls : Array Slot} {As rest : List Value} {n : Nat} (hexec : p.tables.exec = Jvm.exec)
    (hown : s.vm.findClass own = some m.cls) (hlink : (Cond.methodLink own index y).before args s = true) (hstat : (Cond.static y).before args s = true) (hinit : (Cond.initialized y.cls).before args s = true)
    (hcode : (cdW y bytes maxL ret hh).before args s = true) (hy : y.cls ≠ "java/lang/invoke/MethodHandle" ∧ y.cls ≠ "java/lang/invoke/VarHandle") (hn : (parseMethodDescriptor y.desc).map (fun d => d.parameters.length) = some n) (hAs : As.length = n)
    (hdg : decode c.code pc = .ok (.invokestatic index, 3)) : ∀ T : State, T.heap = H → Stand p l e R s m args below meth c T locs cells slots → ∃ (mk : MethodId) (vm₁ : Vm), Stand p l e R s m args below meth c (T.setVm vm₁) locs cells slots ∧ (T.setVm vm₁).methodNamed? y = some mk ∧
      ∀ target, Steps p.tables e below (doInvoke e ((T.setVm vm₁).setTop (F0 m pc ls rest)) [] mk As.toArray).1 target → Steps p.tables e below (T.setTop (F0 m pc ls (As.reverse ++ rest))) target := by
  intro T hT X
  obtain ⟨mk, methM, cM, hnamed, hmethM, -, -, -, -, -, -, hsigM⟩ := cdW_spec hcode
  have hstatic : methM.isStatic = true := Cond.static_spec hnamed hmethM hstat
  obtain ⟨kP, hkP, -⟩ := className_of_methodNamed hnamed
  have hinitP : kP.init = .initialized := Cond.initialized_spec (findClass_of_methodNamed hnamed) hkP hinit
  rw [hsigM] at hn
  obtain ⟨vm₁, X₁, hstep₁⟩ := X.invokestatic hexec hown hlink hnamed hmethM hstatic hkP hinitP hy (g := F0 m pc ls (As.reverse ++ rest)) rfl (argsL := As) (rest := rest) (hAs.trans (Option.some.inj hn).symm) rfl hdg
  exact ⟨mk, vm₁, X₁, X₁.named hnamed, fun target h => hstep₁ _ fun acts => by rw [doInvoke_state]; exact h⟩
theorem mx_goI {y : MethodName} {bytes : ByteArray} {maxL : Nat} {own : String} {index : Nat} {b : Addr} {pc : Nat} {ls : Array Slot} {As rest : List Value} {n : Nat} (hexec : p.tables.exec = Jvm.exec)
    (hown : s.vm.findClass own = some m.cls) (hy1 : y.name = "<init>") (hlink : (Cond.methodLink own index y).before args s = true) (hinst : (Cond.instanceMethod y).before args s = true)
    (hcode : (Cond.code y bytes maxL none).before args s = true) (hy : y.cls ≠ "java/lang/invoke/MethodHandle" ∧ y.cls ≠ "java/lang/invoke/VarHandle") (hn : (parseMethodDescriptor y.desc).map (fun d => d.parameters.length) = some n) (hAs : As.length = n)
    (hdg : decode c.code pc = .ok (.invokespecial index, 3)) : ∀ T : State, T.heap = H → Stand p l e R s m args below meth c T locs cells slots → ∃ (mk : MethodId) (vm₁ : Vm), Stand p l e R s m args below meth c (T.setVm vm₁) locs cells slots ∧ (T.setVm vm₁).methodNamed? y = some mk ∧
      ∀ target, Steps p.tables e below (doInvoke e ((T.setVm vm₁).setTop (F0 m pc ls rest)) [] mk (Value.ref b :: As).toArray).1 target → Steps p.tables e below (T.setTop (F0 m pc ls (As.reverse ++ .ref b :: rest))) target := by
  intro T hT X
  have hpl : e.platform.magicAccessors = ({} : Platform).magicAccessors := by rw [X.admits.platform]
  obtain ⟨mk0, hnamed0⟩ := Cond.code_named hcode
  obtain ⟨methM0, cM0, hmethM0, -, -, -, -, -, -, hsigM⟩ := Cond.code_spec hnamed0 hcode
  rw [hsigM] at hn
  obtain ⟨mk, methM, cM, kP, vm₁, hnamed, hmethM, hcodeM, -, hlocalsM, -, hkP, -, hW₁, hstep₁⟩ := Steps.initColdArgs (e := e) X.here hexec X.warmed hpl hown hy1 hy hlink hinst hcode (f := F0 m pc ls (As.reverse ++ .ref b :: rest)) rfl (a := b) (argsL := As) (rest := rest) (fun sig h => by rw [hsigM] at h; cases h; exact hAs.trans (Option.some.inj hn).symm) rfl hdg
  have X₁ := X.noted hW₁
  exact ⟨mk, vm₁, X₁, X₁.named hnamed, fun target h => hstep₁ _ fun acts => by rw [doInvoke_state]; exact h⟩
theorem mx_goIN {y : MethodName} {bytes : ByteArray} {maxL : Nat} {own host : String} {index : Nat} {b : Addr} {pc : Nat} {ls : Array Slot} {As rest : List Value} {n : Nat} (hexec : p.tables.exec = Jvm.exec)
    (hown : s.vm.findClass own = some m.cls) (hy1 : y.name = "<init>") (hlink : (Cond.methodLinkNest own index y host).before args s = true) (hinst : (Cond.instanceMethod y).before args s = true)
    (hcode : (Cond.code y bytes maxL none).before args s = true) (hy : y.cls ≠ "java/lang/invoke/MethodHandle" ∧ y.cls ≠ "java/lang/invoke/VarHandle") (hn : (parseMethodDescriptor y.desc).map (fun d => d.parameters.length) = some n) (hAs : As.length = n)
    (hdg : decode c.code pc = .ok (.invokespecial index, 3)) : ∀ T : State, T.heap = H → Stand p l e R s m args below meth c T locs cells slots → ∃ (mk : MethodId) (vm₁ : Vm), Stand p l e R s m args below meth c (T.setVm vm₁) locs cells slots ∧ (T.setVm vm₁).methodNamed? y = some mk ∧
      ∀ target, Steps p.tables e below (doInvoke e ((T.setVm vm₁).setTop (F0 m pc ls rest)) [] mk (Value.ref b :: As).toArray).1 target → Steps p.tables e below (T.setTop (F0 m pc ls (As.reverse ++ .ref b :: rest))) target := by
  intro T hT X
  have hpl : e.platform.magicAccessors = ({} : Platform).magicAccessors := by rw [X.admits.platform]
  obtain ⟨mk0, hnamed0⟩ := Cond.code_named hcode
  obtain ⟨methM0, cM0, hmethM0, -, -, -, -, -, -, hsigM⟩ := Cond.code_spec hnamed0 hcode
  rw [hsigM] at hn
  obtain ⟨mk, methM, cM, kP, vm₁, hnamed, hmethM, hcodeM, -, hlocalsM, -, hkP, -, hW₁, hstep₁⟩ := Steps.initColdArgsNest (e := e) X.here hexec X.warmed hpl hown hy1 hy hlink hinst hcode (f := F0 m pc ls (As.reverse ++ .ref b :: rest)) rfl (a := b) (argsL := As) (rest := rest) (fun sig h => by rw [hsigM] at h; cases h; exact hAs.trans (Option.some.inj hn).symm) rfl hdg
  have X₁ := X.noted hW₁
  exact ⟨mk, vm₁, X₁, X₁.named hnamed, fun target h => hstep₁ _ fun acts => by rw [doInvoke_state]; exact h⟩
theorem mx_goSU {y : MethodName} {bytes : ByteArray} {maxL : Nat} {ret : Option FieldType} {hh : List (Nat × Nat × Nat × Nat)} {own : String} {index : Nat} {b : Addr} {cellB : Cell} {kB : Class} {pc : Nat} {ls : Array Slot} {As rest : List Value} {n : Nat} (hexec : p.tables.exec = Jvm.exec)
    (hown : s.vm.findClass own = some m.cls) (hno : y.name ≠ "<init>") (hlink : (Cond.methodLink own index y).before args s = true) (hsame : (Cond.sameMethod y.cls y.cls y.name y.desc).before args s = true) (hsup : (Cond.superclass own y.cls).before args s = true) (hinst : (Cond.instanceMethod y).before args s = true)
    (hcode : (cdW y bytes maxL ret hh).before args s = true)
    (hcell : H[b]? = some cellB) (hobj : cellB.vm.isStatics = false) (hkB : s.vm.classes[cellB.cls]? = some kB) (hn : (parseMethodDescriptor y.desc).map (fun d => d.parameters.length) = some n) (hAs : As.length = n)
    (hdg : decode c.code pc = .ok (.invokespecial index, 3)) : ∀ T : State, T.heap = H → Stand p l e R s m args below meth c T locs cells slots → ∃ (mk : MethodId) (vm₁ : Vm), Stand p l e R s m args below meth c (T.setVm vm₁) locs cells slots ∧ (T.setVm vm₁).methodNamed? y = some mk ∧
      ∀ target, Steps p.tables e below (doInvoke e ((T.setVm vm₁).setTop (F0 m pc ls rest)) [] mk (Value.ref b :: As).toArray).1 target → Steps p.tables e below (T.setTop (F0 m pc ls (As.reverse ++ .ref b :: rest))) target := by
  intro T hT X
  obtain ⟨mk, methM, hnamed, hmethM, hstM, habM⟩ := Cond.instanceMethod_spec hinst
  obtain ⟨mk', methM', cM, hnamed', hmethM', -, -, -, -, -, -, hsigM⟩ := cdW_spec hcode
  cases hnamed.symm.trans hnamed'
  cases hmethM.symm.trans hmethM'
  obtain ⟨ps, dk, kp, hps, hdk, hkp, hsuper, -, -, hnid⟩ := Cond.superclass_spec hown hsup
  have hn' : s.methodNamed? ⟨y.cls, y.name, y.desc⟩ = some mk := hnamed
  have hpm : ps = mk.cls := Option.some.inj (hps.symm.trans (findClass_of_methodNamed hnamed))
  have hsub : s.vm.isSubclass ps mk.cls = true := by rw [hpm]; simp [Vm.isSubclass, Vm.isSubclassAux]
  rw [hsigM] at hn
  obtain ⟨vm₁, X₁, hstep₁⟩ := X.invokespecialUp hexec hown hlink hsame hn' hmethM hstM habM hno hdk hnid hps hsuper hsub (a := b) (cell := cellB) (by rw [hT]; exact hcell)
    (fun z h => by rw [h] at hobj; cases hobj) hkB (g := F0 m pc ls (As.reverse ++ .ref b :: rest)) rfl (argsL := As) (rest := rest) (hAs.trans (Option.some.inj hn).symm) rfl hdg
  exact ⟨mk, vm₁, X₁, X₁.named hnamed, fun target h => hstep₁ _ (by rw [doInvoke_state]; exact h)⟩
end Calls
section Ends
variable {cs : List Choice} {p : Program} {l : Launch} {e : Env} {R : Room} {s : State} {m : MethodId} {args : Array Value} {below : List Frame} {meth : Method} {c : Code} {H : Heap} {locs : List Loc} {cells slots : Nat}
/-- what a body owes at its end -/
def mx_MQ (cs : List Choice) (below : List Frame) (Qc : Array Value → State → Outcome → State → Prop) (XC : String → State → State → Prop) (a : Array Value) (s : State) (kr nr kx nx : Nat) (free : Addr → Prop) : State → Prop := fun t =>
  ∃ o, t.status = .running ∧ Ended t below o ∧ mx_Q cs Qc XC kr nr kx nx free a s o t
theorem mx_mono {Q Q' : State → Prop} {g : JFrame} (h : ∀ t, Q t → Q' t) (k : W p l e R s m args below meth c H locs cells slots Q g) : W p l e R s m args below meth c H locs cells slots Q' g := by
  intro T hT X
  obtain ⟨t, a, b⟩ := k T hT X
  exact ⟨t, a, h t b⟩
/-- a return: from the kit's end row -/
theorem mx_end {Qc : Array Value → State → Outcome → State → Prop} {XC : String → State → State → Prop} {kr nr kx nx : Nat} {free : Addr → Prop} {d0 : Drawn} {g : JFrame} (hd0 : s.drawn.sameBut d0 cs) (hk : cells ≤ kr) (hn : slots ≤ nr)
    (k : W p l e R (s.setDrawn d0) m args below meth c H locs cells slots (MQ below Qc args (s.setDrawn d0) cells slots free) g) : W p l e R (s.setDrawn d0) m args below meth c H locs cells slots (mx_MQ cs below Qc XC args s kr nr kx nx free) g :=
  mx_mono (fun t ⟨o, h1, h2, h3, L, ⟨h4, h5, h6⟩, h7⟩ => ⟨o, h1, h2, d0, hd0, Or.inl ⟨h3, L, ⟨h4, h5, h6.mono hk hn⟩, h7⟩⟩) k
/-- a throw: from the kit's -/
theorem mx_endX {Qc : Array Value → State → Outcome → State → Prop} {XC : String → State → State → Prop} {kr nr kx nx : Nat} {free : Addr → Prop} {d0 : Drawn} {g : JFrame} (hd0 : s.drawn.sameBut d0 cs)
    (k : W p l e R (s.setDrawn d0) m args below meth c H locs cells slots (vx_MQ below (fun _ _ _ _ => False) XC args (s.setDrawn d0) kx nx free) g) : W p l e R (s.setDrawn d0) m args below meth c H locs cells slots (mx_MQ cs below Qc XC args s kr nr kx nx free) g :=
  mx_mono (fun t ⟨o, h1, h2, h3⟩ => ⟨o, h1, h2, d0, hd0, h3.elim (fun z => z.1.elim) (fun z => Or.inr z)⟩) k
theorem mx_outX {Qc : Array Value → State → Outcome → State → Prop} {XC : String → State → State → Prop} {kr nr kx nx : Nat} {free : Addr → Prop} {d0 : Drawn} {g : JFrame} {q : Addr} (hd0 : s.drawn.sameBut d0 cs)
    (k : vx_W p l e R (s.setDrawn d0) m args below meth c H locs cells slots (vx_MQ below (fun _ _ _ _ => False) XC args (s.setDrawn d0) kx nx free) g q) : vx_W p l e R (s.setDrawn d0) m args below meth c H locs cells slots (mx_MQ cs below Qc XC args s kr nr kx nx free) g q := by
  intro T hT X
  obtain ⟨t, a, o, h1, h2, h3⟩ := k T hT X
  exact ⟨t, a, o, h1, h2, d0, hd0, h3.elim (fun z => z.1.elim) (fun z => Or.inr z)⟩
theorem mx_ofW {y : MethodName} {ws ws' : List Cond} {rm : Room} {Pc : Array Value → State → Prop} {Qc : Array Value → State → Outcome → State → Prop} {XC : String → State → State → Prop} {kr nr kx nx : Nat} {free : Addr → Prop} {cc : ByteArray} {maxL : Nat} {ret : Option FieldType} {hh : List (Nat × Nat × Nat × Nat)}
    (hy : plainName y.cls = true) (hw : ws = cdW y cc maxL ret hh :: ws')
    (body : ∀ p e s m args below meth c s₁, BodyLoose p l y (headSpec ws rm) cc maxL ret e s m args below meth c s₁ → c.maxLocals = maxL → c.exceptionTable.toList.map (fun h => (h.startPc, h.endPc, h.handlerPc, h.catchType)) = hh → Pc args s →
      W p l e (headSpec ws rm).room (s.setDrawn s.drawn) m args below meth c s.heap [] 0 0 (mx_MQ cs below Qc XC args s kr nr kx nx free) (entryFrame m args maxL)) : mx_Met cs l y ws rm Pc Qc XC kr nr kx nx free := by
  refine MetFree.of_bodyS (code := cc) (maxLocals := maxL) (ret := ret) hy ?_ ?_
  · intro args s m h hn
    obtain ⟨m9, meth, c, hn9, h1, h2, h3, h4, -, h5, h6, -⟩ := cdW_spec (atoms_spec (ws := ws) h _ (by rw [hw]; exact List.mem_cons_self))
    cases hn.symm.trans hn9
    exact ⟨meth, c, h1, h2, h3, h4, h5, h6⟩
  · intro p e s m args below meth c s₁ B hml hP _
    have hh0 : s₁.heap = s.heap := by rw [B.state]; rfl
    have ht : c.exceptionTable.toList.map (fun h => (h.startPc, h.endPc, h.handlerPc, h.catchType)) = hh := by
      obtain ⟨m9, meth9, c9, hn9, h1, h2, -, -, h6, -⟩ := cdW_spec (atoms_spec (ws := ws) B.pre _ (by rw [hw]; exact List.mem_cons_self))
      cases Option.some.inj (hn9.symm.trans B.named)
      cases Option.some.inj (h1.symm.trans B.method)
      cases Option.some.inj (h2.symm.trans (Stand.of_body B).code)
      exact h6
    obtain ⟨t, a1, o, b1, b2, b3⟩ := body p e s m args below meth c s₁ B hml ht hP s₁ hh0 (Stand.of_body B)
    exact ⟨t, o, a1, b1, b2, b3⟩
end Ends
end MXA
end
section
/-! A small machine: cells by their number, values with those numbers for addresses; what it says of a run holds of the machine itself (parts 03 to 06). -/
section MJ
abbrev mE : Type := (Nat × vp_A) ⊕ (Nat × List Value)
abbrev mH : Type := List mE
abbrev mL : Type := List (Nat × Value)
abbrev mK : Type := Nat × Nat × Nat × Int
abbrev mR : Type := Nat × Instr × Nat × mK
def gl : mL → Nat → Option Value
  | [], _ => none
  | q :: r, i => if q.1 = i then some q.2 else gl r i
def sto (lv : mL) (i : Nat) (v : Value) : mL := (i, v) :: lv.filter (fun q => !(q.1 == i) && !(q.1 + 1 == i && q.2.category == 2))
def sto2 (lv : mL) (i : Nat) (v : Value) : mL := (i, v) :: lv.filter (fun q => !(q.1 == i) && (!(q.1 == i + 1) && !(q.1 + 1 == i && q.2.category == 2)))
def tgt (pc : Nat) (off : Int) : Option Nat := if 0 ≤ (pc : Int) + off then some ((pc : Int) + off).toNat else none
theorem tgt_spec {pc t : Nat} {off : Int} (h : tgt pc off = some t) : (pc : Int) + off = (t : Int) := by
  unfold tgt at h
  split at h
  next h0 => cases h; omega
  next => cases h
/-- a value of the small machine, and the machine's: numbers alike, a cell's number for its address; an exception in hand is any reference, or null -/
def rV (L : List Nat) (v w : Value) : Prop := match v with
  | .ref k => ∃ a, L[k]? = some a ∧ w = .ref a
  | .retAddr _ => ∃ v : Option Nat, w = va_rf v
  | v => w = v
def rS (L : List Nat) : List Value → List Value → Prop
  | [], [] => True
  | v :: vs, w :: ws => rV L v w ∧ rS L vs ws
  | _, _ => False
def rL (L : List Nat) : mL → mL → Prop
  | [], [] => True
  | q :: r, q' :: r' => q.1 = q'.1 ∧ rV L q.2 q'.2 ∧ rL L r r'
  | _, _ => False
theorem rV_cat {L : List Nat} {v w : Value} (h : rV L v w) : w.category = v.category := by
  cases v with
  | ref k => obtain ⟨a, -, rfl⟩ := h; rfl
  | retAddr k => obtain ⟨a, rfl⟩ := h; cases a <;> rfl
  | _ => have h : w = _ := h; rw [h]
theorem rV_mono {L L' : List Nat} {v w : Value} (hL : L <+: L') (h : rV L v w) : rV L' v w := by
  cases v with
  | ref k =>
    obtain ⟨a, h1, rfl⟩ := h
    exact ⟨a, by obtain ⟨t, rfl⟩ := hL; rw [List.getElem?_append_left (List.getElem?_eq_some_iff.mp h1).1]; exact h1, rfl⟩
  | retAddr k => exact h
  | _ => exact h
theorem rS_mono {L L' : List Nat} (hL : L <+: L') : ∀ {st str : List Value}, rS L st str → rS L' st str
  | [], [], _ => trivial
  | _ :: _, _ :: _, h => ⟨rV_mono hL h.1, rS_mono hL h.2⟩
  | [], _ :: _, h => h.elim
  | _ :: _, [], h => h.elim
theorem rL_mono {L L' : List Nat} (hL : L <+: L') : ∀ {lv lvr : mL}, rL L lv lvr → rL L' lv lvr
  | [], [], _ => trivial
  | _ :: _, _ :: _, h => ⟨h.1, rV_mono hL h.2.1, rL_mono hL h.2.2⟩
  | [], _ :: _, h => h.elim
  | _ :: _, [], h => h.elim
theorem rS_V {L : List Nat} {v : Value} {r str : List Value} (h : rS L (v :: r) str) : ∃ w r', str = w :: r' ∧ rV L v w ∧ rS L r r' := by
  cases str with
  | nil => exact h.elim
  | cons w r' => exact ⟨w, r', rfl, h.1, h.2⟩
theorem rS_nil {L : List Nat} {str : List Value} (h : rS L [] str) : str = [] := by
  cases str with
  | nil => rfl
  | cons w r' => exact h.elim
theorem rS_I {L : List Nat} {x : Int32} {r str : List Value} (h : rS L (.int x :: r) str) : ∃ r', str = .int x :: r' ∧ rS L r r' := by
  obtain ⟨w, r', rfl, h1, h2⟩ := rS_V h
  have h1 : w = .int x := h1
  exact ⟨r', by rw [h1], h2⟩
theorem rS_J {L : List Nat} {x : Int64} {r str : List Value} (h : rS L (.long x :: r) str) : ∃ r', str = .long x :: r' ∧ rS L r r' := by
  obtain ⟨w, r', rfl, h1, h2⟩ := rS_V h
  have h1 : w = .long x := h1
  exact ⟨r', by rw [h1], h2⟩
theorem rS_F {L : List Nat} {x : UInt32} {r str : List Value} (h : rS L (.float x :: r) str) : ∃ r', str = .float x :: r' ∧ rS L r r' := by
  obtain ⟨w, r', rfl, h1, h2⟩ := rS_V h
  have h1 : w = .float x := h1
  exact ⟨r', by rw [h1], h2⟩
theorem rS_D {L : List Nat} {x : UInt64} {r str : List Value} (h : rS L (.double x :: r) str) : ∃ r', str = .double x :: r' ∧ rS L r r' := by
  obtain ⟨w, r', rfl, h1, h2⟩ := rS_V h
  have h1 : w = .double x := h1
  exact ⟨r', by rw [h1], h2⟩
theorem rS_N {L : List Nat} {r str : List Value} (h : rS L (.null :: r) str) : ∃ r', str = .null :: r' ∧ rS L r r' := by
  obtain ⟨w, r', rfl, h1, h2⟩ := rS_V h
  have h1 : w = .null := h1
  exact ⟨r', by rw [h1], h2⟩
theorem rS_R {L : List Nat} {k : Nat} {r str : List Value} (h : rS L (.ref k :: r) str) : ∃ a r', L[k]? = some a ∧ str = .ref a :: r' ∧ rS L r r' := by
  obtain ⟨w, r', rfl, ⟨a, h1, rfl⟩, h2⟩ := rS_V h
  exact ⟨a, r', h1, rfl, h2⟩
theorem rL_get {L : List Nat} {i : Nat} {v : Value} : ∀ {lv lvr : mL}, rL L lv lvr → gl lv i = some v → ∃ (k : Nat) (w : Value), lvr[k]? = some (i, w) ∧ rV L v w
  | [], [], _, h => by cases h
  | q :: r, q' :: r', h, hg => by
    unfold gl at hg
    split at hg
    next he =>
      cases hg
      refine ⟨0, q'.2, ?_, h.2.1⟩
      rw [← he, h.1]; rfl
    next =>
      obtain ⟨k, w, h1, h2⟩ := rL_get h.2.2 hg
      exact ⟨k + 1, w, h1, h2⟩
  | [], _ :: _, h, _ => h.elim
  | _ :: _, [], h, _ => h.elim
theorem rL_filter {L : List Nat} (f : Nat → Nat → Bool) : ∀ {lv lvr : mL}, rL L lv lvr → rL L (lv.filter fun q => f q.1 q.2.category) (lvr.filter fun q => f q.1 q.2.category)
  | [], [], _ => trivial
  | q :: r, q' :: r', h => by
    have e1 : q'.1 = q.1 := h.1.symm
    have e2 : q'.2.category = q.2.category := rV_cat h.2.1
    simp only [List.filter_cons, e1, e2]
    split
    · exact ⟨h.1, h.2.1, rL_filter f h.2.2⟩
    · exact rL_filter f h.2.2
  | [], _ :: _, h => h.elim
  | _ :: _, [], h => h.elim
theorem rL_sto {L : List Nat} {lv lvr : mL} {i : Nat} {v w : Value} (h : rL L lv lvr) (hv : rV L v w) : rL L (sto lv i v) ((i, w) :: lvr.filter (fun q => !(q.1 == i) && !(q.1 + 1 == i && q.2.category == 2))) :=
  ⟨rfl, hv, rL_filter (fun a b => !(a == i) && !(a + 1 == i && b == 2)) h⟩
theorem rL_sto2 {L : List Nat} {lv lvr : mL} {i : Nat} {v w : Value} (h : rL L lv lvr) (hv : rV L v w) : rL L (sto2 lv i v) ((i, w) :: lvr.filter (fun q => !(q.1 == i) && (!(q.1 == i + 1) && !(q.1 + 1 == i && q.2.category == 2)))) :=
  ⟨rfl, hv, rL_filter (fun a b => !(a == i) && (!(a == i + 1) && !(a + 1 == i && b == 2))) h⟩
theorem rL_args {L : List Nat} : ∀ {as asr : List Value} (i : Nat), rS L as asr → rL L (lv_args i as) (lv_args i asr)
  | [], [], _, _ => trivial
  | v :: vs, w :: ws, i, h => by
    have e : w.category = v.category := rV_cat h.1
    unfold lv_args
    rw [e]
    exact ⟨rfl, h.1, rL_args _ h.2⟩
  | [], _ :: _, _, h => h.elim
  | _ :: _, [], _, h => h.elim
/-- the length of an instruction: of a switch by its row -/
def lnI : Instr → Nat → Nat
  | .tableswitch .., n => n
  | .lookupswitch .., n => n
  | .bipush _, _ | .iload _, _ | .lload _, _ | .fload _, _ | .dload _, _ | .aload _, _ | .istore _, _ | .lstore _, _ | .fstore _, _ | .dstore _, _ | .astore _, _ | .ldc _, _ | .newarray _, _ => 2
  | .sipush _, _ | .ldc_w _, _ | .ldc2_w _, _ | .iinc .., _ | .ifCond .., _ | .if_icmp .., _ | .if_acmp .., _ | .goto _, _ | .ifnull _, _ | .ifnonnull _, _ | .getstatic _, _ | .putstatic _, _ | .getfield _, _ | .putfield _, _ | .invokevirtual _, _ | .invokespecial _, _ | .invokestatic _, _ | .new _, _ | .anewarray _, _ | .checkcast _, _ | .instanceof _, _ => 3
  | _, _ => 1
end MJ
end
section
section MC
/-- the texts of the Strings that are there, and the digits of Integer -/
def strL : List (List Int32) := [[110, 111, 116, 32, 115, 111, 32, 109, 97, 110, 121, 32, 98, 121, 116, 101, 115],
  [59, 40, 41, 60, 62, 61],
  [102, 108, 101, 101, 116],
  [116, 104, 101, 32, 116, 101, 120, 116, 32, 104, 97, 115, 32, 97, 110, 32, 101, 114, 114, 111, 114],
  [115, 104, 105, 102, 116],
  [108, 111, 97, 100],
  [118, 105, 115, 105, 116],
  [97, 108, 112, 104, 97],
  [108, 101, 118, 101, 108],
  [104, 111, 114, 105, 122, 111, 110],
  [112, 114, 111, 100, 117, 99, 116],
  [109, 97, 99, 104, 105, 110, 101],
  [103, 97, 112],
  [115, 108, 111, 116],
  [101, 118, 101, 114, 121],
  [114, 117, 108, 101],
  [110, 111, 116],
  [100, 97, 121, 115],
  [99, 97, 115, 104],
  [119, 101, 101, 107, 100, 97, 121],
  [118, 105, 115, 105, 116, 115],
  [101, 109, 112, 116, 121],
  [97, 110, 100],
  [111, 114],
  [110, 111, 32, 102, 108, 101, 101, 116],
  [110, 111, 32, 115, 117, 99, 104, 32, 109, 97, 99, 104, 105, 110, 101],
  [110, 111, 32, 115, 117, 99, 104, 32, 115, 108, 111, 116],
  [110, 111, 32, 115, 117, 99, 104, 32, 100, 97, 121],
  [110, 111, 32, 115, 117, 99, 104, 32, 114, 117, 108, 101],
  [110, 111, 32, 115, 108, 111, 116, 32, 111, 102, 32, 116, 104, 105, 115, 32, 114, 97, 110, 107],
  [110, 111, 32, 115, 117, 99, 104, 32, 112, 114, 111, 100, 117, 99, 116],
  [110, 111, 32, 109, 97, 99, 104, 105, 110, 101, 32, 111, 102, 32, 116, 104, 105, 115, 32, 114, 97, 110, 107],
  [110, 111, 32, 115, 117, 99, 104, 32, 112, 108, 97, 99, 101],
  [110, 111, 32, 115, 117, 99, 104, 32, 101, 118, 101, 110, 116],
  [110, 111, 32, 115, 117, 99, 104, 32, 112, 97, 114, 116],
  [110, 111, 32, 115, 117, 99, 104, 32, 98, 121, 116, 101],
  [110, 111, 32, 115, 117, 99, 104, 32, 110, 117, 109, 98, 101, 114, 32, 111, 102, 32, 100, 97, 121, 115],
  [110, 111, 32, 115, 117, 99, 104, 32, 114, 97, 116, 101],
  [110, 111, 32, 115, 117, 99, 104, 32, 108, 101, 118, 101, 108],
  [110, 111, 32, 115, 117, 99, 104, 32, 115, 104, 105, 102, 116],
  [110, 111, 32, 115, 117, 99, 104, 32, 103, 97, 112],
  [110, 111, 32, 115, 117, 99, 104, 32, 97, 109, 111, 117, 110, 116],
  [110, 111, 116, 104, 105, 110, 103, 32, 116, 111, 32, 117, 110, 100, 111],
  [110, 111, 116, 104, 105, 110, 103, 32, 105, 115, 32, 115, 97, 118, 101, 100, 32, 116, 104, 101, 114, 101],
  [100, 97, 121, 115],
  [99, 97, 115, 104],
  [119, 101, 101, 107, 100, 97, 121],
  [118, 105, 115, 105, 116, 115],
  [101, 109, 112, 116, 121],
  [102, 108, 101, 101, 116],
  [115, 104, 105, 102, 116],
  [108, 111, 97, 100],
  [118, 105, 115, 105, 116],
  [97, 108, 112, 104, 97],
  [108, 101, 118, 101, 108],
  [104, 111, 114, 105, 122, 111, 110],
  [112, 114, 111, 100, 117, 99, 116],
  [109, 97, 99, 104, 105, 110, 101],
  [103, 97, 112],
  [115, 108, 111, 116],
  [101, 118, 101, 114, 121],
  [114, 117, 108, 101],
  [110, 111, 116],
  [97, 110, 100],
  [111, 114],
  [48, 49, 50, 51, 52, 53, 54, 55, 56, 57, 48, 49, 50, 51, 52, 53, 54, 55, 56, 57, 48, 49, 50, 51, 52, 53, 54, 55, 56, 57, 48, 49, 50, 51, 52, 53, 54, 55, 56, 57, 48, 49, 50, 51, 52, 53, 54, 55, 56, 57, 48, 49, 50, 51, 52, 53, 54, 55, 56, 57, 48, 49, 50, 51, 52, 53, 54, 55, 56, 57, 48, 49, 50, 51, 52, 53, 54, 55, 56, 57, 48, 49, 50, 51, 52, 53, 54, 55, 56, 57, 48, 49, 50, 51, 52, 53, 54, 55, 56, 57],
  [48, 48, 48, 48, 48, 48, 48, 48, 48, 48, 49, 49, 49, 49, 49, 49, 49, 49, 49, 49, 50, 50, 50, 50, 50, 50, 50, 50, 50, 50, 51, 51, 51, 51, 51, 51, 51, 51, 51, 51, 52, 52, 52, 52, 52, 52, 52, 52, 52, 52, 53, 53, 53, 53, 53, 53, 53, 53, 53, 53, 54, 54, 54, 54, 54, 54, 54, 54, 54, 54, 55, 55, 55, 55, 55, 55, 55, 55, 55, 55, 56, 56, 56, 56, 56, 56, 56, 56, 56, 56, 57, 57, 57, 57, 57, 57, 57, 57, 57, 57]]
/-- the things that are there: 65 Strings, what each holds, two tables of digits -/
def cstZ (k : Nat) : Option vp_A := if k < 65 then some (1, .inr (.inr (.inr (.inr fun _ => some (65 + k))))) else match strL[k - 65]? with
  | some b => some (b.length, .inl fun j => b.getD j 0)
  | none => none
def stT : List (String × Nat) := [("DigitOnes", 130), ("DigitTens", 131)]
end MC
end
section
section MP
/-- constants and loads -/
def actC (i : Instr) (pc : Nat) (lv : mL) (st : List Value) : Option (Nat × mL × List Value) := match i with
  | .iconst n => some (pc + 1, lv, .int (Int32.ofInt n) :: st)
  | .bipush n => some (pc + 2, lv, .int (Int8.ofInt n).toInt32 :: st)
  | .sipush n => some (pc + 3, lv, .int (Int16.ofInt n).toInt32 :: st)
  | .lconst n => some (pc + 1, lv, .long (Int64.ofNat (n : Nat)) :: st)
  | .fconst 0 => some (pc + 1, lv, .float FP.fconst0 :: st)
  | .fconst 1 => some (pc + 1, lv, .float FP.fconst1 :: st)
  | .fconst 2 => some (pc + 1, lv, .float FP.fconst2 :: st)
  | .aconst_null => some (pc + 1, lv, .null :: st)
  | .iload_n k => match gl lv k.val with | some (.int x) => some (pc + 1, lv, .int x :: st) | _ => none
  | .iload k => match gl lv k with | some (.int x) => some (pc + 2, lv, .int x :: st) | _ => none
  | .lload_n k => match gl lv k.val with | some (.long x) => some (pc + 1, lv, .long x :: st) | _ => none
  | .lload k => match gl lv k with | some (.long x) => some (pc + 2, lv, .long x :: st) | _ => none
  | .fload_n k => match gl lv k.val with | some (.float x) => some (pc + 1, lv, .float x :: st) | _ => none
  | .fload k => match gl lv k with | some (.float x) => some (pc + 2, lv, .float x :: st) | _ => none
  | .dload_n k => match gl lv k.val with | some (.double x) => some (pc + 1, lv, .double x :: st) | _ => none
  | .dload k => match gl lv k with | some (.double x) => some (pc + 2, lv, .double x :: st) | _ => none
  | .aload_n k => match gl lv k.val with | some (.ref x) => some (pc + 1, lv, .ref x :: st) | some .null => some (pc + 1, lv, .null :: st) | _ => none
  | .aload k => match gl lv k with | some (.ref x) => some (pc + 2, lv, .ref x :: st) | some .null => some (pc + 2, lv, .null :: st) | _ => none
  | _ => none
/-- stores into locals -/
def actS (nL : Nat) (i : Instr) (pc : Nat) (lv : mL) (st : List Value) : Option (Nat × mL × List Value) := match i, st with
  | .istore_n k, .int x :: r => if k.val < nL then some (pc + 1, sto lv k.val (.int x), r) else none
  | .istore k, .int x :: r => if k < nL then some (pc + 2, sto lv k (.int x), r) else none
  | .lstore_n k, .long x :: r => if k.val + 1 < nL then some (pc + 1, sto2 lv k.val (.long x), r) else none
  | .lstore k, .long x :: r => if k + 1 < nL then some (pc + 2, sto2 lv k (.long x), r) else none
  | .fstore_n k, .float x :: r => if k.val < nL then some (pc + 1, sto lv k.val (.float x), r) else none
  | .fstore k, .float x :: r => if k < nL then some (pc + 2, sto lv k (.float x), r) else none
  | .dstore_n k, .double x :: r => if k.val + 1 < nL then some (pc + 1, sto2 lv k.val (.double x), r) else none
  | .dstore k, .double x :: r => if k + 1 < nL then some (pc + 2, sto2 lv k (.double x), r) else none
  | .astore_n k, .ref x :: r => if k.val < nL then some (pc + 1, sto lv k.val (.ref x), r) else none
  | .astore_n k, .retAddr x :: r => if k.val < nL then some (pc + 1, sto lv k.val (.retAddr x), r) else none
  | .astore_n k, .null :: r => if k.val < nL then some (pc + 1, sto lv k.val .null, r) else none
  | .astore k, .ref x :: r => if k < nL then some (pc + 2, sto lv k (.ref x), r) else none
  | .astore k, .retAddr x :: r => if k < nL then some (pc + 2, sto lv k (.retAddr x), r) else none
  | .astore k, .null :: r => if k < nL then some (pc + 2, sto lv k .null, r) else none
  | .iinc i z, r => match gl lv i with | some (.int x) => if i < nL then some (pc + 3, sto lv i (.int (x + Int32.ofInt z)), r) else none | _ => none
  | _, _ => none
/-- arithmetic and the stack -/
def actA (i : Instr) (pc : Nat) (st : List Value) : Option (Nat × List Value) := match i, st with
  | .iadd, .int y :: .int x :: r => some (pc + 1, .int (x + y) :: r)
  | .isub, .int y :: .int x :: r => some (pc + 1, .int (x - y) :: r)
  | .imul, .int y :: .int x :: r => some (pc + 1, .int (x * y) :: r)
  | .iand, .int y :: .int x :: r => some (pc + 1, .int (x &&& y) :: r)
  | .ior, .int y :: .int x :: r => some (pc + 1, .int (x ||| y) :: r)
  | .ixor, .int y :: .int x :: r => some (pc + 1, .int (x ^^^ y) :: r)
  | .ishl, .int y :: .int x :: r => some (pc + 1, .int (x <<< (y &&& 31)) :: r)
  | .ishr, .int y :: .int x :: r => some (pc + 1, .int (x >>> (y &&& 31)) :: r)
  | .iushr, .int y :: .int x :: r => some (pc + 1, .int (x.toUInt32 >>> (y.toUInt32 &&& Int32.toUInt32 31)).toInt32 :: r)
  | .idiv, .int y :: .int x :: r => if y = 0 then none else some (pc + 1, .int (x / y) :: r)
  | .irem, .int y :: .int x :: r => if y = 0 then none else some (pc + 1, .int (x - x / y * y) :: r)
  | .ladd, .long y :: .long x :: r => some (pc + 1, .long (x + y) :: r)
  | .lsub, .long y :: .long x :: r => some (pc + 1, .long (x - y) :: r)
  | .lmul, .long y :: .long x :: r => some (pc + 1, .long (x * y) :: r)
  | .lcmp, .long y :: .long x :: r => some (pc + 1, .int (lg_cmp x y) :: r)
  | .fcmp op, .float y :: .float x :: r => some (pc + 1, .int (Op.cmpValue (FP.fcmp x y) op) :: r)
  | .dcmp op, .double y :: .double x :: r => some (pc + 1, .int (Op.cmpValue (FP.dcmp x y) op) :: r)
  | .ineg, .int x :: r => some (pc + 1, .int (-x) :: r)
  | .i2l, .int x :: r => some (pc + 1, .long x.toInt64 :: r)
  | .i2b, .int x :: r => some (pc + 1, .int x.toInt8.toInt32 :: r)
  | .i2c, .int x :: r => some (pc + 1, .int (x.toUInt32 % 65536).toInt32 :: r)
  | .l2i, .long x :: r => some (pc + 1, .int x.toInt32 :: r)
  | .i2f, .int x :: r => some (pc + 1, .float (FP.i2f x) :: r)
  | .f2i, .float x :: r => some (pc + 1, .int (FP.f2i x) :: r)
  | .dup, a :: r => if a.category = 1 then some (pc + 1, a :: a :: r) else none
  | .pop, a :: r => if a.category = 1 then some (pc + 1, r) else none
  | .dup_x1, a :: b :: r => if a.category = 1 ∧ b.category = 1 then some (pc + 1, a :: b :: a :: r) else none
  | .dup_x2, a :: b :: c :: r => if a.category = 1 ∧ b.category = 1 ∧ c.category = 1 then some (pc + 1, a :: b :: c :: a :: r) else none
  | .dup2, a :: r => if a.category = 2 then some (pc + 1, a :: a :: r) else match r with | b :: r2 => if b.category = 1 then some (pc + 1, a :: b :: a :: b :: r2) else none | [] => none
  | _, _ => none
/-- branches -/
def actB (i : Instr) (pc : Nat) (st : List Value) : Option (Nat × List Value) := match i, st with
  | .ifCond .eq off, .int x :: r => (tgt pc off).map fun t => (if x = 0 then t else pc + 3, r)
  | .if_icmp .eq off, .int y :: .int x :: r => (tgt pc off).map fun t => (if x = y then t else pc + 3, r)
  | .ifCond .ne off, .int x :: r => (tgt pc off).map fun t => (if ¬ x = 0 then t else pc + 3, r)
  | .if_icmp .ne off, .int y :: .int x :: r => (tgt pc off).map fun t => (if ¬ x = y then t else pc + 3, r)
  | .ifCond .lt off, .int x :: r => (tgt pc off).map fun t => (if x < 0 then t else pc + 3, r)
  | .if_icmp .lt off, .int y :: .int x :: r => (tgt pc off).map fun t => (if x < y then t else pc + 3, r)
  | .ifCond .ge off, .int x :: r => (tgt pc off).map fun t => (if 0 ≤ x then t else pc + 3, r)
  | .if_icmp .ge off, .int y :: .int x :: r => (tgt pc off).map fun t => (if y ≤ x then t else pc + 3, r)
  | .ifCond .gt off, .int x :: r => (tgt pc off).map fun t => (if 0 < x then t else pc + 3, r)
  | .if_icmp .gt off, .int y :: .int x :: r => (tgt pc off).map fun t => (if y < x then t else pc + 3, r)
  | .ifCond .le off, .int x :: r => (tgt pc off).map fun t => (if x ≤ 0 then t else pc + 3, r)
  | .if_icmp .le off, .int y :: .int x :: r => (tgt pc off).map fun t => (if x ≤ y then t else pc + 3, r)
  | .goto off, r => (tgt pc off).map fun t => (t, r)
  | .ifnull off, .null :: r => (tgt pc off).map fun t => (t, r)
  | .ifnull off, .ref x :: r => some (pc + 3, r)
  | .ifnonnull off, .null :: r => some (pc + 3, r)
  | .ifnonnull off, .ref x :: r => (tgt pc off).map fun t => (t, r)
  | .tableswitch d lo hi offs, .int x :: r => if x.toInt < lo ∨ hi < x.toInt then (tgt pc d).map fun t => (t, r) else match offs[(x.toInt - lo).toNat]? with | some o => (tgt pc o).map fun t => (t, r) | none => none
  | .lookupswitch d ps, .int x :: r => if (ps.toList.zip (ps.toList.drop 1)).all (fun (a, next) => a.1 < next.1) = true then (tgt pc (Op.lookupswitch.offset ps.toList d x.toInt)).map fun t => (t, r) else none
  | _, _ => none
variable {p : Program} {l : Launch} {e : Env} {R : Room} {s : State} {m : MethodId} {args : Array Value} {below : List Frame} {meth : Method} {c : Code} {H : Heap} {locs : List Loc} {cells slots : Nat} {Q : State → Prop}
variable {cc : ByteArray} {ls : Array Slot} {L : List Nat}
set_option maxHeartbeats 4000000 in
theorem actC_ok (hx : p.tables.exec = Jvm.exec) (hb : c.code = cc) {nL pc pc2 len : Nat} {i : Instr} {lv lvr lv2 : mL} {st str st2 : List Value} (h : actC i pc lv st = some (pc2, lv2, st2)) (hd : decode cc pc = .ok (i, lnI i len)) (hl : lv_has ls nL lvr) (hL : rL L lv lvr) (hS : rS L st str)
    (k : ∀ (lvr2 : mL) (ls2 : Array Slot) (str2 : List Value), lv_has ls2 nL lvr2 → rL L lv2 lvr2 → rS L st2 str2 → W p l e R s m args below meth c H locs cells slots Q (F0 m pc2 ls2 str2)) : W p l e R s m args below meth c H locs cells slots Q (F0 m pc ls str) := by
  unfold actC at h
  split at h
  · cases h
    exact lv_iconst hx hb hd rfl (k _ _ _ hl hL ⟨rfl, hS⟩)
  · cases h
    exact lv_bipush hx hb hd rfl (k _ _ _ hl hL ⟨rfl, hS⟩)
  · cases h
    exact lv_sipush hx hb hd rfl (k _ _ _ hl hL ⟨rfl, hS⟩)
  · cases h
    exact lv_lconst hx hb hd rfl (k _ _ _ hl hL ⟨rfl, hS⟩)
  · cases h
    exact lv_fconst0 hx hb hd (k _ _ _ hl hL ⟨rfl, hS⟩)
  · cases h
    exact lv_fconst1 hx hb hd (k _ _ _ hl hL ⟨rfl, hS⟩)
  · cases h
    exact lv_fconst2 hx hb hd (k _ _ _ hl hL ⟨rfl, hS⟩)
  · cases h
    exact lv_null hx hb hd (k _ _ _ hl hL ⟨rfl, hS⟩)
  · split at h
    · rename_i hg
      cases h
      obtain ⟨q, w, h1, h2⟩ := rL_get hL hg
      have h2 : w = .int _ := h2
      subst h2
      exact lv_iload_n hx hb hd rfl (lv_at hl q h1) (k _ _ _ hl hL ⟨rfl, hS⟩)
    · cases h
  · split at h
    · rename_i hg
      cases h
      obtain ⟨q, w, h1, h2⟩ := rL_get hL hg
      have h2 : w = .int _ := h2
      subst h2
      exact lv_iload hx hb hd (lv_at hl q h1) (k _ _ _ hl hL ⟨rfl, hS⟩)
    · cases h
  · split at h
    · rename_i hg
      cases h
      obtain ⟨q, w, h1, h2⟩ := rL_get hL hg
      have h2 : w = .long _ := h2
      subst h2
      exact lv_lload_n hx hb hd rfl (lv_at hl q h1) (k _ _ _ hl hL ⟨rfl, hS⟩)
    · cases h
  · split at h
    · rename_i hg
      cases h
      obtain ⟨q, w, h1, h2⟩ := rL_get hL hg
      have h2 : w = .long _ := h2
      subst h2
      exact lv_lload hx hb hd (lv_at hl q h1) (k _ _ _ hl hL ⟨rfl, hS⟩)
    · cases h
  · split at h
    · rename_i hg
      cases h
      obtain ⟨q, w, h1, h2⟩ := rL_get hL hg
      have h2 : w = .float _ := h2
      subst h2
      exact lv_fload_n hx hb hd rfl (lv_at hl q h1) (k _ _ _ hl hL ⟨rfl, hS⟩)
    · cases h
  · split at h
    · rename_i hg
      cases h
      obtain ⟨q, w, h1, h2⟩ := rL_get hL hg
      have h2 : w = .float _ := h2
      subst h2
      exact lv_fload hx hb hd (lv_at hl q h1) (k _ _ _ hl hL ⟨rfl, hS⟩)
    · cases h
  · split at h
    · rename_i hg
      cases h
      obtain ⟨q, w, h1, h2⟩ := rL_get hL hg
      have h2 : w = .double _ := h2
      subst h2
      exact lv_dload_n hx hb hd rfl (lv_at hl q h1) (k _ _ _ hl hL ⟨rfl, hS⟩)
    · cases h
  · split at h
    · rename_i hg
      cases h
      obtain ⟨q, w, h1, h2⟩ := rL_get hL hg
      have h2 : w = .double _ := h2
      subst h2
      exact lv_dload hx hb hd (lv_at hl q h1) (k _ _ _ hl hL ⟨rfl, hS⟩)
    · cases h
  · split at h
    · rename_i hg
      cases h
      obtain ⟨q, w, h1, a, h2, rfl⟩ := rL_get hL hg
      exact lv_aload_n hx hb hd rfl (lv_at hl q h1) (k _ _ _ hl hL ⟨⟨a, h2, rfl⟩, hS⟩)
    · rename_i hg
      cases h
      obtain ⟨q, w, h1, h2⟩ := rL_get hL hg
      have h2 : w = .null := h2
      subst h2
      exact lv_aload_nN hx hb hd rfl (lv_at hl q h1) (k _ _ _ hl hL ⟨rfl, hS⟩)
    · cases h
  · split at h
    · rename_i hg
      cases h
      obtain ⟨q, w, h1, a, h2, rfl⟩ := rL_get hL hg
      exact lv_aload hx hb hd (lv_at hl q h1) (k _ _ _ hl hL ⟨⟨a, h2, rfl⟩, hS⟩)
    · rename_i hg
      cases h
      obtain ⟨q, w, h1, h2⟩ := rL_get hL hg
      have h2 : w = .null := h2
      subst h2
      exact lv_aloadN hx hb hd (lv_at hl q h1) (k _ _ _ hl hL ⟨rfl, hS⟩)
    · cases h
  · cases h
set_option maxHeartbeats 4000000 in
theorem actS_ok (hx : p.tables.exec = Jvm.exec) (hb : c.code = cc) {nL pc pc2 len : Nat} {i : Instr} {lv lvr lv2 : mL} {st str st2 : List Value} (h : actS nL i pc lv st = some (pc2, lv2, st2)) (hd : decode cc pc = .ok (i, lnI i len)) (hl : lv_has ls nL lvr) (hL : rL L lv lvr) (hS : rS L st str)
    (k : ∀ (lvr2 : mL) (ls2 : Array Slot) (str2 : List Value), lv_has ls2 nL lvr2 → rL L lv2 lvr2 → rS L st2 str2 → W p l e R s m args below meth c H locs cells slots Q (F0 m pc2 ls2 str2)) : W p l e R s m args below meth c H locs cells slots Q (F0 m pc ls str) := by
  unfold actS at h
  split at h
  · split at h
    · rename_i hn
      cases h
      obtain ⟨r', rfl, hS1⟩ := rS_I hS
      exact lv_istore_n hx hb hd rfl hl hn rfl (fun ls' hl' => k _ _ _ hl' (rL_sto hL rfl) hS1)
    · cases h
  · split at h
    · rename_i hn
      cases h
      obtain ⟨r', rfl, hS1⟩ := rS_I hS
      exact lv_istore hx hb hd hl hn rfl (fun ls' hl' => k _ _ _ hl' (rL_sto hL rfl) hS1)
    · cases h
  · split at h
    · rename_i hn
      cases h
      obtain ⟨r', rfl, hS1⟩ := rS_J hS
      exact lv_lstore_n hx hb hd rfl hl hn rfl (fun ls' hl' => k _ _ _ hl' (rL_sto2 hL rfl) hS1)
    · cases h
  · split at h
    · rename_i hn
      cases h
      obtain ⟨r', rfl, hS1⟩ := rS_J hS
      exact lv_lstore hx hb hd hl hn rfl (fun ls' hl' => k _ _ _ hl' (rL_sto2 hL rfl) hS1)
    · cases h
  · split at h
    · rename_i hn
      cases h
      obtain ⟨r', rfl, hS1⟩ := rS_F hS
      exact lv_fstore_n hx hb hd rfl hl hn rfl (fun ls' hl' => k _ _ _ hl' (rL_sto hL rfl) hS1)
    · cases h
  · split at h
    · rename_i hn
      cases h
      obtain ⟨r', rfl, hS1⟩ := rS_F hS
      exact lv_fstore hx hb hd hl hn rfl (fun ls' hl' => k _ _ _ hl' (rL_sto hL rfl) hS1)
    · cases h
  · split at h
    · rename_i hn
      cases h
      obtain ⟨r', rfl, hS1⟩ := rS_D hS
      exact lv_dstore_n hx hb hd rfl hl hn rfl (fun ls' hl' => k _ _ _ hl' (rL_sto2 hL rfl) hS1)
    · cases h
  · split at h
    · rename_i hn
      cases h
      obtain ⟨r', rfl, hS1⟩ := rS_D hS
      exact lv_dstore hx hb hd hl hn rfl (fun ls' hl' => k _ _ _ hl' (rL_sto2 hL rfl) hS1)
    · cases h
  · split at h
    · rename_i hn
      cases h
      obtain ⟨a, r', h1, rfl, hS1⟩ := rS_R hS
      exact lv_astore_n hx hb hd rfl hl hn rfl (fun ls' hl' => k _ _ _ hl' (rL_sto hL ⟨a, h1, rfl⟩) hS1)
    · cases h
  · split at h
    · rename_i hn
      cases h
      obtain ⟨w, r', rfl, ⟨a, rfl⟩, hS1⟩ := rS_V hS
      cases a with
      | none => exact lv_astore_nN hx hb hd rfl hl hn rfl (fun ls' hl' => k _ _ _ hl' (rL_sto hL ⟨none, rfl⟩) hS1)
      | some a => exact lv_astore_n hx hb hd rfl hl hn rfl (fun ls' hl' => k _ _ _ hl' (rL_sto hL ⟨some a, rfl⟩) hS1)
    · cases h
  · split at h
    · rename_i hn
      cases h
      obtain ⟨r', rfl, hS1⟩ := rS_N hS
      exact lv_astore_nN hx hb hd rfl hl hn rfl (fun ls' hl' => k _ _ _ hl' (rL_sto hL rfl) hS1)
    · cases h
  · split at h
    · rename_i hn
      cases h
      obtain ⟨a, r', h1, rfl, hS1⟩ := rS_R hS
      exact lv_astore hx hb hd hl hn rfl (fun ls' hl' => k _ _ _ hl' (rL_sto hL ⟨a, h1, rfl⟩) hS1)
    · cases h
  · split at h
    · rename_i hn
      cases h
      obtain ⟨w, r', rfl, ⟨a, rfl⟩, hS1⟩ := rS_V hS
      cases a with
      | none => exact lv_astoreN hx hb hd hl hn rfl (fun ls' hl' => k _ _ _ hl' (rL_sto hL ⟨none, rfl⟩) hS1)
      | some a => exact lv_astore hx hb hd hl hn rfl (fun ls' hl' => k _ _ _ hl' (rL_sto hL ⟨some a, rfl⟩) hS1)
    · cases h
  · split at h
    · rename_i hn
      cases h
      obtain ⟨r', rfl, hS1⟩ := rS_N hS
      exact lv_astoreN hx hb hd hl hn rfl (fun ls' hl' => k _ _ _ hl' (rL_sto hL rfl) hS1)
    · cases h
  · split at h
    · rename_i hg
      split at h
      · rename_i hn
        cases h
        obtain ⟨q, w, h1, h2⟩ := rL_get hL hg
        have h2 : w = .int _ := h2
        subst h2
        exact lv_iinc hx hb hd hl h1 rfl hn rfl (fun ls' hl' => k _ _ _ hl' (rL_sto hL rfl) hS)
      · cases h
    · cases h
  · cases h
set_option maxHeartbeats 4000000 in
theorem actA_ok (hx : p.tables.exec = Jvm.exec) (hb : c.code = cc) {pc pc2 len : Nat} {i : Instr} {st str st2 : List Value} (h : actA i pc st = some (pc2, st2)) (hd : decode cc pc = .ok (i, lnI i len)) (hS : rS L st str)
    (k : ∀ (str2 : List Value), rS L st2 str2 → W p l e R s m args below meth c H locs cells slots Q (F0 m pc2 ls str2)) : W p l e R s m args below meth c H locs cells slots Q (F0 m pc ls str) := by
  unfold actA at h
  split at h
  · cases h
    obtain ⟨r1, rfl, hS1⟩ := rS_I hS
    obtain ⟨r2, rfl, hS2⟩ := rS_I hS1
    exact lv_iadd hx hb hd (k _ ⟨rfl, hS2⟩)
  · cases h
    obtain ⟨r1, rfl, hS1⟩ := rS_I hS
    obtain ⟨r2, rfl, hS2⟩ := rS_I hS1
    exact lv_isub hx hb hd (k _ ⟨rfl, hS2⟩)
  · cases h
    obtain ⟨r1, rfl, hS1⟩ := rS_I hS
    obtain ⟨r2, rfl, hS2⟩ := rS_I hS1
    exact lv_imul hx hb hd (k _ ⟨rfl, hS2⟩)
  · cases h
    obtain ⟨r1, rfl, hS1⟩ := rS_I hS
    obtain ⟨r2, rfl, hS2⟩ := rS_I hS1
    exact lv_iand hx hb hd (k _ ⟨rfl, hS2⟩)
  · cases h
    obtain ⟨r1, rfl, hS1⟩ := rS_I hS
    obtain ⟨r2, rfl, hS2⟩ := rS_I hS1
    exact lv_ior hx hb hd (k _ ⟨rfl, hS2⟩)
  · cases h
    obtain ⟨r1, rfl, hS1⟩ := rS_I hS
    obtain ⟨r2, rfl, hS2⟩ := rS_I hS1
    exact lv_ixor hx hb hd (k _ ⟨rfl, hS2⟩)
  · cases h
    obtain ⟨r1, rfl, hS1⟩ := rS_I hS
    obtain ⟨r2, rfl, hS2⟩ := rS_I hS1
    exact lv_ishl hx hb hd (k _ ⟨rfl, hS2⟩)
  · cases h
    obtain ⟨r1, rfl, hS1⟩ := rS_I hS
    obtain ⟨r2, rfl, hS2⟩ := rS_I hS1
    exact lv_ishr hx hb hd (k _ ⟨rfl, hS2⟩)
  · cases h
    obtain ⟨r1, rfl, hS1⟩ := rS_I hS
    obtain ⟨r2, rfl, hS2⟩ := rS_I hS1
    exact lv_iushr hx hb hd rfl (k _ ⟨rfl, hS2⟩)
  · split at h
    · cases h
    · rename_i hne
      cases h
      obtain ⟨r1, rfl, hS1⟩ := rS_I hS
      obtain ⟨r2, rfl, hS2⟩ := rS_I hS1
      exact lv_idiv hx hb hd hne (k _ ⟨rfl, hS2⟩)
  · split at h
    · cases h
    · rename_i hne
      cases h
      obtain ⟨r1, rfl, hS1⟩ := rS_I hS
      obtain ⟨r2, rfl, hS2⟩ := rS_I hS1
      exact lv_irem hx hb hd hne (k _ ⟨rfl, hS2⟩)
  · cases h
    obtain ⟨r1, rfl, hS1⟩ := rS_J hS
    obtain ⟨r2, rfl, hS2⟩ := rS_J hS1
    exact lv_ladd hx hb hd (k _ ⟨rfl, hS2⟩)
  · cases h
    obtain ⟨r1, rfl, hS1⟩ := rS_J hS
    obtain ⟨r2, rfl, hS2⟩ := rS_J hS1
    exact lv_lsub hx hb hd (k _ ⟨rfl, hS2⟩)
  · cases h
    obtain ⟨r1, rfl, hS1⟩ := rS_J hS
    obtain ⟨r2, rfl, hS2⟩ := rS_J hS1
    exact lv_lmul hx hb hd (k _ ⟨rfl, hS2⟩)
  · cases h
    obtain ⟨r1, rfl, hS1⟩ := rS_J hS
    obtain ⟨r2, rfl, hS2⟩ := rS_J hS1
    exact W.lcmp hx hb hd (k _ ⟨rfl, hS2⟩)
  · cases h
    obtain ⟨r1, rfl, hS1⟩ := rS_F hS
    obtain ⟨r2, rfl, hS2⟩ := rS_F hS1
    exact lv_fcmp hx hb hd (k _ ⟨rfl, hS2⟩)
  · cases h
    obtain ⟨r1, rfl, hS1⟩ := rS_D hS
    obtain ⟨r2, rfl, hS2⟩ := rS_D hS1
    exact lv_dcmp hx hb hd (k _ ⟨rfl, hS2⟩)
  · cases h
    obtain ⟨r1, rfl, hS1⟩ := rS_I hS
    exact lv_ineg hx hb hd (k _ ⟨rfl, hS1⟩)
  · cases h
    obtain ⟨r1, rfl, hS1⟩ := rS_I hS
    exact lv_i2l hx hb hd rfl (k _ ⟨rfl, hS1⟩)
  · cases h
    obtain ⟨r1, rfl, hS1⟩ := rS_I hS
    exact lv_i2b hx hb hd rfl (k _ ⟨rfl, hS1⟩)
  · cases h
    obtain ⟨r1, rfl, hS1⟩ := rS_I hS
    exact lv_i2c hx hb hd rfl (k _ ⟨rfl, hS1⟩)
  · cases h
    obtain ⟨r1, rfl, hS1⟩ := rS_J hS
    exact lv_l2i hx hb hd rfl (k _ ⟨rfl, hS1⟩)
  · cases h
    obtain ⟨r1, rfl, hS1⟩ := rS_I hS
    exact lv_i2f hx hb hd (k _ ⟨rfl, hS1⟩)
  · cases h
    obtain ⟨r1, rfl, hS1⟩ := rS_F hS
    exact lv_f2i hx hb hd (k _ ⟨rfl, hS1⟩)
  · split at h
    · rename_i hc
      cases h
      have ka := hc
      obtain ⟨wa, ra, rfl, va, hS1⟩ := rS_V hS
      exact lv_dup hx hb hd ((rV_cat va).trans ka) (k _ ⟨va, ⟨va, hS1⟩⟩)
    · cases h
  · split at h
    · rename_i hc
      cases h
      have ka := hc
      obtain ⟨wa, ra, rfl, va, hS1⟩ := rS_V hS
      exact lv_pop hx hb hd ((rV_cat va).trans ka) (k _ hS1)
    · cases h
  · split at h
    · rename_i hc
      cases h
      obtain ⟨ka, kb⟩ := hc
      obtain ⟨wa, ra, rfl, va, hS1⟩ := rS_V hS
      obtain ⟨wb, rb, rfl, vb, hS2⟩ := rS_V hS1
      exact lv_dup_x1 hx hb hd ((rV_cat va).trans ka) ((rV_cat vb).trans kb) (k _ ⟨va, ⟨vb, ⟨va, hS2⟩⟩⟩)
    · cases h
  · split at h
    · rename_i hc
      cases h
      obtain ⟨ka, kb, kc⟩ := hc
      obtain ⟨wa, ra, rfl, va, hS1⟩ := rS_V hS
      obtain ⟨wb, rb, rfl, vb, hS2⟩ := rS_V hS1
      obtain ⟨wc, rc, rfl, vc, hS3⟩ := rS_V hS2
      exact lv_dup_x2 hx hb hd ((rV_cat va).trans ka) ((rV_cat vb).trans kb) ((rV_cat vc).trans kc) (k _ ⟨va, ⟨vb, ⟨vc, ⟨va, hS3⟩⟩⟩⟩)
    · cases h
  · obtain ⟨wa, ra, rfl, va, hS1⟩ := rS_V hS
    split at h
    · rename_i hc
      cases h
      exact lv_dup2_2 hx hb hd ((rV_cat va).trans hc) (k _ ⟨va, va, hS1⟩)
    · rename_i hc
      split at h
      · split at h
        · rename_i hc2
          cases h
          obtain ⟨wb, rb, rfl, vb, hS2⟩ := rS_V hS1
          exact lv_dup2_11 hx hb hd ((rV_cat va).trans ((lv_cat _).resolve_right hc)) ((rV_cat vb).trans hc2) (k _ ⟨va, vb, va, vb, hS2⟩)
        · cases h
      · cases h
  · cases h
set_option maxHeartbeats 4000000 in
theorem actB_ok (hx : p.tables.exec = Jvm.exec) (hb : c.code = cc) {pc pc2 len : Nat} {i : Instr} {st str st2 : List Value} (h : actB i pc st = some (pc2, st2)) (hd : decode cc pc = .ok (i, lnI i len)) (hS : rS L st str)
    (k : ∀ (str2 : List Value), rS L st2 str2 → W p l e R s m args below meth c H locs cells slots Q (F0 m pc2 ls str2)) : W p l e R s m args below meth c H locs cells slots Q (F0 m pc ls str) := by
  unfold actB at h
  split at h
  · obtain ⟨t, ht, h⟩ := Option.map_eq_some_iff.mp h
    obtain ⟨r1, rfl, hS1⟩ := rS_I hS
    refine lv_if_eq hx hb hd (tgt_spec ht) (fun hc => ?_) (fun hc => ?_)
    · rw [if_pos hc] at h; cases h; exact k _ hS1
    · rw [if_neg hc] at h; cases h; exact k _ hS1
  · obtain ⟨t, ht, h⟩ := Option.map_eq_some_iff.mp h
    obtain ⟨r1, rfl, hS1⟩ := rS_I hS
    obtain ⟨r2, rfl, hS2⟩ := rS_I hS1
    refine lv_icmp_eq hx hb hd (tgt_spec ht) (fun hc => ?_) (fun hc => ?_)
    · rw [if_pos hc] at h; cases h; exact k _ hS2
    · rw [if_neg hc] at h; cases h; exact k _ hS2
  · obtain ⟨t, ht, h⟩ := Option.map_eq_some_iff.mp h
    obtain ⟨r1, rfl, hS1⟩ := rS_I hS
    refine lv_if_ne hx hb hd (tgt_spec ht) (fun hc => ?_) (fun hc => ?_)
    · rw [if_pos hc] at h; cases h; exact k _ hS1
    · rw [if_neg (fun z => z hc)] at h; cases h; exact k _ hS1
  · obtain ⟨t, ht, h⟩ := Option.map_eq_some_iff.mp h
    obtain ⟨r1, rfl, hS1⟩ := rS_I hS
    obtain ⟨r2, rfl, hS2⟩ := rS_I hS1
    refine lv_icmp_ne hx hb hd (tgt_spec ht) (fun hc => ?_) (fun hc => ?_)
    · rw [if_pos hc] at h; cases h; exact k _ hS2
    · rw [if_neg (fun z => z hc)] at h; cases h; exact k _ hS2
  · obtain ⟨t, ht, h⟩ := Option.map_eq_some_iff.mp h
    obtain ⟨r1, rfl, hS1⟩ := rS_I hS
    refine lv_if_lt hx hb hd (tgt_spec ht) (fun hc => ?_) (fun hc => ?_)
    · rw [if_pos hc] at h; cases h; exact k _ hS1
    · rw [if_neg hc] at h; cases h; exact k _ hS1
  · obtain ⟨t, ht, h⟩ := Option.map_eq_some_iff.mp h
    obtain ⟨r1, rfl, hS1⟩ := rS_I hS
    obtain ⟨r2, rfl, hS2⟩ := rS_I hS1
    refine lv_icmp_lt hx hb hd (tgt_spec ht) (fun hc => ?_) (fun hc => ?_)
    · rw [if_pos hc] at h; cases h; exact k _ hS2
    · rw [if_neg hc] at h; cases h; exact k _ hS2
  · obtain ⟨t, ht, h⟩ := Option.map_eq_some_iff.mp h
    obtain ⟨r1, rfl, hS1⟩ := rS_I hS
    refine lv_if_ge hx hb hd (tgt_spec ht) (fun hc => ?_) (fun hc => ?_)
    · rw [if_pos hc] at h; cases h; exact k _ hS1
    · rw [if_neg hc] at h; cases h; exact k _ hS1
  · obtain ⟨t, ht, h⟩ := Option.map_eq_some_iff.mp h
    obtain ⟨r1, rfl, hS1⟩ := rS_I hS
    obtain ⟨r2, rfl, hS2⟩ := rS_I hS1
    refine lv_icmp_ge hx hb hd (tgt_spec ht) (fun hc => ?_) (fun hc => ?_)
    · rw [if_pos hc] at h; cases h; exact k _ hS2
    · rw [if_neg hc] at h; cases h; exact k _ hS2
  · obtain ⟨t, ht, h⟩ := Option.map_eq_some_iff.mp h
    obtain ⟨r1, rfl, hS1⟩ := rS_I hS
    refine lv_if_gt hx hb hd (tgt_spec ht) (fun hc => ?_) (fun hc => ?_)
    · rw [if_pos hc] at h; cases h; exact k _ hS1
    · rw [if_neg hc] at h; cases h; exact k _ hS1
  · obtain ⟨t, ht, h⟩ := Option.map_eq_some_iff.mp h
    obtain ⟨r1, rfl, hS1⟩ := rS_I hS
    obtain ⟨r2, rfl, hS2⟩ := rS_I hS1
    refine lv_icmp_gt hx hb hd (tgt_spec ht) (fun hc => ?_) (fun hc => ?_)
    · rw [if_pos hc] at h; cases h; exact k _ hS2
    · rw [if_neg hc] at h; cases h; exact k _ hS2
  · obtain ⟨t, ht, h⟩ := Option.map_eq_some_iff.mp h
    obtain ⟨r1, rfl, hS1⟩ := rS_I hS
    refine lv_if_le hx hb hd (tgt_spec ht) (fun hc => ?_) (fun hc => ?_)
    · rw [if_pos hc] at h; cases h; exact k _ hS1
    · rw [if_neg hc] at h; cases h; exact k _ hS1
  · obtain ⟨t, ht, h⟩ := Option.map_eq_some_iff.mp h
    obtain ⟨r1, rfl, hS1⟩ := rS_I hS
    obtain ⟨r2, rfl, hS2⟩ := rS_I hS1
    refine lv_icmp_le hx hb hd (tgt_spec ht) (fun hc => ?_) (fun hc => ?_)
    · rw [if_pos hc] at h; cases h; exact k _ hS2
    · rw [if_neg hc] at h; cases h; exact k _ hS2
  · obtain ⟨t, ht, h⟩ := Option.map_eq_some_iff.mp h
    cases h
    exact lv_goto hx hb hd (tgt_spec ht) (k _ hS)
  · obtain ⟨t, ht, h⟩ := Option.map_eq_some_iff.mp h
    cases h
    obtain ⟨r1, rfl, hS1⟩ := rS_N hS
    exact lv_ifnullN hx hb hd (tgt_spec ht) (k _ hS1)
  · cases h
    obtain ⟨a, r1, -, rfl, hS1⟩ := rS_R hS
    exact lv_ifnull hx hb hd (k _ hS1)
  · cases h
    obtain ⟨r1, rfl, hS1⟩ := rS_N hS
    exact lv_ifnonnullN hx hb hd (k _ hS1)
  · obtain ⟨t, ht, h⟩ := Option.map_eq_some_iff.mp h
    cases h
    obtain ⟨a, r1, -, rfl, hS1⟩ := rS_R hS
    exact lv_ifnonnull hx hb hd (tgt_spec ht) (k _ hS1)
  · obtain ⟨r1, rfl, hS1⟩ := rS_I hS
    split at h
    · rename_i hc
      obtain ⟨t, ht, h⟩ := Option.map_eq_some_iff.mp h
      cases h
      exact lv_tableOut hx hb hd hc (tgt_spec ht) (k _ hS1)
    · rename_i hc
      split at h
      · rename_i ho
        obtain ⟨t, ht, h⟩ := Option.map_eq_some_iff.mp h
        cases h
        exact lv_tableIn hx hb hd (fun z => hc (Or.inl z)) (fun z => hc (Or.inr z)) ho (tgt_spec ht) (k _ hS1)
      · cases h
  · obtain ⟨r1, rfl, hS1⟩ := rS_I hS
    split at h
    · rename_i hc
      obtain ⟨t, ht, h⟩ := Option.map_eq_some_iff.mp h
      cases h
      exact lv_lookup hx hb hd hc rfl (tgt_spec ht) (k _ hS1)
    · cases h
  · cases h
end MP
end
section
section MH
/-- the kinds of rows: numbers for their types -/
def ftOf (cl : List vw_C) : Nat → FieldType
  | 0 => .int
  | 1 => .byte
  | 2 => .boolean
  | 3 => .char
  | 4 => .long
  | 5 => .float
  | 6 => .double
  | 7 => .object "java/lang/String"
  | n + 8 => .object ((cl[n]?.map fun r => r.1).getD "")
def rO (L : List Nat) (x y : Option Nat) : Prop := match x with
  | none => y = none
  | some k => ∃ a, L[k]? = some a ∧ y = some a
def rA (L : List Nat) (x y : vp_A) : Prop := match x with
  | (n, .inr (.inr (.inr (.inr f)))) => ∃ g : Nat → Option Nat, y = (n, .inr (.inr (.inr (.inr g)))) ∧ ∀ i, rO L (f i) (g i)
  | z => y = z
/-- rows of bytes hold bytes -/
def byA (t : Nat) (z : vp_A) : Prop := t ≠ 999 ∧ (t = 1 → ∀ i, (match z.2 with
  | .inl f => fits .byte (.int (f i)) = true
  | _ => True))
theorem byA_no {t : Nat} {z : vp_A} (h : t ≠ 999) (h1 : t ≠ 1) : byA t z := ⟨h, fun e => absurd e h1⟩
def rE (cl : List vw_C) (L : List Nat) (tys : List (ClassId × FieldType)) (x : mE) (y : va_E) : Prop := match x with
  | .inl (t, a) => ∃ (cA : ClassId) (t0 : Nat) (b : vp_A), tys[t0]? = some (cA, ftOf cl t) ∧ y = .inl (cA, b) ∧ rA L a b ∧ byA t a
  | .inr (ci, fs) => ∃ gs, y = .inr (ci, gs) ∧ rS L fs gs
/-- the small machine's cells, and a world of the machine's; cells of the kind 999 stand for things that are there, but not in the world -/
def rH (cl : List vw_C) (ns : Nat) (L : List Nat) (tys : List (ClassId × FieldType)) (h : mH) (ws : va_W) : Prop :=
  L.length = h.length ∧ ws.length + ns = h.length ∧ ∀ (k : Nat) (x : mE), h[k]? = some x → (∃ z, x = .inl (999, z) ∧ cstZ k = some z) ∨ (ns ≤ k ∧ ∃ (a : Nat) (y : va_E), L[k]? = some a ∧ ws[k - ns]? = some (a, y) ∧ rE cl L tys x y)
theorem rO_mono {L L' : List Nat} {x y : Option Nat} (hL : L <+: L') (h : rO L x y) : rO L' x y := by
  cases x with
  | none => exact h
  | some k =>
    obtain ⟨a, h1, h2⟩ := h
    exact ⟨a, by obtain ⟨t, rfl⟩ := hL; rw [List.getElem?_append_left (List.getElem?_eq_some_iff.mp h1).1]; exact h1, h2⟩
theorem rA_mono {L L' : List Nat} {x y : vp_A} (hL : L <+: L') (h : rA L x y) : rA L' x y := by
  obtain ⟨n, f | f | f | f | f⟩ := x
  · exact h
  · exact h
  · exact h
  · exact h
  · obtain ⟨g, h1, h2⟩ := h
    exact ⟨g, h1, fun i => rO_mono hL (h2 i)⟩
theorem rE_mono {cl : List vw_C} {L L' : List Nat} {tys tys' : List (ClassId × FieldType)} {x : mE} {y : va_E} (hL : L <+: L') (ht : tys <+: tys') (h : rE cl L tys x y) : rE cl L' tys' x y := by
  obtain ⟨t, a⟩ | ⟨ci, fs⟩ := x
  · obtain ⟨cA, t0, b, h1, h2, h3, h4⟩ := h
    exact ⟨cA, t0, b, by obtain ⟨z, rfl⟩ := ht; rw [List.getElem?_append_left (List.getElem?_eq_some_iff.mp h1).1]; exact h1, h2, rA_mono hL h3, h4⟩
  · obtain ⟨gs, h1, h2⟩ := h
    exact ⟨gs, h1, rS_mono hL h2⟩
theorem rS_get {L : List Nat} : ∀ {fs gs : List Value} {k : Nat} {v : Value}, rS L fs gs → fs[k]? = some v → ∃ w, gs[k]? = some w ∧ rV L v w
  | [], [], k, v, _, h => by simp at h
  | v :: vs, w :: ws, 0, _, h, hk => by cases hk; exact ⟨w, rfl, h.1⟩
  | v :: vs, w :: ws, k + 1, _, h, hk => rS_get (k := k) h.2 hk
  | [], _ :: _, _, _, h, _ => h.elim
  | _ :: _, [], _, _, h, _ => h.elim
theorem rS_len {L : List Nat} : ∀ {fs gs : List Value}, rS L fs gs → gs.length = fs.length
  | [], [], _ => rfl
  | _ :: _, _ :: _, h => by simp [rS_len h.2]
  | [], _ :: _, h => h.elim
  | _ :: _, [], h => h.elim
theorem rS_set {L : List Nat} : ∀ {fs gs : List Value} {k : Nat} {v w : Value}, rS L fs gs → rV L v w → rS L (fs.set k v) (gs.set k w)
  | [], [], k, v, w, _, _ => by cases k <;> exact trivial
  | _ :: _, _ :: _, 0, _, _, h, hv => ⟨hv, h.2⟩
  | _ :: _, _ :: _, k + 1, _, _, h, hv => ⟨h.1, rS_set (k := k) h.2 hv⟩
  | [], _ :: _, _, _, _, h, _ => h.elim
  | _ :: _, [], _, _, _, h, _ => h.elim
theorem rS_app {L : List Nat} : ∀ {fs gs fs' gs' : List Value}, rS L fs gs → rS L fs' gs' → rS L (fs ++ fs') (gs ++ gs')
  | [], [], _, _, _, h => h
  | _ :: _, _ :: _, _, _, h, h' => ⟨h.1, rS_app h.2 h'⟩
  | [], _ :: _, _, _, h, _ => h.elim
  | _ :: _, [], _, _, h, _ => h.elim
theorem rH_obj {cl : List vw_C} {ns : Nat} {L : List Nat} {tys : List (ClassId × FieldType)} {h : mH} {ws : va_W} {x ci : Nat} {fs : List Value} (hr : rH cl ns L tys h ws) (hx : h[x]? = some (.inr (ci, fs))) : ∃ (a : Nat) (gs : List Value), L[x]? = some a ∧ ws[x - ns]? = some (a, .inr (ci, gs)) ∧ rS L fs gs ∧ ns ≤ x := by
  rcases hr.2.2 x _ hx with ⟨z, hz, -⟩ | ⟨h1, a, y, h2, h3, gs, rfl, h4⟩
  · cases hz
  · exact ⟨a, gs, h2, h3, h4, h1⟩
theorem rH_arr {cl : List vw_C} {ns : Nat} {L : List Nat} {tys : List (ClassId × FieldType)} {h : mH} {ws : va_W} {x t : Nat} {z : vp_A} (hr : rH cl ns L tys h ws) (hx : h[x]? = some (.inl (t, z))) (ht : t ≠ 999) : ∃ (a : Nat) (cA : ClassId) (t0 : Nat) (b : vp_A), L[x]? = some a ∧ ws[x - ns]? = some (a, .inl (cA, b)) ∧ tys[t0]? = some (cA, ftOf cl t) ∧ rA L z b ∧ ns ≤ x := by
  rcases hr.2.2 x _ hx with ⟨z, hz, -⟩ | ⟨h1, a, y, h2, h3, cA, t0, b, h4, rfl, h5, h6⟩
  · cases hz; exact absurd rfl ht
  · exact ⟨a, cA, t0, b, h2, h3, h4, h5, h1⟩
theorem rH_by {cl : List vw_C} {ns : Nat} {L : List Nat} {tys : List (ClassId × FieldType)} {h : mH} {ws : va_W} {x t : Nat} {z : vp_A} (hr : rH cl ns L tys h ws) (hx : h[x]? = some (.inl (t, z))) (ht : t ≠ 999) : byA t z := by
  rcases hr.2.2 x _ hx with ⟨z, hz, -⟩ | ⟨h1, a, y, h2, h3, cA, t0, b, h4, rfl, h5, h6⟩
  · cases hz; exact absurd rfl ht
  · exact h6
/-- things that are there, and not in the world -/
theorem rH_cst {cl : List vw_C} {ns : Nat} {L : List Nat} {tys : List (ClassId × FieldType)} {h : mH} {ws : va_W} {x : Nat} {z : vp_A} (hr : rH cl ns L tys h ws) (hx : h[x]? = some (.inl (999, z))) : cstZ x = some z := by
  rcases hr.2.2 x _ hx with ⟨z, hz, h1⟩ | ⟨h1, a, y, h2, h3, cA, t0, b, h4, rfl, h5, h6⟩
  · cases hz; exact h1
  · exact absurd rfl h6.1
theorem rH_set {cl : List vw_C} {ns : Nat} {L : List Nat} {tys : List (ClassId × FieldType)} {h : mH} {ws : va_W} {x a : Nat} {e : mE} {y : va_E} (hr : rH cl ns L tys h ws) (ha : L[x]? = some a) (hx : ns ≤ x) (he : rE cl L tys e y) : rH cl ns L tys (h.set x e) (ws.set (x - ns) (a, y)) := by
  obtain ⟨h1, h2, h3⟩ := hr
  refine ⟨by simp [h1], by simp [h2], fun k z hk => ?_⟩
  rw [List.getElem?_set] at hk
  split at hk
  next e0 =>
    subst e0
    split at hk
    next hlt =>
      cases hk
      refine Or.inr ⟨hx, a, y, ha, ?_, he⟩
      rw [List.getElem?_set_self (by omega)]
    next => cases hk
  next e0 =>
    rcases h3 k z hk with z1 | ⟨z1, b, y', z2, z3, z4⟩
    · exact Or.inl z1
    · refine Or.inr ⟨z1, b, y', z2, ?_, z4⟩
      rw [List.getElem?_set_ne (by omega)]
      exact z3
theorem rH_push {cl : List vw_C} {ns : Nat} {L : List Nat} {tys tys' : List (ClassId × FieldType)} {h : mH} {ws : va_W} {a : Nat} {e : mE} {y : va_E} (hr : rH cl ns L tys h ws) (ht : tys <+: tys') (he : rE cl (L ++ [a]) tys' e y) : rH cl ns (L ++ [a]) tys' (h ++ [e]) (ws ++ [(a, y)]) := by
  obtain ⟨h1, h2, h3⟩ := hr
  refine ⟨by simp [h1], by simp; omega, fun k z hk => ?_⟩
  rcases Nat.lt_or_ge k h.length with hlt | hge
  · rw [List.getElem?_append_left hlt] at hk
    rcases h3 k z hk with z1 | ⟨z1, b, y', z2, z3, z4⟩
    · exact Or.inl z1
    · refine Or.inr ⟨z1, b, y', ?_, ?_, rE_mono (List.prefix_append _ _) ht z4⟩
      · rw [List.getElem?_append_left (by omega)]; exact z2
      · rw [List.getElem?_append_left (by omega)]; exact z3
  · have hk2 : k = h.length := by
      have := (List.getElem?_eq_some_iff.mp hk).1
      simp at this
      omega
    subst hk2
    rw [List.getElem?_append_right (Nat.le_refl _), Nat.sub_self] at hk
    cases hk
    refine Or.inr ⟨by omega, a, y, ?_, ?_, he⟩
    · rw [← h1]; simp
    · rw [show h.length - ns = ws.length by omega]; simp
theorem rH_tys {cl : List vw_C} {ns : Nat} {L : List Nat} {tys tys' : List (ClassId × FieldType)} {h : mH} {ws : va_W} (hr : rH cl ns L tys h ws) (ht : tys <+: tys') : rH cl ns L tys' h ws :=
  ⟨hr.1, hr.2.1, fun k z hk => (hr.2.2 k z hk).elim Or.inl fun ⟨z1, b, y', z2, z3, z4⟩ => Or.inr ⟨z1, b, y', z2, z3, rE_mono (List.prefix_refl _) ht z4⟩⟩
/-- what a row of a method's table rests on -/
def okG (cl : List vw_C) (Ts : List Cond) (own : String) (idx ci k : Nat) : Prop := ∃ (C : String) (T : u_T) (N : Nat), cl[ci]? = some (C, T, N) ∧ k < N ∧ (∀ w ∈ u_ws C T N, w ∈ Ts) ∧ Cond.fieldLink own idx (T k).1 (T k).2.1 (T k).2.2.1 ∈ Ts
def okP (cl : List vw_C) (Ts : List Cond) (own : String) (init : Prop) (idx ci k : Nat) : Prop := ∃ (C : String) (T : u_T) (N : Nat) (ty : Nat → FieldType), cl[ci]? = some (C, T, N) ∧ k < N ∧ (∀ w ∈ u_ws C T N, w ∈ Ts) ∧ Cond.fieldLink own idx (T k).1 (T k).2.1 (T k).2.2.1 ∈ Ts ∧
  (∀ k, k < N → parseFieldDescriptor (T k).2.2.1 = some (ty k)) ∧ (∀ a, a < N → ∀ b, b < N → a ≠ b → (T a).2.1 ≠ (T b).2.1) ∧ ((T k).2.2.2 = false ∨ ((T k).2.2.2 = true ∧ init ∧ (T k).1 = own))
/-- a value that a field of this type takes as it is -/
def fitV (cl : List vw_C) (ci k : Nat) (v : Value) : Prop := ∃ r ty, cl[ci]? = some r ∧ parseFieldDescriptor (r.2.1 k).2.2.1 = some ty ∧ (match v with
  | .ref _ | .null => ty.isReference = true
  | .int x => narrow ty (.int x) = .int x ∧ fits ty (.int x) = true
  | .long _ => ty = .long
  | .float _ => ty = .float
  | .double _ => ty = .double
  | .retAddr _ => False)
/-- what holds of the things that are there: Strings, their bytes -/
def cstE (A : Nat → Prop) (L : List Nat) (s : State) (a : Nat) (z : vp_A) : Prop := match z.2 with
  | .inl f => va_T .byte a z.1 (fun j => .int (f j)) A s s.heap
  | .inr (.inr (.inr (.inr f))) => va_O "java/lang/String" a A s s.heap ∧ va_OF "java/lang/String" "coder" "B" (.int 0) a A s s.heap ∧ ∃ k b, f 0 = some k ∧ L[k]? = some b ∧ va_OF "java/lang/String" "value" "[B" (.ref b) a A s s.heap
  | _ => True
def cstO (A : Nat → Prop) (L : List Nat) (s : State) : Prop := ∀ k z, cstZ k = some z → ∃ a, L[k]? = some a ∧ cstE A L s a z
theorem cstO_mono {A : Nat → Prop} {L L1 : List Nat} {s : State} (hL : L <+: L1) (h : cstO A L s) : cstO A L1 s := by
  have up : ∀ {k a : Nat}, L[k]? = some a → L1[k]? = some a := fun z => by obtain ⟨t, rfl⟩ := hL; rw [List.getElem?_append_left (List.getElem?_eq_some_iff.mp z).1]; exact z
  intro k z hz
  obtain ⟨a, h1, h2⟩ := h k z hz
  refine ⟨a, up h1, ?_⟩
  obtain ⟨n, f | f | f | f | f⟩ := z
  · exact h2
  · trivial
  · trivial
  · trivial
  · obtain ⟨g1, g2, k2, b, g3, g4, g5⟩ := h2
    exact ⟨g1, g2, k2, b, g3, up g4, g5⟩
theorem cstO_to {A : Nat → Prop} {L : List Nat} {s U : State} (hal : s.vm.Alike U.vm) (hq : ∀ a : Nat, a < s.heap.size → ¬ A a → U.heap[a]? = s.heap[a]?) (h : cstO A L s) : cstO A L U := by
  intro k z hz
  obtain ⟨a, h1, h2⟩ := h k z hz
  refine ⟨a, h1, ?_⟩
  obtain ⟨n, f | f | f | f | f⟩ := z
  · exact va_T.moved hal (va_T.kept (H1 := U.heap) h2 hq)
  · trivial
  · trivial
  · trivial
  · obtain ⟨g1, g2, k2, b, g3, g4, g5⟩ := h2
    exact ⟨va_O.moved hal (va_O.kept g1 hq), va_OF.moved hal (va_OF.kept g2 hq), k2, b, g3, g4, va_OF.moved hal (va_OF.kept g5 hq)⟩
/-- a row that reads a field: of the world's objects, or of a String that is there -/
def okGK (cl : List vw_C) (Ts : List Cond) (own : String) (idx : Nat) (lk : mK) : Prop := (lk.1 < 30 ∧ okG cl Ts own idx lk.2.1 lk.2.2.1) ∨
  (cl.length ≤ lk.2.1 ∧ (lk.1 = 30 → Cond.fieldLink own idx "java/lang/String" "value" "[B" ∈ Ts) ∧ (lk.1 = 31 → Cond.fieldLink own idx "java/lang/String" "coder" "B" ∈ Ts))
def kdI (c : (Nat → Int32) ⊕ (Nat → Int64) ⊕ (Nat → UInt32) ⊕ (Nat → UInt64) ⊕ (Nat → Option Nat)) : Bool := match c with
  | .inl _ => true
  | _ => false
/-- reads -/
def actR (i : Instr) (lk : mK) (st : List Value) (h : mH) : Option (List Value) := match i, st with
  | .getfield _, .ref x :: r => match h[x]? with
    | some (.inr (ci, fs)) => if ci = lk.2.1 then (match fs[lk.2.2.1]? with | some v => some (v :: r) | none => none) else none
    | some (.inl (t, n, .inr (.inr (.inr (.inr f))))) => if t = 999 ∧ lk.1 = 30 then some (va_rf (f 0) :: r) else if t = 999 ∧ lk.1 = 31 then some (.int 0 :: r) else none
    | _ => none
  | .iaload, .int j :: .ref x :: r => match h[x]? with
    | some (.inl (t, n, .inl f)) => if t = 0 ∧ ¬ (j < 0 ∨ n ≤ j.toNatClampNeg) then some (.int (f j.toNatClampNeg) :: r) else none
    | _ => none
  | .laload, .int j :: .ref x :: r => match h[x]? with
    | some (.inl (t, n, .inr (.inl f))) => if t = 4 ∧ ¬ (j < 0 ∨ n ≤ j.toNatClampNeg) then some (.long (f j.toNatClampNeg) :: r) else none
    | _ => none
  | .faload, .int j :: .ref x :: r => match h[x]? with
    | some (.inl (t, n, .inr (.inr (.inl f)))) => if t = 5 ∧ ¬ (j < 0 ∨ n ≤ j.toNatClampNeg) then some (.float (f j.toNatClampNeg) :: r) else none
    | _ => none
  | .daload, .int j :: .ref x :: r => match h[x]? with
    | some (.inl (t, n, .inr (.inr (.inr (.inl f))))) => if t = 6 ∧ ¬ (j < 0 ∨ n ≤ j.toNatClampNeg) then some (.double (f j.toNatClampNeg) :: r) else none
    | _ => none
  | .baload, .int j :: .ref x :: r => match h[x]? with
    | some (.inl (t, n, .inl f)) => if (t = 1 ∨ t = 2 ∨ t = 999) ∧ ¬ (j < 0 ∨ n ≤ j.toNatClampNeg) then some (.int (f j.toNatClampNeg) :: r) else none
    | _ => none
  | .aaload, .int j :: .ref x :: r => match h[x]? with
    | some (.inl (t, n, .inr (.inr (.inr (.inr f))))) => if (7 ≤ t ∧ t < 900) ∧ ¬ (j < 0 ∨ n ≤ j.toNatClampNeg) then some (va_rf (f j.toNatClampNeg) :: r) else none
    | _ => none
  | .arraylength, .ref x :: r => match h[x]? with
    | some (.inl (t, n, z)) => if t < 900 ∨ (t = 999 ∧ kdI z = true) then some (.int (Int32.ofNat n) :: r) else none
    | _ => none
  | _, _ => none
/-- a row's tag says an object's class -/
theorem ftOf_obj {cl : List vw_C} {t : Nat} (h : 7 ≤ t) : ∃ C, ftOf cl t = .object C := by
  match t, h with
  | 7, _ => exact ⟨_, rfl⟩
  | n + 8, _ => exact ⟨_, rfl⟩
theorem rA_len {L : List Nat} {x y : vp_A} (h : rA L x y) : y.1 = x.1 := by
  obtain ⟨n, f | f | f | f | f⟩ := x
  · have h : y = _ := h; rw [h]
  · have h : y = _ := h; rw [h]
  · have h : y = _ := h; rw [h]
  · have h : y = _ := h; rw [h]
  · obtain ⟨g, h1, h2⟩ := h; rw [h1]
variable {p : Program} {l : Launch} {e : Env} {R : Room} {s : State} {m : MethodId} {args : Array Value} {below : List Frame} {meth : Method} {c : Code} {H : Heap} {locs : List Loc} {cells slots : Nat} {Q : State → Prop}
variable {cc : ByteArray} {ls : Array Slot} {L : List Nat} {D : va_G} {cl : List vw_C} {tys : List (ClassId × FieldType)} {ws : va_W} {A : Nat → Prop} {H0 : Heap} {ns : Nat} {h : mH} {Ts : List Cond} {own : String}
set_option maxHeartbeats 4000000 in
theorem actR_ok (hx : p.tables.exec = Jvm.exec) (hb : c.code = cc) (hts : ∀ w ∈ Ts, w.before args s = true) (hown : s.vm.findClass own = some m.cls) (hK : va_K D cl tys s) (hP : va_P D cl ws H) (hH : rH cl ns L tys h ws) (hC : cstO A L s) (hSS : va_S A s.heap H locs) {pc len : Nat} {i : Instr} {lk : mK} {st str st2 : List Value}
    (hok : ∀ idx, i = .getfield idx → okGK cl Ts own idx lk) (ha : actR i lk st h = some st2) (hd : decode cc pc = .ok (i, lnI i len)) (hS : rS L st str)
    (k : ∀ (str2 : List Value), rS L st2 str2 → W p l e R s m args below meth c H locs cells slots Q (F0 m (pc + lnI i len) ls str2)) : W p l e R s m args below meth c H locs cells slots Q (F0 m pc ls str) := by
  unfold actR at ha
  split at ha
  · rename_i x r
    obtain ⟨a, r1, h1, rfl, hS1⟩ := rS_R hS
    split at ha
    · rename_i ci fs hc
      split at ha
      · rename_i e0
        split at ha
        · rename_i v hv
          cases ha
          obtain ⟨a2, gs, g1, g2, g3, g4⟩ := rH_obj hH hc
          cases h1.symm.trans g1
          obtain ⟨w, w1, w2⟩ := rS_get g3 hv
          rcases hok _ rfl with ⟨-, C, T, N, q1, q2, q3, q4⟩ | ⟨q1, -⟩
          · rw [← e0] at q1
            exact va_get hx hb hts q3 hown hK hP _ g2 q1 _ q2 (hts _ q4) (fun _ z => z) w1 hd (k _ ⟨w2, hS1⟩)
          · obtain ⟨r9, hr9, -⟩ := hP _ _ g2
            have hr9 : cl[ci]? = some r9 := hr9
            have := (List.getElem?_eq_some_iff.mp hr9).1
            omega
        · cases ha
      · cases ha
    · rename_i t n f hc
      split at ha
      · rename_i e0
        cases ha
        obtain ⟨rfl, e1⟩ := e0
        obtain ⟨a2, g1, g2⟩ := hC _ _ (rH_cst hH hc)
        cases h1.symm.trans g1
        obtain ⟨f1, f2, k2, b, f3, f4, f5⟩ := g2
        rcases hok _ rfl with ⟨q1, -⟩ | ⟨-, q2, -⟩
        · omega
        · refine vk_getf hx hb f5 hSS hown (hts _ (q2 e1)) (fun _ z => z) hd (k _ ⟨?_, hS1⟩)
          rw [f3]
          exact ⟨b, f4, rfl⟩
      · split at ha
        · rename_i e0
          cases ha
          obtain ⟨rfl, e1⟩ := e0
          obtain ⟨a2, g1, g2⟩ := hC _ _ (rH_cst hH hc)
          cases h1.symm.trans g1
          obtain ⟨f1, f2, -⟩ := g2
          rcases hok _ rfl with ⟨q1, -⟩ | ⟨-, -, q2⟩
          · omega
          · exact vk_getf hx hb f2 hSS hown (hts _ (q2 e1)) (fun _ z => z) hd (k _ ⟨rfl, hS1⟩)
        · cases ha
    · cases ha
  · obtain ⟨r1, rfl, hS1⟩ := rS_I hS
    obtain ⟨a, r2, h1, rfl, hS2⟩ := rS_R hS1
    split at ha
    · rename_i t n f hc
      split at ha
      · rename_i e0
        cases ha
        obtain ⟨rfl, hin⟩ := e0
        obtain ⟨a2, cA, t0, b, g1, g2, g3, g4, g5⟩ := rH_arr hH hc (by decide)
        cases h1.symm.trans g1
        have g4 : b = _ := g4
        subst g4
        exact va_iald hx hb hK hP _ t0 g2 g3 hin hd (k _ ⟨rfl, hS2⟩)
      · cases ha
    · cases ha
  · obtain ⟨r1, rfl, hS1⟩ := rS_I hS
    obtain ⟨a, r2, h1, rfl, hS2⟩ := rS_R hS1
    split at ha
    · rename_i t n f hc
      split at ha
      · rename_i e0
        cases ha
        obtain ⟨rfl, hin⟩ := e0
        obtain ⟨a2, cA, t0, b, g1, g2, g3, g4, g5⟩ := rH_arr hH hc (by decide)
        cases h1.symm.trans g1
        have g4 : b = _ := g4
        subst g4
        exact va_lald hx hb hK hP _ t0 g2 g3 hin hd (k _ ⟨rfl, hS2⟩)
      · cases ha
    · cases ha
  · obtain ⟨r1, rfl, hS1⟩ := rS_I hS
    obtain ⟨a, r2, h1, rfl, hS2⟩ := rS_R hS1
    split at ha
    · rename_i t n f hc
      split at ha
      · rename_i e0
        cases ha
        obtain ⟨rfl, hin⟩ := e0
        obtain ⟨a2, cA, t0, b, g1, g2, g3, g4, g5⟩ := rH_arr hH hc (by decide)
        cases h1.symm.trans g1
        have g4 : b = _ := g4
        subst g4
        exact va_fald hx hb hK hP _ t0 g2 g3 hin hd (k _ ⟨rfl, hS2⟩)
      · cases ha
    · cases ha
  · obtain ⟨r1, rfl, hS1⟩ := rS_I hS
    obtain ⟨a, r2, h1, rfl, hS2⟩ := rS_R hS1
    split at ha
    · rename_i t n f hc
      split at ha
      · rename_i e0
        cases ha
        obtain ⟨rfl, hin⟩ := e0
        obtain ⟨a2, cA, t0, b, g1, g2, g3, g4, g5⟩ := rH_arr hH hc (by decide)
        cases h1.symm.trans g1
        have g4 : b = _ := g4
        subst g4
        exact va_dald hx hb hK hP _ t0 g2 g3 hin hd (k _ ⟨rfl, hS2⟩)
      · cases ha
    · cases ha
  · obtain ⟨r1, rfl, hS1⟩ := rS_I hS
    obtain ⟨a, r2, h1, rfl, hS2⟩ := rS_R hS1
    split at ha
    · rename_i t n f hc
      split at ha
      · rename_i e0
        cases ha
        obtain ⟨rfl | rfl | rfl, hin⟩ := e0
        · obtain ⟨a2, cA, t0, b, g1, g2, g3, g4, g5⟩ := rH_arr hH hc (by decide)
          cases h1.symm.trans g1
          have g4 : b = _ := g4
          subst g4
          exact va_bald hx hb hK hP _ t0 g2 g3 hin hd (k _ ⟨rfl, hS2⟩)
        · obtain ⟨a2, cA, t0, b, g1, g2, g3, g4, g5⟩ := rH_arr hH hc (by decide)
          cases h1.symm.trans g1
          have g4 : b = _ := g4
          subst g4
          exact va_zald hx hb hK hP _ t0 g2 g3 hin hd (k _ ⟨rfl, hS2⟩)
        · obtain ⟨a2, g1, g2⟩ := hC _ _ (rH_cst hH hc)
          cases h1.symm.trans g1
          exact va_tb hx hb g2 hSS hin rfl hd (k _ ⟨rfl, hS2⟩)
      · cases ha
    · cases ha
  · obtain ⟨r1, rfl, hS1⟩ := rS_I hS
    obtain ⟨a, r2, h1, rfl, hS2⟩ := rS_R hS1
    split at ha
    · rename_i t n f hc
      split at ha
      · rename_i e0
        cases ha
        obtain ⟨ht, hin⟩ := e0
        obtain ⟨a2, cA, t0, b, g1, g2, g3, g4, g5⟩ := rH_arr hH hc (by omega)
        cases h1.symm.trans g1
        obtain ⟨g, rfl, gg⟩ := g4
        obtain ⟨C, hC⟩ := ftOf_obj (cl := cl) ht.1
        rw [hC] at g3
        refine va_aldq hx hb hK hP _ t0 g2 g3 hin hd (k _ ⟨?_, hS2⟩)
        have g9 := gg (Int32.toNatClampNeg ‹Int32›)
        revert g9
        cases f (Int32.toNatClampNeg ‹Int32›) with
        | none => intro g9; have g9 : g _ = none := g9; rw [g9]; rfl
        | some z => intro g9; obtain ⟨z1, z2, z3⟩ := g9; rw [z3]; exact ⟨z1, z2, rfl⟩
      · cases ha
    · cases ha
  · obtain ⟨a, r2, h1, rfl, hS2⟩ := rS_R hS
    split at ha
    · rename_i t n z hc
      split at ha
      · rename_i ht
        cases ha
        rcases ht with ht | ⟨rfl, ht⟩
        · obtain ⟨a2, cA, t0, b, g1, g2, g3, g4, g5⟩ := rH_arr hH hc (by omega)
          cases h1.symm.trans g1
          exact va_alen hx hb hK hP _ t0 g2 g3 (by rw [rA_len g4]) hd (k _ ⟨rfl, hS2⟩)
        · obtain ⟨a2, g1, g2⟩ := hC _ _ (rH_cst hH hc)
          cases h1.symm.trans g1
          cases z with
          | inl f => exact va_tlen hx hb g2 hSS rfl hd (k _ ⟨rfl, hS2⟩)
          | inr _ => cases ht
      · cases ha
    · cases ha
  · cases ha
end MH
end
section
section MW
/-- what a field of a kind takes: 0 an int, 1 a boolean, 2 a reference, 3 a long, 4 a float, 5 a byte -/
def okV (z : Int) (v : Value) : Bool := match v with
  | .int x => decide (z = 0) || (decide (z = 1) && decide (narrow .boolean (.int x) = .int x) && fits .boolean (.int x)) || (decide (z = 5) && decide (narrow .byte (.int x) = .int x) && fits .byte (.int x))
  | .ref _ => decide (z = 2)
  | .null => decide (z = 2)
  | .long _ => decide (z = 3)
  | .float _ => decide (z = 4)
  | _ => false
def tyZ (z : Int) (ft : FieldType) : Prop := (z = 0 ∧ ft = .int) ∨ (z = 1 ∧ ft = .boolean) ∨ (z = 2 ∧ ft.isReference = true) ∨ (z = 3 ∧ ft = .long) ∨ (z = 4 ∧ ft = .float) ∨ (z = 5 ∧ ft = .byte)
theorem okV_ok {L : List Nat} {z : Int} {v w : Value} {ft : FieldType} (h : okV z v = true) (ht : tyZ z ft) (hv : rV L v w) : narrow ft w = w ∧ fits ft w = true := by
  cases v with
  | int x =>
    have hv : w = .int x := hv
    subst hv
    simp only [okV, Bool.or_eq_true, Bool.and_eq_true, decide_eq_true_eq] at h
    rcases ht with ⟨rfl, rfl⟩ | ⟨rfl, rfl⟩ | ⟨rfl, _⟩ | ⟨rfl, _⟩ | ⟨rfl, _⟩ | ⟨rfl, rfl⟩
    · exact ⟨rfl, rfl⟩
    · rcases h with (h | h) | h
      · exact absurd h (by decide)
      · exact ⟨h.1.2, h.2⟩
      · exact absurd h.1.1 (by decide)
    · rcases h with (h | h) | h
      · exact absurd h (by decide)
      · exact absurd h.1.1 (by decide)
      · exact absurd h.1.1 (by decide)
    · rcases h with (h | h) | h
      · exact absurd h (by decide)
      · exact absurd h.1.1 (by decide)
      · exact absurd h.1.1 (by decide)
    · rcases h with (h | h) | h
      · exact absurd h (by decide)
      · exact absurd h.1.1 (by decide)
      · exact absurd h.1.1 (by decide)
    · rcases h with (h | h) | h
      · exact absurd h (by decide)
      · exact absurd h.1.1 (by decide)
      · exact ⟨h.1.2, h.2⟩
  | ref k =>
    obtain ⟨a, -, rfl⟩ := hv
    have h : z = 2 := by simpa [okV] using h
    subst h
    rcases ht with ⟨z, _⟩ | ⟨z, _⟩ | ⟨_, z⟩ | ⟨z, _⟩ | ⟨z, _⟩ | ⟨z, _⟩
    · exact absurd z (by decide)
    · exact absurd z (by decide)
    · cases ft <;> first | exact ⟨rfl, rfl⟩ | cases z
    · exact absurd z (by decide)
    · exact absurd z (by decide)
    · exact absurd z (by decide)
  | null =>
    have hv : w = .null := hv
    subst hv
    have h : z = 2 := by simpa [okV] using h
    subst h
    rcases ht with ⟨z, _⟩ | ⟨z, _⟩ | ⟨_, z⟩ | ⟨z, _⟩ | ⟨z, _⟩ | ⟨z, _⟩
    · exact absurd z (by decide)
    · exact absurd z (by decide)
    · cases ft <;> first | exact ⟨rfl, rfl⟩ | cases z
    · exact absurd z (by decide)
    · exact absurd z (by decide)
    · exact absurd z (by decide)
  | long x =>
    have hv : w = .long x := hv
    subst hv
    have h : z = 3 := by simpa [okV] using h
    subst h
    rcases ht with ⟨z, _⟩ | ⟨z, _⟩ | ⟨z, _⟩ | ⟨_, rfl⟩ | ⟨z, _⟩ | ⟨z, _⟩
    · exact absurd z (by decide)
    · exact absurd z (by decide)
    · exact absurd z (by decide)
    · exact ⟨rfl, rfl⟩
    · exact absurd z (by decide)
    · exact absurd z (by decide)
  | float x =>
    have hv : w = .float x := hv
    subst hv
    have h : z = 4 := by simpa [okV] using h
    subst h
    rcases ht with ⟨z, _⟩ | ⟨z, _⟩ | ⟨z, _⟩ | ⟨z, _⟩ | ⟨_, rfl⟩ | ⟨z, _⟩
    · exact absurd z (by decide)
    · exact absurd z (by decide)
    · exact absurd z (by decide)
    · exact absurd z (by decide)
    · exact ⟨rfl, rfl⟩
    · exact absurd z (by decide)
  | double x => cases h
  | retAddr x => cases h
def okPf (cl : List vw_C) (Ts : List Cond) (own : String) (init : Prop) (idx ci k : Nat) (z : Int) : Prop := ∃ (C : String) (T : u_T) (N : Nat) (ty : Nat → FieldType), cl[ci]? = some (C, T, N) ∧ k < N ∧ (∀ w ∈ u_ws C T N, w ∈ Ts) ∧ Cond.fieldLink own idx (T k).1 (T k).2.1 (T k).2.2.1 ∈ Ts ∧
  (∀ k, k < N → parseFieldDescriptor (T k).2.2.1 = some (ty k)) ∧ (∀ a, a < N → ∀ b, b < N → a ≠ b → (T a).2.1 ≠ (T b).2.1) ∧ ((T k).2.2.2 = false ∨ ((T k).2.2.2 = true ∧ init ∧ (T k).1 = own)) ∧ tyZ z (ty k)
/-- writes: the stack behind, the cell's number, what it holds then -/
def actW (i : Instr) (lk : mK) (st : List Value) (h : mH) : Option (List Value × Nat × mE) := match i, st with
  | .putfield _, v :: .ref x :: r => match h[x]? with
    | some (.inr (ci, fs)) => if ci = lk.2.1 ∧ lk.2.2.1 < fs.length ∧ okV lk.2.2.2 v = true then some (r, x, .inr (ci, fs.set lk.2.2.1 v)) else none
    | _ => none
  | .iastore, .int y :: .int j :: .ref x :: r => match h[x]? with
    | some (.inl (t, n, .inl f)) => if t = 0 ∧ ¬ (j < 0 ∨ n ≤ j.toNatClampNeg) then some (r, x, .inl (0, n, .inl (upd f j.toNatClampNeg y))) else none
    | _ => none
  | .lastore, .long y :: .int j :: .ref x :: r => match h[x]? with
    | some (.inl (t, n, .inr (.inl f))) => if t = 4 ∧ ¬ (j < 0 ∨ n ≤ j.toNatClampNeg) then some (r, x, .inl (4, n, .inr (.inl (vp_updL f j.toNatClampNeg y)))) else none
    | _ => none
  | .fastore, .float y :: .int j :: .ref x :: r => match h[x]? with
    | some (.inl (t, n, .inr (.inr (.inl f)))) => if t = 5 ∧ ¬ (j < 0 ∨ n ≤ j.toNatClampNeg) then some (r, x, .inl (5, n, .inr (.inr (.inl (vf_upd f j.toNatClampNeg y))))) else none
    | _ => none
  | .dastore, .double y :: .int j :: .ref x :: r => match h[x]? with
    | some (.inl (t, n, .inr (.inr (.inr (.inl f))))) => if t = 6 ∧ ¬ (j < 0 ∨ n ≤ j.toNatClampNeg) then some (r, x, .inl (6, n, .inr (.inr (.inr (.inl (vf_upd f j.toNatClampNeg y)))))) else none
    | _ => none
  | .bastore, .int y :: .int j :: .ref x :: r => match h[x]? with
    | some (.inl (t, n, .inl f)) => if t = 1 ∧ ¬ (j < 0 ∨ n ≤ j.toNatClampNeg) then some (r, x, .inl (1, n, .inl (upd f j.toNatClampNeg (vp_nar .byte y)))) else if t = 2 ∧ ¬ (j < 0 ∨ n ≤ j.toNatClampNeg) then some (r, x, .inl (2, n, .inl (upd f j.toNatClampNeg (vp_nar .boolean y)))) else none
    | _ => none
  | .aastore, .ref v :: .int j :: .ref x :: r => match h[x]?, h[v]? with
    | some (.inl (t, n, .inr (.inr (.inr (.inr f))))), some (.inr (ci, _)) => if (t = ci + 8 ∧ t < 900) ∧ ¬ (j < 0 ∨ n ≤ j.toNatClampNeg) then some (r, x, .inl (t, n, .inr (.inr (.inr (.inr (va_up f j.toNatClampNeg (some v))))))) else none
    | some (.inl (t, n, .inr (.inr (.inr (.inr f))))), some (.inl (999, _)) => if (t = 7 ∧ v < lk.2.1) ∧ ¬ (j < 0 ∨ n ≤ j.toNatClampNeg) then some (r, x, .inl (t, n, .inr (.inr (.inr (.inr (va_up f j.toNatClampNeg (some v))))))) else none
    | _, _ => none
  | .invokestatic _, .int n :: .int dp :: .ref x :: .int sp :: .ref x0 :: r => match h[x0]?, h[x]? with
    | some (.inl (t0, n0, .inl f)), some (.inl (t, n1, .inl g)) => if (lk.1 = 16 ∧ t0 = t ∧ t ≤ 1 ∧ (r.map fun v => v.category).sum ≤ 8) ∧ ¬ sp < 0 ∧ ¬ dp < 0 ∧ ¬ n < 0 ∧ sp.toNatClampNeg + n.toNatClampNeg ≤ n0 ∧ dp.toNatClampNeg + n.toNatClampNeg ≤ n1 then some (r, x, .inl (t, n1, .inl (va_cpy f g sp.toNatClampNeg dp.toNatClampNeg n.toNatClampNeg))) else none
    | _, _ => none
  | _, _ => none
def okCopy (Ts : List Cond) (own : String) (idx : Nat) : Prop := Cond.methodLink own idx arraycopyName ∈ Ts ∧ Cond.native arraycopyName ∈ Ts ∧ Cond.static arraycopyName ∈ Ts ∧ Cond.initialized "java/lang/System" ∈ Ts
theorem rS_cats {L : List Nat} : ∀ {st str : List Value}, rS L st str → (str.map fun v => v.category) = st.map fun v => v.category
  | [], [], _ => rfl
  | v :: vs, w :: ws, h => by simp only [List.map_cons, rV_cat h.1, rS_cats h.2]
  | [], _ :: _, h => h.elim
  | _ :: _, [], h => h.elim
theorem rA_up {L : List Nat} {n : Nat} {f g : Nat → Option Nat} {k v a : Nat} (h : ∀ i, rO L (f i) (g i)) (hv : L[v]? = some a) : rA L (n, .inr (.inr (.inr (.inr (va_up f k (some v)))))) (n, .inr (.inr (.inr (.inr (va_up g k (some a)))))) := by
  refine ⟨_, rfl, fun i => ?_⟩
  by_cases hi : i = k
  · simp only [va_up, if_pos hi]; exact ⟨a, hv, rfl⟩
  · simp only [va_up, if_neg hi]; exact h i
theorem byA_up {n k : Nat} {f : Nat → Int32} {y : Int32} (h : byA 1 (n, .inl f)) : byA 1 (n, .inl (upd f k (vp_nar .byte y))) := by
  refine ⟨by decide, fun _ i => ?_⟩
  by_cases hi : i = k
  · subst hi
    show fits .byte (.int (upd f i (vp_nar .byte y) i)) = true
    rw [pk_us, vp_nar_byte]
    exact pk_fb y
  · show fits .byte (.int (upd f k (vp_nar .byte y) i)) = true
    rw [pk_un hi]
    exact h.2 rfl i
theorem byA_cpy {t n n0 a b c : Nat} {f g : Nat → Int32} (h : byA t (n, .inl g)) (h0 : byA t (n0, .inl f)) : byA t (n, .inl (va_cpy f g a b c)) := by
  refine ⟨h.1, fun e i => ?_⟩
  show fits .byte (.int (va_cpy f g a b c i)) = true
  unfold va_cpy
  split
  · exact h0.2 e _
  · exact h.2 e _
/-- the strings that are there: numbers below ns -/
def strO (ns : Nat) (L : List Nat) (A : Nat → Prop) (s : State) : Prop := ∀ k, k < ns → ∃ a, L[k]? = some a ∧ va_O "java/lang/String" a A s s.heap
variable {p : Program} {l : Launch} {e : Env} {R : Room} {s : State} {m : MethodId} {args : Array Value} {below : List Frame} {meth : Method} {c : Code} {H : Heap} {locs : List Loc} {cells slots : Nat} {Q : State → Prop}
variable {cc : ByteArray} {ls : Array Slot} {L : List Nat} {D : va_G} {cl : List vw_C} {tys : List (ClassId × FieldType)} {ws : va_W} {A : Nat → Prop} {ns : Nat} {h : mH} {Ts : List Cond} {own : String}
set_option maxHeartbeats 4000000 in
theorem actW_ok (hx : p.tables.exec = Jvm.exec) (hb : c.code = cc) (hts : ∀ w ∈ Ts, w.before args s = true) (hown : s.vm.findClass own = some m.cls) (hK : va_K D cl tys s) (hP : va_P D cl ws H) (hD : va_D A ws) (hSS : va_S A s.heap H locs) {n1 : Nat} (hO : strO n1 L A s) (hH : rH cl ns L tys h ws) {pc len x : Nat} {i : Instr} {lk : mK} {st str st2 : List Value} {y : mE}
    (hok : ∀ idx, i = .putfield idx → okPf cl Ts own (meth.name = "<init>") idx lk.2.1 lk.2.2.1 lk.2.2.2) (hok2 : i = .aastore → lk.2.1 = n1) (hok3 : ∀ idx, i = .invokestatic idx → lk.1 = 16 → okCopy Ts own idx) (hml : c.maxLocals = ls.size) (hRf : 1 ≤ R.frames) (hRl : 32 ≤ R.locals) (ha : actW i lk st h = some (st2, x, y)) (hd : decode cc pc = .ok (i, lnI i len)) (hS : rS L st str)
    (k : ∀ (H1 : Heap) (locs1 : List Loc) (ws1 : va_W) (str2 : List Value), va_P D cl ws1 H1 → va_D A ws1 → va_S A s.heap H1 locs1 → rH cl ns L tys (h.set x y) ws1 → rS L st2 str2 → W p l e R s m args below meth c H1 locs1 cells slots Q (F0 m (pc + lnI i len) ls str2)) : W p l e R s m args below meth c H locs cells slots Q (F0 m pc ls str) := by
  unfold actW at ha
  split at ha
  · rename_i v x0 r
    obtain ⟨w, r1, rfl, hv, hS1⟩ := rS_V hS
    obtain ⟨a, r2, h1, rfl, hS2⟩ := rS_R hS1
    split at ha
    · rename_i ci fs hc
      split at ha
      · rename_i e0
        cases ha
        obtain ⟨e1, e2, e3⟩ := e0
        obtain ⟨a2, gs, g1, g2, g3, g4⟩ := rH_obj hH hc
        cases h1.symm.trans g1
        obtain ⟨C, T, N, ty, q1, q2, q3, q4, q5, q6, q7, q8⟩ := hok _ rfl
        rw [← e1] at q1
        obtain ⟨n1, n2⟩ := okV_ok e3 q8 hv
        have hl : lk.2.2.1 < gs.length := by rw [rS_len g3]; exact e2
        have hset := fun H1 locs1 (hP1 : va_P D cl (ws.set (_ - ns) (a, .inr (ci, gs.set lk.2.2.1 w))) H1) (hD1 : va_D A (ws.set (_ - ns) (a, .inr (ci, gs.set lk.2.2.1 w)))) (hS9 : va_S A s.heap H1 locs1) => k H1 locs1 _ r2 hP1 hD1 hS9 (rH_set hH g1 g4 ⟨_, rfl, rS_set g3 hv⟩) hS2
        rcases q7 with q7 | ⟨q7, q9, q10⟩
        · exact va_put hx hb hts q3 ty q5 q6 hown hK hP hD hSS _ g2 q1 _ q2 (hts _ q4) (fun _ z => z) q7 (q5 _ q2) n1 n2 hl hd hset
        · exact va_putF hx hb hts q3 ty q5 q6 hown hK hP hD hSS _ g2 q1 _ q2 (hts _ q4) (fun _ z => z) q7 q9 q10 (q5 _ q2) n1 n2 hl hd hset
      · cases ha
    · cases ha
  · obtain ⟨r0, rfl, hS0⟩ := rS_I hS
    obtain ⟨r1, rfl, hS1⟩ := rS_I hS0
    obtain ⟨a, r2, h1, rfl, hS2⟩ := rS_R hS1
    split at ha
    · rename_i t n f hc
      split at ha
      · rename_i e0
        cases ha
        obtain ⟨rfl, hin⟩ := e0
        obtain ⟨a2, cA, t0, b, g1, g2, g3, g4, g5⟩ := rH_arr hH hc (by decide)
        cases h1.symm.trans g1
        have g4 : b = _ := g4
        subst g4
        exact va_iast hx hb hK hP hD hSS _ t0 g2 g3 hin hd (fun H1 locs1 hP1 hD1 hS9 => k H1 locs1 _ r2 hP1 hD1 hS9 (rH_set hH g1 g5 ⟨cA, t0, _, g3, rfl, rfl, byA_no (by decide) (by decide)⟩) hS2)
      · cases ha
    · cases ha
  · obtain ⟨r0, rfl, hS0⟩ := rS_J hS
    obtain ⟨r1, rfl, hS1⟩ := rS_I hS0
    obtain ⟨a, r2, h1, rfl, hS2⟩ := rS_R hS1
    split at ha
    · rename_i t n f hc
      split at ha
      · rename_i e0
        cases ha
        obtain ⟨rfl, hin⟩ := e0
        obtain ⟨a2, cA, t0, b, g1, g2, g3, g4, g5⟩ := rH_arr hH hc (by decide)
        cases h1.symm.trans g1
        have g4 : b = _ := g4
        subst g4
        exact va_last hx hb hK hP hD hSS _ t0 g2 g3 hin hd (fun H1 locs1 hP1 hD1 hS9 => k H1 locs1 _ r2 hP1 hD1 hS9 (rH_set hH g1 g5 ⟨cA, t0, _, g3, rfl, rfl, byA_no (by decide) (by decide)⟩) hS2)
      · cases ha
    · cases ha
  · obtain ⟨r0, rfl, hS0⟩ := rS_F hS
    obtain ⟨r1, rfl, hS1⟩ := rS_I hS0
    obtain ⟨a, r2, h1, rfl, hS2⟩ := rS_R hS1
    split at ha
    · rename_i t n f hc
      split at ha
      · rename_i e0
        cases ha
        obtain ⟨rfl, hin⟩ := e0
        obtain ⟨a2, cA, t0, b, g1, g2, g3, g4, g5⟩ := rH_arr hH hc (by decide)
        cases h1.symm.trans g1
        have g4 : b = _ := g4
        subst g4
        exact va_fast hx hb hK hP hD hSS _ t0 g2 g3 hin hd (fun H1 locs1 hP1 hD1 hS9 => k H1 locs1 _ r2 hP1 hD1 hS9 (rH_set hH g1 g5 ⟨cA, t0, _, g3, rfl, rfl, byA_no (by decide) (by decide)⟩) hS2)
      · cases ha
    · cases ha
  · obtain ⟨r0, rfl, hS0⟩ := rS_D hS
    obtain ⟨r1, rfl, hS1⟩ := rS_I hS0
    obtain ⟨a, r2, h1, rfl, hS2⟩ := rS_R hS1
    split at ha
    · rename_i t n f hc
      split at ha
      · rename_i e0
        cases ha
        obtain ⟨rfl, hin⟩ := e0
        obtain ⟨a2, cA, t0, b, g1, g2, g3, g4, g5⟩ := rH_arr hH hc (by decide)
        cases h1.symm.trans g1
        have g4 : b = _ := g4
        subst g4
        exact va_dast hx hb hK hP hD hSS _ t0 g2 g3 hin hd (fun H1 locs1 hP1 hD1 hS9 => k H1 locs1 _ r2 hP1 hD1 hS9 (rH_set hH g1 g5 ⟨cA, t0, _, g3, rfl, rfl, byA_no (by decide) (by decide)⟩) hS2)
      · cases ha
    · cases ha
  · obtain ⟨r0, rfl, hS0⟩ := rS_I hS
    obtain ⟨r1, rfl, hS1⟩ := rS_I hS0
    obtain ⟨a, r2, h1, rfl, hS2⟩ := rS_R hS1
    split at ha
    · rename_i t n f hc
      split at ha
      · rename_i e0
        cases ha
        obtain ⟨rfl, hin⟩ := e0
        obtain ⟨a2, cA, t0, b, g1, g2, g3, g4, g5⟩ := rH_arr hH hc (by decide)
        cases h1.symm.trans g1
        have g4 : b = _ := g4
        subst g4
        exact va_bast hx hb hK hP hD hSS _ t0 g2 g3 hin hd (fun H1 locs1 hP1 hD1 hS9 => k H1 locs1 _ r2 hP1 hD1 hS9 (rH_set hH g1 g5 ⟨cA, t0, _, g3, rfl, rfl, byA_up (rH_by hH hc (by decide))⟩) hS2)
      · split at ha
        · rename_i e0
          cases ha
          obtain ⟨rfl, hin⟩ := e0
          obtain ⟨a2, cA, t0, b, g1, g2, g3, g4, g5⟩ := rH_arr hH hc (by decide)
          cases h1.symm.trans g1
          have g4 : b = _ := g4
          subst g4
          exact va_zast hx hb hK hP hD hSS _ t0 g2 g3 hin hd (fun H1 locs1 hP1 hD1 hS9 => k H1 locs1 _ r2 hP1 hD1 hS9 (rH_set hH g1 g5 ⟨cA, t0, _, g3, rfl, rfl, byA_no (by decide) (by decide)⟩) hS2)
        · cases ha
    · cases ha
  · obtain ⟨w, r0, z1, rfl, hS0⟩ := rS_R hS
    obtain ⟨r1, rfl, hS1⟩ := rS_I hS0
    obtain ⟨a, r2, h1, rfl, hS2⟩ := rS_R hS1
    split at ha
    · rename_i t n f ci vs hc hv
      split at ha
      · rename_i e0
        cases ha
        obtain ⟨⟨rfl, ht⟩, hin⟩ := e0
        obtain ⟨a2, cA, t0, b, g1, g2, g3, g4, g5⟩ := rH_arr hH hc (by omega)
        cases h1.symm.trans g1
        obtain ⟨g, rfl, gg⟩ := g4
        obtain ⟨b2, gs, f1, f2, f3, f4⟩ := rH_obj hH hv
        cases z1.symm.trans f1
        obtain ⟨r, hr, -⟩ := hP _ _ f2
        have hft : ftOf cl (ci + 8) = .object r.1 := by show FieldType.object _ = _; rw [hr]; rfl
        rw [hft] at g3
        obtain ⟨cellB, u1, u2, u3⟩ := va_recv hK hP hr f2
        exact vb_astq hx hb hK hP hD hSS _ t0 g2 g3 ⟨cellB, u1, u2, u3⟩ vb_asgS hin hd (fun H1 locs1 hP1 hD1 hS9 => k H1 locs1 _ r2 hP1 hD1 hS9 (rH_set hH g1 g5 ⟨cA, t0, _, by rw [hft]; exact g3, rfl, rA_up gg z1, byA_no (by omega) (by omega)⟩) hS2)
      · cases ha
    · rename_i t n f vs hc hv
      split at ha
      · rename_i e0
        cases ha
        obtain ⟨⟨rfl, ht⟩, hin⟩ := e0
        obtain ⟨a2, cA, t0, b, g1, g2, g3, g4, g5⟩ := rH_arr hH hc (by omega)
        cases h1.symm.trans g1
        obtain ⟨g, rfl, gg⟩ := g4
        obtain ⟨b2, f1, cellB, u1, u2, u3, u4⟩ := hO _ (by rw [← hok2 rfl]; exact ht)
        cases z1.symm.trans f1
        have hlt : w < s.heap.size := (Array.getElem?_eq_some_iff.mp u1).1
        exact vb_astq hx hb hK hP hD hSS _ t0 g2 g3 ⟨cellB, by rw [hSS.2.1 _ hlt u4]; exact u1, u2, u3⟩ vb_asgS hin hd (fun H1 locs1 hP1 hD1 hS9 => k H1 locs1 _ r2 hP1 hD1 hS9 (rH_set hH g1 g5 ⟨cA, t0, _, g3, rfl, rA_up gg z1, byA_no (by decide) (by decide)⟩) hS2)
      · cases ha
    · cases ha
  · obtain ⟨r0, rfl, hS0⟩ := rS_I hS
    obtain ⟨r1, rfl, hS1⟩ := rS_I hS0
    obtain ⟨a, r2, h1, rfl, hS2⟩ := rS_R hS1
    obtain ⟨r3, rfl, hS3⟩ := rS_I hS2
    obtain ⟨a0, r4, h2, rfl, hS4⟩ := rS_R hS3
    split at ha
    · rename_i t0 n0 f t n1 g hc0 hc
      split at ha
      · rename_i e0
        cases ha
        obtain ⟨⟨e1, rfl, e2, e3⟩, e4, e5, e6, e7, e8⟩ := e0
        obtain ⟨w1, w2, w3, w4⟩ := hok3 _ rfl e1
        obtain ⟨b0, cA0, j0, z0, g1, g2, g3, g4, g5⟩ := rH_arr hH hc0 (by omega)
        cases h2.symm.trans g1
        have g4 : z0 = _ := g4
        subst g4
        obtain ⟨b1, cA1, j1, z1, f1, f2, f3, f4, f5⟩ := rH_arr hH hc (by omega)
        cases h1.symm.trans f1
        have f4 : z1 = _ := f4
        subst f4
        have hb0 := rH_by hH hc0 (by omega)
        have hb1 := rH_by hH hc (by omega)
        have hty : refKind (ftOf cl t0) = false := by
          rcases Nat.le_one_iff_eq_zero_or_eq_one.mp e2 with rfl | rfl <;> rfl
        refine va_copyi hx hb hml hown (hts _ w1) (hts _ w2) (hts _ w3) (hts _ w4) hK hP hD hSS _ _ j0 j1 g2 f2 g3 f3 hty e4 e5 e6 e7 e8 (fun i hi => ?_) hRf ?_ hd (fun H1 locs1 hP1 hD1 hS9 => k H1 locs1 _ r4 hP1 hD1 hS9 (rH_set hH f1 f5 ⟨cA1, j1, _, f3, rfl, rfl, byA_cpy hb1 hb0⟩) hS4)
        · rcases Nat.le_one_iff_eq_zero_or_eq_one.mp e2 with rfl | rfl
          · rfl
          · exact hb0.2 rfl _
        · rw [← rS_cats hS4] at e3
          refine Nat.le_trans (Nat.add_le_add_right e3 _) (Nat.le_trans ?_ hRl)
          decide
      · cases ha
    · cases ha
  · cases ha
/-! what is made -/
def tgA : ArrayType → Nat
  | .int => 0
  | .byte => 1
  | .boolean => 2
  | .char => 3
  | .long => 4
  | .float => 5
  | .double => 6
  | .short => 900
def ctA : ArrayType → ((Nat → Int32) ⊕ (Nat → Int64) ⊕ (Nat → UInt32) ⊕ (Nat → UInt64) ⊕ (Nat → Option Nat))
  | .long => .inr (.inl fun _ => 0)
  | .float => .inr (.inr (.inl fun _ => 0))
  | .double => .inr (.inr (.inr (.inl fun _ => 0)))
  | _ => .inl fun _ => 0
/-- the stack behind, the new cell, how many slots it has -/
def actN (df : List (List Value)) (i : Instr) (lk : mK) (st : List Value) (h : mH) : Option (List Value × mE × Nat) := match i, st with
  | .new _, r => match df[lk.2.1]? with
    | some fs => some (.ref h.length :: r, .inr (lk.2.1, fs), fs.length)
    | none => none
  | .newarray at0, .int n :: r => if ¬ n < 0 ∧ n.toNatClampNeg ≤ 65536 ∧ tgA at0 < 900 then some (.ref h.length :: r, .inl (tgA at0, n.toNatClampNeg, ctA at0), n.toNatClampNeg) else none
  | .anewarray _, .int n :: r => if ¬ n < 0 ∧ n.toNatClampNeg ≤ 65536 ∧ lk.2.1 ≠ 999 then some (.ref h.length :: r, .inl (lk.2.1, n.toNatClampNeg, .inr (.inr (.inr (.inr fun _ => none)))), n.toNatClampNeg) else none
  | _, _ => none
def okNew (cl : List vw_C) (df : List (List Value)) (Ts : List Cond) (own : String) (idx ci : Nat) : Prop := ∃ (C : String) (T : u_T) (N : Nat) (ty : Nat → FieldType) (fs : List Value), cl[ci]? = some (C, T, N) ∧ df[ci]? = some fs ∧ fs.length = N ∧ (∀ w ∈ u_ws C T N, w ∈ Ts) ∧ (∀ k, k < N → parseFieldDescriptor (T k).2.2.1 = some (ty k)) ∧ (∀ j, j < N → defaultValue (ty j) = vp_V fs j) ∧ (∀ L : List Nat, rS L fs fs) ∧
  Cond.classLink own idx C ∈ Ts ∧ Cond.instantiable C N ∈ Ts ∧ Cond.initialized C ∈ Ts
def okArr (Ts : List Cond) (at0 : ArrayType) : Prop := Cond.arrayClass (newarray.typeOf at0) ∈ Ts
def okANew (cl : List vw_C) (Ts : List Cond) (ar : List String) (own : String) (idx t : Nat) : Prop := ∃ C, ftOf cl t = .object C ∧ C ∈ ar ∧ Cond.classLink own idx C ∈ Ts
theorem tgA_ft {cl : List vw_C} {at0 : ArrayType} (h : tgA at0 < 900) : ftOf cl (tgA at0) = newarray.typeOf at0 ∧ ∀ (cA : ClassId) (n : Nat), vp_cell cA (n, ctA at0) = arrV cA n (fun _ => defaultValue (newarray.typeOf at0)) := by
  cases at0 <;> first | exact ⟨rfl, fun _ _ => rfl⟩ | exact absurd h (by decide)
theorem rA_ct {L : List Nat} {n : Nat} (at0 : ArrayType) : rA L (n, ctA at0) (n, ctA at0) := by
  cases at0 <;> exact rfl
theorem byA_ct {n : Nat} {at0 : ArrayType} (h : tgA at0 < 900) : byA (tgA at0) (n, ctA at0) := by
  cases at0 <;> first | exact byA_no (by decide) (by decide) | exact ⟨by decide, fun _ _ => rfl⟩ | exact absurd h (by decide)
set_option maxHeartbeats 4000000 in
theorem actN_ok (hx : p.tables.exec = Jvm.exec) (hb : c.code = cc) (hts : ∀ w ∈ Ts, w.before args s = true) (hown : s.vm.findClass own = some m.cls) (hK : va_K D cl tys s) (hP : va_P D cl ws H) (hD : va_D A ws) (hSS : va_S A s.heap H locs) (hA : ∀ q, s.heap.size ≤ q → A q) {ar : List String} (har : ∀ C ∈ ar, va_AO C s) (hH : rH cl ns L tys h ws) {df : List (List Value)} {pc len n : Nat} {i : Instr} {lk : mK} {st str st2 : List Value} {y : mE}
    (hok1 : ∀ idx, i = .new idx → okNew cl df Ts own idx lk.2.1) (hok2 : ∀ at0, i = .newarray at0 → okArr Ts at0) (hok3 : ∀ idx, i = .anewarray idx → okANew cl Ts ar own idx lk.2.1) (ha : actN df i lk st h = some (st2, y, n)) (hc : cells + 1 ≤ R.cells) (hs : slots + n ≤ R.slots) (hd : decode cc pc = .ok (i, lnI i len)) (hS : rS L st str)
    (k : ∀ (H1 : Heap) (ws1 : va_W) (L1 : List Nat) (tys1 : List (ClassId × FieldType)) (str2 : List Value), L <+: L1 → va_K D cl tys1 s → va_P D cl ws1 H1 → va_D A ws1 → va_S A s.heap H1 locs → rH cl ns L1 tys1 (h ++ [y]) ws1 → rS L1 st2 str2 → W p l e R s m args below meth c H1 locs (cells + 1) (slots + n) Q (F0 m (pc + lnI i len) ls str2)) : W p l e R s m args below meth c H locs cells slots Q (F0 m pc ls str) := by
  have hlast : ∀ q : Nat, (L ++ [q])[h.length]? = some q := fun q => by rw [← hH.1]; simp
  unfold actN at ha
  split at ha
  · split at ha
    · rename_i fs hf
      cases ha
      obtain ⟨C, T, N, ty, fs', q1, q2, q3, q4, q5, q6, q7, q8, q9, q10⟩ := hok1 _ rfl
      cases hf.symm.trans q2
      subst q3
      refine va_new hx hb hts q4 ty q5 hown (hts _ q8) (hts _ q9) (hts _ q10) hK hP hD hSS hA q1 q6 hc hs hd (fun q H1 hP1 hD1 hS1 => ?_)
      exact k H1 _ (L ++ [q]) tys _ (List.prefix_append _ _) hK hP1 hD1 hS1 (rH_push hH (List.prefix_refl _) ⟨_, rfl, q7 _⟩) ⟨⟨q, hlast q, rfl⟩, rS_mono (List.prefix_append _ _) hS⟩
    · cases ha
  · rename_i at0 n0 r
    obtain ⟨r1, rfl, hS1⟩ := rS_I hS
    split at ha
    · rename_i e0
      cases ha
      obtain ⟨e1, e2, e3⟩ := e0
      obtain ⟨f1, f2⟩ := tgA_ft (cl := cl) e3
      have hby : n0.toNatClampNeg * componentBytes (newarray.typeOf at0) ≤ 536870912 := by
        have h8 : componentBytes (newarray.typeOf at0) ≤ 8 := by cases at0 <;> decide
        exact Nat.le_trans (Nat.mul_le_mul e2 h8) (by decide)
      refine va_newa hx hb (hts _ (hok2 _ rfl)) rfl hK hP hD hSS hA (fun cA => f2 cA _) e1 rfl hby hc hs hd (fun q cA H1 hK1 hP1 hD1 hS9 => ?_)
      refine k H1 _ (L ++ [q]) (tys ++ [(cA, newarray.typeOf at0)]) _ (List.prefix_append _ _) hK1 hP1 hD1 hS9 (rH_push hH (List.prefix_append _ _) ⟨cA, tys.length, _, ?_, rfl, rA_ct _, byA_ct e3⟩) ⟨⟨q, hlast q, rfl⟩, rS_mono (List.prefix_append _ _) hS1⟩
      rw [f1]; simp
    · cases ha
  · rename_i n0 r
    obtain ⟨r1, rfl, hS1⟩ := rS_I hS
    split at ha
    · rename_i e0
      cases ha
      obtain ⟨e1, e2, e4⟩ := e0
      obtain ⟨C, q1, q2, q3⟩ := hok3 _ rfl
      refine va_newq hx hb hown (hts _ q3) (har _ q2) hK hP hD hSS hA e1 rfl (Nat.le_trans (Nat.mul_le_mul_right 4 e2) (by decide)) hc hs hd (fun q cA H1 hK1 hP1 hD1 hS9 => ?_)
      refine k H1 _ (L ++ [q]) (tys ++ [(cA, .object C)]) _ (List.prefix_append _ _) hK1 hP1 hD1 hS9 (rH_push hH (List.prefix_append _ _) ⟨cA, tys.length, _, ?_, rfl, ⟨_, rfl, fun i => rfl⟩, byA_no (fun e9 => absurd e9 e4) (fun e9 => by rw [e9] at q1; cases q1)⟩) ⟨⟨q, hlast q, rfl⟩, rS_mono (List.prefix_append _ _) hS1⟩
      rw [q1]; simp
    · cases ha
  · cases ha
end MW
end
section
section MR
abbrev mPost : Type := Option Nat → Option Value → mH → Prop
/-- a method: its name, code, locals, answer, handlers; arguments (without the receiver), its class's number, room of a return, room of a throw; its rows; the exceptions that its handlers take -/
abbrev mM : Type := MethodName × ByteArray × Nat × Option FieldType × List (Nat × Nat × Nat × Nat) × (Nat × Nat × Nat × Nat × Nat × Nat) × List mR × List Nat
def dy (D : mM) : MethodName := D.1
def dcc (D : mM) : ByteArray := D.2.1
def dml (D : mM) : Nat := D.2.2.1
def drt (D : mM) : Option FieldType := D.2.2.2.1
def dhh (D : mM) : List (Nat × Nat × Nat × Nat) := D.2.2.2.2.1
def dna (D : mM) : Nat := D.2.2.2.2.2.1.1
def dci (D : mM) : Nat := D.2.2.2.2.2.1.2.1
def dkr (D : mM) : Nat := D.2.2.2.2.2.1.2.2.1
def dnr (D : mM) : Nat := D.2.2.2.2.2.1.2.2.2.1
def dkx (D : mM) : Nat := D.2.2.2.2.2.1.2.2.2.2.1
def dnx (D : mM) : Nat := D.2.2.2.2.2.1.2.2.2.2.2
def drw (D : mM) : List mR := D.2.2.2.2.2.2.1
def dhx (D : mM) : List Nat := D.2.2.2.2.2.2.2
def dR (d : Nat) (D : mM) : Room := { frames := d, cells := max (dkr D) (dkx D), slots := max (dnr D) (dnx D), locals := 42 * d }
def eNm : Nat → String
  | 0 => "java/lang/IllegalStateException"
  | 1 => "java/lang/IndexOutOfBoundsException"
  | _ => "java/lang/IllegalArgumentException"
def eSup : List String := ["java/lang/RuntimeException", "java/lang/Exception"]
def rowAt : List mR → Nat → Option (Instr × Nat × mK)
  | [], _ => none
  | r :: rs, pc => if r.1 = pc then some r.2 else rowAt rs pc
theorem rowAt_mem {pc : Nat} {q : Instr × Nat × mK} : ∀ {rs : List mR}, rowAt rs pc = some q → (pc, q) ∈ rs
  | [], h => by cases h
  | r :: rs, h => by
    unfold rowAt at h
    split at h
    next e0 => cases h; rw [← e0]; exact List.mem_cons_self
    next => exact List.mem_cons_of_mem _ (rowAt_mem h)
/-- constants of the pool, and what the library's own small methods answer -/
def actK (i : Instr) (lk : mK) (st : List Value) : Option (List Value) := match i, st with
  | .ldc _, r => if lk.1 = 0 then some (.int (Int32.ofInt lk.2.2.2) :: r) else if lk.1 = 1 then some (.float (UInt32.ofNat lk.2.1) :: r) else if lk.1 = 2 then some (.ref lk.2.1 :: r) else none
  | .getstatic _, r => if lk.1 = 3 then some (.int 1 :: r) else if lk.1 = 4 then some (.ref lk.2.1 :: r) else if lk.1 = 5 then some (.retAddr 0 :: r) else none
  | .ldc_w _, r => if lk.1 = 0 then some (.int (Int32.ofInt lk.2.2.2) :: r) else if lk.1 = 2 then some (.ref lk.2.1 :: r) else none
  | .invokespecial _, .ref _ :: r => if lk.1 = 9 ∧ (r.map fun v => v.category).sum ≤ 8 then some r else none
  | .invokestatic _, .int y :: .int x :: r => if (r.map fun v => v.category).sum ≤ 8 then (if lk.1 = 10 then some (.int (if y < x then y else x) :: r) else if lk.1 = 11 then some (.int (if x < y then y else x) :: r) else if lk.1 = 12 then some (.int (if 0 ≤ y then y else 0 - y) :: .int x :: r) else none) else none
  | .invokestatic _, .int y :: r => if (r.map fun v => v.category).sum ≤ 8 ∧ lk.1 = 12 then some (.int (if 0 ≤ y then y else 0 - y) :: r) else none
  | _, _ => none
/-- reads of the law's own script, which is there but not in the world: its number, its length, what it holds -/
abbrev mSc : Type := Option (Nat × Nat × (Nat → Int32))
def actX (sc : mSc) (i : Instr) (st : List Value) : Option (List Value) := match sc, i, st with
  | some (x0, n, f), .iaload, .int j :: .ref x :: r => if x = x0 ∧ ¬ (j < 0 ∨ n ≤ j.toNatClampNeg) then some (.int (f j.toNatClampNeg) :: r) else none
  | some (x0, n, _), .arraylength, .ref x :: r => if x = x0 then some (.int (Int32.ofNat n) :: r) else none
  | _, _, _ => none
/-- a step that calls no method: where it goes on, the locals, the stack, the cells, how many cells and slots it makes -/
def stp (sc : mSc) (df : List (List Value)) (nL : Nat) (pc : Nat) (i : Instr) (len : Nat) (lk : mK) (lv : mL) (st : List Value) (h : mH) : Option (Nat × mL × List Value × mH × Nat × Nat) :=
  match actC i pc lv st with
  | some q => some (q.1, q.2.1, q.2.2, h, 0, 0)
  | none => match actA i pc st with
    | some q => some (q.1, lv, q.2, h, 0, 0)
    | none => match actR i lk st h with
      | some q => some (pc + lnI i len, lv, q, h, 0, 0)
      | none => match actB i pc st with
        | some q => some (q.1, lv, q.2, h, 0, 0)
        | none => match actS nL i pc lv st with
          | some q => some (q.1, q.2.1, q.2.2, h, 0, 0)
          | none => match actW i lk st h with
            | some q => some (pc + lnI i len, lv, q.1, h.set q.2.1 q.2.2, 0, 0)
            | none => match actK i lk st with
              | some q => some (pc + lnI i len, lv, q, h, 0, 0)
              | none => match actX sc i st with
               | some q => some (pc + lnI i len, lv, q, h, 0, 0)
               | none => if lk.1 = 20 then none else match actN df i lk st h with
                | some q => some (pc + lnI i len, lv, q.1, h ++ [q.2.1], 1, q.2.2)
                | none => none
def popN : Nat → List Value → Option (List Value × List Value)
  | 0, st => some ([], st)
  | n + 1, v :: st => match popN n st with
    | some (a, r) => some (a ++ [v], r)
    | none => none
  | _ + 1, [] => none
/-- float arithmetic: what it comes to, but for the bits of a NaN -/
def flo (i : Instr) (st : List Value) : Option ((UInt32 ⊕ UInt64) × List Value) := match i, st with
  | .fadd, .float y :: .float x :: r => some (.inl (FP.fadd x y), r)
  | .fsub, .float y :: .float x :: r => some (.inl (FP.fsub x y), r)
  | .fmul, .float y :: .float x :: r => some (.inl (FP.fmul x y), r)
  | .fdiv, .float y :: .float x :: r => some (.inl (FP.fdiv x y), r)
  | .f2d, .float x :: r => some (.inr (FP.f2d x), r)
  | _, _ => none
/-- the handler that takes an exception thrown at pc -/
def hdl : List (Nat × Nat × Nat × Nat) → List Nat → Nat → Nat → Option Nat
  | q :: hs, x :: xs, pc, E => if q.1 ≤ pc ∧ pc < q.2.1 ∧ x = E then some q.2.2.1 else hdl hs xs pc E
  | _, _, _, _ => none
/-- what an end instruction answers -/
def fin (rt : Option FieldType) (i : Instr) (st : List Value) : Option (Option Value) := match i, st, rt with
  | .return_, [], none => some none
  | .ireturn, [.int v], some ty => if narrow ty (.int v) = .int v ∧ ty.isReference = false then some (some (.int v)) else none
  | .lreturn, [.long v], some .long => some (some (.long v))
  | .freturn, [.float v], some .float => some (some (.float v))
  | .areturn, [.ref k], some (.object _) => some (some (.ref k))
  | .areturn, [.null], some (.object _) => some (some .null)
  | _, _, _ => none
/-- where a call goes: the method's number, its arguments with the receiver, the stack below -/
def cal (mt : Nat → Option mM) (i : Instr) (lk : mK) (st : List Value) (h : mH) : Option (mM × List Value × List Value) :=
  if lk.1 = 1 then match mt lk.2.1 with
    | none => none
    | some D => match popN (dna D) st with
      | none => none
      | some (as, r) => match i with
        | .invokestatic _ => if (r.map fun v => v.category).sum ≤ 8 then some (D, as, r) else none
        | .invokespecial _ => match r with
          | .ref x :: r => if lk.2.2.1 = 1 then (match h[x]? with
              | some (.inr (ci, _)) => if (r.map fun v => v.category).sum ≤ 8 ∧ ci = dci D then some (D, .ref x :: as, r) else none
              | _ => none)
            else if (r.map fun v => v.category).sum ≤ 8 then some (D, .ref x :: as, r) else none
          | _ => none
        | .invokevirtual _ => match r with
          | .ref x :: r => match h[x]? with
            | some (.inr (ci, _)) => if (r.map fun v => v.category).sum ≤ 8 ∧ ci = dci D then some (D, .ref x :: as, r) else none
            | some (.inl (t, _, .inr (.inr (.inr (.inr _))))) => if (r.map fun v => v.category).sum ≤ 8 ∧ t = 999 ∧ lk.2.2.1 = 7 then some (D, .ref x :: as, r) else none
            | _ => none
          | _ => none
        | _ => none
  else none
/-- the same method, with a room of its own -/
def sameM (D2 D3 : mM) : Prop := dy D3 = dy D2 ∧ dna D3 = dna D2 ∧ dci D3 = dci D2 ∧ drt D3 = drt D2 ∧ dhh D3 = dhh D2
abbrev mCall : Type := Nat → List Value → mH → mPost → Prop
def run (sc : mSc) (df : List (List Value)) (mt : Nat → Option mM) (call : mCall) (D : mM) (d : Nat) : Nat → Nat → mL → List Value → mH → Nat → Nat → mPost → Prop
  | 0, _, _, _, _, _, _, _ => False
  | n + 1, pc, lv, st, h, uc, us, Post => match rowAt (drw D) pc with
    | none => False
    | some (i, len, lk) => match stp sc df (dml D) pc i len lk lv st h with
      | some (pc2, lv2, st2, h2, kc, ks) => (kc = 0 ∨ (uc + kc ≤ dkr D ∧ us + ks ≤ dnr D)) ∧ run sc df mt call D d n pc2 lv2 st2 h2 (uc + kc) (us + ks) Post
      | none => match fin (drt D) i st with
        | some v => uc ≤ dkr D ∧ us ≤ dnr D ∧ Post none v h
        | none => match flo i st with
         | some (.inl x, r) => ∀ z : UInt32, alike32 z x = true → run sc df mt call D d n (pc + 1) lv (.float z :: r) h uc us Post
         | some (.inr x, r) => ∀ z : UInt64, alike64 z x = true → run sc df mt call D d n (pc + 1) lv (.double z :: r) h uc us Post
         | none => match cal mt i lk st h with
          | some (D0, as, r) => ∃ (y2 : Nat) (D2 : mM), mt y2 = some D2 ∧ sameM D0 D2 ∧ uc + max (dkr D2) (dkx D2) ≤ max (dkr D) (dkx D) ∧ us + max (dnr D2) (dnx D2) ≤ max (dnr D) (dnx D) ∧
            call y2 as h (fun ex v h2 => match ex with
              | none => run sc df mt call D d n (pc + 3) lv (v.toList ++ r) h2 (uc + dkr D2) (us + dnr D2) Post
              | some E => match hdl (dhh D) (dhx D) pc E with
                | some hp => run sc df mt call D d n hp lv [.retAddr 0] h2 (uc + dkx D2) (us + dnx D2) Post
                | none => uc + dkx D2 ≤ dkx D ∧ us + dnx D2 ≤ dnx D ∧ Post (some E) none h2)
          | none => lk.1 = 20 ∧ lk.2.1 ≤ 2 ∧ st = [] ∧ dhh D = [] ∧ 5 ≤ d ∧ uc + 1 ≤ dkx D ∧ us + 6 ≤ dnx D ∧ Post (some lk.2.1) none h
def wpM (df : List (List Value)) (mt : Nat → Option mM) : Nat → mCall
  | 0, _, _, _, _ => False
  | d + 1, y, as, h, Post => match mt y with
    | none => False
    | some D => (as.map fun v => v.category).sum ≤ dml D ∧ run none df mt (wpM df mt d) D d (2 ^ 40) 0 (lv_args 0 as) [] h 0 0 Post
end MR
end
section
section MS
/-- the words that stay, though not by the tables' own rule -/
def ngW : List Cond := [.castable "java/lang/IllegalStateException" "java/lang/IllegalStateException", .castable "java/lang/IndexOutOfBoundsException" "java/lang/IndexOutOfBoundsException", .castable "java/lang/IllegalArgumentException" "java/lang/IllegalArgumentException", .declares (Bundle.initS "java/lang/RuntimeException"), .declares (Bundle.initS "java/lang/Exception"), .declares (Bundle.initS "java/lang/Throwable")]
theorem ngW_warm {s U : State} (hW : s.WarmedH U.vm) (h : ∀ w ∈ ngW, va_Nw w s) : ∀ w ∈ ngW, va_Nw w U := by
  intro w hw
  have h0 := h w hw
  simp only [ngW, List.mem_cons, List.not_mem_nil, or_false] at hw
  rcases hw with rfl | rfl | rfl | rfl | rfl | rfl
  · exact va_Nw.warmC hW h0
  · exact va_Nw.warmC hW h0
  · exact va_Nw.warmC hW h0
  · exact va_Nw.warmD hW h0
  · exact va_Nw.warmD hW h0
  · exact va_Nw.warmD hW h0
/-- the private constructors that nest mates call: who, by which entry, which, the nest's host -/
def ngN : List (String × Nat × MethodName × String) := [("VendingRoutes", 19, ⟨"VendingRoutes$Parser", "<init>", "()V"⟩, "VendingRoutes"), ("VendingRoutes$Parser", 11, ⟨"VendingRoutes$Scanner", "<init>", "()V"⟩, "VendingRoutes"), ("VendingRoutes", 26, ⟨"VendingRoutes$Planner", "<init>", "()V"⟩, "VendingRoutes"), ("VendingRoutes", 42, ⟨"VendingRoutes$Fleet", "<init>", "()V"⟩, "VendingRoutes"), ("VendingRoutes$Fleet", 29, ⟨"VendingRoutes$Rulebook", "<init>", "()V"⟩, "VendingRoutes"), ("VendingRoutes$Machine", 17, ⟨"VendingRoutes$Slot", "<init>", "()V"⟩, "VendingRoutes")]
/-- what a method finds beside the tables and the cells -/
def eV (A : Nat → Prop) (ns : Nat) (L : List Nat) (sx : List (String × Nat × String × Nat)) (ar : List String) (s : State) : Prop :=
  vx_Zq Bundle.tN "UNASSIGNED_STACK" Bundle.steD A s s.heap ∧ vx_Zq Bundle.tN "SUPPRESSED_SENTINEL" Bundle.listD A s s.heap ∧ (∀ C ∈ ar, va_AO C s) ∧ strO ns L A s ∧
  (∀ q ∈ sx, ∃ a, L[q.2.2.2]? = some a ∧ vk_R q.1 q.2.1 q.2.2.1 a s) ∧ (∀ w ∈ ngW, va_Nw w s) ∧ (∀ a b : Nat, a ≤ 2 → b ≤ 2 → a ≠ b → va_Nc (eNm a) (eNm b) s) ∧ va_Z "java/lang/String" "COMPACT_STRINGS" "Z" (.int 1) A s s.heap ∧ (∀ q ∈ ngN, va_Nw (.methodLinkNest q.1 q.2.1 q.2.2.1 q.2.2.2) s) ∧
  cstO A L s ∧ (∀ q ∈ stT, ∃ a, L[q.2]? = some a ∧ va_Z "java/lang/Integer" q.1 "[B" (.ref a) A s s.heap) ∧ va_Zq "jdk/internal/util/Preconditions" "SIOOBE_FORMATTER" "Ljava/util/function/BiFunction;" A s s.heap
theorem eV_mono {A : Nat → Prop} {ns : Nat} {L L1 : List Nat} {sx : List (String × Nat × String × Nat)} {ar : List String} {s : State} (hL : L <+: L1) (h : eV A ns L sx ar s) : eV A ns L1 sx ar s := by
  obtain ⟨h1, h2, h3, h4, h5, h6, h7, h8, h9, h10, h11, h12⟩ := h
  have up : ∀ {k a : Nat}, L[k]? = some a → L1[k]? = some a := fun z => by obtain ⟨t, rfl⟩ := hL; rw [List.getElem?_append_left (List.getElem?_eq_some_iff.mp z).1]; exact z
  exact ⟨h1, h2, h3, fun k hk => (h4 k hk).imp fun a z => ⟨up z.1, z.2⟩, fun q hq => (h5 q hq).imp fun a z => ⟨up z.1, z.2⟩, h6, h7, h8, h9, cstO_mono hL h10, fun q hq => (h11 q hq).imp fun a z => ⟨up z.1, z.2⟩, h12⟩
theorem eV_to {A : Nat → Prop} {ns : Nat} {L : List Nat} {sx : List (String × Nat × String × Nat)} {ar : List String} {s U : State} {locs : List Loc} (hW : s.WarmedH U.vm) (hS : va_S A s.heap U.heap locs) (h : eV A ns L sx ar s) : eV A ns L sx ar U := by
  obtain ⟨h1, h2, h3, h4, h5, h6, h7, h8, h9, h10, h11, h12⟩ := h
  have ha := hW.alike
  have hq : ∀ a : Nat, a < s.heap.size → ¬ A a → U.heap[a]? = s.heap[a]? := hS.2.1
  exact ⟨(h1.kept hq).moved ha, (h2.kept hq).moved ha, fun C hC => va_AO.moved ha (h3 C hC), fun k hk => (h4 k hk).imp fun a z => ⟨z.1, va_O.moved ha (z.2.kept hq)⟩, fun q hq => (h5 q hq).imp fun a z => ⟨z.1, vk_R.warm hW z.2⟩, ngW_warm hW h6, fun a b x y n => va_Nc.moved ha (h7 a b x y n), (h8.kept hq).moved ha, fun q hq => va_Nw.warmM hW (h9 q hq), cstO_to ha hq h10, fun q hq1 => (h11 q hq1).imp fun a z => ⟨z.1, (z.2.kept hq).moved ha⟩, (h12.kept hq).moved ha⟩
def sW (D : mM) (G : List Cond) : List Cond := cdW (dy D) (dcc D) (dml D) (drt D) (dhh D) :: G
def rOV (L : List Nat) (v w : Option Value) : Prop := match v with
  | none => w = none
  | some x => ∃ y, w = some y ∧ rV L x y
variable {l : Launch} {B : va_G} {cl : List vw_C} {ns n1 : Nat} {A : Nat → Prop} {df : List (List Value)} {G : List Cond} {ar : List String} {sx : List (String × Nat × String × Nat)} {mt : Nat → Option mM} {cs : List Choice}
/-- how the cells stand behind a method -/
def mAt (B : va_G) (cl : List vw_C) (ns : Nat) (A : Nat → Prop) (L : List Nat) (h : mH) (L2 : List Nat) (t : State) : Prop := ∃ tys ws, L <+: L2 ∧ va_K B cl tys t ∧ va_P B cl ws t.heap ∧ va_D A ws ∧ rH cl ns L2 tys h ws
def mQc (B : va_G) (cl : List vw_C) (ns : Nat) (A : Nat → Prop) (L : List Nat) (Post : mPost) : Array Value → State → Outcome → State → Prop := fun _ st o t =>
  (∃ (v vr : Option Value) (h2 : mH) (L2 : List Nat), o = .returned vr ∧ Post none v h2 ∧ rOV L2 v vr ∧ mAt B cl ns A L h2 L2 t) ∧ va_F A st t
def mXc (B : va_G) (cl : List vw_C) (ns : Nat) (A : Nat → Prop) (L : List Nat) (Post : mPost) : String → State → State → Prop := fun E st t =>
  (∃ (k : Nat) (h2 : mH) (L2 : List Nat), E = eNm k ∧ k ≤ 2 ∧ Post (some k) none h2 ∧ mAt B cl ns A L h2 L2 t) ∧ va_F A st t
def mPc (B : va_G) (cl : List vw_C) (n1 : Nat) (A : Nat → Prop) (sx : List (String × Nat × String × Nat)) (ar : List String) (L : List Nat) (tys : List (ClassId × FieldType)) (ws : va_W) (asr : List Value) : Array Value → State → Prop := fun v U =>
  v = asr.toArray ∧ va_K B cl tys U ∧ va_P B cl ws U.heap ∧ va_D A ws ∧ eV A n1 L sx ar U ∧ ∀ q, U.heap.size ≤ q → A q
theorem mPc_blind {L : List Nat} {tys : List (ClassId × FieldType)} {ws : va_W} {asr : List Value} : FrameBlind (mPc B cl n1 A sx ar L tys ws asr) := by
  intro a U g mk ⟨h1, h2, h3, h4, h5, h6⟩
  refine ⟨h1, va_K.moved (u := U) (U := U.calling g mk a) (Vm.Alike.refl U.vm) h2, h3, h4, ?_, h6⟩
  exact eV_to (s := U) (U := U.calling g mk a) (locs := []) (State.WarmedH.refl U) va_S.rf h5
/-- a contract by what the small machine says of a call -/
def mMet (cs : List Choice) (l : Launch) (B : va_G) (cl : List vw_C) (ns n1 : Nat) (A : Nat → Prop) (sx : List (String × Nat × String × Nat)) (ar : List String) (G : List Cond) (d : Nat) (D : mM) (as : List Value) (h : mH) (Post : mPost) : Prop :=
  ∀ (L : List Nat) (tys : List (ClassId × FieldType)) (ws : va_W) (asr : List Value), rS L as asr → rH cl ns L tys h ws → mx_Met cs l (dy D) (sW D G) (dR d D) (mPc B cl n1 A sx ar L tys ws asr) (mQc B cl ns A L Post) (mXc B cl ns A L Post) (dkr D) (dnr D) (dkx D) (dnx D) A
/-! what the rows of a method's table rest on -/
def okThr (G : List Cond) (sx : List (String × Nat × String × Nat)) (D : mM) (pc idx E : Nat) : Prop := ∃ (is ic : Nat) (tx : String) (sid : Nat),
  Cond.classLink (dy D).cls idx (eNm E) ∈ G ∧ Cond.initialized (eNm E) ∈ G ∧ ((dy D).cls, is, tx, sid) ∈ sx ∧ (∀ w ∈ (vx_atS (dy D).cls ic (eNm E) eSup).filter goodWord, w ∈ G) ∧ (∀ w ∈ (vx_atS (dy D).cls ic (eNm E) eSup).filter (fun w => !goodWord w), w ∈ ngW) ∧
  (∀ w ∈ Cond.classLink (dy D).cls idx (eNm E) :: Cond.initialized (eNm E) :: vx_atS (dy D).cls ic (eNm E) eSup, vx_ot w = true) ∧
  decode (dcc D) (pc + 3) = .ok (.dup, 1) ∧
  ((decode (dcc D) (pc + 4) = .ok (.ldc is, 2) ∧ decode (dcc D) (pc + 6) = .ok (.invokespecial ic, 3) ∧ decode (dcc D) (pc + 9) = .ok (.athrow, 1)) ∨
   (decode (dcc D) (pc + 4) = .ok (.ldc_w is, 3) ∧ decode (dcc D) (pc + 7) = .ok (.invokespecial ic, 3) ∧ decode (dcc D) (pc + 10) = .ok (.athrow, 1)))
def okRow (cl : List vw_C) (df : List (List Value)) (G : List Cond) (ar : List String) (sx : List (String × Nat × String × Nat)) (ns : Nat) (mt : Nat → Option mM) (D : mM) (r : mR) : Prop :=
  decode (dcc D) r.1 = .ok (r.2.1, lnI r.2.1 r.2.2.1) ∧ match r.2.1 with
  | .getfield idx => r.2.2.2.1 ≠ 20 ∧ okGK cl G (dy D).cls idx r.2.2.2
  | .putfield idx => r.2.2.2.1 ≠ 20 ∧ okPf cl G (dy D).cls ((dy D).name = "<init>") idx r.2.2.2.2.1 r.2.2.2.2.2.1 r.2.2.2.2.2.2
  | .aastore => r.2.2.2.1 ≠ 20 ∧ r.2.2.2.2.1 = ns
  | .new idx => (r.2.2.2.1 = 20 ∧ okThr G sx D r.1 idx r.2.2.2.2.1) ∨ (r.2.2.2.1 ≠ 20 ∧ okNew cl df G (dy D).cls idx r.2.2.2.2.1)
  | .newarray at0 => r.2.2.2.1 ≠ 20 ∧ okArr G at0
  | .anewarray idx => r.2.2.2.1 ≠ 20 ∧ okANew cl G ar (dy D).cls idx r.2.2.2.2.1
  | .ldc idx => r.2.2.2.1 ≠ 20 ∧ (r.2.2.2.1 = 0 → Cond.constant (dy D).cls idx (Int32.ofInt r.2.2.2.2.2.2) ∈ G) ∧ (r.2.2.2.1 = 1 → Cond.constantFloat (dy D).cls idx (UInt32.ofNat r.2.2.2.2.1) ∈ G) ∧ (r.2.2.2.1 = 2 → ∃ tx, ((dy D).cls, idx, tx, r.2.2.2.2.1) ∈ sx)
  | .ldc_w idx => r.2.2.2.1 ≠ 20 ∧ (r.2.2.2.1 = 0 → Cond.constant (dy D).cls idx (Int32.ofInt r.2.2.2.2.2.2) ∈ G) ∧ (r.2.2.2.1 = 2 → ∃ tx, ((dy D).cls, idx, tx, r.2.2.2.2.1) ∈ sx)
  | .getstatic idx => r.2.2.2.1 ≠ 20 ∧ (r.2.2.2.1 = 3 → Cond.fieldLink (dy D).cls idx "java/lang/String" "COMPACT_STRINGS" "Z" ∈ G) ∧ (r.2.2.2.1 = 4 → ∃ nm, (nm, r.2.2.2.2.1) ∈ stT ∧ Cond.fieldLink (dy D).cls idx "java/lang/Integer" nm "[B" ∈ G) ∧ (r.2.2.2.1 = 5 → Cond.fieldLink (dy D).cls idx "jdk/internal/util/Preconditions" "SIOOBE_FORMATTER" "Ljava/util/function/BiFunction;" ∈ G)
  | .invokespecial idx => r.2.2.2.1 ≠ 20 ∧ (r.2.2.2.1 = 9 → Cond.methodLink (dy D).cls idx Lib.objectInit ∈ G ∧ Cond.instanceMethod Lib.objectInit ∈ G ∧ Cond.code Lib.objectInit ⟨#[0xb1]⟩ 1 none ∈ G) ∧
    (r.2.2.2.1 = 1 → ∀ D2, mt r.2.2.2.2.1 = some D2 → Cond.instanceMethod (dy D2) ∈ G ∧
      ((r.2.2.2.2.2.1 = 1 ∧ (dy D2).name ≠ "<init>" ∧ Cond.methodLink (dy D).cls idx (dy D2) ∈ G ∧ Cond.sameMethod (dy D2).cls (dy D2).cls (dy D2).name (dy D2).desc ∈ G ∧ Cond.superclass (dy D).cls (dy D2).cls ∈ G) ∨
       ((dy D2).name = "<init>" ∧ drt D2 = none ∧ dhh D2 = [] ∧ (Cond.methodLink (dy D).cls idx (dy D2) ∈ G ∨ ∃ host, ((dy D).cls, idx, dy D2, host) ∈ ngN))))
  | .invokevirtual idx => r.2.2.2.1 ≠ 20 ∧ (r.2.2.2.1 = 1 → ∀ D2, mt r.2.2.2.2.1 = some D2 → ∃ C, Cond.methodLink (dy D).cls idx (dy D2) ∈ G ∧ Cond.instanceMethod (dy D2) ∈ G ∧ Cond.selects C (dy D2) (dy D2) ∈ G ∧ ((r.2.2.2.2.2.1 ≠ 7 ∧ (cl[dci D2]?.map fun r => r.1) = some C) ∨ (cl[dci D2]? = none ∧ C = "java/lang/String")))
  | .invokestatic idx => r.2.2.2.1 ≠ 20 ∧ (r.2.2.2.1 = 1 → ∀ D2, mt r.2.2.2.2.1 = some D2 → Cond.methodLink (dy D).cls idx (dy D2) ∈ G ∧ Cond.static (dy D2) ∈ G) ∧
    (r.2.2.2.1 = 10 → Cond.methodLink (dy D).cls idx Lib.Math.min.name ∈ G ∧ Cond.static Lib.Math.min.name ∈ G ∧ Cond.initialized "java/lang/Math" ∈ G ∧ Cond.code Lib.Math.min.name Lib.Math.min.code 2 (some .int) ∈ G) ∧
    (r.2.2.2.1 = 11 → Cond.methodLink (dy D).cls idx Lib.Math.max.name ∈ G ∧ Cond.static Lib.Math.max.name ∈ G ∧ Cond.initialized "java/lang/Math" ∈ G ∧ Cond.code Lib.Math.max.name Lib.Math.max.code 2 (some .int) ∈ G) ∧
    (r.2.2.2.1 = 12 → Cond.methodLink (dy D).cls idx Lib.Math.abs.name ∈ G ∧ Cond.static Lib.Math.abs.name ∈ G ∧ Cond.initialized "java/lang/Math" ∈ G ∧ Cond.code Lib.Math.abs.name Lib.Math.abs.code 1 (some .int) ∈ G) ∧
    (r.2.2.2.1 = 16 → okCopy G (dy D).cls idx)
  | _ => r.2.2.2.1 ≠ 20
def okHs (G : List Cond) (own : String) : List (Nat × Nat × Nat × Nat) → List Nat → Prop
  | q :: hs, x :: xs => q.2.2.2 ≠ 0 ∧ Cond.classLink own q.2.2.2 (eNm x) ∈ G ∧ x ≤ 2 ∧ okHs G own hs xs
  | [], [] => True
  | _, _ => False
def okD (cl : List vw_C) (df : List (List Value)) (G : List Cond) (ar : List String) (sx : List (String × Nat × String × Nat)) (ns : Nat) (mt : Nat → Option mM) (D : mM) : Prop :=
  plainName (dy D).cls = true ∧ cdW (dy D) (dcc D) (dml D) (drt D) (dhh D) ∈ G ∧ Cond.initialized (dy D).cls ∈ G ∧ ((dy D).cls ≠ "java/lang/invoke/MethodHandle" ∧ (dy D).cls ≠ "java/lang/invoke/VarHandle") ∧
  (parseMethodDescriptor (dy D).desc).map (fun d => d.parameters.length) = some (dna D) ∧ dml D ≤ 23 ∧ okHs G (dy D).cls (dhh D) (dhx D) ∧ ∀ r ∈ drw D, okRow cl df G ar sx ns mt D r
theorem popN_spec {L : List Nat} : ∀ {n : Nat} {st as r str : List Value}, popN n st = some (as, r) → rS L st str → ∃ asr rr, str = asr.reverse ++ rr ∧ rS L as asr ∧ rS L r rr ∧ asr.length = n
  | 0, st, as, r, str, h, hS => by cases h; exact ⟨[], str, rfl, trivial, hS, rfl⟩
  | n + 1, [], as, r, str, h, hS => by cases h
  | n + 1, v :: st, as, r, str, h, hS => by
    unfold popN at h
    split at h
    next a r' hp =>
      cases h
      obtain ⟨w, str', rfl, hv, hS1⟩ := rS_V hS
      obtain ⟨asr, rr, rfl, h1, h2, h3⟩ := popN_spec hp hS1
      exact ⟨asr ++ [w], rr, by simp, rS_app h1 ⟨hv, trivial⟩, h2, by simp [h3]⟩
    next => cases h
theorem lg_sl_len : ∀ vs : List Value, (lg_sl vs).length = (vs.map fun v => v.category).sum
  | [] => rfl
  | v :: vs => by
    have := lg_sl_len vs
    unfold lg_sl at this ⊢
    rw [List.flatMap_cons, List.length_append, this, List.map_cons, List.sum_cons]
    rcases lv_cat v with h | h <;> simp [h]
theorem hdl_some {G : List Cond} {own : String} {pc E hp : Nat} : ∀ {hs : List (Nat × Nat × Nat × Nat)} {xs : List Nat}, okHs G own hs xs → hdl hs xs pc E = some hp →
    ∃ pre q suf, hs = pre ++ q :: suf ∧ (q.1 ≤ pc ∧ pc < q.2.1) ∧ q.2.2.1 = hp ∧ q.2.2.2 ≠ 0 ∧ Cond.classLink own q.2.2.2 (eNm E) ∈ G ∧ ∀ z ∈ pre, ¬ (z.1 ≤ pc ∧ pc < z.2.1) ∨ (z.2.2.2 ≠ 0 ∧ ∃ x, x ≤ 2 ∧ E ≠ x ∧ Cond.classLink own z.2.2.2 (eNm x) ∈ G)
  | [], [], _, h => by cases h
  | q :: hs, x :: xs, hok, h => by
    unfold hdl at h
    split at h
    next hc =>
      cases h
      obtain ⟨h1, h2, rfl⟩ := hc
      exact ⟨[], q, hs, rfl, ⟨h1, h2⟩, rfl, hok.1, hok.2.1, fun z hz => absurd hz List.not_mem_nil⟩
    next hc =>
      obtain ⟨pre, q', suf, rfl, h2, h3, h4, h5, h6⟩ := hdl_some hok.2.2.2 h
      refine ⟨q :: pre, q', suf, rfl, h2, h3, h4, h5, fun z hz => ?_⟩
      rcases List.mem_cons.mp hz with rfl | hz
      · by_cases hcv : z.1 ≤ pc ∧ pc < z.2.1
        · exact Or.inr ⟨hok.1, x, hok.2.2.1, fun e0 => hc ⟨hcv.1, hcv.2, e0.symm⟩, hok.2.1⟩
        · exact Or.inl hcv
      · exact h6 z hz
  | [], _ :: _, hok, _ => hok.elim
  | _ :: _, [], hok, _ => hok.elim
theorem hdl_none {G : List Cond} {own : String} {pc E : Nat} : ∀ {hs : List (Nat × Nat × Nat × Nat)} {xs : List Nat}, okHs G own hs xs → hdl hs xs pc E = none →
    ∀ z ∈ hs, ¬ (z.1 ≤ pc ∧ pc < z.2.1) ∨ (z.2.2.2 ≠ 0 ∧ ∃ x, x ≤ 2 ∧ E ≠ x ∧ Cond.classLink own z.2.2.2 (eNm x) ∈ G)
  | [], [], _, _ => fun z hz => absurd hz List.not_mem_nil
  | q :: hs, x :: xs, hok, h => by
    unfold hdl at h
    split at h
    next hc => cases h
    next hc =>
      intro z hz
      rcases List.mem_cons.mp hz with rfl | hz
      · by_cases hcv : z.1 ≤ pc ∧ pc < z.2.1
        · exact Or.inr ⟨hok.1, x, hok.2.2.1, fun e0 => hc ⟨hcv.1, hcv.2, e0.symm⟩, hok.2.1⟩
        · exact Or.inl hcv
      · exact hdl_none hok.2.2.2 h z hz
  | [], _ :: _, hok, _ => hok.elim
  | _ :: _, [], hok, _ => hok.elim
theorem covers_no {x : ExceptionTableEntry} {pc : Nat} (h : ¬ (x.startPc ≤ pc ∧ pc < x.endPc)) : covers x pc = false := by
  cases hc : covers x pc with
  | false => rfl
  | true =>
    simp only [covers, Bool.and_eq_true, decide_eq_true_eq] at hc
    exact absurd hc h
end MS
end
section
section MT
theorem row20 {cl : List vw_C} {df : List (List Value)} {G : List Cond} {ar : List String} {sx : List (String × Nat × String × Nat)} {ns : Nat} {mt : Nat → Option mM} {D : mM} {pc len : Nat} {i : Instr} {lk : mK} (h : okRow cl df G ar sx ns mt D (pc, i, len, lk)) (h20 : lk.1 = 20) : ∃ idx, i = .new idx ∧ okThr G sx D pc idx lk.2.1 := by
  obtain ⟨-, h⟩ := h
  cases i <;> first
    | exact absurd h20 h
    | exact absurd h20 h.1
    | (rename_i idx; rcases h with h | h
       · exact ⟨idx, rfl, h.2⟩
       · exact absurd h20 h.1)
theorem rowG {cl : List vw_C} {df : List (List Value)} {G : List Cond} {ar : List String} {sx : List (String × Nat × String × Nat)} {ns : Nat} {mt : Nat → Option mM} {D : mM} {pc len : Nat} {i : Instr} {lk : mK} (h : okRow cl df G ar sx ns mt D (pc, i, len, lk)) : ∀ idx, i = .getfield idx → okGK cl G (dy D).cls idx lk := fun _ e => by subst e; exact h.2.2
theorem rowP {cl : List vw_C} {df : List (List Value)} {G : List Cond} {ar : List String} {sx : List (String × Nat × String × Nat)} {ns : Nat} {mt : Nat → Option mM} {D : mM} {pc len : Nat} {i : Instr} {lk : mK} (h : okRow cl df G ar sx ns mt D (pc, i, len, lk)) : ∀ idx, i = .putfield idx → okPf cl G (dy D).cls ((dy D).name = "<init>") idx lk.2.1 lk.2.2.1 lk.2.2.2 := fun _ e => by subst e; exact h.2.2
theorem rowA {cl : List vw_C} {df : List (List Value)} {G : List Cond} {ar : List String} {sx : List (String × Nat × String × Nat)} {ns : Nat} {mt : Nat → Option mM} {D : mM} {pc len : Nat} {i : Instr} {lk : mK} (h : okRow cl df G ar sx ns mt D (pc, i, len, lk)) : i = .aastore → lk.2.1 = ns := fun e => by subst e; exact h.2.2
theorem rowN {cl : List vw_C} {df : List (List Value)} {G : List Cond} {ar : List String} {sx : List (String × Nat × String × Nat)} {ns : Nat} {mt : Nat → Option mM} {D : mM} {pc len : Nat} {i : Instr} {lk : mK} (h : okRow cl df G ar sx ns mt D (pc, i, len, lk)) (h20 : ¬ lk.1 = 20) : ∀ idx, i = .new idx → okNew cl df G (dy D).cls idx lk.2.1 := fun _ e => by
  subst e
  rcases h.2 with h | h
  · exact absurd h.1 h20
  · exact h.2
theorem rowNa {cl : List vw_C} {df : List (List Value)} {G : List Cond} {ar : List String} {sx : List (String × Nat × String × Nat)} {ns : Nat} {mt : Nat → Option mM} {D : mM} {pc len : Nat} {i : Instr} {lk : mK} (h : okRow cl df G ar sx ns mt D (pc, i, len, lk)) : ∀ at0, i = .newarray at0 → okArr G at0 := fun _ e => by subst e; exact h.2.2
theorem rowNq {cl : List vw_C} {df : List (List Value)} {G : List Cond} {ar : List String} {sx : List (String × Nat × String × Nat)} {ns : Nat} {mt : Nat → Option mM} {D : mM} {pc len : Nat} {i : Instr} {lk : mK} (h : okRow cl df G ar sx ns mt D (pc, i, len, lk)) : ∀ idx, i = .anewarray idx → okANew cl G ar (dy D).cls idx lk.2.1 := fun _ e => by subst e; exact h.2.2
theorem rowC {cl : List vw_C} {df : List (List Value)} {G : List Cond} {ar : List String} {sx : List (String × Nat × String × Nat)} {ns : Nat} {mt : Nat → Option mM} {D : mM} {pc len : Nat} {i : Instr} {lk : mK} (h : okRow cl df G ar sx ns mt D (pc, i, len, lk)) : ∀ idx, i = .invokestatic idx → lk.1 = 16 → okCopy G (dy D).cls idx := fun _ e => by subst e; exact h.2.2.2.2.2.2
theorem va_ldcSW {p : Program} {l : Launch} {e : Env} {R : Room} {s : State} {m : MethodId} {args : Array Value} {below : List Frame} {meth : Method} {c : Code} {H : Heap} {locs : List Loc} {cells slots : Nat} {Q : State → Prop} {cc : ByteArray} {pc : Nat} {ls : Array Slot} {rest : List Value} (hexec : p.tables.exec = Jvm.exec) (hb : c.code = cc) {own tx : String} {index q : Nat} (hown : s.vm.findClass own = some m.cls) (hZ : vk_R own index tx q s) (hdg : decode cc pc = .ok (.ldc_w index, 3))
    (k : W p l e R s m args below meth c H locs cells slots Q (F0 m (pc + 3) ls (.ref q :: rest))) : W p l e R s m args below meth c H locs cells slots Q (F0 m pc ls rest) := by
  intro T hT X
  obtain ⟨t, a1, b1⟩ := k T hT X
  exact ⟨t, X.ldcStringW hexec hown (text := tx) (a := q) hZ.1 hZ.2 (g := F0 m pc ls rest) rfl (by rw [hb]; exact hdg) t a1, b1⟩
theorem cal_spec {mt : Nat → Option mM} {i : Instr} {lk : mK} {st as r : List Value} {h : mH} {D2 : mM} (hc : cal mt i lk st h = some (D2, as, r)) : lk.1 = 1 ∧ mt lk.2.1 = some D2 ∧ (r.map fun v => v.category).sum ≤ 8 ∧ ∃ as0 r0, popN (dna D2) st = some (as0, r0) ∧
    ((∃ idx, i = .invokestatic idx ∧ as = as0 ∧ r0 = r) ∨ (∃ idx x, i = .invokespecial idx ∧ as = .ref x :: as0 ∧ r0 = .ref x :: r ∧ (lk.2.2.1 = 1 → ∃ fs, h[x]? = some (.inr (dci D2, fs)))) ∨ (∃ idx x fs, i = .invokevirtual idx ∧ as = .ref x :: as0 ∧ r0 = .ref x :: r ∧ h[x]? = some (.inr (dci D2, fs))) ∨ (∃ idx x n f, i = .invokevirtual idx ∧ as = .ref x :: as0 ∧ r0 = .ref x :: r ∧ h[x]? = some (.inl (999, n, .inr (.inr (.inr (.inr f))))) ∧ lk.2.2.1 = 7)) := by
  unfold cal at hc
  split at hc
  · rename_i h1
    split at hc
    · cases hc
    · rename_i D' hD'
      split at hc
      · cases hc
      · rename_i as0 r0 hp
        split at hc
        · rename_i idx
          split at hc
          · rename_i h2
            cases hc
            exact ⟨h1, hD', h2, _, _, hp, Or.inl ⟨_, rfl, rfl, rfl⟩⟩
          · cases hc
        · split at hc
          · split at hc
            · split at hc
              · rename_i hx
                split at hc
                · rename_i h2
                  cases hc
                  obtain ⟨h2, rfl⟩ := h2
                  exact ⟨h1, hD', h2, _, _, hp, Or.inr (Or.inl ⟨_, _, rfl, rfl, rfl, fun _ => ⟨_, hx⟩⟩)⟩
                · cases hc
              · cases hc
            · rename_i h3
              split at hc
              · rename_i h2
                cases hc
                exact ⟨h1, hD', h2, _, _, hp, Or.inr (Or.inl ⟨_, _, rfl, rfl, rfl, fun h4 => absurd h4 h3⟩)⟩
              · cases hc
          · cases hc
        · split at hc
          · split at hc
            · rename_i hx
              split at hc
              · rename_i h2
                cases hc
                obtain ⟨h2, rfl⟩ := h2
                exact ⟨h1, hD', h2, _, _, hp, Or.inr (Or.inr (Or.inl ⟨_, _, _, rfl, rfl, rfl, hx⟩))⟩
              · cases hc
            · rename_i hx
              split at hc
              · rename_i h2
                cases hc
                obtain ⟨h2, rfl, h3⟩ := h2
                exact ⟨h1, hD', h2, _, _, hp, Or.inr (Or.inr (Or.inr ⟨_, _, _, _, rfl, rfl, rfl, hx, h3⟩))⟩
              · cases hc
            · cases hc
          · cases hc
        · cases hc
  · cases hc
theorem good_sW {cl : List vw_C} {df : List (List Value)} {G : List Cond} {ar : List String} {sx : List (String × Nat × String × Nat)} {ns : Nat} {mt : Nat → Option mM} {D : mM} (hG : ∀ w ∈ G, goodWord w = true) (h : okD cl df G ar sx ns mt D) : GoodIn G (sW D G) := fun w hw => (List.mem_cons.mp hw).elim (fun e => by rw [e]; exact ⟨h.2.1, good_of_word (hG _ h.2.1)⟩) (fun h => ⟨h, good_of_word (hG _ h)⟩)
theorem castE {s : State} (h : ∀ w ∈ ngW, va_Nw w s) {args : Array Value} : ∀ k : Nat, k ≤ 2 → (Cond.castable (eNm k) (eNm k)).before args s = true
  | 0, _ => va_Nw.use rfl (h _ List.mem_cons_self)
  | 1, _ => va_Nw.use rfl (h _ (List.mem_cons_of_mem _ List.mem_cons_self))
  | 2, _ => va_Nw.use rfl (h _ (List.mem_cons_of_mem _ (List.mem_cons_of_mem _ List.mem_cons_self)))
  | n + 3, h => absurd h (by omega)
theorem ngW_use {s : State} (h : ∀ w ∈ ngW, va_Nw w s) {args : Array Value} : ∀ w ∈ ngW, w.before args s = true := by
  intro w hw
  have h0 := h w hw
  simp only [ngW, List.mem_cons, List.not_mem_nil, or_false] at hw
  rcases hw with rfl | rfl | rfl | rfl | rfl | rfl <;> exact va_Nw.use rfl h0
variable {l : Launch} {B : va_G} {cl : List vw_C} {ns n1 : Nat} {A : Nat → Prop} {df : List (List Value)} {G : List Cond} {ar : List String} {sx : List (String × Nat × String × Nat)} {mt : Nat → Option mM} {cs : List Choice}
set_option maxHeartbeats 8000000 in
theorem run_ok {sc : mSc} {R : Room} (hn : nanBits ∈ cs) (hl : l.stackTraces = false) (hG : ∀ w ∈ G, goodWord w = true) (hmt : ∀ y D, mt y = some D → okD cl df G ar sx n1 mt D) {call : mCall} {d : Nat}
    (hcall : ∀ y as h Post D2, mt y = some D2 → call y as h Post → mMet cs l B cl ns n1 A sx ar G d D2 as h Post) {D : mM} (hD7 : okHs G (dy D).cls (dhh D) (dhx D)) (hD8 : ∀ r ∈ drw D, okRow cl df G ar sx n1 mt D r)
    {p : Program} {e : Env} {s : State} {m : MethodId} {args : Array Value} {below : List Frame} {meth : Method} {c : Code} {L0 : List Nat}
    (hx : p.tables.exec = Jvm.exec) (hb : c.code = dcc D) (hml : c.maxLocals = dml D) (hown : s.vm.findClass (dy D).cls = some m.cls) (hts : ∀ w ∈ G, w.before args s = true) (hr : meth.sig.returnType = drt D) (hlocks : meth.locks = false) (htab : c.exceptionTable.toList = tableOf (dhh D)) (hin : meth.name = (dy D).name)
    (hEV : eV A n1 L0 sx ar s) (hA : ∀ q, s.heap.size ≤ q → A q) (hSC : ∀ x n f, sc = some (x, n, f) → ∃ b, L0[x]? = some b ∧ va_X b n f s s.heap ∧ b < s.heap.size ∧ ¬ A b) (hRF : d + 1 ≤ R.frames) (hRL : 42 * (d + 1) ≤ R.locals) (hRC : max (dkr D) (dkx D) ≤ R.cells) (hRS : max (dnr D) (dnx D) ≤ R.slots) : ∀ (n pc : Nat) (lv : mL) (st : List Value) (h : mH) (uc us : Nat) (Post : mPost), run sc df mt call D d n pc lv st h uc us Post →
    uc ≤ R.cells → us ≤ R.slots → ∀ (d0 : Drawn) (ls : Array Slot) (lvr : mL) (str : List Value) (H : Heap) (locs : List Loc) (L : List Nat) (tys : List (ClassId × FieldType)) (ws : va_W), s.drawn.sameBut d0 cs → lv_has ls (dml D) lvr → rL L lv lvr → rS L st str → rH cl ns L tys h ws → va_K B cl tys s → va_P B cl ws H → va_D A ws → va_S A s.heap H locs → L0 <+: L →
    W p l e R (s.setDrawn d0) m args below meth c H locs uc us (mx_MQ cs below (mQc B cl ns A L0 Post) (mXc B cl ns A L0 Post) args s (dkr D) (dnr D) (dkx D) (dnx D) A) (F0 m pc ls str) := by
  intro n
  induction n with
  | zero => intro pc lv st h uc us Post hrun; exact hrun.elim
  | succ n ih =>
    intro pc lv st h uc us Post hrun hu1 hu2 d0 ls lvr str H locs L tys ws hd0 hl0 hL hS hH hK hP hDD hSS hpre
    have hts' : ∀ w ∈ G, w.before args (s.setDrawn d0) = true := dr_words hts d0
    have hown' : (s.setDrawn d0).vm.findClass (dy D).cls = some m.cls := hown
    have hK' : va_K B cl tys (s.setDrawn d0) := hK
    have hEVs : eV A n1 L sx ar (s.setDrawn d0) := eV_mono hpre (eV_to (s := s) (U := s.setDrawn d0) (locs := []) (State.WarmedH.refl s) va_S.rf hEV)
    have hlocsA : ∀ q ∈ locs, A q.base := hSS.2.2
    unfold run at hrun
    split at hrun
    · exact hrun.elim
    · rename_i i len lk hrow
      have hokr := hD8 _ (rowAt_mem hrow)
      have hdec : decode (dcc D) pc = .ok (i, lnI i len) := hokr.1
      split at hrun
      · rename_i pc2 lv2 st2 h2 kc ks hs
        obtain ⟨hbud, hrun⟩ := hrun
        unfold stp at hs
        split at hs
        · rename_i q hq
          cases hs
          exact actC_ok hx hb (pc2 := q.1) (lv2 := q.2.1) (st2 := q.2.2) hq hdec hl0 hL hS (fun lvr2 ls2 str2 a1 a2 a3 => ih _ _ _ _ _ _ _ hrun hu1 hu2 d0 ls2 lvr2 str2 H locs L tys ws hd0 a1 a2 a3 hH hK hP hDD hSS hpre)
        · split at hs
          · rename_i q hq
            cases hs
            exact actA_ok hx hb (pc2 := q.1) (st2 := q.2) hq hdec hS (fun str2 a3 => ih _ _ _ _ _ _ _ hrun hu1 hu2 d0 ls lvr str2 H locs L tys ws hd0 hl0 hL a3 hH hK hP hDD hSS hpre)
          · split at hs
            · rename_i q hq
              cases hs
              exact actR_ok (s := s.setDrawn d0) hx hb hts' hown' hK' hP hH hEVs.2.2.2.2.2.2.2.2.2.1 hSS (rowG hokr) hq hdec hS (fun str2 a3 => ih _ _ _ _ _ _ _ hrun hu1 hu2 d0 ls lvr str2 H locs L tys ws hd0 hl0 hL a3 hH hK hP hDD hSS hpre)
            · split at hs
              · rename_i q hq
                cases hs
                exact actB_ok hx hb (pc2 := q.1) (st2 := q.2) hq hdec hS (fun str2 a3 => ih _ _ _ _ _ _ _ hrun hu1 hu2 d0 ls lvr str2 H locs L tys ws hd0 hl0 hL a3 hH hK hP hDD hSS hpre)
              · split at hs
                · rename_i q hq
                  cases hs
                  exact actS_ok hx hb (pc2 := q.1) (lv2 := q.2.1) (st2 := q.2.2) hq hdec hl0 hL hS (fun lvr2 ls2 str2 a1 a2 a3 => ih _ _ _ _ _ _ _ hrun hu1 hu2 d0 ls2 lvr2 str2 H locs L tys ws hd0 a1 a2 a3 hH hK hP hDD hSS hpre)
                · split at hs
                  · rename_i q hq
                    cases hs
                    exact actW_ok (st2 := q.1) (x := q.2.1) (y := q.2.2) hx hb hts' hown' hK' hP hDD hSS hEVs.2.2.2.1 hH (fun idx e0 => by rw [hin]; exact rowP hokr idx e0) (rowA hokr) (rowC hokr) (hml.trans hl0.1.symm) (by omega) (by omega) hq hdec hS (fun H1 locs1 ws1 str2 b1 b2 b3 b4 b5 => ih _ _ _ _ _ _ _ hrun hu1 hu2 d0 ls lvr str2 H1 locs1 L tys ws1 hd0 hl0 hL b5 b4 hK b1 b2 b3 hpre)
                  · split at hs
                    · rename_i q hq
                      cases hs
                      have go : ∀ str2, rS L st2 str2 → W p l e R (s.setDrawn d0) m args below meth c H locs uc us (mx_MQ cs below (mQc B cl ns A L0 Post) (mXc B cl ns A L0 Post) args s (dkr D) (dnr D) (dkx D) (dnx D) A) (F0 m (pc + lnI i len) ls str2) := fun str2 a3 => ih _ _ _ _ _ _ _ hrun hu1 hu2 d0 ls lvr str2 H locs L tys ws hd0 hl0 hL a3 hH hK hP hDD hSS hpre
                      have hRf : 1 ≤ R.frames := by omega
                      have hRl : ∀ z, z ≤ 8 → z + 13 ≤ R.locals := fun z hz => by omega
                      have hsz : c.maxLocals = ls.size := by rw [hml]; exact hl0.1.symm
                      unfold actK at hq
                      split at hq
                      · have hrw := hokr.2
                        dsimp only at hrw
                        split at hq
                        · rename_i z0
                          cases hq
                          exact lv_ldc hx hb hown' (hts' _ (hrw.2.1 z0)) hdec (go _ ⟨rfl, hS⟩)
                        · split at hq
                          · rename_i z0
                            cases hq
                            exact lv_ldcf hx hb hown' (hts' _ (hrw.2.2.1 z0)) hdec (go _ ⟨rfl, hS⟩)
                          · split at hq
                            · rename_i z0
                              cases hq
                              obtain ⟨tx, hrw⟩ := hrw.2.2.2 z0
                              obtain ⟨a, g1, g2⟩ := hEVs.2.2.2.2.1 _ hrw
                              exact va_ldcS hx hb hown' g2 hdec (go _ ⟨⟨a, g1, rfl⟩, hS⟩)
                            · cases hq
                      · have hrw := hokr.2
                        dsimp only at hrw
                        split at hq
                        · rename_i z0
                          cases hq
                          exact va_gets (s := s.setDrawn d0) hx hb hEVs.2.2.2.2.2.2.2.1 hSS hown' (hts' _ (hrw.2.1 z0)) (fun _ z => z) hdec (go _ ⟨rfl, hS⟩)
                        · split at hq
                          · rename_i z0
                            cases hq
                            obtain ⟨nm, w1, w2⟩ := hrw.2.2.1 z0
                            obtain ⟨a, g1, g2⟩ := hEVs.2.2.2.2.2.2.2.2.2.2.1 _ w1
                            exact va_gets (s := s.setDrawn d0) hx hb g2 hSS hown' (hts' _ w2) (fun _ z => z) hdec (go _ ⟨⟨a, g1, rfl⟩, hS⟩)
                          · split at hq
                            · rename_i z0
                              cases hq
                              rcases hEVs.2.2.2.2.2.2.2.2.2.2.2 with g2 | ⟨a, g2⟩
                              · exact va_gets (s := s.setDrawn d0) hx hb g2 hSS hown' (hts' _ (hrw.2.2.2 z0)) (fun _ z => z) hdec (go _ ⟨⟨none, rfl⟩, hS⟩)
                              · exact va_gets (s := s.setDrawn d0) hx hb g2 hSS hown' (hts' _ (hrw.2.2.2 z0)) (fun _ z => z) hdec (go _ ⟨⟨some a, rfl⟩, hS⟩)
                            · cases hq
                      · have hrw := hokr.2
                        dsimp only at hrw
                        split at hq
                        · rename_i z0
                          cases hq
                          exact lv_ldcw hx hb hown' (hts' _ (hrw.2.1 z0)) hdec (go _ ⟨rfl, hS⟩)
                        · split at hq
                          · rename_i z0
                            cases hq
                            obtain ⟨tx, hrw⟩ := hrw.2.2 z0
                            obtain ⟨a, g1, g2⟩ := hEVs.2.2.2.2.1 _ hrw
                            exact va_ldcSW hx hb hown' g2 hdec (go _ ⟨⟨a, g1, rfl⟩, hS⟩)
                          · cases hq
                      · have hrw := hokr.2
                        dsimp only at hrw
                        obtain ⟨a, r1, g1, rfl, hS1⟩ := rS_R hS
                        split at hq
                        · rename_i z0
                          cases hq
                          obtain ⟨w1, w2, w3⟩ := hrw.2.1 z0.1
                          · refine W.objInit hx hb hown' (hts' _ w1) (hts' _ w2) (hts' _ w3) (g := F0 m pc ls (.ref a :: r1)) rfl (hl0.1.trans hml.symm) rfl hdec hRf ?_ (go _ hS1)
                            have z2 := z0.2
                            rw [← rS_cats hS1] at z2
                            have z3 := lv_room (m := m) (pc := pc) (ls := ls) (rest := Value.ref a :: r1) z2
                            omega
                        · cases hq
                      · have hrw := hokr.2
                        dsimp only at hrw
                        obtain ⟨r1, rfl, hS1⟩ := rS_I hS
                        obtain ⟨r2, rfl, hS2⟩ := rS_I hS1
                        split at hq
                        · rename_i z0
                          rw [← rS_cats hS2] at z0
                          split at hq
                          · rename_i z1
                            cases hq
                            obtain ⟨w1, w2, w3, w4⟩ := hrw.2.2.1 z1
                            exact va_mmin hx hb hsz hown' (hts' _ w1) (hts' _ w2) (hts' _ w3) (hts' _ w4) hRf (hRl _ z0) hu1 hu2 hdec (go _ ⟨rfl, hS2⟩)
                          · split at hq
                            · rename_i z1
                              cases hq
                              obtain ⟨w1, w2, w3, w4⟩ := hrw.2.2.2.1 z1
                              exact va_mmax hx hb hsz hown' (hts' _ w1) (hts' _ w2) (hts' _ w3) (hts' _ w4) hRf (hRl _ z0) hu1 hu2 hdec (go _ ⟨rfl, hS2⟩)
                            · split at hq
                              · rename_i z1
                                cases hq
                                obtain ⟨w1, w2, w3, w4⟩ := hrw.2.2.2.2.1 z1
                                · refine va_mabs hx hb hsz hown' (hts' _ w1) (hts' _ w2) (hts' _ w3) (hts' _ w4) hRf ?_ hu1 hu2 hdec (go _ ⟨rfl, rfl, hS2⟩)
                                  have h9 : ∀ z : Int32, ((Value.int z :: r2).map fun v => v.category).sum = 1 + (r2.map fun v => v.category).sum := fun _ => rfl
                                  rw [h9]
                                  omega
                              · cases hq
                        · cases hq
                      · have hrw := hokr.2
                        dsimp only at hrw
                        obtain ⟨r1, rfl, hS1⟩ := rS_I hS
                        split at hq
                        · rename_i z0
                          obtain ⟨z0, z9⟩ := z0
                          rw [← rS_cats hS1] at z0
                          cases hq
                          obtain ⟨w1, w2, w3, w4⟩ := hrw.2.2.2.2.1 z9
                          exact va_mabs hx hb hsz hown' (hts' _ w1) (hts' _ w2) (hts' _ w3) (hts' _ w4) hRf (hRl _ z0) hu1 hu2 hdec (go _ ⟨rfl, hS1⟩)
                        · cases hq
                      · cases hq
                    · split at hs
                      · rename_i q hq
                        cases hs
                        unfold actX at hq
                        split at hq
                        · rename_i x0 n0 f0 j x r
                          obtain ⟨r1, rfl, hS1⟩ := rS_I hS
                          obtain ⟨a, r2, g1, rfl, hS2⟩ := rS_R hS1
                          split at hq
                          · rename_i z0
                            cases hq
                            obtain ⟨rfl, hvin⟩ := z0
                            obtain ⟨b, f1, f2, f3, f4⟩ := hSC _ _ _ rfl
                            have f1 := (show ∀ k : Nat, L0[k]? = some b → L[k]? = some b from fun k f1 => by obtain ⟨t9, rfl⟩ := hpre; rw [List.getElem?_append_left (List.getElem?_eq_some_iff.mp f1).1]; exact f1) _ f1
                            cases g1.symm.trans f1
                            exact va_sld (s := s.setDrawn d0) hx hb f2 f3 f4 hSS hvin hdec (ih _ _ _ _ _ _ _ hrun hu1 hu2 d0 ls lvr _ H locs L tys ws hd0 hl0 hL ⟨rfl, hS2⟩ hH hK hP hDD hSS hpre)
                          · cases hq
                        · rename_i x0 n0 f0 x r
                          obtain ⟨a, r2, g1, rfl, hS2⟩ := rS_R hS
                          split at hq
                          · rename_i z0
                            cases hq
                            subst z0
                            obtain ⟨b, f1, f2, f3, f4⟩ := hSC _ _ _ rfl
                            have f1 := (show ∀ k : Nat, L0[k]? = some b → L[k]? = some b from fun k f1 => by obtain ⟨t9, rfl⟩ := hpre; rw [List.getElem?_append_left (List.getElem?_eq_some_iff.mp f1).1]; exact f1) _ f1
                            cases g1.symm.trans f1
                            exact va_slen (s := s.setDrawn d0) hx hb f2 f3 f4 hSS hdec (ih _ _ _ _ _ _ _ hrun hu1 hu2 d0 ls lvr _ H locs L tys ws hd0 hl0 hL ⟨rfl, hS2⟩ hH hK hP hDD hSS hpre)
                          · cases hq
                        · cases hq
                      · split at hs
                        · cases hs
                        · rename_i h20
                          split at hs
                          · rename_i q hq
                            cases hs
                            have hbud : uc + 1 ≤ dkr D ∧ us + q.2.2 ≤ dnr D := hbud.resolve_left (by decide)
                            exact actN_ok (st2 := q.1) (y := q.2.1) (n := q.2.2) hx hb hts' hown' hK' hP hDD hSS hA hEVs.2.2.1 hH (rowN hokr h20) (rowNa hokr) (rowNq hokr) hq (Nat.le_trans hbud.1 (Nat.le_trans (Nat.le_max_left _ _) hRC)) (Nat.le_trans hbud.2 (Nat.le_trans (Nat.le_max_left _ _) hRS)) hdec hS
                              (fun H1 ws1 L1 tys1 str2 b1 b2 b3 b4 b5 b6 b7 => ih _ _ _ _ _ _ _ hrun (Nat.le_trans hbud.1 (Nat.le_trans (Nat.le_max_left _ _) hRC)) (Nat.le_trans hbud.2 (Nat.le_trans (Nat.le_max_left _ _) hRS)) d0 ls lvr str2 H1 locs L1 tys1 ws1 hd0 hl0 (rL_mono b1 hL) b7 b6 b2 b3 b4 b5 (hpre.trans b1))
                          · cases hs
      · split at hrun
        · rename_i v hf
          obtain ⟨hk1, hk2, hpost⟩ := hrun
          have hAt : ∀ t : State, t.heap = H → (s.setDrawn d0).WarmedH t.vm → mAt B cl ns A L0 h L t := fun t ht hW => ⟨tys, ws, hpre, va_K.moved hW.alike hK', by rw [ht]; exact hP, hDD, hH⟩
          have hF : ∀ t : State, t.heap = H → va_F A (s.setDrawn d0) t := fun t ht => va_S.F (s := s.setDrawn d0) hSS ht
          unfold fin at hf
          split at hf
          · rename_i hrt
            cases hf
            obtain rfl := rS_nil hS
            exact mx_end hd0 hk1 hk2 (W.vret hx hb (hr.trans (by assumption)) (fun t ht hW => ⟨⟨none, none, h, L, rfl, hpost, rfl, hAt t ht hW⟩, hF t ht⟩) hlocsA hdec hlocks)
          · rename_i z ty hrt
            split at hf
            · rename_i hc
              cases hf
              obtain ⟨r1, rfl, hS1⟩ := rS_I hS
              obtain rfl := rS_nil hS1
              exact mx_end hd0 hk1 hk2 (W.zret hx hb (hr.trans (by assumption)) hc.1 (fun t ht hW => ⟨⟨_, _, h, L, rfl, hpost, ⟨_, rfl, rfl⟩, hAt t ht hW⟩, hF t ht⟩) hlocsA hdec hlocks)
            · cases hf
          · rename_i z hrt
            cases hf
            obtain ⟨r1, rfl, hS1⟩ := rS_J hS
            obtain rfl := rS_nil hS1
            exact mx_end hd0 hk1 hk2 (W.lret hx hb (hr.trans (by assumption)) (fun t ht hW => ⟨⟨_, _, h, L, rfl, hpost, ⟨_, rfl, rfl⟩, hAt t ht hW⟩, hF t ht⟩) hlocsA hdec hlocks)
          · rename_i z hrt
            cases hf
            obtain ⟨r1, rfl, hS1⟩ := rS_F hS
            obtain rfl := rS_nil hS1
            exact mx_end hd0 hk1 hk2 (W.fret hx hb (hr.trans (by assumption)) (fun t ht hW => ⟨⟨_, _, h, L, rfl, hpost, ⟨_, rfl, rfl⟩, hAt t ht hW⟩, hF t ht⟩) hlocsA hdec hlocks)
          · rename_i z ty hrt
            cases hf
            obtain ⟨a, r1, ha, rfl, hS1⟩ := rS_R hS
            obtain rfl := rS_nil hS1
            exact mx_end hd0 hk1 hk2 (W.aret hx hb (hr.trans (by assumption)) (Or.inl ⟨_, rfl⟩) (Or.inr ⟨_, rfl⟩) (fun t ht hW => ⟨⟨_, _, h, L, rfl, hpost, ⟨_, rfl, ⟨a, ha, rfl⟩⟩, hAt t ht hW⟩, hF t ht⟩) hlocsA hdec hlocks)
          · rename_i ty hrt
            cases hf
            obtain ⟨r1, rfl, hS1⟩ := rS_N hS
            obtain rfl := rS_nil hS1
            exact mx_end hd0 hk1 hk2 (W.aret hx hb (hr.trans (by assumption)) (Or.inl ⟨_, rfl⟩) (Or.inl rfl) (fun t ht hW => ⟨⟨_, _, h, L, rfl, hpost, ⟨_, rfl, rfl⟩, hAt t ht hW⟩, hF t ht⟩) hlocsA hdec hlocks)
          · cases hf
        · split at hrun
          · rename_i x r hf
            unfold flo at hf
            split at hf
            · cases hf
              obtain ⟨r1, rfl, hS1⟩ := rS_F hS
              obtain ⟨r2, rfl, hS2⟩ := rS_F hS1
              exact lv_fadd_any hd0 hn hx hb hdec (fun z d1 hal hd1 => ih _ _ _ _ _ _ _ (hrun z hal) hu1 hu2 d1 ls lvr _ H locs L tys ws hd1 hl0 hL ⟨rfl, hS2⟩ hH hK hP hDD hSS hpre)
            · cases hf
              obtain ⟨r1, rfl, hS1⟩ := rS_F hS
              obtain ⟨r2, rfl, hS2⟩ := rS_F hS1
              exact lv_fsub_any hd0 hn hx hb hdec (fun z d1 hal hd1 => ih _ _ _ _ _ _ _ (hrun z hal) hu1 hu2 d1 ls lvr _ H locs L tys ws hd1 hl0 hL ⟨rfl, hS2⟩ hH hK hP hDD hSS hpre)
            · cases hf
              obtain ⟨r1, rfl, hS1⟩ := rS_F hS
              obtain ⟨r2, rfl, hS2⟩ := rS_F hS1
              exact lv_fmul_any hd0 hn hx hb hdec (fun z d1 hal hd1 => ih _ _ _ _ _ _ _ (hrun z hal) hu1 hu2 d1 ls lvr _ H locs L tys ws hd1 hl0 hL ⟨rfl, hS2⟩ hH hK hP hDD hSS hpre)
            · cases hf
              obtain ⟨r1, rfl, hS1⟩ := rS_F hS
              obtain ⟨r2, rfl, hS2⟩ := rS_F hS1
              exact lv_fdiv_any hd0 hn hx hb hdec (fun z d1 hal hd1 => ih _ _ _ _ _ _ _ (hrun z hal) hu1 hu2 d1 ls lvr _ H locs L tys ws hd1 hl0 hL ⟨rfl, hS2⟩ hH hK hP hDD hSS hpre)
            · cases hf
            · cases hf
          · rename_i x r hf
            unfold flo at hf
            split at hf
            · cases hf
            · cases hf
            · cases hf
            · cases hf
            · cases hf
              obtain ⟨r1, rfl, hS1⟩ := rS_F hS
              exact lv_f2d_any hd0 hn hx hb hdec (fun z d1 hal hd1 => ih _ _ _ _ _ _ _ (hrun z hal) hu1 hu2 d1 ls lvr _ H locs L tys ws hd1 hl0 hL ⟨rfl, hS1⟩ hH hK hP hDD hSS hpre)
            · cases hf
          · split at hrun
            · rename_i D0 as r hc
              obtain ⟨y2, D2, hmt3, ⟨s1, s2, s3, s4, s5⟩, hb1, hb2, hcl⟩ := hrun
              obtain ⟨hk1, hmt2, hsum, as0, r0, hpop, hkind⟩ := cal_spec hc
              rw [← s2] at hpop
              rw [← s3] at hkind
              have hD2' := hmt _ _ hmt3
              obtain ⟨e1, e2, e3, e4, e5, e6, e7, e8⟩ := id hD2'
              obtain ⟨as0r, rr0, rfl, ha1, ha2, ha3⟩ := popN_spec hpop hS
              obtain ⟨P1, hP1, hcl⟩ : ∃ P1 : mPost, (∀ (ex : Option Nat) (v : Option Value) (h2 : mH), P1 ex v h2 → (match ex with
                | none => run sc df mt call D d n (pc + 3) lv (v.toList ++ r) h2 (uc + dkr D2) (us + dnr D2) Post
                | some E => match hdl (dhh D) (dhx D) pc E with
                  | some hp => run sc df mt call D d n hp lv [.retAddr 0] h2 (uc + dkx D2) (us + dnx D2) Post
                  | none => uc + dkx D2 ≤ dkx D ∧ us + dnx D2 ≤ dnx D ∧ Post (some E) none h2)) ∧ call y2 as h P1 := ⟨_, fun _ _ _ z => z, hcl⟩
              have on : ∀ (asF rr : List Value), rS L as asF → rS L r rr → mx_Met cs l (dy D2) (sW D2 G) (dR d D2) (mPc B cl n1 A sx ar L tys ws asF) (mQc B cl ns A L P1) (mXc B cl ns A L P1) (dkr D2) (dnr D2) (dkx D2) (dnx D2) A ∧
                  mx_On cs p l e R (s.setDrawn d0) m args below meth c H locs uc us (dkr D2) (dnr D2) (dkx D2) (dnx D2) A s.heap (mx_MQ cs below (mQc B cl ns A L0 Post) (mXc B cl ns A L0 Post) args s (dkr D) (dnr D) (dkx D) (dnx D) A) pc ls rr (mQc B cl ns A L P1 asF.toArray) (mXc B cl ns A L P1) := by
                intro asF rr hasF hrr
                refine ⟨hcall _ _ _ _ _ hmt3 hcl L tys ws asF hasF hH, ?_, ?_⟩
                · intro v st₀ t locs1 d1 hd1 hal hQ hS1
                  obtain ⟨⟨v', vr, h2, L2, hv0, hp, hrv, tys2, ws2, hL2, hK2, hP2, hD2a, hH2⟩, hF⟩ := hQ
                  cases hv0
                  have hp := hP1 _ _ _ hp
                  refine ih _ _ _ _ _ _ _ hp (by omega) (by omega) d1 ls lvr _ t.heap locs1 L2 tys2 ws2 (Drawn.sameBut.trans hd0 hd1) hl0 (rL_mono hL2 hL) ?_ hH2 (va_K.moved hal.symm hK2) hP2 hD2a hS1 (hpre.trans hL2)
                  cases v' with
                  | none => have hrv : v = none := hrv; subst hrv; exact rS_mono hL2 hrr
                  | some x => obtain ⟨y, rfl, hy⟩ := hrv; exact ⟨hy, rS_mono hL2 hrr⟩
                · intro E ce q st₀ t locs1 d1 hd1 hal hX hS1 hce hcv hcle
                  obtain ⟨⟨k, h2, L2, rfl, hk, hp, tys2, ws2, hL2, hK2, hP2, hD2a, hH2⟩, hF⟩ := hX
                  have hEV1 : ∀ w ∈ ngW, va_Nw w (s.setDrawn d1) := ngW_warm (s := s) (U := s.setDrawn d1) (State.WarmedH.refl s) hEV.2.2.2.2.2.1
                  have hNc : ∀ a b : Nat, a ≤ 2 → b ≤ 2 → a ≠ b → va_Nc (eNm a) (eNm b) (s.setDrawn d1) := fun a b x y n => va_Nc.moved (u := s) (U := s.setDrawn d1) (Vm.Alike.refl s.vm) (hEV.2.2.2.2.2.2.1 a b x y n)
                  have hts1 : ∀ w ∈ G, w.before args (s.setDrawn d1) = true := dr_words hts d1
                  have hcl1 : (s.setDrawn d1).vm.findClass (eNm k) = some ce.cls := hcle
                  have hown1 : (s.setDrawn d1).vm.findClass (dy D).cls = some m.cls := hown
                  show vx_W p l e R (s.setDrawn d1) m args below meth c t.heap locs1 (uc + dkx D2) (us + dnx D2) _ (F0 m pc ls rr) q
                  have hp := hP1 _ _ _ hp
                  dsimp only at hp
                  split at hp
                  · rename_i hpc hh
                    obtain ⟨pre, q0, suf, f1, f2, f3, f4, f5, f6⟩ := hdl_some hD7 hh
                    refine vx_catch (own := (dy D).cls) (name := eNm k) hown1 (tableOf pre) ⟨q0.1, q0.2.1, q0.2.2.1, q0.2.2.2⟩ (tableOf suf) (by rw [htab, f1]; simp [tableOf]) ?_ (by simp [covers, f2.1, f2.2]) f4 (hts1 _ f5) (castE hEV1 k hk) hce hcv hcl1 ?_
                    · intro z hz
                      obtain ⟨z', hz', rfl⟩ := List.mem_map.mp hz
                      rcases f6 z' hz' with g | ⟨g1, x, g2, g3, g4⟩
                      · exact Or.inl (covers_no g)
                      · exact Or.inr ⟨g1, eNm x, hts1 _ g4, hNc k x hk g2 g3⟩
                    · show W p l e R (s.setDrawn d1) m args below meth c t.heap locs1 (uc + dkx D2) (us + dnx D2) _ (F0 m q0.2.2.1 ls [.ref q])
                      rw [f3]
                      exact ih _ _ _ _ _ _ _ hp (by omega) (by omega) d1 ls lvr _ t.heap locs1 L2 tys2 ws2 (Drawn.sameBut.trans hd0 hd1) hl0 (rL_mono hL2 hL) ⟨⟨some q, rfl⟩, trivial⟩ hH2 (va_K.moved hal.symm hK2) hP2 hD2a hS1 (hpre.trans hL2)
                  · rename_i hh
                    obtain ⟨u1, u2, hp⟩ := hp
                    have f6 := hdl_none hD7 hh
                    refine mx_outX (Drawn.sameBut.trans hd0 hd1) (vx_outP (own := (dy D).cls) hown1 hlocks ?_ hce hcv hcl1 (fun t' ht' hW' => ⟨⟨k, h2, L2, rfl, hk, hp, tys2, ws2, hpre.trans hL2, va_K.moved hW' (va_K.moved (U := s.setDrawn d1) hal.symm hK2), by rw [ht']; exact hP2, hD2a, hH2⟩, va_S.F (s := s.setDrawn d1) hS1 ht'⟩) hS1.2.2 u1 u2)
                    intro z hz
                    rw [htab] at hz
                    obtain ⟨z', hz', rfl⟩ := List.mem_map.mp hz
                    rcases f6 z' hz' with g | ⟨g1, x, g2, g3, g4⟩
                    · exact Or.inl (covers_no g)
                    · exact Or.inr ⟨g1, eNm x, hts1 _ g4, hNc k x hk g2 g3⟩
              have hlo : 8 + (dml D2 + 11) + (dR d D2).locals ≤ R.locals := by show 8 + (dml D2 + 11) + 42 * d ≤ R.locals; omega
              have hPc : ∀ asF : List Value, ∀ U : State, U.heap = H → (s.setDrawn d0).WarmedH U.vm → mPc B cl n1 A sx ar L tys ws asF asF.toArray U := fun asF U hU hW => ⟨rfl, va_K.moved hW.alike hK', by rw [hU]; exact hP, hDD, eV_to hW (by rw [hU]; exact hSS) hEVs, fun q hq => hA q (Nat.le_trans hSS.1 (by rw [← hU]; exact hq))⟩
              have hsz : ls.size = c.maxLocals := hl0.1.trans hml.symm
              have hcW : (cdW (dy D2) (dcc D2) (dml D2) (drt D2) (dhh D2)).before args (s.setDrawn d0) = true := hts' _ e2
              rcases hkind with ⟨idx, rfl, rfl, rfl⟩ | ⟨idx, x, rfl, rfl, rfl, hxs⟩ | ⟨idx, x, fs, rfl, rfl, rfl, hxo⟩ | ⟨idx, x, n9, f9, rfl, rfl, rfl, hxo, h79⟩
              · have hrw := hokr.2
                dsimp only at hrw
                · obtain ⟨w1, w2⟩ := hrw.2.1 hk1 _ hmt2
                  rw [← s1] at w1 w2
                  obtain ⟨hM, hon⟩ := on _ _ ha1 ha2
                  exact mx_go hM mPc_blind hRF hlo (pay_in hts' (good_sW hG hD2')) List.mem_cons_self (hts' _ e3) (hPc _) (Nat.le_trans hb1 hRC) (Nat.le_trans hb2 hRS) hsz (by rw [rS_cats ha2]; exact hsum) (by rw [hb]; exact hdec) hSS (fun _ _ _ z => z.2) (fun _ _ _ z => z.2) hon
                    (mx_goS hx hown' (hts' _ w1) (hts' _ w2) (hts' _ e3) hcW e4 e5 ha3 (by rw [hb]; exact hdec))
              · have hrw := hokr.2
                dsimp only at hrw
                obtain ⟨a, rr, g1, rfl, ha4⟩ := rS_R ha2
                · obtain ⟨w4, w9⟩ := hrw.2.2 hk1 _ hmt2
                  rw [← s1, ← s4, ← s5] at w9
                  rw [← s1] at w4
                  obtain ⟨hM, hon⟩ := on (.ref a :: as0r) rr ⟨⟨a, g1, rfl⟩, ha1⟩ ha4
                  rcases w9 with ⟨t1, w0, w1, w2, w3⟩ | ⟨w0, w1, w2, w3⟩
                  · obtain ⟨fs, hxo⟩ := hxs t1
                    obtain ⟨a2, gs, f1, f2, f3, f4⟩ := rH_obj hH hxo
                    cases g1.symm.trans f1
                    obtain ⟨r9, hr9, -⟩ := hP _ _ f2
                    have hr9 : cl[dci D2]? = some r9 := hr9
                    obtain ⟨cellB, u1, u2, u3⟩ := va_recv hK' hP hr9 f2
                    obtain ⟨hfc, kB, hkB, -⟩ := (hK'.1 _ _ hr9).2
                    rw [Option.some.inj (hfc.symm.trans u3)] at hkB
                    exact mx_go hM mPc_blind hRF hlo (pay_in hts' (good_sW hG hD2')) List.mem_cons_self (hts' _ e3) (hPc _) (Nat.le_trans hb1 hRC) (Nat.le_trans hb2 hRS) hsz (by rw [rS_cats ha4]; exact hsum) (by rw [hb]; exact hdec) hSS (fun _ _ _ z => z.2) (fun _ _ _ z => z.2) hon
                      (mx_goSU hx hown' w0 (hts' _ w1) (hts' _ w2) (hts' _ w3) (hts' _ w4) hcW u1 u2 hkB e5 ha3 (by rw [hb]; exact hdec))
                  rw [w1, w2] at hcW
                  rcases w3 with w3 | ⟨host, w3⟩
                  · exact mx_go hM mPc_blind hRF hlo (pay_in hts' (good_sW hG hD2')) List.mem_cons_self (hts' _ e3) (hPc _) (Nat.le_trans hb1 hRC) (Nat.le_trans hb2 hRS) hsz (by rw [rS_cats ha4]; exact hsum) (by rw [hb]; exact hdec) hSS (fun _ _ _ z => z.2) (fun _ _ _ z => z.2) hon
                      (mx_goI hx hown' w0 (hts' _ w3) (hts' _ w4) hcW e4 e5 ha3 (by rw [hb]; exact hdec))
                  · exact mx_go hM mPc_blind hRF hlo (pay_in hts' (good_sW hG hD2')) List.mem_cons_self (hts' _ e3) (hPc _) (Nat.le_trans hb1 hRC) (Nat.le_trans hb2 hRS) hsz (by rw [rS_cats ha4]; exact hsum) (by rw [hb]; exact hdec) hSS (fun _ _ _ z => z.2) (fun _ _ _ z => z.2) hon
                      (mx_goIN hx hown' w0 (va_Nw.use rfl (hEVs.2.2.2.2.2.2.2.2.1 _ w3)) (hts' _ w4) hcW e4 e5 ha3 (by rw [hb]; exact hdec))
              · have hrw := hokr.2
                dsimp only at hrw
                obtain ⟨a, rr, g1, rfl, ha4⟩ := rS_R ha2
                obtain ⟨C9, w1, w2, w3, w4⟩ := hrw.2 hk1 _ hmt2
                rw [← s1] at w1 w2 w3
                rw [← s3] at w4
                obtain ⟨hM, hon⟩ := on (.ref a :: as0r) rr ⟨⟨a, g1, rfl⟩, ha1⟩ ha4
                obtain ⟨a2, gs, f1, f2, f3, f4⟩ := rH_obj hH hxo
                cases g1.symm.trans f1
                obtain ⟨r9, hr9, -⟩ := hP _ _ f2
                have hr9 : cl[dci D2]? = some r9 := hr9
                obtain ⟨cellB, u1, u2, u3⟩ := va_recv hK' hP hr9 f2
                rcases w4 with ⟨-, w4⟩ | ⟨w4, -⟩
                rotate_left
                · rw [hr9] at w4; cases w4
                rw [hr9] at w4
                have w4 : r9.1 = C9 := Option.some.inj w4
                rw [w4] at u3
                exact mx_go hM mPc_blind hRF hlo (pay_in hts' (good_sW hG hD2')) List.mem_cons_self (hts' _ e3) (hPc _) (Nat.le_trans hb1 hRC) (Nat.le_trans hb2 hRS) hsz (by rw [rS_cats ha4]; exact hsum) (by rw [hb]; exact hdec) hSS (fun _ _ _ z => z.2) (fun _ _ _ z => z.2) hon
                  (mx_goV hx hown' (hts' _ w1) (hts' _ w2) (hts' _ w3) hcW e4 u1 u2 u3 e5 ha3 (by rw [hb]; exact hdec))
              · have hrw := hokr.2
                dsimp only at hrw
                obtain ⟨a, rr, g1, rfl, ha4⟩ := rS_R ha2
                obtain ⟨C9, w1, w2, w3, w4⟩ := hrw.2 hk1 _ hmt2
                rw [← s1] at w1 w2 w3
                obtain ⟨hM, hon⟩ := on (.ref a :: as0r) rr ⟨⟨a, g1, rfl⟩, ha1⟩ ha4
                obtain ⟨a2, f1, f2⟩ := hEVs.2.2.2.2.2.2.2.2.2.1 _ _ (rH_cst hH hxo)
                cases g1.symm.trans f1
                obtain ⟨f3, -⟩ := f2
                obtain ⟨cellB, u1, u2, u3, -⟩ := f3.kept hSS.2.1
                rcases w4 with ⟨w4, -⟩ | ⟨-, w4⟩
                · exact absurd h79 w4
                subst w4
                exact mx_go hM mPc_blind hRF hlo (pay_in hts' (good_sW hG hD2')) List.mem_cons_self (hts' _ e3) (hPc _) (Nat.le_trans hb1 hRC) (Nat.le_trans hb2 hRS) hsz (by rw [rS_cats ha4]; exact hsum) (by rw [hb]; exact hdec) hSS (fun _ _ _ z => z.2) (fun _ _ _ z => z.2) hon
                  (mx_goV hx hown' (hts' _ w1) (hts' _ w2) (hts' _ w3) hcW e4 u1 u2 u3 e5 ha3 (by rw [hb]; exact hdec))
            · obtain ⟨h20, hk2, rfl, hhh, hd5, hc1, hc2, hpost⟩ := hrun
              obtain ⟨idx, rfl, is, ic, tx, sid, t1, t2, t3, t4, t5, t6, t7, t8⟩ := row20 hokr h20
              obtain rfl := rS_nil hS
              obtain ⟨sa, -, hstr⟩ := hEVs.2.2.2.2.1 _ t3
              have hat : ∀ w ∈ vx_atS (dy D).cls ic (eNm lk.2.1) eSup, w.before args (s.setDrawn d0) = true := vx_hat (fun w hw => hts' _ (t4 w hw)) t5 (ngW_use hEVs.2.2.2.2.2.1)
              have hnil : ∀ pc', ∀ x ∈ c.exceptionTable.toList, covers x pc' = false := fun pc' x hx9 => by rw [htab, hhh] at hx9; cases hx9
              have hfit : Bundle.fit (eNm lk.2.1) = true := by
                match lk.2.1, hk2 with
                | 0, _ => decide +kernel
                | 1, _ => decide +kernel
                | 2, _ => decide +kernel
                | n + 3, h => exact absurd h (by omega)
              have hnm : ∀ n ∈ eSup, Bundle.fit n = true := by decide +kernel
              have hsz : ls.size = c.maxLocals := hl0.1.trans hml.symm
              have hRf : eSup.length + 3 < R.frames := by show 2 + 3 < R.frames; omega
              have hRl : (([] : List Value).map fun v => v.category).sum + (13 * (eSup.length + 1) + 43) ≤ R.locals := by show 0 + (13 * (2 + 1) + 43) ≤ R.locals; omega
              have hRc : uc + 1 ≤ R.cells := Nat.le_trans hc1 (Nat.le_trans (Nat.le_max_right _ _) hRC)
              have hRs : us + 6 ≤ R.slots := Nat.le_trans hc2 (Nat.le_trans (Nat.le_max_right _ _) hRS)
              have hXX : ∀ t : State, (s.setDrawn d0).vm.Alike t.vm → H.size ≤ t.heap.size → (∀ q : Nat, q < H.size → t.heap[q]? = H[q]?) → mXc B cl ns A L0 Post (eNm lk.2.1) (s.setDrawn d0) t := fun t hal hz hk => ⟨⟨lk.2.1, h, L, rfl, hk2, hpost, tys, ws, hpre, va_K.moved hal hK', hP.kept fun k q hq => hk _ (hP k q hq).lt, hDD, hH⟩, Nat.le_trans hSS.1 hz, fun q g1 g2 => by rw [hk q (Nat.lt_of_lt_of_le g1 hSS.1)]; exact hSS.2.1 q g1 g2⟩
              rcases t8 with ⟨t8, t9, t10⟩ | ⟨t8, t9, t10⟩
              · exact mx_endX hd0 (vx_throwS (A := A) hx hb hl hown' hfit hnm (hts' _ t1) (hts' _ t2) hstr hat t6 hEVs.1 hEVs.2.1 hSS hsz hdec t7 t8 t9 t10 (hnil _) hRf hRl hRc hRs hlocks hXX hlocsA hc1 hc2)
              · exact mx_endX hd0 (vx_throwSW (A := A) hx hb hl hown' hfit hnm (hts' _ t1) (hts' _ t2) hstr hat t6 hEVs.1 hEVs.2.1 hSS hsz hdec t7 t8 t9 t10 (hnil _) hRf hRl hRc hRs hlocks hXX hlocsA hc1 hc2)
set_option maxHeartbeats 1000000 in
/-- WHAT THE SMALL MACHINE SAYS OF A CALL HOLDS OF THE MACHINE -/
theorem wp_ok (hn : nanBits ∈ cs) (hl : l.stackTraces = false) (hG : ∀ w ∈ G, goodWord w = true) (hmt : ∀ y D, mt y = some D → okD cl df G ar sx n1 mt D) : ∀ (d y : Nat) (as : List Value) (h : mH) (Post : mPost) (D : mM), mt y = some D → wpM df mt d y as h Post → mMet cs l B cl ns n1 A sx ar G d D as h Post := by
  intro d
  induction d with
  | zero => intro y as h Post D hy hw; exact hw.elim
  | succ d ih =>
    intro y as h Post D hy hw L tys ws asr has hH
    unfold wpM at hw
    rw [hy] at hw
    obtain ⟨hsum, hrun⟩ := hw
    have hD := hmt _ _ hy
    refine mx_ofW (cc := dcc D) (maxL := dml D) (ret := drt D) (hh := dhh D) (ws' := G) hD.1 rfl ?_
    intro p e s m args below meth c s₁ Bd hml htab hP
    obtain ⟨rfl, hK, hP, hDD, hEV, hA⟩ := hP
    have hts : ∀ w ∈ G, w.before asr.toArray s = true := fun w hw => atoms_spec (ws := sW D G) Bd.pre w (List.mem_cons_of_mem _ hw)
    have hl0 := lv_entry asr (n := dml D) (by rw [lg_sl_len, rS_cats has]; exact hsum)
    rw [lg_entry_eq]
    generalize (lg_sl asr ++ List.replicate (dml D - (lg_sl asr).length) Slot.unset).toArray = ls at hl0 ⊢
    have htab' : c.exceptionTable.toList = tableOf (dhh D) := by rw [← htab, table_eq]
    exact run_ok hn hl hG hmt (fun y as h Post D2 hy2 hc2 => ih y as h Post D2 hy2 hc2) hD.2.2.2.2.2.2.1 hD.2.2.2.2.2.2.2 Bd.exec Bd.bytes hml (findClass_of_methodNamed Bd.named) hts Bd.returns Bd.notSynchronized htab' (name_of_methodNamed Bd.named Bd.method).1 hEV hA (fun _ _ _ z => by cases z) (Nat.le_refl _) (Nat.le_refl _) (Nat.le_refl _) (Nat.le_refl _) _ _ _ _ _ _ _ _ hrun (Nat.zero_le _) (Nat.zero_le _) s.drawn ls _ [] s.heap [] L tys ws (Drawn.sameBut.refl s.drawn cs) hl0 (rL_args 0 has) trivial hH hK hP hDD va_S.rf (List.prefix_refl _)
end MT
end
