section MP
/-- constants and loads -/
def actC (i : Instr) (pc : Nat) (lv : mL) (st : List Value) : Option (Nat × mL × List Value) := match i with
  | .iconst n => some (pc + 1, lv, .int (Int32.ofInt n) :: st)
  | .bipush n => some (pc + 2, lv, .int (Int8.ofInt n).toInt32 :: st)
  | .sipush n => some (pc + 3, lv, .int (Int16.ofInt n).toInt32 :: st)
  | .lconst n => some (pc + 1, lv, .long (Int64.ofNat (n : Nat)) :: st)
  | .fconst 0 => some (pc + 1, lv, .float FP.fconst0 :: st)
  | .fconst 1 => some (pc + 1, lv, .float FP.fconst1 :: st)
  | .fconst 2 => some (pc + 1, lv, .float FP.fconst2 :: st)
  | .aconst_null => some (pc + 1, lv, .null :: st)
  | .iload_n k => match gl lv k.val with | some (.int x) => some (pc + 1, lv, .int x :: st) | _ => none
  | .iload k => match gl lv k with | some (.int x) => some (pc + 2, lv, .int x :: st) | _ => none
  | .lload_n k => match gl lv k.val with | some (.long x) => some (pc + 1, lv, .long x :: st) | _ => none
  | .lload k => match gl lv k with | some (.long x) => some (pc + 2, lv, .long x :: st) | _ => none
  | .fload_n k => match gl lv k.val with | some (.float x) => some (pc + 1, lv, .float x :: st) | _ => none
  | .fload k => match gl lv k with | some (.float x) => some (pc + 2, lv, .float x :: st) | _ => none
  | .dload_n k => match gl lv k.val with | some (.double x) => some (pc + 1, lv, .double x :: st) | _ => none
  | .dload k => match gl lv k with | some (.double x) => some (pc + 2, lv, .double x :: st) | _ => none
  | .aload_n k => match gl lv k.val with | some (.ref x) => some (pc + 1, lv, .ref x :: st) | some .null => some (pc + 1, lv, .null :: st) | _ => none
  | .aload k => match gl lv k with | some (.ref x) => some (pc + 2, lv, .ref x :: st) | some .null => some (pc + 2, lv, .null :: st) | _ => none
  | _ => none
/-- stores into locals -/
def actS (nL : Nat) (i : Instr) (pc : Nat) (lv : mL) (st : List Value) : Option (Nat × mL × List Value) := match i, st with
  | .istore_n k, .int x :: r => if k.val < nL then some (pc + 1, sto lv k.val (.int x), r) else none
  | .istore k, .int x :: r => if k < nL then some (pc + 2, sto lv k (.int x), r) else none
  | .lstore_n k, .long x :: r => if k.val + 1 < nL then some (pc + 1, sto2 lv k.val (.long x), r) else none
  | .lstore k, .long x :: r => if k + 1 < nL then some (pc + 2, sto2 lv k (.long x), r) else none
  | .fstore_n k, .float x :: r => if k.val < nL then some (pc + 1, sto lv k.val (.float x), r) else none
  | .fstore k, .float x :: r => if k < nL then some (pc + 2, sto lv k (.float x), r) else none
  | .dstore_n k, .double x :: r => if k.val + 1 < nL then some (pc + 1, sto2 lv k.val (.double x), r) else none
  | .dstore k, .double x :: r => if k + 1 < nL then some (pc + 2, sto2 lv k (.double x), r) else none
  | .astore_n k, .ref x :: r => if k.val < nL then some (pc + 1, sto lv k.val (.ref x), r) else none
  | .astore_n k, .retAddr x :: r => if k.val < nL then some (pc + 1, sto lv k.val (.retAddr x), r) else none
  | .astore_n k, .null :: r => if k.val < nL then some (pc + 1, sto lv k.val .null, r) else none
  | .astore k, .ref x :: r => if k < nL then some (pc + 2, sto lv k (.ref x), r) else none
  | .astore k, .retAddr x :: r => if k < nL then some (pc + 2, sto lv k (.retAddr x), r) else none
  | .astore k, .null :: r => if k < nL then some (pc + 2, sto lv k .null, r) else none
  | .iinc i z, r => match gl lv i with | some (.int x) => if i < nL then some (pc + 3, sto lv i (.int (x + Int32.ofInt z)), r) else none | _ => none
  | _, _ => none
/-- arithmetic and the stack -/
def actA (i : Instr) (pc : Nat) (st : List Value) : Option (Nat × List Value) := match i, st with
  | .iadd, .int y :: .int x :: r => some (pc + 1, .int (x + y) :: r)
  | .isub, .int y :: .int x :: r => some (pc + 1, .int (x - y) :: r)
  | .imul, .int y :: .int x :: r => some (pc + 1, .int (x * y) :: r)
  | .iand, .int y :: .int x :: r => some (pc + 1, .int (x &&& y) :: r)
  | .ior, .int y :: .int x :: r => some (pc + 1, .int (x ||| y) :: r)
  | .ixor, .int y :: .int x :: r => some (pc + 1, .int (x ^^^ y) :: r)
  | .ishl, .int y :: .int x :: r => some (pc + 1, .int (x <<< (y &&& 31)) :: r)
  | .ishr, .int y :: .int x :: r => some (pc + 1, .int (x >>> (y &&& 31)) :: r)
  | .iushr, .int y :: .int x :: r => some (pc + 1, .int (x.toUInt32 >>> (y.toUInt32 &&& Int32.toUInt32 31)).toInt32 :: r)
  | .idiv, .int y :: .int x :: r => if y = 0 then none else some (pc + 1, .int (x / y) :: r)
  | .irem, .int y :: .int x :: r => if y = 0 then none else some (pc + 1, .int (x - x / y * y) :: r)
  | .ladd, .long y :: .long x :: r => some (pc + 1, .long (x + y) :: r)
  | .lsub, .long y :: .long x :: r => some (pc + 1, .long (x - y) :: r)
  | .lmul, .long y :: .long x :: r => some (pc + 1, .long (x * y) :: r)
  | .lcmp, .long y :: .long x :: r => some (pc + 1, .int (lg_cmp x y) :: r)
  | .fcmp op, .float y :: .float x :: r => some (pc + 1, .int (Op.cmpValue (FP.fcmp x y) op) :: r)
  | .dcmp op, .double y :: .double x :: r => some (pc + 1, .int (Op.cmpValue (FP.dcmp x y) op) :: r)
  | .ineg, .int x :: r => some (pc + 1, .int (-x) :: r)
  | .i2l, .int x :: r => some (pc + 1, .long x.toInt64 :: r)
  | .i2b, .int x :: r => some (pc + 1, .int x.toInt8.toInt32 :: r)
  | .i2c, .int x :: r => some (pc + 1, .int (x.toUInt32 % 65536).toInt32 :: r)
  | .l2i, .long x :: r => some (pc + 1, .int x.toInt32 :: r)
  | .i2f, .int x :: r => some (pc + 1, .float (FP.i2f x) :: r)
  | .f2i, .float x :: r => some (pc + 1, .int (FP.f2i x) :: r)
  | .dup, a :: r => if a.category = 1 then some (pc + 1, a :: a :: r) else none
  | .pop, a :: r => if a.category = 1 then some (pc + 1, r) else none
  | .dup_x1, a :: b :: r => if a.category = 1 ∧ b.category = 1 then some (pc + 1, a :: b :: a :: r) else none
  | .dup_x2, a :: b :: c :: r => if a.category = 1 ∧ b.category = 1 ∧ c.category = 1 then some (pc + 1, a :: b :: c :: a :: r) else none
  | .dup2, a :: r => if a.category = 2 then some (pc + 1, a :: a :: r) else match r with | b :: r2 => if b.category = 1 then some (pc + 1, a :: b :: a :: b :: r2) else none | [] => none
  | .pop2, a :: r => if a.category = 2 then some (pc + 1, r) else none
  | _, _ => none
/-- branches -/
def actB (i : Instr) (pc : Nat) (st : List Value) : Option (Nat × List Value) := match i, st with
  | .ifCond .eq off, .int x :: r => (tgt pc off).map fun t => (if x = 0 then t else pc + 3, r)
  | .if_icmp .eq off, .int y :: .int x :: r => (tgt pc off).map fun t => (if x = y then t else pc + 3, r)
  | .ifCond .ne off, .int x :: r => (tgt pc off).map fun t => (if ¬ x = 0 then t else pc + 3, r)
  | .if_icmp .ne off, .int y :: .int x :: r => (tgt pc off).map fun t => (if ¬ x = y then t else pc + 3, r)
  | .ifCond .lt off, .int x :: r => (tgt pc off).map fun t => (if x < 0 then t else pc + 3, r)
  | .if_icmp .lt off, .int y :: .int x :: r => (tgt pc off).map fun t => (if x < y then t else pc + 3, r)
  | .ifCond .ge off, .int x :: r => (tgt pc off).map fun t => (if 0 ≤ x then t else pc + 3, r)
  | .if_icmp .ge off, .int y :: .int x :: r => (tgt pc off).map fun t => (if y ≤ x then t else pc + 3, r)
  | .ifCond .gt off, .int x :: r => (tgt pc off).map fun t => (if 0 < x then t else pc + 3, r)
  | .if_icmp .gt off, .int y :: .int x :: r => (tgt pc off).map fun t => (if y < x then t else pc + 3, r)
  | .ifCond .le off, .int x :: r => (tgt pc off).map fun t => (if x ≤ 0 then t else pc + 3, r)
  | .if_icmp .le off, .int y :: .int x :: r => (tgt pc off).map fun t => (if x ≤ y then t else pc + 3, r)
  | .goto off, r => (tgt pc off).map fun t => (t, r)
  | .ifnull off, .null :: r => (tgt pc off).map fun t => (t, r)
  | .ifnull off, .ref x :: r => some (pc + 3, r)
  | .ifnonnull off, .null :: r => some (pc + 3, r)
  | .ifnonnull off, .ref x :: r => (tgt pc off).map fun t => (t, r)
  | .tableswitch d lo hi offs, .int x :: r => if x.toInt < lo ∨ hi < x.toInt then (tgt pc d).map fun t => (t, r) else match offs[(x.toInt - lo).toNat]? with | some o => (tgt pc o).map fun t => (t, r) | none => none
  | .lookupswitch d ps, .int x :: r => if (ps.toList.zip (ps.toList.drop 1)).all (fun (a, next) => a.1 < next.1) = true then (tgt pc (Op.lookupswitch.offset ps.toList d x.toInt)).map fun t => (t, r) else none
  | _, _ => none
variable {p : Program} {l : Launch} {e : Env} {R : Room} {s : State} {m : MethodId} {args : Array Value} {below : List Frame} {meth : Method} {c : Code} {H : Heap} {locs : List Loc} {cells slots : Nat} {Q : State → Prop}
variable {cc : ByteArray} {ls : Array Slot} {L : List Nat}
set_option maxHeartbeats 4000000 in
theorem actC_ok (hx : p.tables.exec = Jvm.exec) (hb : c.code = cc) {nL pc pc2 len : Nat} {i : Instr} {lv lvr lv2 : mL} {st str st2 : List Value} (h : actC i pc lv st = some (pc2, lv2, st2)) (hd : decode cc pc = .ok (i, lnI i len)) (hl : lv_has ls nL lvr) (hL : rL L lv lvr) (hS : rS L st str)
    (k : ∀ (lvr2 : mL) (ls2 : Array Slot) (str2 : List Value), lv_has ls2 nL lvr2 → rL L lv2 lvr2 → rS L st2 str2 → W p l e R s m args below meth c H locs cells slots Q (F0 m pc2 ls2 str2)) : W p l e R s m args below meth c H locs cells slots Q (F0 m pc ls str) := by
  unfold actC at h
  split at h
  · cases h
    exact lv_iconst hx hb hd rfl (k _ _ _ hl hL ⟨rfl, hS⟩)
  · cases h
    exact lv_bipush hx hb hd rfl (k _ _ _ hl hL ⟨rfl, hS⟩)
  · cases h
    exact lv_sipush hx hb hd rfl (k _ _ _ hl hL ⟨rfl, hS⟩)
  · cases h
    exact lv_lconst hx hb hd rfl (k _ _ _ hl hL ⟨rfl, hS⟩)
  · cases h
    exact lv_fconst0 hx hb hd (k _ _ _ hl hL ⟨rfl, hS⟩)
  · cases h
    exact lv_fconst1 hx hb hd (k _ _ _ hl hL ⟨rfl, hS⟩)
  · cases h
    exact lv_fconst2 hx hb hd (k _ _ _ hl hL ⟨rfl, hS⟩)
  · cases h
    exact lv_null hx hb hd (k _ _ _ hl hL ⟨rfl, hS⟩)
  · split at h
    · rename_i hg
      cases h
      obtain ⟨q, w, h1, h2⟩ := rL_get hL hg
      have h2 : w = .int _ := h2
      subst h2
      exact lv_iload_n hx hb hd rfl (lv_at hl q h1) (k _ _ _ hl hL ⟨rfl, hS⟩)
    · cases h
  · split at h
    · rename_i hg
      cases h
      obtain ⟨q, w, h1, h2⟩ := rL_get hL hg
      have h2 : w = .int _ := h2
      subst h2
      exact lv_iload hx hb hd (lv_at hl q h1) (k _ _ _ hl hL ⟨rfl, hS⟩)
    · cases h
  · split at h
    · rename_i hg
      cases h
      obtain ⟨q, w, h1, h2⟩ := rL_get hL hg
      have h2 : w = .long _ := h2
      subst h2
      exact lv_lload_n hx hb hd rfl (lv_at hl q h1) (k _ _ _ hl hL ⟨rfl, hS⟩)
    · cases h
  · split at h
    · rename_i hg
      cases h
      obtain ⟨q, w, h1, h2⟩ := rL_get hL hg
      have h2 : w = .long _ := h2
      subst h2
      exact lv_lload hx hb hd (lv_at hl q h1) (k _ _ _ hl hL ⟨rfl, hS⟩)
    · cases h
  · split at h
    · rename_i hg
      cases h
      obtain ⟨q, w, h1, h2⟩ := rL_get hL hg
      have h2 : w = .float _ := h2
      subst h2
      exact lv_fload_n hx hb hd rfl (lv_at hl q h1) (k _ _ _ hl hL ⟨rfl, hS⟩)
    · cases h
  · split at h
    · rename_i hg
      cases h
      obtain ⟨q, w, h1, h2⟩ := rL_get hL hg
      have h2 : w = .float _ := h2
      subst h2
      exact lv_fload hx hb hd (lv_at hl q h1) (k _ _ _ hl hL ⟨rfl, hS⟩)
    · cases h
  · split at h
    · rename_i hg
      cases h
      obtain ⟨q, w, h1, h2⟩ := rL_get hL hg
      have h2 : w = .double _ := h2
      subst h2
      exact lv_dload_n hx hb hd rfl (lv_at hl q h1) (k _ _ _ hl hL ⟨rfl, hS⟩)
    · cases h
  · split at h
    · rename_i hg
      cases h
      obtain ⟨q, w, h1, h2⟩ := rL_get hL hg
      have h2 : w = .double _ := h2
      subst h2
      exact lv_dload hx hb hd (lv_at hl q h1) (k _ _ _ hl hL ⟨rfl, hS⟩)
    · cases h
  · split at h
    · rename_i hg
      cases h
      obtain ⟨q, w, h1, a, h2, rfl⟩ := rL_get hL hg
      exact lv_aload_n hx hb hd rfl (lv_at hl q h1) (k _ _ _ hl hL ⟨⟨a, h2, rfl⟩, hS⟩)
    · rename_i hg
      cases h
      obtain ⟨q, w, h1, h2⟩ := rL_get hL hg
      have h2 : w = .null := h2
      subst h2
      exact lv_aload_nN hx hb hd rfl (lv_at hl q h1) (k _ _ _ hl hL ⟨rfl, hS⟩)
    · cases h
  · split at h
    · rename_i hg
      cases h
      obtain ⟨q, w, h1, a, h2, rfl⟩ := rL_get hL hg
      exact lv_aload hx hb hd (lv_at hl q h1) (k _ _ _ hl hL ⟨⟨a, h2, rfl⟩, hS⟩)
    · rename_i hg
      cases h
      obtain ⟨q, w, h1, h2⟩ := rL_get hL hg
      have h2 : w = .null := h2
      subst h2
      exact lv_aloadN hx hb hd (lv_at hl q h1) (k _ _ _ hl hL ⟨rfl, hS⟩)
    · cases h
  · cases h
set_option maxHeartbeats 4000000 in
theorem actS_ok (hx : p.tables.exec = Jvm.exec) (hb : c.code = cc) {nL pc pc2 len : Nat} {i : Instr} {lv lvr lv2 : mL} {st str st2 : List Value} (h : actS nL i pc lv st = some (pc2, lv2, st2)) (hd : decode cc pc = .ok (i, lnI i len)) (hl : lv_has ls nL lvr) (hL : rL L lv lvr) (hS : rS L st str)
    (k : ∀ (lvr2 : mL) (ls2 : Array Slot) (str2 : List Value), lv_has ls2 nL lvr2 → rL L lv2 lvr2 → rS L st2 str2 → W p l e R s m args below meth c H locs cells slots Q (F0 m pc2 ls2 str2)) : W p l e R s m args below meth c H locs cells slots Q (F0 m pc ls str) := by
  unfold actS at h
  split at h
  · split at h
    · rename_i hn
      cases h
      obtain ⟨r', rfl, hS1⟩ := rS_I hS
      exact lv_istore_n hx hb hd rfl hl hn rfl (fun ls' hl' => k _ _ _ hl' (rL_sto hL rfl) hS1)
    · cases h
  · split at h
    · rename_i hn
      cases h
      obtain ⟨r', rfl, hS1⟩ := rS_I hS
      exact lv_istore hx hb hd hl hn rfl (fun ls' hl' => k _ _ _ hl' (rL_sto hL rfl) hS1)
    · cases h
  · split at h
    · rename_i hn
      cases h
      obtain ⟨r', rfl, hS1⟩ := rS_J hS
      exact lv_lstore_n hx hb hd rfl hl hn rfl (fun ls' hl' => k _ _ _ hl' (rL_sto2 hL rfl) hS1)
    · cases h
  · split at h
    · rename_i hn
      cases h
      obtain ⟨r', rfl, hS1⟩ := rS_J hS
      exact lv_lstore hx hb hd hl hn rfl (fun ls' hl' => k _ _ _ hl' (rL_sto2 hL rfl) hS1)
    · cases h
  · split at h
    · rename_i hn
      cases h
      obtain ⟨r', rfl, hS1⟩ := rS_F hS
      exact lv_fstore_n hx hb hd rfl hl hn rfl (fun ls' hl' => k _ _ _ hl' (rL_sto hL rfl) hS1)
    · cases h
  · split at h
    · rename_i hn
      cases h
      obtain ⟨r', rfl, hS1⟩ := rS_F hS
      exact lv_fstore hx hb hd hl hn rfl (fun ls' hl' => k _ _ _ hl' (rL_sto hL rfl) hS1)
    · cases h
  · split at h
    · rename_i hn
      cases h
      obtain ⟨r', rfl, hS1⟩ := rS_D hS
      exact lv_dstore_n hx hb hd rfl hl hn rfl (fun ls' hl' => k _ _ _ hl' (rL_sto2 hL rfl) hS1)
    · cases h
  · split at h
    · rename_i hn
      cases h
      obtain ⟨r', rfl, hS1⟩ := rS_D hS
      exact lv_dstore hx hb hd hl hn rfl (fun ls' hl' => k _ _ _ hl' (rL_sto2 hL rfl) hS1)
    · cases h
  · split at h
    · rename_i hn
      cases h
      obtain ⟨a, r', h1, rfl, hS1⟩ := rS_R hS
      exact lv_astore_n hx hb hd rfl hl hn rfl (fun ls' hl' => k _ _ _ hl' (rL_sto hL ⟨a, h1, rfl⟩) hS1)
    · cases h
  · split at h
    · rename_i hn
      cases h
      obtain ⟨w, r', rfl, ⟨a, rfl⟩, hS1⟩ := rS_V hS
      cases a with
      | none => exact lv_astore_nN hx hb hd rfl hl hn rfl (fun ls' hl' => k _ _ _ hl' (rL_sto hL ⟨none, rfl⟩) hS1)
      | some a => exact lv_astore_n hx hb hd rfl hl hn rfl (fun ls' hl' => k _ _ _ hl' (rL_sto hL ⟨some a, rfl⟩) hS1)
    · cases h
  · split at h
    · rename_i hn
      cases h
      obtain ⟨r', rfl, hS1⟩ := rS_N hS
      exact lv_astore_nN hx hb hd rfl hl hn rfl (fun ls' hl' => k _ _ _ hl' (rL_sto hL rfl) hS1)
    · cases h
  · split at h
    · rename_i hn
      cases h
      obtain ⟨a, r', h1, rfl, hS1⟩ := rS_R hS
      exact lv_astore hx hb hd hl hn rfl (fun ls' hl' => k _ _ _ hl' (rL_sto hL ⟨a, h1, rfl⟩) hS1)
    · cases h
  · split at h
    · rename_i hn
      cases h
      obtain ⟨w, r', rfl, ⟨a, rfl⟩, hS1⟩ := rS_V hS
      cases a with
      | none => exact lv_astoreN hx hb hd hl hn rfl (fun ls' hl' => k _ _ _ hl' (rL_sto hL ⟨none, rfl⟩) hS1)
      | some a => exact lv_astore hx hb hd hl hn rfl (fun ls' hl' => k _ _ _ hl' (rL_sto hL ⟨some a, rfl⟩) hS1)
    · cases h
  · split at h
    · rename_i hn
      cases h
      obtain ⟨r', rfl, hS1⟩ := rS_N hS
      exact lv_astoreN hx hb hd hl hn rfl (fun ls' hl' => k _ _ _ hl' (rL_sto hL rfl) hS1)
    · cases h
  · split at h
    · rename_i hg
      split at h
      · rename_i hn
        cases h
        obtain ⟨q, w, h1, h2⟩ := rL_get hL hg
        have h2 : w = .int _ := h2
        subst h2
        exact lv_iinc hx hb hd hl h1 rfl hn rfl (fun ls' hl' => k _ _ _ hl' (rL_sto hL rfl) hS)
      · cases h
    · cases h
  · cases h
set_option maxHeartbeats 4000000 in
theorem actA_ok (hx : p.tables.exec = Jvm.exec) (hb : c.code = cc) {pc pc2 len : Nat} {i : Instr} {st str st2 : List Value} (h : actA i pc st = some (pc2, st2)) (hd : decode cc pc = .ok (i, lnI i len)) (hS : rS L st str)
    (k : ∀ (str2 : List Value), rS L st2 str2 → W p l e R s m args below meth c H locs cells slots Q (F0 m pc2 ls str2)) : W p l e R s m args below meth c H locs cells slots Q (F0 m pc ls str) := by
  unfold actA at h
  split at h
  · cases h
    obtain ⟨r1, rfl, hS1⟩ := rS_I hS
    obtain ⟨r2, rfl, hS2⟩ := rS_I hS1
    exact lv_iadd hx hb hd (k _ ⟨rfl, hS2⟩)
  · cases h
    obtain ⟨r1, rfl, hS1⟩ := rS_I hS
    obtain ⟨r2, rfl, hS2⟩ := rS_I hS1
    exact lv_isub hx hb hd (k _ ⟨rfl, hS2⟩)
  · cases h
    obtain ⟨r1, rfl, hS1⟩ := rS_I hS
    obtain ⟨r2, rfl, hS2⟩ := rS_I hS1
    exact lv_imul hx hb hd (k _ ⟨rfl, hS2⟩)
  · cases h
    obtain ⟨r1, rfl, hS1⟩ := rS_I hS
    obtain ⟨r2, rfl, hS2⟩ := rS_I hS1
    exact lv_iand hx hb hd (k _ ⟨rfl, hS2⟩)
  · cases h
    obtain ⟨r1, rfl, hS1⟩ := rS_I hS
    obtain ⟨r2, rfl, hS2⟩ := rS_I hS1
    exact lv_ior hx hb hd (k _ ⟨rfl, hS2⟩)
  · cases h
    obtain ⟨r1, rfl, hS1⟩ := rS_I hS
    obtain ⟨r2, rfl, hS2⟩ := rS_I hS1
    exact lv_ixor hx hb hd (k _ ⟨rfl, hS2⟩)
  · cases h
    obtain ⟨r1, rfl, hS1⟩ := rS_I hS
    obtain ⟨r2, rfl, hS2⟩ := rS_I hS1
    exact lv_ishl hx hb hd (k _ ⟨rfl, hS2⟩)
  · cases h
    obtain ⟨r1, rfl, hS1⟩ := rS_I hS
    obtain ⟨r2, rfl, hS2⟩ := rS_I hS1
    exact lv_ishr hx hb hd (k _ ⟨rfl, hS2⟩)
  · cases h
    obtain ⟨r1, rfl, hS1⟩ := rS_I hS
    obtain ⟨r2, rfl, hS2⟩ := rS_I hS1
    exact lv_iushr hx hb hd rfl (k _ ⟨rfl, hS2⟩)
  · split at h
    · cases h
    · rename_i hne
      cases h
      obtain ⟨r1, rfl, hS1⟩ := rS_I hS
      obtain ⟨r2, rfl, hS2⟩ := rS_I hS1
      exact lv_idiv hx hb hd hne (k _ ⟨rfl, hS2⟩)
  · split at h
    · cases h
    · rename_i hne
      cases h
      obtain ⟨r1, rfl, hS1⟩ := rS_I hS
      obtain ⟨r2, rfl, hS2⟩ := rS_I hS1
      exact lv_irem hx hb hd hne (k _ ⟨rfl, hS2⟩)
  · cases h
    obtain ⟨r1, rfl, hS1⟩ := rS_J hS
    obtain ⟨r2, rfl, hS2⟩ := rS_J hS1
    exact lv_ladd hx hb hd (k _ ⟨rfl, hS2⟩)
  · cases h
    obtain ⟨r1, rfl, hS1⟩ := rS_J hS
    obtain ⟨r2, rfl, hS2⟩ := rS_J hS1
    exact lv_lsub hx hb hd (k _ ⟨rfl, hS2⟩)
  · cases h
    obtain ⟨r1, rfl, hS1⟩ := rS_J hS
    obtain ⟨r2, rfl, hS2⟩ := rS_J hS1
    exact lv_lmul hx hb hd (k _ ⟨rfl, hS2⟩)
  · cases h
    obtain ⟨r1, rfl, hS1⟩ := rS_J hS
    obtain ⟨r2, rfl, hS2⟩ := rS_J hS1
    exact W.lcmp hx hb hd (k _ ⟨rfl, hS2⟩)
  · cases h
    obtain ⟨r1, rfl, hS1⟩ := rS_F hS
    obtain ⟨r2, rfl, hS2⟩ := rS_F hS1
    exact lv_fcmp hx hb hd (k _ ⟨rfl, hS2⟩)
  · cases h
    obtain ⟨r1, rfl, hS1⟩ := rS_D hS
    obtain ⟨r2, rfl, hS2⟩ := rS_D hS1
    exact lv_dcmp hx hb hd (k _ ⟨rfl, hS2⟩)
  · cases h
    obtain ⟨r1, rfl, hS1⟩ := rS_I hS
    exact lv_ineg hx hb hd (k _ ⟨rfl, hS1⟩)
  · cases h
    obtain ⟨r1, rfl, hS1⟩ := rS_I hS
    exact lv_i2l hx hb hd rfl (k _ ⟨rfl, hS1⟩)
  · cases h
    obtain ⟨r1, rfl, hS1⟩ := rS_I hS
    exact lv_i2b hx hb hd rfl (k _ ⟨rfl, hS1⟩)
  · cases h
    obtain ⟨r1, rfl, hS1⟩ := rS_I hS
    exact lv_i2c hx hb hd rfl (k _ ⟨rfl, hS1⟩)
  · cases h
    obtain ⟨r1, rfl, hS1⟩ := rS_J hS
    exact lv_l2i hx hb hd rfl (k _ ⟨rfl, hS1⟩)
  · cases h
    obtain ⟨r1, rfl, hS1⟩ := rS_I hS
    exact lv_i2f hx hb hd (k _ ⟨rfl, hS1⟩)
  · cases h
    obtain ⟨r1, rfl, hS1⟩ := rS_F hS
    exact lv_f2i hx hb hd (k _ ⟨rfl, hS1⟩)
  · split at h
    · rename_i hc
      cases h
      have ka := hc
      obtain ⟨wa, ra, rfl, va, hS1⟩ := rS_V hS
      exact lv_dup hx hb hd ((rV_cat va).trans ka) (k _ ⟨va, ⟨va, hS1⟩⟩)
    · cases h
  · split at h
    · rename_i hc
      cases h
      have ka := hc
      obtain ⟨wa, ra, rfl, va, hS1⟩ := rS_V hS
      exact lv_pop hx hb hd ((rV_cat va).trans ka) (k _ hS1)
    · cases h
  · split at h
    · rename_i hc
      cases h
      obtain ⟨ka, kb⟩ := hc
      obtain ⟨wa, ra, rfl, va, hS1⟩ := rS_V hS
      obtain ⟨wb, rb, rfl, vb, hS2⟩ := rS_V hS1
      exact lv_dup_x1 hx hb hd ((rV_cat va).trans ka) ((rV_cat vb).trans kb) (k _ ⟨va, ⟨vb, ⟨va, hS2⟩⟩⟩)
    · cases h
  · split at h
    · rename_i hc
      cases h
      obtain ⟨ka, kb, kc⟩ := hc
      obtain ⟨wa, ra, rfl, va, hS1⟩ := rS_V hS
      obtain ⟨wb, rb, rfl, vb, hS2⟩ := rS_V hS1
      obtain ⟨wc, rc, rfl, vc, hS3⟩ := rS_V hS2
      exact lv_dup_x2 hx hb hd ((rV_cat va).trans ka) ((rV_cat vb).trans kb) ((rV_cat vc).trans kc) (k _ ⟨va, ⟨vb, ⟨vc, ⟨va, hS3⟩⟩⟩⟩)
    · cases h
  · obtain ⟨wa, ra, rfl, va, hS1⟩ := rS_V hS
    split at h
    · rename_i hc
      cases h
      exact lv_dup2_2 hx hb hd ((rV_cat va).trans hc) (k _ ⟨va, va, hS1⟩)
    · rename_i hc
      split at h
      · split at h
        · rename_i hc2
          cases h
          obtain ⟨wb, rb, rfl, vb, hS2⟩ := rS_V hS1
          exact lv_dup2_11 hx hb hd ((rV_cat va).trans ((lv_cat _).resolve_right hc)) ((rV_cat vb).trans hc2) (k _ ⟨va, vb, va, vb, hS2⟩)
        · cases h
      · cases h
  · split at h
    · rename_i hc
      cases h
      obtain ⟨wa, ra, rfl, va, hS1⟩ := rS_V hS
      exact lv_pop2_2 hx hb hd ((rV_cat va).trans hc) (k _ hS1)
    · cases h
  · cases h
set_option maxHeartbeats 4000000 in
theorem actB_ok (hx : p.tables.exec = Jvm.exec) (hb : c.code = cc) {pc pc2 len : Nat} {i : Instr} {st str st2 : List Value} (h : actB i pc st = some (pc2, st2)) (hd : decode cc pc = .ok (i, lnI i len)) (hS : rS L st str)
    (k : ∀ (str2 : List Value), rS L st2 str2 → W p l e R s m args below meth c H locs cells slots Q (F0 m pc2 ls str2)) : W p l e R s m args below meth c H locs cells slots Q (F0 m pc ls str) := by
  unfold actB at h
  split at h
  · obtain ⟨t, ht, h⟩ := Option.map_eq_some_iff.mp h
    obtain ⟨r1, rfl, hS1⟩ := rS_I hS
    refine lv_if_eq hx hb hd (tgt_spec ht) (fun hc => ?_) (fun hc => ?_)
    · rw [if_pos hc] at h; cases h; exact k _ hS1
    · rw [if_neg hc] at h; cases h; exact k _ hS1
  · obtain ⟨t, ht, h⟩ := Option.map_eq_some_iff.mp h
    obtain ⟨r1, rfl, hS1⟩ := rS_I hS
    obtain ⟨r2, rfl, hS2⟩ := rS_I hS1
    refine lv_icmp_eq hx hb hd (tgt_spec ht) (fun hc => ?_) (fun hc => ?_)
    · rw [if_pos hc] at h; cases h; exact k _ hS2
    · rw [if_neg hc] at h; cases h; exact k _ hS2
  · obtain ⟨t, ht, h⟩ := Option.map_eq_some_iff.mp h
    obtain ⟨r1, rfl, hS1⟩ := rS_I hS
    refine lv_if_ne hx hb hd (tgt_spec ht) (fun hc => ?_) (fun hc => ?_)
    · rw [if_pos hc] at h; cases h; exact k _ hS1
    · rw [if_neg (fun z => z hc)] at h; cases h; exact k _ hS1
  · obtain ⟨t, ht, h⟩ := Option.map_eq_some_iff.mp h
    obtain ⟨r1, rfl, hS1⟩ := rS_I hS
    obtain ⟨r2, rfl, hS2⟩ := rS_I hS1
    refine lv_icmp_ne hx hb hd (tgt_spec ht) (fun hc => ?_) (fun hc => ?_)
    · rw [if_pos hc] at h; cases h; exact k _ hS2
    · rw [if_neg (fun z => z hc)] at h; cases h; exact k _ hS2
  · obtain ⟨t, ht, h⟩ := Option.map_eq_some_iff.mp h
    obtain ⟨r1, rfl, hS1⟩ := rS_I hS
    refine lv_if_lt hx hb hd (tgt_spec ht) (fun hc => ?_) (fun hc => ?_)
    · rw [if_pos hc] at h; cases h; exact k _ hS1
    · rw [if_neg hc] at h; cases h; exact k _ hS1
  · obtain ⟨t, ht, h⟩ := Option.map_eq_some_iff.mp h
    obtain ⟨r1, rfl, hS1⟩ := rS_I hS
    obtain ⟨r2, rfl, hS2⟩ := rS_I hS1
    refine lv_icmp_lt hx hb hd (tgt_spec ht) (fun hc => ?_) (fun hc => ?_)
    · rw [if_pos hc] at h; cases h; exact k _ hS2
    · rw [if_neg hc] at h; cases h; exact k _ hS2
  · obtain ⟨t, ht, h⟩ := Option.map_eq_some_iff.mp h
    obtain ⟨r1, rfl, hS1⟩ := rS_I hS
    refine lv_if_ge hx hb hd (tgt_spec ht) (fun hc => ?_) (fun hc => ?_)
    · rw [if_pos hc] at h; cases h; exact k _ hS1
    · rw [if_neg hc] at h; cases h; exact k _ hS1
  · obtain ⟨t, ht, h⟩ := Option.map_eq_some_iff.mp h
    obtain ⟨r1, rfl, hS1⟩ := rS_I hS
    obtain ⟨r2, rfl, hS2⟩ := rS_I hS1
    refine lv_icmp_ge hx hb hd (tgt_spec ht) (fun hc => ?_) (fun hc => ?_)
    · rw [if_pos hc] at h; cases h; exact k _ hS2
    · rw [if_neg hc] at h; cases h; exact k _ hS2
  · obtain ⟨t, ht, h⟩ := Option.map_eq_some_iff.mp h
    obtain ⟨r1, rfl, hS1⟩ := rS_I hS
    refine lv_if_gt hx hb hd (tgt_spec ht) (fun hc => ?_) (fun hc => ?_)
    · rw [if_pos hc] at h; cases h; exact k _ hS1
    · rw [if_neg hc] at h; cases h; exact k _ hS1
  · obtain ⟨t, ht, h⟩ := Option.map_eq_some_iff.mp h
    obtain ⟨r1, rfl, hS1⟩ := rS_I hS
    obtain ⟨r2, rfl, hS2⟩ := rS_I hS1
    refine lv_icmp_gt hx hb hd (tgt_spec ht) (fun hc => ?_) (fun hc => ?_)
    · rw [if_pos hc] at h; cases h; exact k _ hS2
    · rw [if_neg hc] at h; cases h; exact k _ hS2
  · obtain ⟨t, ht, h⟩ := Option.map_eq_some_iff.mp h
    obtain ⟨r1, rfl, hS1⟩ := rS_I hS
    refine lv_if_le hx hb hd (tgt_spec ht) (fun hc => ?_) (fun hc => ?_)
    · rw [if_pos hc] at h; cases h; exact k _ hS1
    · rw [if_neg hc] at h; cases h; exact k _ hS1
  · obtain ⟨t, ht, h⟩ := Option.map_eq_some_iff.mp h
    obtain ⟨r1, rfl, hS1⟩ := rS_I hS
    obtain ⟨r2, rfl, hS2⟩ := rS_I hS1
    refine lv_icmp_le hx hb hd (tgt_spec ht) (fun hc => ?_) (fun hc => ?_)
    · rw [if_pos hc] at h; cases h; exact k _ hS2
    · rw [if_neg hc] at h; cases h; exact k _ hS2
  · obtain ⟨t, ht, h⟩ := Option.map_eq_some_iff.mp h
    cases h
    exact lv_goto hx hb hd (tgt_spec ht) (k _ hS)
  · obtain ⟨t, ht, h⟩ := Option.map_eq_some_iff.mp h
    cases h
    obtain ⟨r1, rfl, hS1⟩ := rS_N hS
    exact lv_ifnullN hx hb hd (tgt_spec ht) (k _ hS1)
  · cases h
    obtain ⟨a, r1, -, rfl, hS1⟩ := rS_R hS
    exact lv_ifnull hx hb hd (k _ hS1)
  · cases h
    obtain ⟨r1, rfl, hS1⟩ := rS_N hS
    exact lv_ifnonnullN hx hb hd (k _ hS1)
  · obtain ⟨t, ht, h⟩ := Option.map_eq_some_iff.mp h
    cases h
    obtain ⟨a, r1, -, rfl, hS1⟩ := rS_R hS
    exact lv_ifnonnull hx hb hd (tgt_spec ht) (k _ hS1)
  · obtain ⟨r1, rfl, hS1⟩ := rS_I hS
    split at h
    · rename_i hc
      obtain ⟨t, ht, h⟩ := Option.map_eq_some_iff.mp h
      cases h
      exact lv_tableOut hx hb hd hc (tgt_spec ht) (k _ hS1)
    · rename_i hc
      split at h
      · rename_i ho
        obtain ⟨t, ht, h⟩ := Option.map_eq_some_iff.mp h
        cases h
        exact lv_tableIn hx hb hd (fun z => hc (Or.inl z)) (fun z => hc (Or.inr z)) ho (tgt_spec ht) (k _ hS1)
      · cases h
  · obtain ⟨r1, rfl, hS1⟩ := rS_I hS
    split at h
    · rename_i hc
      obtain ⟨t, ht, h⟩ := Option.map_eq_some_iff.mp h
      cases h
      exact lv_lookup hx hb hd hc rfl (tgt_spec ht) (k _ hS1)
    · cases h
  · cases h
end MP
