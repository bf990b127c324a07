/-! A small machine: cells by their number, values with those numbers for addresses; what it says of a run holds of the machine itself (parts 03 to 06). -/
section MJ
abbrev mE : Type := (Nat × vp_A) ⊕ (Nat × List Value)
abbrev mH : Type := List mE
abbrev mL : Type := List (Nat × Value)
abbrev mK : Type := Nat × Nat × Nat × Int
abbrev mR : Type := Nat × Instr × Nat × mK
def gl : mL → Nat → Option Value
  | [], _ => none
  | q :: r, i => if q.1 = i then some q.2 else gl r i
def sto (lv : mL) (i : Nat) (v : Value) : mL := (i, v) :: lv.filter (fun q => !(q.1 == i) && !(q.1 + 1 == i && q.2.category == 2))
def sto2 (lv : mL) (i : Nat) (v : Value) : mL := (i, v) :: lv.filter (fun q => !(q.1 == i) && (!(q.1 == i + 1) && !(q.1 + 1 == i && q.2.category == 2)))
def tgt (pc : Nat) (off : Int) : Option Nat := if 0 ≤ (pc : Int) + off then some ((pc : Int) + off).toNat else none
theorem tgt_spec {pc t : Nat} {off : Int} (h : tgt pc off = some t) : (pc : Int) + off = (t : Int) := by
  unfold tgt at h
  split at h
  next h0 => cases h; omega
  next => cases h
/-- a value of the small machine, and the machine's: numbers alike, a cell's number for its address; an exception in hand is any reference, or null -/
def rV (L : List Nat) (v w : Value) : Prop := match v with
  | .ref k => ∃ a, L[k]? = some a ∧ w = .ref a
  | .retAddr _ => ∃ v : Option Nat, w = va_rf v
  | v => w = v
def rS (L : List Nat) : List Value → List Value → Prop
  | [], [] => True
  | v :: vs, w :: ws => rV L v w ∧ rS L vs ws
  | _, _ => False
def rL (L : List Nat) : mL → mL → Prop
  | [], [] => True
  | q :: r, q' :: r' => q.1 = q'.1 ∧ rV L q.2 q'.2 ∧ rL L r r'
  | _, _ => False
theorem rV_cat {L : List Nat} {v w : Value} (h : rV L v w) : w.category = v.category := by
  cases v with
  | ref k => obtain ⟨a, -, rfl⟩ := h; rfl
  | retAddr k => obtain ⟨a, rfl⟩ := h; cases a <;> rfl
  | _ => have h : w = _ := h; rw [h]
theorem rV_mono {L L' : List Nat} {v w : Value} (hL : L <+: L') (h : rV L v w) : rV L' v w := by
  cases v with
  | ref k =>
    obtain ⟨a, h1, rfl⟩ := h
    exact ⟨a, by obtain ⟨t, rfl⟩ := hL; rw [List.getElem?_append_left (List.getElem?_eq_some_iff.mp h1).1]; exact h1, rfl⟩
  | retAddr k => exact h
  | _ => exact h
theorem rS_mono {L L' : List Nat} (hL : L <+: L') : ∀ {st str : List Value}, rS L st str → rS L' st str
  | [], [], _ => trivial
  | _ :: _, _ :: _, h => ⟨rV_mono hL h.1, rS_mono hL h.2⟩
  | [], _ :: _, h => h.elim
  | _ :: _, [], h => h.elim
theorem rL_mono {L L' : List Nat} (hL : L <+: L') : ∀ {lv lvr : mL}, rL L lv lvr → rL L' lv lvr
  | [], [], _ => trivial
  | _ :: _, _ :: _, h => ⟨h.1, rV_mono hL h.2.1, rL_mono hL h.2.2⟩
  | [], _ :: _, h => h.elim
  | _ :: _, [], h => h.elim
theorem rS_V {L : List Nat} {v : Value} {r str : List Value} (h : rS L (v :: r) str) : ∃ w r', str = w :: r' ∧ rV L v w ∧ rS L r r' := by
  cases str with
  | nil => exact h.elim
  | cons w r' => exact ⟨w, r', rfl, h.1, h.2⟩
theorem rS_nil {L : List Nat} {str : List Value} (h : rS L [] str) : str = [] := by
  cases str with
  | nil => rfl
  | cons w r' => exact h.elim
theorem rS_I {L : List Nat} {x : Int32} {r str : List Value} (h : rS L (.int x :: r) str) : ∃ r', str = .int x :: r' ∧ rS L r r' := by
  obtain ⟨w, r', rfl, h1, h2⟩ := rS_V h
  have h1 : w = .int x := h1
  exact ⟨r', by rw [h1], h2⟩
theorem rS_J {L : List Nat} {x : Int64} {r str : List Value} (h : rS L (.long x :: r) str) : ∃ r', str = .long x :: r' ∧ rS L r r' := by
  obtain ⟨w, r', rfl, h1, h2⟩ := rS_V h
  have h1 : w = .long x := h1
  exact ⟨r', by rw [h1], h2⟩
theorem rS_F {L : List Nat} {x : UInt32} {r str : List Value} (h : rS L (.float x :: r) str) : ∃ r', str = .float x :: r' ∧ rS L r r' := by
  obtain ⟨w, r', rfl, h1, h2⟩ := rS_V h
  have h1 : w = .float x := h1
  exact ⟨r', by rw [h1], h2⟩
theorem rS_D {L : List Nat} {x : UInt64} {r str : List Value} (h : rS L (.double x :: r) str) : ∃ r', str = .double x :: r' ∧ rS L r r' := by
  obtain ⟨w, r', rfl, h1, h2⟩ := rS_V h
  have h1 : w = .double x := h1
  exact ⟨r', by rw [h1], h2⟩
theorem rS_N {L : List Nat} {r str : List Value} (h : rS L (.null :: r) str) : ∃ r', str = .null :: r' ∧ rS L r r' := by
  obtain ⟨w, r', rfl, h1, h2⟩ := rS_V h
  have h1 : w = .null := h1
  exact ⟨r', by rw [h1], h2⟩
theorem rS_R {L : List Nat} {k : Nat} {r str : List Value} (h : rS L (.ref k :: r) str) : ∃ a r', L[k]? = some a ∧ str = .ref a :: r' ∧ rS L r r' := by
  obtain ⟨w, r', rfl, ⟨a, h1, rfl⟩, h2⟩ := rS_V h
  exact ⟨a, r', h1, rfl, h2⟩
theorem rL_get {L : List Nat} {i : Nat} {v : Value} : ∀ {lv lvr : mL}, rL L lv lvr → gl lv i = some v → ∃ (k : Nat) (w : Value), lvr[k]? = some (i, w) ∧ rV L v w
  | [], [], _, h => by cases h
  | q :: r, q' :: r', h, hg => by
    unfold gl at hg
    split at hg
    next he =>
      cases hg
      refine ⟨0, q'.2, ?_, h.2.1⟩
      rw [← he, h.1]; rfl
    next =>
      obtain ⟨k, w, h1, h2⟩ := rL_get h.2.2 hg
      exact ⟨k + 1, w, h1, h2⟩
  | [], _ :: _, h, _ => h.elim
  | _ :: _, [], h, _ => h.elim
theorem rL_filter {L : List Nat} (f : Nat → Nat → Bool) : ∀ {lv lvr : mL}, rL L lv lvr → rL L (lv.filter fun q => f q.1 q.2.category) (lvr.filter fun q => f q.1 q.2.category)
  | [], [], _ => trivial
  | q :: r, q' :: r', h => by
    have e1 : q'.1 = q.1 := h.1.symm
    have e2 : q'.2.category = q.2.category := rV_cat h.2.1
    simp only [List.filter_cons, e1, e2]
    split
    · exact ⟨h.1, h.2.1, rL_filter f h.2.2⟩
    · exact rL_filter f h.2.2
  | [], _ :: _, h => h.elim
  | _ :: _, [], h => h.elim
theorem rL_sto {L : List Nat} {lv lvr : mL} {i : Nat} {v w : Value} (h : rL L lv lvr) (hv : rV L v w) : rL L (sto lv i v) ((i, w) :: lvr.filter (fun q => !(q.1 == i) && !(q.1 + 1 == i && q.2.category == 2))) :=
  ⟨rfl, hv, rL_filter (fun a b => !(a == i) && !(a + 1 == i && b == 2)) h⟩
theorem rL_sto2 {L : List Nat} {lv lvr : mL} {i : Nat} {v w : Value} (h : rL L lv lvr) (hv : rV L v w) : rL L (sto2 lv i v) ((i, w) :: lvr.filter (fun q => !(q.1 == i) && (!(q.1 == i + 1) && !(q.1 + 1 == i && q.2.category == 2)))) :=
  ⟨rfl, hv, rL_filter (fun a b => !(a == i) && (!(a == i + 1) && !(a + 1 == i && b == 2))) h⟩
theorem rL_args {L : List Nat} : ∀ {as asr : List Value} (i : Nat), rS L as asr → rL L (lv_args i as) (lv_args i asr)
  | [], [], _, _ => trivial
  | v :: vs, w :: ws, i, h => by
    have e : w.category = v.category := rV_cat h.1
    unfold lv_args
    rw [e]
    exact ⟨rfl, h.1, rL_args _ h.2⟩
  | [], _ :: _, _, h => h.elim
  | _ :: _, [], _, h => h.elim
/-- the length of an instruction: of a switch by its row -/
def lnI : Instr → Nat → Nat
  | .tableswitch .., n => n
  | .lookupswitch .., n => n
  | .bipush _, _ | .iload _, _ | .lload _, _ | .fload _, _ | .dload _, _ | .aload _, _ | .istore _, _ | .lstore _, _ | .fstore _, _ | .dstore _, _ | .astore _, _ | .ldc _, _ | .newarray _, _ => 2
  | .sipush _, _ | .ldc_w _, _ | .ldc2_w _, _ | .iinc .., _ | .ifCond .., _ | .if_icmp .., _ | .if_acmp .., _ | .goto _, _ | .ifnull _, _ | .ifnonnull _, _ | .getstatic _, _ | .putstatic _, _ | .getfield _, _ | .putfield _, _ | .invokevirtual _, _ | .invokespecial _, _ | .invokestatic _, _ | .new _, _ | .anewarray _, _ | .checkcast _, _ | .instanceof _, _ => 3
  | _, _ => 1
end MJ
