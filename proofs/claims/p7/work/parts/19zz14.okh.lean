section CW
/-- what chkRow asks of a row besides its instruction -/
def chkRest (D : mM) (r : mR) (p : List Nat) : Bool := match r.2.1 with
  | .getfield idx => if r.2.2.2.1 = 30 then decide (mCl.length ≤ r.2.2.2.2.1) && atW (gp p 0) (.fieldLink (dy D).cls idx "java/lang/String" "value" "[B") else if r.2.2.2.1 = 31 then decide (mCl.length ≤ r.2.2.2.2.1) && atW (gp p 0) (.fieldLink (dy D).cls idx "java/lang/String" "coder" "B") else decide (r.2.2.2.1 < 20) && match mCl[r.2.2.2.2.1]? with
    | some (_, T, N) => decide (r.2.2.2.2.2.1 < N) && atW (gp p 0) (.fieldLink (dy D).cls idx (T r.2.2.2.2.2.1).1 (T r.2.2.2.2.2.1).2.1 (T r.2.2.2.2.2.1).2.2.1)
    | none => false
  | .putfield idx => decide (r.2.2.2.1 ≠ 20) && match mCl[r.2.2.2.2.1]? with
    | some (_, T, N) => decide (r.2.2.2.2.2.1 < N) && atW (gp p 0) (.fieldLink (dy D).cls idx (T r.2.2.2.2.2.1).1 (T r.2.2.2.2.2.1).2.1 (T r.2.2.2.2.2.1).2.2.1) && tyZb r.2.2.2.2.2.2 (parseFieldDescriptor (T r.2.2.2.2.2.1).2.2.1) &&
      (decide ((T r.2.2.2.2.2.1).2.2.2 = false) || (decide ((dy D).name = "<init>") && decide ((T r.2.2.2.2.2.1).1 = (dy D).cls)))
    | none => false
  | .aastore => decide (r.2.2.2.1 ≠ 20) && decide (r.2.2.2.2.1 = 65)
  | .new idx => if r.2.2.2.1 = 20 then decide (r.2.2.2.2.1 ≤ 2) && atW (gp p 0) (.classLink (dy D).cls idx (eNm r.2.2.2.2.1)) && atW (gp p 1) (.initialized (eNm r.2.2.2.2.1)) && atW (gp p 5) (.methodLink (dy D).cls (gp p 3) (Bundle.initS (eNm r.2.2.2.2.1))) &&
      (match mSx[gp p 4]? with | some q => decide (q.1 = (dy D).cls) && decide (q.2.1 = gp p 2) | none => false) &&
      decide (decode (dcc D) (r.1 + 3) = .ok (.dup, 1)) &&
      (if gp p 6 = 0 then decide (decode (dcc D) (r.1 + 4) = .ok (.ldc (gp p 2), 2)) && decide (decode (dcc D) (r.1 + 6) = .ok (.invokespecial (gp p 3), 3)) && decide (decode (dcc D) (r.1 + 9) = .ok (.athrow, 1))
       else decide (decode (dcc D) (r.1 + 4) = .ok (.ldc_w (gp p 2), 3)) && decide (decode (dcc D) (r.1 + 7) = .ok (.invokespecial (gp p 3), 3)) && decide (decode (dcc D) (r.1 + 10) = .ok (.athrow, 1)))
    else match mCl[r.2.2.2.2.1]? with
      | some (C, _, _) => atW (gp p 0) (.classLink (dy D).cls idx C)
      | none => false
  | .newarray at0 => decide (r.2.2.2.1 ≠ 20) && atW (gp p 0) (.arrayClass (newarray.typeOf at0))
  | .anewarray idx => decide (r.2.2.2.1 ≠ 20) && match ftOf mCl r.2.2.2.2.1 with
    | .object C => decide (C ∈ mAr) && atW (gp p 0) (.classLink (dy D).cls idx C)
    | _ => false
  | .ldc idx => if r.2.2.2.1 = 0 then atW (gp p 0) (.constant (dy D).cls idx (Int32.ofInt r.2.2.2.2.2.2)) else if r.2.2.2.1 = 1 then atW (gp p 0) (.constantFloat (dy D).cls idx (UInt32.ofNat r.2.2.2.2.1)) else if r.2.2.2.1 = 2 then (match mSx[gp p 0]? with | some q => decide (q.1 = (dy D).cls) && decide (q.2.1 = idx) && decide (q.2.2.2 = r.2.2.2.2.1) | none => false) else decide (r.2.2.2.1 ≠ 20)
  | .ldc_w idx => if r.2.2.2.1 = 0 then atW (gp p 0) (.constant (dy D).cls idx (Int32.ofInt r.2.2.2.2.2.2)) else if r.2.2.2.1 = 2 then (match mSx[gp p 0]? with | some q => decide (q.1 = (dy D).cls) && decide (q.2.1 = idx) && decide (q.2.2.2 = r.2.2.2.2.1) | none => false) else decide (r.2.2.2.1 ≠ 20)
  | .getstatic idx => if r.2.2.2.1 = 3 then atW (gp p 0) (.fieldLink (dy D).cls idx "java/lang/String" "COMPACT_STRINGS" "Z") else if r.2.2.2.1 = 4 then (if r.2.2.2.2.1 = 130 then atW (gp p 0) (.fieldLink (dy D).cls idx "java/lang/Integer" "DigitOnes" "[B") else decide (r.2.2.2.2.1 = 131) && atW (gp p 0) (.fieldLink (dy D).cls idx "java/lang/Integer" "DigitTens" "[B")) else if r.2.2.2.1 = 5 then atW (gp p 0) (.fieldLink (dy D).cls idx "jdk/internal/util/Preconditions" "SIOOBE_FORMATTER" "Ljava/util/function/BiFunction;") else decide (r.2.2.2.1 ≠ 20)
  | .invokespecial idx => if r.2.2.2.1 = 9 then atW (gp p 0) (.methodLink (dy D).cls idx Lib.objectInit) && atW (gp p 1) (.instanceMethod Lib.objectInit) && atW (gp p 2) (.code Lib.objectInit ⟨#[0xb1]⟩ 1 none) else if r.2.2.2.1 = 1 then (match mt r.2.2.2.2.1 with
      | some D2 => if r.2.2.2.2.2.1 = 1 then decide ((dy D2).name ≠ "<init>") && atW (gp p 0) (.methodLink (dy D).cls idx (dy D2)) && atW (gp p 1) (.instanceMethod (dy D2)) && atW (gp p 2) (.sameMethod (dy D2).cls (dy D2).cls (dy D2).name (dy D2).desc) && atW (gp p 3) (.superclass (dy D).cls (dy D2).cls)
        else decide ((dy D2).name = "<init>") && decide (drt D2 = none) && decide (dhh D2 = []) && (if gp p 2 = 1 then decide (((dy D).cls, idx, dy D2, "VendingRoutes") ∈ ngN) else atW (gp p 0) (.methodLink (dy D).cls idx (dy D2))) && atW (gp p 1) (.instanceMethod (dy D2))
      | none => false) else decide (r.2.2.2.1 ≠ 20)
  | .invokevirtual idx => if r.2.2.2.1 = 1 then (match mt r.2.2.2.2.1 with
      | some D2 => (match mCl[dci D2]? with
        | some q => decide (r.2.2.2.2.2.1 ≠ 7) && atW (gp p 0) (.methodLink (dy D).cls idx (dy D2)) && atW (gp p 1) (.instanceMethod (dy D2)) && atW (gp p 2) (.selects q.1 (dy D2) (dy D2))
        | none => atW (gp p 0) (.methodLink (dy D).cls idx (dy D2)) && atW (gp p 1) (.instanceMethod (dy D2)) && atW (gp p 2) (.selects "java/lang/String" (dy D2) (dy D2)))
      | none => false) else decide (r.2.2.2.1 ≠ 20)
  | .invokestatic idx => if r.2.2.2.1 = 1 then (match mt r.2.2.2.2.1 with
      | some D2 => atW (gp p 0) (.methodLink (dy D).cls idx (dy D2)) && atW (gp p 1) (.static (dy D2))
      | none => false) else if r.2.2.2.1 = 10 then wMa Lib.Math.min.name Lib.Math.min.code 2 (dy D).cls idx p else if r.2.2.2.1 = 11 then wMa Lib.Math.max.name Lib.Math.max.code 2 (dy D).cls idx p else if r.2.2.2.1 = 12 then wMa Lib.Math.abs.name Lib.Math.abs.code 1 (dy D).cls idx p else if r.2.2.2.1 = 16 then atW (gp p 0) (.methodLink (dy D).cls idx arraycopyName) && atW (gp p 1) (.native arraycopyName) && atW (gp p 2) (.static arraycopyName) && atW (gp p 3) (.initialized "java/lang/System") else decide (r.2.2.2.1 ≠ 20)
  | _ => decide (r.2.2.2.1 ≠ 20)
theorem chkRest_eq {D : mM} {r : mR} {p : List Nat} : chkRow D r p = (decide (decode (dcc D) r.1 = .ok (r.2.1, lnI r.2.1 r.2.2.1)) && chkRest D r p) := rfl
def chkRowW (D : mM) (b : ByteArray) (o : Nat) (r : mR) (p : List Nat) : Bool := decide (o ≤ r.1) && decide ((Jvm.ClassFile.Decoder.instr r.1).runAt b (r.1 - o) = .ok (r.2.1, r.1 - o + lnI r.2.1 r.2.2.1)) && chkRest D r p
def chkRowsW (D : mM) (b : ByteArray) (o : Nat) : List mR → List (List Nat) → Bool
  | r :: rs, p :: ps => chkRowW D b o r p && chkRowsW D b o rs ps
  | [], _ => true
  | _ :: _, [] => false
theorem chkRowW_ok {D : mM} {o n : Nat} (ho : o % 4 = 0) {r : mR} {p : List Nat} (h : chkRowW D (winB (dcc D) o n) o r p = true) : chkRow D r p = true := by
  unfold chkRowW at h
  simp only [Bool.and_eq_true, decide_eq_true_eq] at h
  rw [chkRest_eq, Bool.and_eq_true, decide_eq_true_eq]
  exact ⟨decode_win ho h.1.1 h.1.2, h.2⟩
theorem chkRowsW_ok {D : mM} {o n : Nat} (ho : o % 4 = 0) : ∀ {rs : List mR} {ps : List (List Nat)}, chkRowsW D (winB (dcc D) o n) o rs ps = true → ∀ r ∈ rs, okRow mCl mDf mG mAr mSx 65 mt D r
  | [], _, _ => fun r h => absurd h List.not_mem_nil
  | _ :: _, [], h => by cases h
  | r :: rs, p :: ps, h => by
    unfold chkRowsW at h
    simp only [Bool.and_eq_true] at h
    intro r' hr
    rcases List.mem_cons.mp hr with rfl | hr
    · exact chkRow_ok (chkRowW_ok ho h.1)
    · exact chkRowsW_ok ho h.2 r' hr
end CW
