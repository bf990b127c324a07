section CK
def mSx : List (String × Nat × String × Nat) := [("VendingRoutes", 92, "not so many bytes", 0), ("VendingRoutes$Scanner", 45, ";()<>=", 1), ("VendingRoutes$Parser", 115, "fleet", 2), ("VendingRoutes$Parser", 88, "the text has an error", 3), ("VendingRoutes$Parser", 122, "shift", 4), ("VendingRoutes$Parser", 129, "load", 5), ("VendingRoutes$Parser", 134, "visit", 6), ("VendingRoutes$Parser", 139, "alpha", 7), ("VendingRoutes$Parser", 143, "level", 8), ("VendingRoutes$Parser", 147, "horizon", 9), ("VendingRoutes$Parser", 47, "product", 10), ("VendingRoutes$Parser", 56, "machine", 11), ("VendingRoutes$Parser", 174, "gap", 12), ("VendingRoutes$Parser", 61, "slot", 13), ("VendingRoutes$Parser", 185, "every", 14), ("VendingRoutes$Parser", 66, "rule", 15), ("VendingRoutes$Parser", 212, "not", 16), ("VendingRoutes$Parser", 225, "days", 17), ("VendingRoutes$Parser", 227, "cash", 18), ("VendingRoutes$Parser", 229, "weekday", 19), ("VendingRoutes$Parser", 231, "visits", 20), ("VendingRoutes$Parser", 233, "empty", 21), ("VendingRoutes$Parser", 205, "and", 22), ("VendingRoutes$Parser", 207, "or", 23), ("VendingRoutes", 387, "no fleet", 24), ("VendingRoutes", 266, "no such machine", 25), ("VendingRoutes", 389, "no such slot", 26), ("VendingRoutes", 175, "no such day", 27), ("VendingRoutes", 199, "no such rule", 28), ("VendingRoutes", 225, "no slot of this rank", 29), ("VendingRoutes", 391, "no such product", 30), ("VendingRoutes", 242, "no machine of this rank", 31), ("VendingRoutes", 254, "no such place", 32), ("VendingRoutes", 296, "no such event", 33), ("VendingRoutes", 298, "no such part", 34), ("VendingRoutes", 322, "no such byte", 35), ("VendingRoutes", 395, "no such number of days", 36), ("VendingRoutes", 393, "no such rate", 37), ("VendingRoutes", 354, "no such level", 38), ("VendingRoutes", 356, "no such shift", 39), ("VendingRoutes", 361, "no such gap", 40), ("VendingRoutes", 370, "no such amount", 41), ("VendingRoutes", 378, "nothing to undo", 42), ("VendingRoutes", 385, "nothing is saved there", 43), ("VendingRoutesModel", 73, "days", 44), ("VendingRoutesModel", 75, "cash", 45), ("VendingRoutesModel", 77, "weekday", 46), ("VendingRoutesModel", 79, "visits", 47), ("VendingRoutesModel", 81, "empty", 48), ("VendingRoutesModel", 186, "fleet", 49), ("VendingRoutesModel", 188, "shift", 50), ("VendingRoutesModel", 194, "load", 51), ("VendingRoutesModel", 196, "visit", 52), ("VendingRoutesModel", 198, "alpha", 53), ("VendingRoutesModel", 200, "level", 54), ("VendingRoutesModel", 202, "horizon", 55), ("VendingRoutesModel", 261, "product", 56), ("VendingRoutesModel", 266, "machine", 57), ("VendingRoutesModel", 204, "gap", 58), ("VendingRoutesModel", 271, "slot", 59), ("VendingRoutesModel", 206, "every", 60), ("VendingRoutesModel", 276, "rule", 61), ("VendingRoutesModel", 229, "not", 62), ("VendingRoutesModel", 218, "and", 63), ("VendingRoutesModel", 220, "or", 64)]
def mAr : List String := ["VendingRoutes$Machine", "VendingRoutes$Slot", "VendingRoutes$State", "java/lang/String"]
def mg_0 : List mM := [m_0, m_1, m_2, m_3, m_4, m_5, m_6, m_7, m_8, m_9, m_10, m_11, m_12, m_13, m_14, m_15, m_16, m_17, m_18, m_19, m_20, m_21, m_22, m_23, m_24, m_25, m_26, m_27, m_28, m_29, m_30, m_31, m_32, m_33, m_34, m_35, m_36, m_37, m_38, m_39]
def mg_1 : List mM := [m_40, m_41, m_42, m_43, m_44, m_45, m_46, m_47, m_48, m_49, m_50, m_51, m_52, m_53, m_54, m_55, m_56, m_57, m_58, m_59, m_60, m_61, m_62, m_63, m_64, m_65, m_66, m_67, m_68, m_69, m_70, m_71, m_72, m_73, m_74, m_75, m_76, m_77, m_78, m_79]
def mg_2 : List mM := [m_80, m_81, m_82, m_83, m_84, m_85, m_86, m_87, m_88, m_89, m_90, m_91, m_92, m_93, m_94, m_95, m_96, m_97, m_98, m_99, m_100, m_101, m_102, m_103, m_104, m_105, m_106, m_107, m_108, m_109, m_110, m_111, m_112, m_113, m_114, m_115, m_116, m_117, m_118, m_119]
def mg_3 : List mM := [m_120, m_121, m_122, m_123, m_124, m_125, m_126, m_127, m_128, m_129, m_130, m_131, m_132, m_133, m_134, m_135, m_136, m_137, m_138, m_139, m_140, m_141, m_142, m_143, m_144, m_145, m_146, m_147, m_148, m_149, m_150, m_151, m_152, m_153, m_154, m_155, m_156, m_157, m_158, m_159]
def mg_4 : List mM := [m_160, m_161, m_162, m_163, m_164, m_165, m_166, m_167, m_168, m_169, m_170, m_171, m_172, m_173, m_174, m_175, m_176, m_177, m_178, m_179, m_180, m_181, m_182, m_183, m_184, m_185, m_186, m_187, m_188, m_189, m_190, m_191, m_192, m_193, m_194, m_195, m_196, m_197, m_198, m_199]
def mg_5 : List mM := [m_200, m_201, m_202, m_203, m_204, m_205, m_206, m_207, m_208, m_209, m_210, m_211, m_212, m_213, m_214, m_215, m_216, m_217, m_218, m_219, m_220, m_221, m_222, m_223, m_224, m_225, m_226, m_227, m_228, m_229, m_230, m_231, m_232, m_233, m_234, m_235, m_236, m_237, m_238, m_239]
def mg_6 : List mM := [m_240, m_241, m_242, m_243, m_244, m_245, m_246, m_247, m_248, m_249, m_250, m_251, m_252, m_253, m_254, m_255, m_256, m_257, m_258, m_259, m_260, m_261, m_262, m_263, m_264, m_265, m_266, m_267, m_268, m_269, m_270, m_271, m_272, m_273, m_274, m_275, m_276, m_277, m_278, m_279]
def mg_7 : List mM := [m_280, m_281, m_282, m_283, m_284, m_285, m_286, m_287, m_288, m_289, m_290, m_291, m_292, m_293, m_294, m_295, m_296, m_297, m_298, m_299, m_300, m_301, m_302, m_303, m_304, m_305, m_306, m_307, m_308, m_309, m_310, m_311, m_312, m_313, m_314, m_315, m_316, m_317, m_318, m_319]
def mg_8 : List mM := [m_320, m_321, m_322, m_323, m_324, m_325, m_326, m_327, m_328, m_329, m_330, m_331, m_332, m_333, m_334, m_335, m_336, m_337, m_338, m_339, m_340, m_341, m_342, m_343, m_344, m_345, m_346, m_347, m_348, m_349, m_350, m_351, m_352, m_353, m_354, m_355, m_356, m_357, m_358, m_359]
def mg_9 : List mM := [m_360, m_361, m_362, m_363, m_364, m_365, m_366, m_367, m_368, m_369, m_370, m_371, m_372, m_373, m_374, m_375, m_376, m_377, m_378, m_379, m_380, m_381, m_382, m_383, m_384, m_385, m_386, m_387, m_388, m_389, m_390, m_391, m_392, m_393, m_394, m_395, m_396, m_397, m_398, m_399]
def mg_10 : List mM := [m_400, m_401, m_402]
def mtG : List (List mM) := [mg_0, mg_1, mg_2, mg_3, mg_4, mg_5, mg_6, mg_7, mg_8, mg_9, mg_10]
def mt (n : Nat) : Option mM := match mtG[n / 40]? with
  | some g => g[n % 40]?
  | none => none
/-- a throw's words: those of one class of exceptions, but for the link to its constructor -/
theorem thr_to {E : Nat} {own0 : String} {ic0 : Nat} (h0 : (∀ w ∈ (vx_atS own0 ic0 (eNm E) eSup).filter goodWord, w ∈ mG) ∧ (∀ w ∈ (vx_atS own0 ic0 (eNm E) eSup).filter (fun w => !goodWord w), w ∈ ngW) ∧ (∀ w ∈ vx_atS own0 ic0 (eNm E) eSup, vx_ot w = true)) (own : String) (ic : Nat) (h : Cond.methodLink own ic (Bundle.initS (eNm E)) ∈ mG) :
    (∀ w ∈ (vx_atS own ic (eNm E) eSup).filter goodWord, w ∈ mG) ∧ (∀ w ∈ (vx_atS own ic (eNm E) eSup).filter (fun w => !goodWord w), w ∈ ngW) ∧ (∀ w ∈ vx_atS own ic (eNm E) eSup, vx_ot w = true) := by
  have key : ∀ w ∈ vx_atS own ic (eNm E) eSup, w = .methodLink own ic (Bundle.initS (eNm E)) ∨ w ∈ vx_atS own0 ic0 (eNm E) eSup := by
    intro w hw
    obtain ⟨h1, h2⟩ := List.mem_filter.mp hw
    by_cases he : w = .methodLink own ic (Bundle.initS (eNm E))
    · exact Or.inl he
    · refine Or.inr (List.mem_filter.mpr ⟨?_, h2⟩)
      unfold Bundle.ownAtoms at h1 ⊢
      rcases List.mem_append.mp h1 with h1 | h1
      · exact List.mem_append_left _ h1
      · rcases List.mem_cons.mp h1 with h1 | h1
        · exact absurd h1 he
        · exact List.mem_append_right _ (List.mem_cons_of_mem _ h1)
  refine ⟨fun w hw => ?_, fun w hw => ?_, fun w hw => ?_⟩
  · obtain ⟨h1, h2⟩ := List.mem_filter.mp hw
    rcases key w h1 with rfl | h3
    · exact h
    · exact h0.1 w (List.mem_filter.mpr ⟨h3, h2⟩)
  · obtain ⟨h1, h2⟩ := List.mem_filter.mp hw
    rcases key w h1 with rfl | h3
    · exact absurd (mG_good _ h) (by simpa using h2)
    · exact h0.2.1 w (List.mem_filter.mpr ⟨h3, h2⟩)
  · rcases key w hw with rfl | h3
    · show (_ || _) = true
      rw [mG_good _ h]; simp
    · exact h0.2.2 w h3
theorem thrR_0 : (∀ w ∈ (vx_atS "VendingRoutes" 380 (eNm 0) eSup).filter goodWord, w ∈ mG) ∧ (∀ w ∈ (vx_atS "VendingRoutes" 380 (eNm 0) eSup).filter (fun w => !goodWord w), w ∈ ngW) ∧ (∀ w ∈ vx_atS "VendingRoutes" 380 (eNm 0) eSup, vx_ot w = true) := ⟨fun w hw => List.mem_filter.mpr ⟨(show ∀ w ∈ (vx_atS "VendingRoutes" 380 (eNm 0) eSup).filter goodWord, w ∈ lw_tx from fun w hw => List.mem_append_left _ ((show ∀ w ∈ (vx_atS "VendingRoutes" 380 (eNm 0) eSup).filter goodWord, w ∈ lw_tbl by decide +kernel) w hw)) w hw, (List.mem_filter.mp hw).2⟩, by decide +kernel, by decide +kernel⟩
theorem thrR_1 : (∀ w ∈ (vx_atS "VendingRoutes" 94 (eNm 1) eSup).filter goodWord, w ∈ mG) ∧ (∀ w ∈ (vx_atS "VendingRoutes" 94 (eNm 1) eSup).filter (fun w => !goodWord w), w ∈ ngW) ∧ (∀ w ∈ vx_atS "VendingRoutes" 94 (eNm 1) eSup, vx_ot w = true) := ⟨fun w hw => List.mem_filter.mpr ⟨(show ∀ w ∈ (vx_atS "VendingRoutes" 94 (eNm 1) eSup).filter goodWord, w ∈ lw_tx from fun w hw => List.mem_append_left _ ((show ∀ w ∈ (vx_atS "VendingRoutes" 94 (eNm 1) eSup).filter goodWord, w ∈ lw_tbl by decide +kernel) w hw)) w hw, (List.mem_filter.mp hw).2⟩, by decide +kernel, by decide +kernel⟩
theorem thrR_2 : (∀ w ∈ (vx_atS "VendingRoutes$Parser" 90 (eNm 2) eSup).filter goodWord, w ∈ mG) ∧ (∀ w ∈ (vx_atS "VendingRoutes$Parser" 90 (eNm 2) eSup).filter (fun w => !goodWord w), w ∈ ngW) ∧ (∀ w ∈ vx_atS "VendingRoutes$Parser" 90 (eNm 2) eSup, vx_ot w = true) := ⟨fun w hw => List.mem_filter.mpr ⟨(show ∀ w ∈ (vx_atS "VendingRoutes$Parser" 90 (eNm 2) eSup).filter goodWord, w ∈ lw_tx from fun w hw => List.mem_append_left _ ((show ∀ w ∈ (vx_atS "VendingRoutes$Parser" 90 (eNm 2) eSup).filter goodWord, w ∈ lw_tbl by decide +kernel) w hw)) w hw, (List.mem_filter.mp hw).2⟩, by decide +kernel, by decide +kernel⟩
theorem thr_all : ∀ (E : Nat), E ≤ 2 → ∀ (own : String) (ic : Nat), Cond.methodLink own ic (Bundle.initS (eNm E)) ∈ mG → (∀ w ∈ (vx_atS own ic (eNm E) eSup).filter goodWord, w ∈ mG) ∧ (∀ w ∈ (vx_atS own ic (eNm E) eSup).filter (fun w => !goodWord w), w ∈ ngW) ∧ (∀ w ∈ vx_atS own ic (eNm E) eSup, vx_ot w = true)
  | 0, _, own, ic, h => thr_to thrR_0 own ic h
  | 1, _, own, ic, h => thr_to thrR_1 own ic h
  | 2, _, own, ic, h => thr_to thrR_2 own ic h
  | n + 3, h, _, _, _ => absurd h (by omega)
def tyZb (z : Int) (o : Option FieldType) : Bool := (decide (z = 0) && decide (o = some .int)) || (decide (z = 1) && decide (o = some .boolean)) || (decide (z = 2) && (o.map fun t => t.isReference).getD false) || (decide (z = 3) && decide (o = some .long)) || (decide (z = 4) && decide (o = some .float)) || (decide (z = 5) && decide (o = some .byte))
theorem tyZb_ok {z : Int} {t : FieldType} (h : tyZb z (some t) = true) : tyZ z t := by
  simp only [tyZb, Bool.or_eq_true, Bool.and_eq_true, decide_eq_true_eq, Option.some.injEq, Option.map_some, Option.getD_some] at h
  unfold tyZ
  rcases h with ((((h | h) | h) | h) | h) | h
  · exact Or.inl h
  · exact Or.inr (Or.inl h)
  · exact Or.inr (Or.inr (Or.inl h))
  · exact Or.inr (Or.inr (Or.inr (Or.inl h)))
  · exact Or.inr (Or.inr (Or.inr (Or.inr (Or.inl h))))
  · exact Or.inr (Or.inr (Or.inr (Or.inr (Or.inr h))))
def gp (ps : List Nat) (i : Nat) : Nat := ps.getD i 0
def wMa (y : MethodName) (cc : ByteArray) (n : Nat) (own : String) (idx : Nat) (p : List Nat) : Bool := atW (gp p 0) (.methodLink own idx y) && atW (gp p 1) (.static y) && atW (gp p 2) (.initialized "java/lang/Math") && atW (gp p 3) (.code y cc n (some .int))
/-- the rows of a method's table, decided -/
def chkRow (D : mM) (r : mR) (p : List Nat) : Bool := decide (decode (dcc D) r.1 = .ok (r.2.1, lnI r.2.1 r.2.2.1)) && match r.2.1 with
  | .getfield idx => if r.2.2.2.1 = 30 then decide (mCl.length ≤ r.2.2.2.2.1) && atW (gp p 0) (.fieldLink (dy D).cls idx "java/lang/String" "value" "[B") else if r.2.2.2.1 = 31 then decide (mCl.length ≤ r.2.2.2.2.1) && atW (gp p 0) (.fieldLink (dy D).cls idx "java/lang/String" "coder" "B") else decide (r.2.2.2.1 < 20) && match mCl[r.2.2.2.2.1]? with
    | some (_, T, N) => decide (r.2.2.2.2.2.1 < N) && atW (gp p 0) (.fieldLink (dy D).cls idx (T r.2.2.2.2.2.1).1 (T r.2.2.2.2.2.1).2.1 (T r.2.2.2.2.2.1).2.2.1)
    | none => false
  | .putfield idx => decide (r.2.2.2.1 ≠ 20) && match mCl[r.2.2.2.2.1]? with
    | some (_, T, N) => decide (r.2.2.2.2.2.1 < N) && atW (gp p 0) (.fieldLink (dy D).cls idx (T r.2.2.2.2.2.1).1 (T r.2.2.2.2.2.1).2.1 (T r.2.2.2.2.2.1).2.2.1) && tyZb r.2.2.2.2.2.2 (parseFieldDescriptor (T r.2.2.2.2.2.1).2.2.1) &&
      (decide ((T r.2.2.2.2.2.1).2.2.2 = false) || (decide ((dy D).name = "<init>") && decide ((T r.2.2.2.2.2.1).1 = (dy D).cls)))
    | none => false
  | .aastore => decide (r.2.2.2.1 ≠ 20) && decide (r.2.2.2.2.1 = 65)
  | .new idx => if r.2.2.2.1 = 20 then decide (r.2.2.2.2.1 ≤ 2) && atW (gp p 0) (.classLink (dy D).cls idx (eNm r.2.2.2.2.1)) && atW (gp p 1) (.initialized (eNm r.2.2.2.2.1)) && atW (gp p 5) (.methodLink (dy D).cls (gp p 3) (Bundle.initS (eNm r.2.2.2.2.1))) &&
      (match mSx[gp p 4]? with | some q => decide (q.1 = (dy D).cls) && decide (q.2.1 = gp p 2) | none => false) &&
      decide (decode (dcc D) (r.1 + 3) = .ok (.dup, 1)) &&
      (if gp p 6 = 0 then decide (decode (dcc D) (r.1 + 4) = .ok (.ldc (gp p 2), 2)) && decide (decode (dcc D) (r.1 + 6) = .ok (.invokespecial (gp p 3), 3)) && decide (decode (dcc D) (r.1 + 9) = .ok (.athrow, 1))
       else decide (decode (dcc D) (r.1 + 4) = .ok (.ldc_w (gp p 2), 3)) && decide (decode (dcc D) (r.1 + 7) = .ok (.invokespecial (gp p 3), 3)) && decide (decode (dcc D) (r.1 + 10) = .ok (.athrow, 1)))
    else match mCl[r.2.2.2.2.1]? with
      | some (C, _, _) => atW (gp p 0) (.classLink (dy D).cls idx C)
      | none => false
  | .newarray at0 => decide (r.2.2.2.1 ≠ 20) && atW (gp p 0) (.arrayClass (newarray.typeOf at0))
  | .anewarray idx => decide (r.2.2.2.1 ≠ 20) && match ftOf mCl r.2.2.2.2.1 with
    | .object C => decide (C ∈ mAr) && atW (gp p 0) (.classLink (dy D).cls idx C)
    | _ => false
  | .ldc idx => if r.2.2.2.1 = 0 then atW (gp p 0) (.constant (dy D).cls idx (Int32.ofInt r.2.2.2.2.2.2)) else if r.2.2.2.1 = 1 then atW (gp p 0) (.constantFloat (dy D).cls idx (UInt32.ofNat r.2.2.2.2.1)) else if r.2.2.2.1 = 2 then (match mSx[gp p 0]? with | some q => decide (q.1 = (dy D).cls) && decide (q.2.1 = idx) && decide (q.2.2.2 = r.2.2.2.2.1) | none => false) else decide (r.2.2.2.1 ≠ 20)
  | .ldc_w idx => if r.2.2.2.1 = 0 then atW (gp p 0) (.constant (dy D).cls idx (Int32.ofInt r.2.2.2.2.2.2)) else if r.2.2.2.1 = 2 then (match mSx[gp p 0]? with | some q => decide (q.1 = (dy D).cls) && decide (q.2.1 = idx) && decide (q.2.2.2 = r.2.2.2.2.1) | none => false) else decide (r.2.2.2.1 ≠ 20)
  | .getstatic idx => if r.2.2.2.1 = 3 then atW (gp p 0) (.fieldLink (dy D).cls idx "java/lang/String" "COMPACT_STRINGS" "Z") else if r.2.2.2.1 = 4 then (if r.2.2.2.2.1 = 130 then atW (gp p 0) (.fieldLink (dy D).cls idx "java/lang/Integer" "DigitOnes" "[B") else decide (r.2.2.2.2.1 = 131) && atW (gp p 0) (.fieldLink (dy D).cls idx "java/lang/Integer" "DigitTens" "[B")) else if r.2.2.2.1 = 5 then atW (gp p 0) (.fieldLink (dy D).cls idx "jdk/internal/util/Preconditions" "SIOOBE_FORMATTER" "Ljava/util/function/BiFunction;") else decide (r.2.2.2.1 ≠ 20)
  | .invokespecial idx => if r.2.2.2.1 = 9 then atW (gp p 0) (.methodLink (dy D).cls idx Lib.objectInit) && atW (gp p 1) (.instanceMethod Lib.objectInit) && atW (gp p 2) (.code Lib.objectInit ⟨#[0xb1]⟩ 1 none) else if r.2.2.2.1 = 1 then (match mt r.2.2.2.2.1 with
      | some D2 => if r.2.2.2.2.2.1 = 1 then decide ((dy D2).name ≠ "<init>") && atW (gp p 0) (.methodLink (dy D).cls idx (dy D2)) && atW (gp p 1) (.instanceMethod (dy D2)) && atW (gp p 2) (.sameMethod (dy D2).cls (dy D2).cls (dy D2).name (dy D2).desc) && atW (gp p 3) (.superclass (dy D).cls (dy D2).cls)
        else decide ((dy D2).name = "<init>") && decide (drt D2 = none) && decide (dhh D2 = []) && (if gp p 2 = 1 then decide (((dy D).cls, idx, dy D2, "VendingRoutes") ∈ ngN) else atW (gp p 0) (.methodLink (dy D).cls idx (dy D2))) && atW (gp p 1) (.instanceMethod (dy D2))
      | none => false) else decide (r.2.2.2.1 ≠ 20)
  | .invokevirtual idx => if r.2.2.2.1 = 1 then (match mt r.2.2.2.2.1 with
      | some D2 => (match mCl[dci D2]? with
        | some q => decide (r.2.2.2.2.2.1 ≠ 7) && atW (gp p 0) (.methodLink (dy D).cls idx (dy D2)) && atW (gp p 1) (.instanceMethod (dy D2)) && atW (gp p 2) (.selects q.1 (dy D2) (dy D2))
        | none => atW (gp p 0) (.methodLink (dy D).cls idx (dy D2)) && atW (gp p 1) (.instanceMethod (dy D2)) && atW (gp p 2) (.selects "java/lang/String" (dy D2) (dy D2)))
      | none => false) else decide (r.2.2.2.1 ≠ 20)
  | .invokestatic idx => if r.2.2.2.1 = 1 then (match mt r.2.2.2.2.1 with
      | some D2 => atW (gp p 0) (.methodLink (dy D).cls idx (dy D2)) && atW (gp p 1) (.static (dy D2))
      | none => false) else if r.2.2.2.1 = 10 then wMa Lib.Math.min.name Lib.Math.min.code 2 (dy D).cls idx p else if r.2.2.2.1 = 11 then wMa Lib.Math.max.name Lib.Math.max.code 2 (dy D).cls idx p else if r.2.2.2.1 = 12 then wMa Lib.Math.abs.name Lib.Math.abs.code 1 (dy D).cls idx p else if r.2.2.2.1 = 16 then atW (gp p 0) (.methodLink (dy D).cls idx arraycopyName) && atW (gp p 1) (.native arraycopyName) && atW (gp p 2) (.static arraycopyName) && atW (gp p 3) (.initialized "java/lang/System") else decide (r.2.2.2.1 ≠ 20)
  | _ => decide (r.2.2.2.1 ≠ 20)
theorem wMa_ok {y : MethodName} {cc : ByteArray} {n : Nat} {own : String} {idx : Nat} {p : List Nat} (h : wMa y cc n own idx p = true) : Cond.methodLink own idx y ∈ mG ∧ Cond.static y ∈ mG ∧ Cond.initialized "java/lang/Math" ∈ mG ∧ Cond.code y cc n (some .int) ∈ mG := by
  simp only [wMa, Bool.and_eq_true] at h
  exact ⟨atW_ok h.1.1.1, atW_ok h.1.1.2, atW_ok h.1.2, atW_ok h.2⟩
theorem sx_in {i : Nat} {q : String × Nat × String × Nat} (h : mSx[i]? = some q) : q ∈ mSx := List.mem_of_getElem? h
set_option maxHeartbeats 4000000 in
theorem chkRow_ok {D : mM} {r : mR} {p : List Nat} (h : chkRow D r p = true) : okRow mCl mDf mG mAr mSx 65 mt D r := by
  obtain ⟨pc, i, len, k, a, b, z⟩ := r
  unfold chkRow at h
  dsimp only at h
  rw [Bool.and_eq_true, decide_eq_true_eq] at h
  obtain ⟨h0, h⟩ := h
  refine ⟨h0, ?_⟩
  dsimp only
  clear h0
  split at h
  · split at h
    · rename_i k0
      simp only [Bool.and_eq_true, decide_eq_true_eq] at h
      exact ⟨by omega, Or.inr ⟨h.1, fun _ => atW_ok h.2, fun _ => by omega⟩⟩
    · split at h
      · rename_i k0
        simp only [Bool.and_eq_true, decide_eq_true_eq] at h
        exact ⟨by omega, Or.inr ⟨h.1, fun _ => by omega, fun _ => atW_ok h.2⟩⟩
      · simp only [Bool.and_eq_true, decide_eq_true_eq] at h
        obtain ⟨h1, h⟩ := h
        refine ⟨by omega, Or.inl ⟨by show k < 30; omega, ?_⟩⟩
        split at h
        · rename_i C T N hc
          simp only [Bool.and_eq_true, decide_eq_true_eq] at h
          obtain ⟨fs, -, f⟩ := clF_of _ _ hc
          exact ⟨C, T, N, hc, h.1, f.1, atW_ok h.2⟩
        · cases h
  · simp only [Bool.and_eq_true, decide_eq_true_eq] at h
    obtain ⟨h1, h⟩ := h
    refine ⟨h1, ?_⟩
    split at h
    · rename_i C T N hc
      simp only [Bool.and_eq_true, Bool.or_eq_true, decide_eq_true_eq] at h
      obtain ⟨fs, -, f1, ⟨ty, f2, -⟩, f3, -⟩ := clF_of _ _ hc
      obtain ⟨⟨⟨g1, g2⟩, g3⟩, g4⟩ := h
      rw [f2 _ g1] at g3
      refine ⟨C, T, N, ty, hc, g1, f1, atW_ok g2, f2, f3, ?_, tyZb_ok g3⟩
      rcases g4 with g4 | ⟨g4, g5⟩
      · exact Or.inl g4
      · cases hb : (T b).2.2.2 with
        | false => exact Or.inl rfl
        | true => exact Or.inr ⟨rfl, g4, g5⟩
    · cases h
  · simp only [Bool.and_eq_true, decide_eq_true_eq] at h
    exact h
  · split at h
    · rename_i h20
      simp only [Bool.and_eq_true, decide_eq_true_eq] at h
      obtain ⟨⟨⟨⟨⟨⟨h1, h2⟩, h3⟩, h4⟩, h5⟩, h6⟩, h7⟩ := h
      refine Or.inl ⟨h20, ?_⟩
      obtain ⟨t1, t2, t3⟩ := thr_all _ h1 _ _ (atW_ok h4)
      split at h5
      · rename_i q hq
        simp only [Bool.and_eq_true, decide_eq_true_eq] at h5
        refine ⟨gp p 2, gp p 3, q.2.2.1, q.2.2.2, atW_ok h2, atW_ok h3, ?_, t1, t2, ?_, h6, ?_⟩
        · rw [← h5.1, ← h5.2]; exact sx_in hq
        · intro w hw
          rcases List.mem_cons.mp hw with rfl | hw
          · show (_ || _) = true
            rw [mG_good _ (atW_ok h2)]; simp
          · rcases List.mem_cons.mp hw with rfl | hw
            · show (_ || _) = true
              rw [mG_good _ (atW_ok h3)]; simp
            · exact t3 w hw
        · split at h7
          · simp only [Bool.and_eq_true, decide_eq_true_eq] at h7
            exact Or.inl ⟨h7.1.1, h7.1.2, h7.2⟩
          · simp only [Bool.and_eq_true, decide_eq_true_eq] at h7
            exact Or.inr ⟨h7.1.1, h7.1.2, h7.2⟩
      · cases h5
    · rename_i h20
      refine Or.inr ⟨h20, ?_⟩
      split at h
      · rename_i C T N hc
        obtain ⟨fs, hf, f1, ⟨ty, f2, f3⟩, f4, f5, f6, f7, f8⟩ := clF_of _ _ hc
        exact ⟨C, T, N, ty, fs, hc, hf, f7, f1, f2, f3, f8, atW_ok h, f5, f6⟩
      · cases h
  · simp only [Bool.and_eq_true, decide_eq_true_eq] at h
    exact ⟨h.1, atW_ok h.2⟩
  · simp only [Bool.and_eq_true, decide_eq_true_eq] at h
    obtain ⟨h1, h⟩ := h
    refine ⟨h1, ?_⟩
    split at h
    · rename_i C hc
      simp only [Bool.and_eq_true, decide_eq_true_eq] at h
      exact ⟨C, hc, h.1, atW_ok h.2⟩
    · cases h
  · split at h
    · rename_i k0
      exact ⟨by omega, fun _ => atW_ok h, fun _ => by omega, fun _ => by omega⟩
    · split at h
      · rename_i k0
        exact ⟨by omega, fun _ => by omega, fun _ => atW_ok h, fun _ => by omega⟩
      · split at h
        · rename_i k0
          split at h
          · rename_i q hq
            simp only [Bool.and_eq_true, decide_eq_true_eq] at h
            exact ⟨by omega, fun _ => by omega, fun _ => by omega, fun _ => ⟨q.2.2.1, by rw [← h.1.1, ← h.1.2, ← h.2]; exact sx_in hq⟩⟩
          · cases h
        · simp only [decide_eq_true_eq] at h
          exact ⟨h, fun _ => by omega, fun _ => by omega, fun _ => by omega⟩
  · split at h
    · rename_i k0
      exact ⟨by omega, fun _ => atW_ok h, fun _ => by omega⟩
    · split at h
      · rename_i k0
        split at h
        · rename_i q hq
          simp only [Bool.and_eq_true, decide_eq_true_eq] at h
          exact ⟨by omega, fun _ => by omega, fun _ => ⟨q.2.2.1, by rw [← h.1.1, ← h.1.2, ← h.2]; exact sx_in hq⟩⟩
        · cases h
      · simp only [decide_eq_true_eq] at h
        exact ⟨h, fun _ => by omega, fun _ => by omega⟩
  · split at h
    · exact ⟨by omega, fun _ => atW_ok h, fun _ => by omega, fun _ => by omega⟩
    · split at h
      · rename_i k0
        refine ⟨by omega, fun _ => by omega, fun _ => ?_, fun _ => by omega⟩
        split at h
        · rename_i k1
          exact ⟨_, by rw [k1]; exact List.mem_cons_self, atW_ok h⟩
        · simp only [Bool.and_eq_true, decide_eq_true_eq] at h
          exact ⟨_, by rw [h.1]; exact List.mem_cons_of_mem _ List.mem_cons_self, atW_ok h.2⟩
      · split at h
        · exact ⟨by omega, fun _ => by omega, fun _ => by omega, fun _ => atW_ok h⟩
        · simp only [decide_eq_true_eq] at h
          exact ⟨h, fun _ => by omega, fun _ => by omega, fun _ => by omega⟩
  · split at h
    · simp only [Bool.and_eq_true] at h
      exact ⟨by omega, fun _ => ⟨atW_ok h.1.1, atW_ok h.1.2, atW_ok h.2⟩, fun _ => by omega⟩
    · split at h
      · split at h
        · rename_i D2 hD2
          refine ⟨by omega, fun _ => by omega, fun _ D3 hD3 => ?_⟩
          cases hD2.symm.trans hD3
          split at h
          · rename_i t1
            simp only [Bool.and_eq_true, decide_eq_true_eq] at h
            exact ⟨atW_ok h.1.1.2, Or.inl ⟨t1, h.1.1.1.1, atW_ok h.1.1.1.2, atW_ok h.1.2, atW_ok h.2⟩⟩
          · simp only [Bool.and_eq_true, decide_eq_true_eq] at h
            obtain ⟨⟨⟨⟨g1, g2⟩, g3⟩, g4⟩, g5⟩ := h
            refine ⟨atW_ok g5, Or.inr ⟨g1, g2, g3, ?_⟩⟩
            split at g4
            · exact Or.inr ⟨_, of_decide_eq_true g4⟩
            · exact Or.inl (atW_ok g4)
        · cases h
      · simp only [decide_eq_true_eq] at h
        exact ⟨h, fun _ => by omega, fun _ => by omega⟩
  · split at h
    · split at h
      · rename_i D2 hD2
        split at h
        · rename_i q hq
          simp only [Bool.and_eq_true, decide_eq_true_eq] at h
          refine ⟨by omega, fun _ D3 hD3 => ?_⟩
          cases hD2.symm.trans hD3
          exact ⟨q.1, atW_ok h.1.1.2, atW_ok h.1.2, atW_ok h.2, Or.inl ⟨h.1.1.1, by rw [hq]; rfl⟩⟩
        · rename_i hq
          simp only [Bool.and_eq_true] at h
          refine ⟨by omega, fun _ D3 hD3 => ?_⟩
          cases hD2.symm.trans hD3
          exact ⟨_, atW_ok h.1.1, atW_ok h.1.2, atW_ok h.2, Or.inr ⟨hq, rfl⟩⟩
      · cases h
    · simp only [decide_eq_true_eq] at h
      exact ⟨h, fun _ => by omega⟩
  · split at h
    · split at h
      · rename_i D2 hD2
        simp only [Bool.and_eq_true] at h
        refine ⟨by omega, fun _ D3 hD3 => ?_, fun _ => by omega, fun _ => by omega, fun _ => by omega, fun _ => by omega⟩
        cases hD2.symm.trans hD3
        exact ⟨atW_ok h.1, atW_ok h.2⟩
      · cases h
    · split at h
      · exact ⟨by omega, fun _ => by omega, fun _ => wMa_ok h, fun _ => by omega, fun _ => by omega, fun _ => by omega⟩
      · split at h
        · exact ⟨by omega, fun _ => by omega, fun _ => by omega, fun _ => wMa_ok h, fun _ => by omega, fun _ => by omega⟩
        · split at h
          · exact ⟨by omega, fun _ => by omega, fun _ => by omega, fun _ => by omega, fun _ => wMa_ok h, fun _ => by omega⟩
          · split at h
            · simp only [Bool.and_eq_true] at h
              exact ⟨by omega, fun _ => by omega, fun _ => by omega, fun _ => by omega, fun _ => by omega, fun _ => ⟨atW_ok h.1.1.1, atW_ok h.1.1.2, atW_ok h.1.2, atW_ok h.2⟩⟩
            · simp only [decide_eq_true_eq] at h
              exact ⟨h, fun _ => by omega, fun _ => by omega, fun _ => by omega, fun _ => by omega, fun _ => by omega⟩
  · simp only [decide_eq_true_eq] at h
    split <;> first | exact h | exact absurd rfl (by assumption) | simp_all
def chkRows (D : mM) : List mR → List (List Nat) → Bool
  | r :: rs, p :: ps => chkRow D r p && chkRows D rs ps
  | [], _ => true
  | _ :: _, [] => false
theorem chkRows_ok' {D : mM} : ∀ {rs : List mR} {ps : List (List Nat)}, chkRows D rs ps = true → ∀ r ∈ rs, okRow mCl mDf mG mAr mSx 65 mt D r
  | [], _, _ => fun r h => absurd h List.not_mem_nil
  | _ :: _, [], h => by cases h
  | r :: rs, p :: ps, h => by
    unfold chkRows at h
    simp only [Bool.and_eq_true] at h
    intro r' hr
    rcases List.mem_cons.mp hr with rfl | hr
    · exact chkRow_ok h.1
    · exact chkRows_ok' h.2 r' hr
theorem chkRows_ok {D : mM} {ps : List (List Nat)} (h : chkRows D (drw D) ps = true) : ∀ r ∈ drw D, okRow mCl mDf mG mAr mSx 65 mt D r := chkRows_ok' h
def chkHs (own : String) : List (Nat × Nat × Nat × Nat) → List Nat → List Nat → Bool
  | q :: hs, x :: xs, p :: ps => decide (q.2.2.2 ≠ 0) && atW p (.classLink own q.2.2.2 (eNm x)) && decide (x ≤ 2) && chkHs own hs xs ps
  | [], [], _ => true
  | _, _, _ => false
theorem chkHs_ok {own : String} : ∀ {hs : List (Nat × Nat × Nat × Nat)} {xs ps : List Nat}, chkHs own hs xs ps = true → okHs mG own hs xs
  | [], [], _, _ => trivial
  | q :: hs, x :: xs, p :: ps, h => by
    unfold chkHs at h
    simp only [Bool.and_eq_true, decide_eq_true_eq] at h
    exact ⟨h.1.1.1, atW_ok h.1.1.2, h.1.2, chkHs_ok h.2⟩
  | [], _ :: _, _, h => by cases h
  | _ :: _, [], _, h => by cases h
  | _ :: _, _ :: _, [], h => by cases h
def chkD (D : mM) (q : List Nat) (ps : List (List Nat)) : Bool := decide (plainName (dy D).cls = true) && atW (gp q 0) (cdW (dy D) (dcc D) (dml D) (drt D) (dhh D)) && atW (gp q 1) (.initialized (dy D).cls) && (decide ((dy D).cls ≠ "java/lang/invoke/MethodHandle") && decide ((dy D).cls ≠ "java/lang/invoke/VarHandle")) && decide ((parseMethodDescriptor (dy D).desc).map (fun d => d.parameters.length) = some (dna D)) && decide (dml D ≤ 23) && chkHs (dy D).cls (dhh D) (dhx D) (q.drop 2) && chkRows D (drw D) ps
theorem chkD_ok {D : mM} {q : List Nat} {ps : List (List Nat)} (h : chkD D q ps = true) : okD mCl mDf mG mAr mSx 65 mt D := by
  simp only [chkD, Bool.and_eq_true, decide_eq_true_eq] at h
  obtain ⟨⟨⟨⟨⟨⟨⟨h1, h2⟩, h3⟩, h4⟩, h5⟩, h6⟩, h7⟩, h8⟩ := h
  exact ⟨h1, atW_ok h2, atW_ok h3, h4, h5, h6, chkHs_ok h7, chkRows_ok h8⟩
end CK
