def lw_tb : List Cond := lw_tbl.filter goodWord
theorem tb0 {w : Cond} (h : w ∈ k2_sels lw_privs) (g : goodWord w = true) : w ∈ lw_tb := List.mem_filter.mpr ⟨List.mem_append_left _ h, g⟩
theorem tbr {w : Cond} (h : w ∈ tables_1) (g : goodWord w = true) : w ∈ lw_tb := List.mem_filter.mpr ⟨List.mem_append_right _ h, g⟩
theorem tb1 {w : Cond} (h : w ∈ tables_1_1) (g : goodWord w = true) : w ∈ lw_tb := tbr (List.mem_append_left _ h) g
theorem tb2 {w : Cond} (h : w ∈ tables_1_2) (g : goodWord w = true) : w ∈ lw_tb := tbr (List.mem_append_right _ (List.mem_append_left _ h)) g
theorem tb3 {w : Cond} (h : w ∈ tables_1_3) (g : goodWord w = true) : w ∈ lw_tb := tbr (List.mem_append_right _ (List.mem_append_right _ (List.mem_append_left _ h))) g
theorem tb4 {w : Cond} (h : w ∈ tables_1_4) (g : goodWord w = true) : w ∈ lw_tb := tbr (List.mem_append_right _ (List.mem_append_right _ (List.mem_append_right _ (List.mem_append_left _ h)))) g
theorem tb5 {w : Cond} (h : w ∈ tables_1_5) (g : goodWord w = true) : w ∈ lw_tb := tbr (List.mem_append_right _ (List.mem_append_right _ (List.mem_append_right _ (List.mem_append_right _ h)))) g
theorem tbl_of {w : Cond} (h : w ∈ lw_tb) : w ∈ lw_tbl := (List.mem_filter.mp h).1
theorem good_tb {w : Cond} (h : w ∈ lw_tb) : (w.onTables && w.keeps) = true ∨ ∃ ty, w = .arrayClass ty := good_of_word (List.mem_filter.mp h).2
/-- an instance method that is called on an object of class CC -/
def MwV (CC : String) (y : MethodName) (bytes : ByteArray) (maxL : Nat) (ret : Option FieldType) (n : Nat) : Prop :=
  (y.cls = CC ∧ y.cls ≠ "java/lang/invoke/MethodHandle" ∧ y.cls ≠ "java/lang/invoke/VarHandle" ∧ (parseMethodDescriptor y.desc).map (fun d => d.parameters.length) = some n) ∧ Cond.instanceMethod y ∈ lw_tb ∧ Cond.selects CC y y ∈ lw_tb ∧ Cond.initialized CC ∈ lw_tb ∧ Cond.code y bytes maxL ret ∈ lw_tb
/-- a static method -/
def MwS (y : MethodName) (bytes : ByteArray) (maxL : Nat) (ret : Option FieldType) (n : Nat) : Prop :=
  (y.cls ≠ "java/lang/invoke/MethodHandle" ∧ y.cls ≠ "java/lang/invoke/VarHandle" ∧ (parseMethodDescriptor y.desc).map (fun d => d.parameters.length) = some n) ∧ Cond.static y ∈ lw_tb ∧ Cond.initialized y.cls ∈ lw_tb ∧ Cond.code y bytes maxL ret ∈ lw_tb
theorem GoodIn.tb {ws : List Cond} (h : ∀ w ∈ ws, w ∈ lw_tb) : GoodIn lw_tb ws := fun w hw => ⟨h w hw, good_tb (h w hw)⟩
theorem cons_tb {c : Cond} (h : c ∈ lw_tb) : ∀ w ∈ c :: lw_tb, w ∈ lw_tb := fun w hw => (List.mem_cons.mp hw).elim (fun e => e ▸ h) id
theorem MwV.good {own CC : String} {idx maxL n : Nat} {y : MethodName} {bytes : ByteArray} {ret : Option FieldType} (h : MwV CC y bytes maxL ret n) (hl : Cond.methodLink own idx y ∈ lw_tb) : GoodIn lw_tb (wsV own idx CC y (Cond.code y bytes maxL ret :: lw_tb)) := by
  obtain ⟨-, h1, h2, h3, h4⟩ := h
  refine GoodIn.tb (fun w hw => ?_)
  rcases List.mem_append.mp hw with hw | hw
  · simp only [List.mem_cons, List.not_mem_nil, or_false] at hw
    rcases hw with rfl | rfl | rfl | rfl <;> assumption
  · exact cons_tb h4 w hw
theorem MwS.good {own : String} {idx maxL n : Nat} {y : MethodName} {bytes : ByteArray} {ret : Option FieldType} (h : MwS y bytes maxL ret n) (hl : Cond.methodLink own idx y ∈ lw_tb) : GoodIn lw_tb (va_wsS own idx y (Cond.code y bytes maxL ret :: lw_tb)) := by
  obtain ⟨-, h1, h2, h3⟩ := h
  refine GoodIn.tb (fun w hw => ?_)
  rcases List.mem_append.mp hw with hw | hw
  · simp only [List.mem_cons, List.not_mem_nil, or_false] at hw
    rcases hw with rfl | rfl | rfl <;> assumption
  · exact cons_tb h3 w hw

set_option maxRecDepth 100000 in
theorem q0 : Cond.selects RX1 yX1_survey yX1_survey ∈ lw_tb := tb0 (List.mem_of_getElem? (i := 0) rfl) rfl
set_option maxRecDepth 100000 in
theorem q1 : Cond.selects RX1 yX1_findFault yX1_findFault ∈ lw_tb := tb0 (List.mem_of_getElem? (i := 1) rfl) rfl
set_option maxRecDepth 100000 in
theorem q2 : Cond.selects RX1 yX1_layCells yX1_layCells ∈ lw_tb := tb0 (List.mem_of_getElem? (i := 2) rfl) rfl
set_option maxRecDepth 100000 in
theorem q3 : Cond.selects RX6 yX6_measureAnew yX6_measureAnew ∈ lw_tb := tb0 (List.mem_of_getElem? (i := 3) rfl) rfl
set_option maxRecDepth 100000 in
theorem q4 : Cond.selects RX5 yX5_bitsAsBuilt yX5_bitsAsBuilt ∈ lw_tb := tb0 (List.mem_of_getElem? (i := 4) rfl) rfl
set_option maxRecDepth 100000 in
theorem q5 : Cond.selects RX5 yX5_darkHours yX5_darkHours ∈ lw_tb := tb0 (List.mem_of_getElem? (i := 5) rfl) rfl
set_option maxRecDepth 100000 in
theorem q6 : Cond.selects RX5 yX5_reachOf yX5_reachOf ∈ lw_tb := tb0 (List.mem_of_getElem? (i := 6) rfl) rfl
set_option maxRecDepth 100000 in
theorem q7 : Cond.selects RX5 yX5_rise yX5_rise ∈ lw_tb := tb0 (List.mem_of_getElem? (i := 7) rfl) rfl
set_option maxRecDepth 100000 in
theorem q8 : Cond.selects RX6 yX6_isCell yX6_isCell ∈ lw_tb := tb0 (List.mem_of_getElem? (i := 8) rfl) rfl
set_option maxRecDepth 100000 in
theorem q9 : Cond.selects RX6 yX6_found yX6_found ∈ lw_tb := tb0 (List.mem_of_getElem? (i := 9) rfl) rfl
set_option maxRecDepth 100000 in
theorem q10 : Cond.selects RX6 yX6_knowParts yX6_knowParts ∈ lw_tb := tb0 (List.mem_of_getElem? (i := 10) rfl) rfl
set_option maxRecDepth 100000 in
theorem q11 : Cond.selects RX2 yX2_prepare yX2_prepare ∈ lw_tb := tb0 (List.mem_of_getElem? (i := 11) rfl) rfl
set_option maxRecDepth 100000 in
theorem q12 : Cond.selects RX2 yX2_fillSums yX2_fillSums ∈ lw_tb := tb0 (List.mem_of_getElem? (i := 12) rfl) rfl
set_option maxRecDepth 100000 in
theorem q13 : Cond.selects RX2 yX2_differenceOf yX2_differenceOf ∈ lw_tb := tb0 (List.mem_of_getElem? (i := 13) rfl) rfl
set_option maxRecDepth 100000 in
theorem q14 : Cond.selects RX2 yX2_sumOf yX2_sumOf ∈ lw_tb := tb0 (List.mem_of_getElem? (i := 14) rfl) rfl
set_option maxRecDepth 100000 in
theorem q15 : Cond.selects RX2 yX2_bothHang yX2_bothHang ∈ lw_tb := tb0 (List.mem_of_getElem? (i := 15) rfl) rfl
set_option maxRecDepth 100000 in
theorem q16 : Cond.selects RX2 yX2_hangs yX2_hangs ∈ lw_tb := tb0 (List.mem_of_getElem? (i := 16) rfl) rfl
set_option maxRecDepth 100000 in
theorem q17 : Cond.selects RX2 yX2_nextTo yX2_nextTo ∈ lw_tb := tb0 (List.mem_of_getElem? (i := 17) rfl) rfl
set_option maxRecDepth 100000 in
theorem q18 : Cond.selects RX6 yX6_weighLosses yX6_weighLosses ∈ lw_tb := tb0 (List.mem_of_getElem? (i := 18) rfl) rfl
set_option maxRecDepth 100000 in
theorem q19 : Cond.selects RX6 yX6_mostLost yX6_mostLost ∈ lw_tb := tb0 (List.mem_of_getElem? (i := 19) rfl) rfl
set_option maxRecDepth 100000 in
theorem q20 : Cond.selects RX6 yX6_weighFall yX6_weighFall ∈ lw_tb := tb0 (List.mem_of_getElem? (i := 20) rfl) rfl
set_option maxRecDepth 100000 in
theorem q21 : Cond.selects RX6 yX6_worthTo yX6_worthTo ∈ lw_tb := tb0 (List.mem_of_getElem? (i := 21) rfl) rfl
set_option maxRecDepth 100000 in
theorem q22 : Cond.selects RX6 yX6_wouldSwap yX6_wouldSwap ∈ lw_tb := tb0 (List.mem_of_getElem? (i := 22) rfl) rfl
set_option maxRecDepth 100000 in
theorem q23 : Cond.selects RX6 yX6_wouldRather yX6_wouldRather ∈ lw_tb := tb0 (List.mem_of_getElem? (i := 23) rfl) rfl
set_option maxRecDepth 100000 in
theorem q24 : Cond.selects RX6 yX6_countPairs yX6_countPairs ∈ lw_tb := tb0 (List.mem_of_getElem? (i := 24) rfl) rfl
set_option maxRecDepth 100000 in
theorem q25 : Cond.selects RX6 yX6_countRings yX6_countRings ∈ lw_tb := tb0 (List.mem_of_getElem? (i := 25) rfl) rfl
set_option maxRecDepth 100000 in
theorem q26 : Cond.selects RX6 yX6_isRing yX6_isRing ∈ lw_tb := tb0 (List.mem_of_getElem? (i := 26) rfl) rfl
set_option maxRecDepth 100000 in
theorem q27 : Cond.selects RX3 yX3_bestFrom yX3_bestFrom ∈ lw_tb := tb0 (List.mem_of_getElem? (i := 27) rfl) rfl
set_option maxRecDepth 100000 in
theorem q28 : Cond.selects RX3 yX3_payFrom yX3_payFrom ∈ lw_tb := tb0 (List.mem_of_getElem? (i := 28) rfl) rfl
set_option maxRecDepth 100000 in
theorem q29 : Cond.selects RX3 yX3_mayStand yX3_mayStand ∈ lw_tb := tb0 (List.mem_of_getElem? (i := 29) rfl) rfl
set_option maxRecDepth 100000 in
theorem q30 : Cond.selects RX3 yX3_leastSort yX3_leastSort ∈ lw_tb := tb0 (List.mem_of_getElem? (i := 30) rfl) rfl
set_option maxRecDepth 100000 in
theorem q31 : Cond.selects RX6 yX6_fitsAllSeen yX6_fitsAllSeen ∈ lw_tb := tb0 (List.mem_of_getElem? (i := 31) rfl) rfl
set_option maxRecDepth 100000 in
theorem q32 : Cond.selects RX0 yX0_reduce yX0_reduce ∈ lw_tb := tb0 (List.mem_of_getElem? (i := 32) rfl) rfl
set_option maxRecDepth 100000 in
theorem q33 : Cond.selects RX0 yX0_countWays yX0_countWays ∈ lw_tb := tb0 (List.mem_of_getElem? (i := 33) rfl) rfl
set_option maxRecDepth 100000 in
theorem q34 : Cond.selects RX6 yX6_refuseItem yX6_refuseItem ∈ lw_tb := tb0 (List.mem_of_getElem? (i := 34) rfl) rfl
set_option maxRecDepth 100000 in
theorem q35 : Cond.selects RX6 yX6_countStanding yX6_countStanding ∈ lw_tb := tb0 (List.mem_of_getElem? (i := 35) rfl) rfl
set_option maxRecDepth 100000 in
theorem q36 : Cond.selects RX6 yX6_countOwners yX6_countOwners ∈ lw_tb := tb0 (List.mem_of_getElem? (i := 36) rfl) rfl
set_option maxRecDepth 100000 in
theorem q37 : Cond.selects RX6 yX6_mixCell yX6_mixCell ∈ lw_tb := tb0 (List.mem_of_getElem? (i := 37) rfl) rfl
set_option maxRecDepth 100000 in
theorem q38 : Cond.selects RX6 yX6_mixChances yX6_mixChances ∈ lw_tb := tb0 (List.mem_of_getElem? (i := 38) rfl) rfl
set_option maxRecDepth 100000 in
theorem q39 : Cond.selects RX7 yX7_faultNow yX7_faultNow ∈ lw_tb := tb0 (List.mem_of_getElem? (i := 39) rfl) rfl
set_option maxRecDepth 100000 in
theorem q40 : Cond.selects RX7 yX7_figureAt yX7_figureAt ∈ lw_tb := tb0 (List.mem_of_getElem? (i := 40) rfl) rfl
set_option maxRecDepth 100000 in
theorem q41 : Cond.selects RX7 yX7_isCell yX7_isCell ∈ lw_tb := tb0 (List.mem_of_getElem? (i := 41) rfl) rfl
set_option maxRecDepth 100000 in
theorem q42 : Cond.selects RX7 yX7_cellOf yX7_cellOf ∈ lw_tb := tb0 (List.mem_of_getElem? (i := 42) rfl) rfl
set_option maxRecDepth 100000 in
theorem q43 : Cond.selects RX7 yX7_meets yX7_meets ∈ lw_tb := tb0 (List.mem_of_getElem? (i := 43) rfl) rfl
set_option maxRecDepth 100000 in
theorem q44 : Cond.selects RX7 yX7_shadeOf yX7_shadeOf ∈ lw_tb := tb0 (List.mem_of_getElem? (i := 44) rfl) rfl
set_option maxRecDepth 100000 in
theorem q45 : Cond.selects RX7 yX7_lightOf yX7_lightOf ∈ lw_tb := tb0 (List.mem_of_getElem? (i := 45) rfl) rfl
set_option maxRecDepth 100000 in
theorem q46 : Cond.selects RX7 yX7_hoursOf yX7_hoursOf ∈ lw_tb := tb0 (List.mem_of_getElem? (i := 46) rfl) rfl
set_option maxRecDepth 100000 in
theorem q47 : Cond.selects RX7 yX7_yearOf yX7_yearOf ∈ lw_tb := tb0 (List.mem_of_getElem? (i := 47) rfl) rfl
set_option maxRecDepth 100000 in
theorem q48 : Cond.selects RX7 yX7_hasOf yX7_hasOf ∈ lw_tb := tb0 (List.mem_of_getElem? (i := 48) rfl) rfl
set_option maxRecDepth 100000 in
theorem q49 : Cond.selects RX7 yX7_partsOf yX7_partsOf ∈ lw_tb := tb0 (List.mem_of_getElem? (i := 49) rfl) rfl
set_option maxRecDepth 100000 in
theorem q50 : Cond.selects RX7 yX7_partsNow yX7_partsNow ∈ lw_tb := tb0 (List.mem_of_getElem? (i := 50) rfl) rfl
set_option maxRecDepth 100000 in
theorem q51 : Cond.selects RX7 yX7_laysYears yX7_laysYears ∈ lw_tb := tb0 (List.mem_of_getElem? (i := 51) rfl) rfl
set_option maxRecDepth 100000 in
theorem q52 : Cond.selects RX7 yX7_all yX7_all ∈ lw_tb := tb0 (List.mem_of_getElem? (i := 52) rfl) rfl
set_option maxRecDepth 100000 in
theorem q53 : Cond.selects RX7 yX7_differs yX7_differs ∈ lw_tb := tb0 (List.mem_of_getElem? (i := 53) rfl) rfl
set_option maxRecDepth 100000 in
theorem q54 : Cond.selects RX7 yX7_isParting yX7_isParting ∈ lw_tb := tb0 (List.mem_of_getElem? (i := 54) rfl) rfl
set_option maxRecDepth 100000 in
theorem q55 : Cond.selects RX7 yX7_hangs yX7_hangs ∈ lw_tb := tb0 (List.mem_of_getElem? (i := 55) rfl) rfl
set_option maxRecDepth 100000 in
theorem q56 : Cond.selects RX7 yX7_isNext yX7_isNext ∈ lw_tb := tb0 (List.mem_of_getElem? (i := 56) rfl) rfl
set_option maxRecDepth 100000 in
theorem q57 : Cond.selects RX7 yX7_takenOf yX7_takenOf ∈ lw_tb := tb0 (List.mem_of_getElem? (i := 57) rfl) rfl
set_option maxRecDepth 100000 in
theorem q58 : Cond.selects RX7 yX7_highestOf yX7_highestOf ∈ lw_tb := tb0 (List.mem_of_getElem? (i := 58) rfl) rfl
set_option maxRecDepth 100000 in
theorem q59 : Cond.selects RX7 yX7_againOf yX7_againOf ∈ lw_tb := tb0 (List.mem_of_getElem? (i := 59) rfl) rfl
set_option maxRecDepth 100000 in
theorem q60 : Cond.selects RX7 yX7_valueOf yX7_valueOf ∈ lw_tb := tb0 (List.mem_of_getElem? (i := 60) rfl) rfl
set_option maxRecDepth 100000 in
theorem q61 : Cond.selects RX7 yX7_isChange yX7_isChange ∈ lw_tb := tb0 (List.mem_of_getElem? (i := 61) rfl) rfl
set_option maxRecDepth 100000 in
theorem q62 : Cond.selects RX7 yX7_isRather yX7_isRather ∈ lw_tb := tb0 (List.mem_of_getElem? (i := 62) rfl) rfl
set_option maxRecDepth 100000 in
theorem q63 : Cond.selects RX7 yX7_changesOf yX7_changesOf ∈ lw_tb := tb0 (List.mem_of_getElem? (i := 63) rfl) rfl
set_option maxRecDepth 100000 in
theorem q64 : Cond.selects RX7 yX7_setOf yX7_setOf ∈ lw_tb := tb0 (List.mem_of_getElem? (i := 64) rfl) rfl
set_option maxRecDepth 100000 in
theorem q65 : Cond.selects RX7 yX7_whoseOf yX7_whoseOf ∈ lw_tb := tb0 (List.mem_of_getElem? (i := 65) rfl) rfl
set_option maxRecDepth 100000 in
theorem q66 : Cond.selects RX7 yX7_clearOf yX7_clearOf ∈ lw_tb := tb0 (List.mem_of_getElem? (i := 66) rfl) rfl
set_option maxRecDepth 100000 in
theorem q67 : Cond.selects RX7 yX7_lacks yX7_lacks ∈ lw_tb := tb0 (List.mem_of_getElem? (i := 67) rfl) rfl
set_option maxRecDepth 100000 in
theorem q68 : Cond.selects RX7 yX7_keep yX7_keep ∈ lw_tb := tb0 (List.mem_of_getElem? (i := 68) rfl) rfl
set_option maxRecDepth 100000 in
theorem q69 : Cond.selects RX7 yX7_sumOf yX7_sumOf ∈ lw_tb := tb0 (List.mem_of_getElem? (i := 69) rfl) rfl
set_option maxRecDepth 100000 in
theorem q70 : Cond.initialized RL ∈ lw_tb := tb1 (List.mem_of_getElem? (i := 0) rfl) rfl
set_option maxRecDepth 100000 in
theorem q71 : Cond.initialized RX6 ∈ lw_tb := tb1 (List.mem_of_getElem? (i := 1) rfl) rfl
set_option maxRecDepth 100000 in
theorem q72 : Cond.initialized RX5 ∈ lw_tb := tb1 (List.mem_of_getElem? (i := 2) rfl) rfl
set_option maxRecDepth 100000 in
theorem q73 : Cond.initialized RX1 ∈ lw_tb := tb1 (List.mem_of_getElem? (i := 3) rfl) rfl
set_option maxRecDepth 100000 in
theorem q74 : Cond.initialized RX2 ∈ lw_tb := tb1 (List.mem_of_getElem? (i := 4) rfl) rfl
set_option maxRecDepth 100000 in
theorem q75 : Cond.initialized RX3 ∈ lw_tb := tb1 (List.mem_of_getElem? (i := 5) rfl) rfl
set_option maxRecDepth 100000 in
theorem q76 : Cond.initialized RX0 ∈ lw_tb := tb1 (List.mem_of_getElem? (i := 6) rfl) rfl
set_option maxRecDepth 100000 in
theorem q77 : Cond.initialized RX4 ∈ lw_tb := tb1 (List.mem_of_getElem? (i := 7) rfl) rfl
set_option maxRecDepth 100000 in
theorem q78 : Cond.initialized RJ7 ∈ lw_tb := tb1 (List.mem_of_getElem? (i := 8) rfl) rfl
set_option maxRecDepth 100000 in
theorem q79 : Cond.initialized RX7 ∈ lw_tb := tb1 (List.mem_of_getElem? (i := 9) rfl) rfl
set_option maxRecDepth 100000 in
theorem q80 : Cond.initialized RJ6 ∈ lw_tb := tb1 (List.mem_of_getElem? (i := 10) rfl) rfl
set_option maxRecDepth 100000 in
theorem q81 : Cond.initialized RJ9 ∈ lw_tb := tb1 (List.mem_of_getElem? (i := 11) rfl) rfl
set_option maxRecDepth 100000 in
theorem q82 : Cond.initialized RJ10 ∈ lw_tb := tb1 (List.mem_of_getElem? (i := 12) rfl) rfl
set_option maxRecDepth 100000 in
theorem q83 : Cond.classLink RL 7 RX6 ∈ lw_tb := tb1 (List.mem_of_getElem? (i := 13) rfl) rfl
set_option maxRecDepth 100000 in
theorem q84 : Cond.instantiable RX6 17 ∈ lw_tb := tb1 (List.mem_of_getElem? (i := 14) rfl) rfl
set_option maxRecDepth 100000 in
theorem q85 : Cond.methodLink RL 9 yX6_init ∈ lw_tb := tb1 (List.mem_of_getElem? (i := 15) rfl) rfl
set_option maxRecDepth 100000 in
theorem q86 : Cond.instanceMethod yX6_init ∈ lw_tb := tb1 (List.mem_of_getElem? (i := 16) rfl) rfl
set_option maxRecDepth 100000 in
theorem q87 : Cond.code yX6_init cX6_init 1 none ∈ lw_tb := tb1 (List.mem_of_getElem? (i := 17) rfl) rfl
set_option maxRecDepth 100000 in
theorem q88 : Cond.methodLink RX6 1 (⟨"java/lang/Object", "<init>", "()V"⟩ : MethodName) ∈ lw_tb := tb1 (List.mem_of_getElem? (i := 18) rfl) rfl
set_option maxRecDepth 100000 in
theorem q89 : Cond.instanceMethod (⟨"java/lang/Object", "<init>", "()V"⟩ : MethodName) ∈ lw_tb := tb1 (List.mem_of_getElem? (i := 19) rfl) rfl
set_option maxRecDepth 100000 in
theorem q91 : Cond.classLink RX6 7 RX5 ∈ lw_tb := tb1 (List.mem_of_getElem? (i := 21) rfl) rfl
set_option maxRecDepth 100000 in
theorem q92 : Cond.instantiable RX5 6 ∈ lw_tb := tb1 (List.mem_of_getElem? (i := 22) rfl) rfl
set_option maxRecDepth 100000 in
theorem q93 : Cond.methodLinkNest RX6 9 yX5_init "HillHours" ∈ lw_tbl := by
  have h : Cond.methodLinkNest RX6 9 yX5_init "HillHours" ∈ tables_1_1 := List.mem_of_getElem? (i := 23) rfl
  exact List.mem_append_right _ (show _ ∈ tables_1 from List.mem_append_left _ h)
set_option maxRecDepth 100000 in
theorem q94 : Cond.instanceMethod yX5_init ∈ lw_tb := tb1 (List.mem_of_getElem? (i := 24) rfl) rfl
set_option maxRecDepth 100000 in
theorem q95 : Cond.code yX5_init cX5_init 1 none ∈ lw_tb := tb1 (List.mem_of_getElem? (i := 25) rfl) rfl
set_option maxRecDepth 100000 in
theorem q96 : Cond.methodLink RX5 3 (⟨"java/lang/Object", "<init>", "()V"⟩ : MethodName) ∈ lw_tb := tb1 (List.mem_of_getElem? (i := 26) rfl) rfl
set_option maxRecDepth 100000 in
theorem q97 : Cond.classLink RX5 9 RX1 ∈ lw_tb := tb1 (List.mem_of_getElem? (i := 27) rfl) rfl
set_option maxRecDepth 100000 in
theorem q98 : Cond.instantiable RX1 8 ∈ lw_tb := tb1 (List.mem_of_getElem? (i := 28) rfl) rfl
set_option maxRecDepth 100000 in
theorem q99 : Cond.methodLinkNest RX5 11 yX1_init "HillHours" ∈ lw_tbl := by
  have h : Cond.methodLinkNest RX5 11 yX1_init "HillHours" ∈ tables_1_1 := List.mem_of_getElem? (i := 29) rfl
  exact List.mem_append_right _ (show _ ∈ tables_1 from List.mem_append_left _ h)
set_option maxRecDepth 100000 in
theorem q100 : Cond.instanceMethod yX1_init ∈ lw_tb := tb1 (List.mem_of_getElem? (i := 30) rfl) rfl
set_option maxRecDepth 100000 in
theorem q101 : Cond.code yX1_init cX1_init 1 none ∈ lw_tb := tb1 (List.mem_of_getElem? (i := 31) rfl) rfl
set_option maxRecDepth 100000 in
theorem q102 : Cond.methodLink RX1 3 (⟨"java/lang/Object", "<init>", "()V"⟩ : MethodName) ∈ lw_tb := tb1 (List.mem_of_getElem? (i := 32) rfl) rfl
set_option maxRecDepth 100000 in
theorem q103 : Cond.fieldLink RX1 11 "HillHours$Ground" "text" "[I" ∈ lw_tb := tb1 (List.mem_of_getElem? (i := 33) rfl) rfl
set_option maxRecDepth 100000 in
theorem q104 : Cond.fieldLink RX1 15 "HillHours$Ground" "heights" "[I" ∈ lw_tb := tb1 (List.mem_of_getElem? (i := 34) rfl) rfl
set_option maxRecDepth 100000 in
theorem q105 : Cond.fieldLinkNest RX5 71 "HillHours$Ground" "heights" "[I" "HillHours" ∈ lw_tbl := by
  have h : Cond.fieldLinkNest RX5 71 "HillHours$Ground" "heights" "[I" "HillHours" ∈ tables_1_1 := List.mem_of_getElem? (i := 35) rfl
  exact List.mem_append_right _ (show _ ∈ tables_1 from List.mem_append_left _ h)
set_option maxRecDepth 100000 in
theorem q106 : Cond.fieldLink RX1 18 "HillHours$Ground" "columnsOfCells" "[I" ∈ lw_tb := tb1 (List.mem_of_getElem? (i := 36) rfl) rfl
set_option maxRecDepth 100000 in
theorem q107 : Cond.fieldLinkNest RX5 64 "HillHours$Ground" "columnsOfCells" "[I" "HillHours" ∈ lw_tbl := by
  have h : Cond.fieldLinkNest RX5 64 "HillHours$Ground" "columnsOfCells" "[I" "HillHours" ∈ tables_1_1 := List.mem_of_getElem? (i := 37) rfl
  exact List.mem_append_right _ (show _ ∈ tables_1 from List.mem_append_left _ h)
set_option maxRecDepth 100000 in
theorem q108 : Cond.fieldLink RX1 25 "HillHours$Ground" "byteCount" "I" ∈ lw_tb := tb1 (List.mem_of_getElem? (i := 38) rfl) rfl
set_option maxRecDepth 100000 in
theorem q109 : Cond.fieldLink RX1 28 "HillHours$Ground" "rowCount" "I" ∈ lw_tb := tb1 (List.mem_of_getElem? (i := 39) rfl) rfl
set_option maxRecDepth 100000 in
theorem q110 : Cond.fieldLink RX1 31 "HillHours$Ground" "columnCount" "I" ∈ lw_tb := tb1 (List.mem_of_getElem? (i := 40) rfl) rfl
set_option maxRecDepth 100000 in
theorem q111 : Cond.fieldLinkNest RX5 67 "HillHours$Ground" "columnCount" "I" "HillHours" ∈ lw_tbl := by
  have h : Cond.fieldLinkNest RX5 67 "HillHours$Ground" "columnCount" "I" "HillHours" ∈ tables_1_1 := List.mem_of_getElem? (i := 41) rfl
  exact List.mem_append_right _ (show _ ∈ tables_1 from List.mem_append_left _ h)
set_option maxRecDepth 100000 in
theorem q112 : Cond.fieldLink RX1 34 "HillHours$Ground" "cellCount" "I" ∈ lw_tb := tb1 (List.mem_of_getElem? (i := 42) rfl) rfl
set_option maxRecDepth 100000 in
theorem q113 : Cond.fieldLink RX1 21 "HillHours$Ground" "faultAt" "I" ∈ lw_tb := tb1 (List.mem_of_getElem? (i := 43) rfl) rfl
set_option maxRecDepth 100000 in
theorem q131 : Cond.arrayClass .int ∈ lw_tb := tb1 (List.mem_of_getElem? (i := 61) rfl) rfl
set_option maxRecDepth 100000 in
theorem q132 : Cond.fieldLink RX5 12 "HillHours$Sun" "ground" "LHillHours$Ground;" ∈ lw_tb := tb1 (List.mem_of_getElem? (i := 62) rfl) rfl
set_option maxRecDepth 100000 in
theorem q133 : Cond.fieldLinkNest RX6 16 "HillHours$Sun" "ground" "LHillHours$Ground;" "HillHours" ∈ lw_tbl := by
  have h : Cond.fieldLinkNest RX6 16 "HillHours$Sun" "ground" "LHillHours$Ground;" "HillHours" ∈ tables_1_1 := List.mem_of_getElem? (i := 63) rfl
  exact List.mem_append_right _ (show _ ∈ tables_1 from List.mem_append_left _ h)
set_option maxRecDepth 100000 in
theorem q134 : Cond.fieldLink RX5 18 "HillHours$Sun" "standing" "[I" ∈ lw_tb := tb1 (List.mem_of_getElem? (i := 64) rfl) rfl
set_option maxRecDepth 100000 in
theorem q135 : Cond.fieldLink RX5 22 "HillHours$Sun" "dayCounts" "[I" ∈ lw_tb := tb1 (List.mem_of_getElem? (i := 65) rfl) rfl
set_option maxRecDepth 100000 in
theorem q136 : Cond.fieldLink RX5 25 "HillHours$Sun" "lightBits" "[I" ∈ lw_tb := tb1 (List.mem_of_getElem? (i := 66) rfl) rfl
set_option maxRecDepth 100000 in
theorem q137 : Cond.fieldLink RX5 28 "HillHours$Sun" "sunHours" "[I" ∈ lw_tb := tb1 (List.mem_of_getElem? (i := 67) rfl) rfl
set_option maxRecDepth 100000 in
theorem q138 : Cond.fieldLink RX5 31 "HillHours$Sun" "cellYears" "[I" ∈ lw_tb := tb1 (List.mem_of_getElem? (i := 68) rfl) rfl
set_option maxRecDepth 100000 in
theorem q152 : Cond.classLink RX6 21 RX2 ∈ lw_tb := tb1 (List.mem_of_getElem? (i := 82) rfl) rfl
set_option maxRecDepth 100000 in
theorem q153 : Cond.instantiable RX2 11 ∈ lw_tb := tb1 (List.mem_of_getElem? (i := 83) rfl) rfl
set_option maxRecDepth 100000 in
theorem q154 : Cond.methodLinkNest RX6 23 yX2_init "HillHours" ∈ lw_tbl := by
  have h : Cond.methodLinkNest RX6 23 yX2_init "HillHours" ∈ tables_1_1 := List.mem_of_getElem? (i := 84) rfl
  exact List.mem_append_right _ (show _ ∈ tables_1 from List.mem_append_left _ h)
set_option maxRecDepth 100000 in
theorem q155 : Cond.instanceMethod yX2_init ∈ lw_tb := tb1 (List.mem_of_getElem? (i := 85) rfl) rfl
set_option maxRecDepth 100000 in
theorem q156 : Cond.code yX2_init cX2_init 1 none ∈ lw_tb := tb1 (List.mem_of_getElem? (i := 86) rfl) rfl
set_option maxRecDepth 100000 in
theorem q157 : Cond.methodLink RX2 3 (⟨"java/lang/Object", "<init>", "()V"⟩ : MethodName) ∈ lw_tb := tb1 (List.mem_of_getElem? (i := 87) rfl) rfl
set_option maxRecDepth 100000 in
theorem q158 : Cond.fieldLink RX2 11 "HillHours$Parting" "lowSums" "[I" ∈ lw_tb := tb1 (List.mem_of_getElem? (i := 88) rfl) rfl
set_option maxRecDepth 100000 in
theorem q159 : Cond.fieldLink RX2 15 "HillHours$Parting" "highSums" "[I" ∈ lw_tb := tb1 (List.mem_of_getElem? (i := 89) rfl) rfl
set_option maxRecDepth 100000 in
theorem q160 : Cond.fieldLink RX2 57 "HillHours$Parting" "cells" "I" ∈ lw_tb := tb1 (List.mem_of_getElem? (i := 90) rfl) rfl
set_option maxRecDepth 100000 in
theorem q161 : Cond.fieldLink RX2 62 "HillHours$Parting" "columns" "I" ∈ lw_tb := tb1 (List.mem_of_getElem? (i := 91) rfl) rfl
set_option maxRecDepth 100000 in
theorem q162 : Cond.fieldLink RX2 35 "HillHours$Parting" "all" "I" ∈ lw_tb := tb1 (List.mem_of_getElem? (i := 92) rfl) rfl
set_option maxRecDepth 100000 in
theorem q163 : Cond.fieldLink RX2 64 "HillHours$Parting" "eastColumn" "I" ∈ lw_tb := tb1 (List.mem_of_getElem? (i := 93) rfl) rfl
set_option maxRecDepth 100000 in
theorem q164 : Cond.fieldLink RX2 67 "HillHours$Parting" "westColumn" "I" ∈ lw_tb := tb1 (List.mem_of_getElem? (i := 94) rfl) rfl
set_option maxRecDepth 100000 in
theorem q165 : Cond.fieldLink RX2 18 "HillHours$Parting" "first" "I" ∈ lw_tb := tb1 (List.mem_of_getElem? (i := 95) rfl) rfl
set_option maxRecDepth 100000 in
theorem q166 : Cond.fieldLink RX2 22 "HillHours$Parting" "difference" "I" ∈ lw_tb := tb1 (List.mem_of_getElem? (i := 96) rfl) rfl
set_option maxRecDepth 100000 in
theorem q167 : Cond.fieldLink RX2 25 "HillHours$Parting" "firstAfter" "I" ∈ lw_tb := tb1 (List.mem_of_getElem? (i := 97) rfl) rfl
set_option maxRecDepth 100000 in
theorem q168 : Cond.fieldLink RX2 28 "HillHours$Parting" "moved" "I" ∈ lw_tb := tb1 (List.mem_of_getElem? (i := 98) rfl) rfl
set_option maxRecDepth 100000 in
theorem q192 : Cond.classLink RX6 28 RX3 ∈ lw_tb := tb1 (List.mem_of_getElem? (i := 122) rfl) rfl
set_option maxRecDepth 100000 in
theorem q193 : Cond.instantiable RX3 4 ∈ lw_tb := tb1 (List.mem_of_getElem? (i := 123) rfl) rfl
set_option maxRecDepth 100000 in
theorem q194 : Cond.methodLinkNest RX6 30 yX3_init "HillHours" ∈ lw_tbl := by
  have h : Cond.methodLinkNest RX6 30 yX3_init "HillHours" ∈ tables_1_1 := List.mem_of_getElem? (i := 124) rfl
  exact List.mem_append_right _ (show _ ∈ tables_1 from List.mem_append_left _ h)
set_option maxRecDepth 100000 in
theorem q195 : Cond.instanceMethod yX3_init ∈ lw_tb := tb1 (List.mem_of_getElem? (i := 125) rfl) rfl
set_option maxRecDepth 100000 in
theorem q196 : Cond.code yX3_init cX3_init 1 none ∈ lw_tb := tb1 (List.mem_of_getElem? (i := 126) rfl) rfl
set_option maxRecDepth 100000 in
theorem q197 : Cond.methodLink RX3 3 (⟨"java/lang/Object", "<init>", "()V"⟩ : MethodName) ∈ lw_tb := tb1 (List.mem_of_getElem? (i := 127) rfl) rfl
set_option maxRecDepth 100000 in
theorem q198 : Cond.fieldLink RX3 9 "HillHours$Planting" "needs" "[I" ∈ lw_tb := tb1 (List.mem_of_getElem? (i := 128) rfl) rfl
set_option maxRecDepth 100000 in
theorem q199 : Cond.fieldLink RX3 15 "HillHours$Planting" "pays" "[I" ∈ lw_tb := tb1 (List.mem_of_getElem? (i := 129) rfl) rfl
set_option maxRecDepth 100000 in
theorem q200 : Cond.fieldLink RX3 18 "HillHours$Planting" "sorts" "[I" ∈ lw_tb := tb1 (List.mem_of_getElem? (i := 130) rfl) rfl
set_option maxRecDepth 100000 in
theorem q201 : Cond.fieldLink RX3 21 "HillHours$Planting" "most" "[I" ∈ lw_tb := tb1 (List.mem_of_getElem? (i := 131) rfl) rfl
set_option maxRecDepth 100000 in
theorem q211 : Cond.classLink RX6 35 RX0 ∈ lw_tb := tb1 (List.mem_of_getElem? (i := 141) rfl) rfl
set_option maxRecDepth 100000 in
theorem q212 : Cond.instantiable RX0 3 ∈ lw_tb := tb1 (List.mem_of_getElem? (i := 142) rfl) rfl
set_option maxRecDepth 100000 in
theorem q213 : Cond.methodLinkNest RX6 37 yX0_init "HillHours" ∈ lw_tbl := by
  have h : Cond.methodLinkNest RX6 37 yX0_init "HillHours" ∈ tables_1_1 := List.mem_of_getElem? (i := 143) rfl
  exact List.mem_append_right _ (show _ ∈ tables_1 from List.mem_append_left _ h)
set_option maxRecDepth 100000 in
theorem q214 : Cond.instanceMethod yX0_init ∈ lw_tb := tb1 (List.mem_of_getElem? (i := 144) rfl) rfl
set_option maxRecDepth 100000 in
theorem q215 : Cond.code yX0_init cX0_init 1 none ∈ lw_tb := tb1 (List.mem_of_getElem? (i := 145) rfl) rfl
set_option maxRecDepth 100000 in
theorem q216 : Cond.methodLink RX0 3 (⟨"java/lang/Object", "<init>", "()V"⟩ : MethodName) ∈ lw_tb := tb1 (List.mem_of_getElem? (i := 146) rfl) rfl
set_option maxRecDepth 100000 in
theorem q217 : Cond.fieldLink RX0 9 "HillHours$Chance" "ways" "[J" ∈ lw_tb := tb1 (List.mem_of_getElem? (i := 147) rfl) rfl
set_option maxRecDepth 100000 in
theorem q218 : Cond.fieldLink RX0 19 "HillHours$Chance" "upper" "J" ∈ lw_tb := tb1 (List.mem_of_getElem? (i := 148) rfl) rfl
set_option maxRecDepth 100000 in
theorem q219 : Cond.fieldLink RX0 15 "HillHours$Chance" "lower" "J" ∈ lw_tb := tb1 (List.mem_of_getElem? (i := 149) rfl) rfl
set_option maxRecDepth 100000 in
theorem q227 : Cond.arrayClass .long ∈ lw_tb := tb1 (List.mem_of_getElem? (i := 157) rfl) rfl
set_option maxRecDepth 100000 in
theorem q228 : Cond.classLink RX6 42 RX4 ∈ lw_tb := tb1 (List.mem_of_getElem? (i := 158) rfl) rfl
set_option maxRecDepth 100000 in
theorem q229 : Cond.instantiable RX4 3 ∈ lw_tb := tb1 (List.mem_of_getElem? (i := 159) rfl) rfl
set_option maxRecDepth 100000 in
theorem q230 : Cond.methodLinkNest RX6 44 yX4_init "HillHours" ∈ lw_tbl := by
  have h : Cond.methodLinkNest RX6 44 yX4_init "HillHours" ∈ tables_1_1 := List.mem_of_getElem? (i := 160) rfl
  exact List.mem_append_right _ (show _ ∈ tables_1 from List.mem_append_left _ h)
set_option maxRecDepth 100000 in
theorem q231 : Cond.instanceMethod yX4_init ∈ lw_tb := tb1 (List.mem_of_getElem? (i := 161) rfl) rfl
set_option maxRecDepth 100000 in
theorem q232 : Cond.code yX4_init cX4_init 1 none ∈ lw_tb := tb1 (List.mem_of_getElem? (i := 162) rfl) rfl
set_option maxRecDepth 100000 in
theorem q233 : Cond.methodLink RX4 3 (⟨"java/lang/Object", "<init>", "()V"⟩ : MethodName) ∈ lw_tb := tb1 (List.mem_of_getElem? (i := 163) rfl) rfl
set_option maxRecDepth 100000 in
theorem q234 : Cond.fieldLink RX4 9 "HillHours$Sheets" "items" "[I" ∈ lw_tb := tb1 (List.mem_of_getElem? (i := 164) rfl) rfl
set_option maxRecDepth 100000 in
theorem q235 : Cond.fieldLink RX4 15 "HillHours$Sheets" "forms" "[I" ∈ lw_tb := tb1 (List.mem_of_getElem? (i := 165) rfl) rfl
set_option maxRecDepth 100000 in
theorem q236 : Cond.fieldLink RX4 18 "HillHours$Sheets" "sizes" "[I" ∈ lw_tb := tb1 (List.mem_of_getElem? (i := 166) rfl) rfl
set_option maxRecDepth 100000 in
theorem q244 : Cond.methodLink RX6 71 yJ7_fill_53178 ∈ lw_tb := tb1 (List.mem_of_getElem? (i := 174) rfl) rfl
set_option maxRecDepth 100000 in
theorem q245 : Cond.static yJ7_fill_53178 ∈ lw_tb := tb1 (List.mem_of_getElem? (i := 175) rfl) rfl
set_option maxRecDepth 100000 in
theorem q246 : Cond.code yJ7_fill_53178 cJ7_fill_53178 4 none ∈ lw_tb := tb1 (List.mem_of_getElem? (i := 176) rfl) rfl
set_option maxRecDepth 100000 in
theorem q247 : Cond.fieldLink RX6 10 "HillHours" "sun" "LHillHours$Sun;" ∈ lw_tb := tb1 (List.mem_of_getElem? (i := 177) rfl) rfl
set_option maxRecDepth 100000 in
theorem q248 : Cond.fieldLink RX6 20 "HillHours" "ground" "LHillHours$Ground;" ∈ lw_tb := tb1 (List.mem_of_getElem? (i := 178) rfl) rfl
set_option maxRecDepth 100000 in
theorem q249 : Cond.fieldLink RX6 24 "HillHours" "parting" "LHillHours$Parting;" ∈ lw_tb := tb1 (List.mem_of_getElem? (i := 179) rfl) rfl
set_option maxRecDepth 100000 in
theorem q250 : Cond.fieldLink RX6 31 "HillHours" "planting" "LHillHours$Planting;" ∈ lw_tb := tb1 (List.mem_of_getElem? (i := 180) rfl) rfl
set_option maxRecDepth 100000 in
theorem q251 : Cond.fieldLink RX6 38 "HillHours" "chance" "LHillHours$Chance;" ∈ lw_tb := tb1 (List.mem_of_getElem? (i := 181) rfl) rfl
set_option maxRecDepth 100000 in
theorem q252 : Cond.fieldLink RX6 45 "HillHours" "sheets" "LHillHours$Sheets;" ∈ lw_tb := tb1 (List.mem_of_getElem? (i := 182) rfl) rfl
set_option maxRecDepth 100000 in
theorem q253 : Cond.fieldLink RX6 49 "HillHours" "owners" "[I" ∈ lw_tb := tb1 (List.mem_of_getElem? (i := 183) rfl) rfl
set_option maxRecDepth 100000 in
theorem q254 : Cond.fieldLink RX6 53 "HillHours" "worths" "[I" ∈ lw_tb := tb1 (List.mem_of_getElem? (i := 184) rfl) rfl
set_option maxRecDepth 100000 in
theorem q255 : Cond.fieldLink RX6 56 "HillHours" "losses" "[I" ∈ lw_tb := tb1 (List.mem_of_getElem? (i := 185) rfl) rfl
set_option maxRecDepth 100000 in
theorem q256 : Cond.fieldLink RX6 59 "HillHours" "yearsAfterFall" "[I" ∈ lw_tb := tb1 (List.mem_of_getElem? (i := 186) rfl) rfl
set_option maxRecDepth 100000 in
theorem q257 : Cond.fieldLink RX6 62 "HillHours" "seenSeasons" "[I" ∈ lw_tb := tb1 (List.mem_of_getElem? (i := 187) rfl) rfl
set_option maxRecDepth 100000 in
theorem q258 : Cond.fieldLink RX6 65 "HillHours" "seenHours" "[I" ∈ lw_tb := tb1 (List.mem_of_getElem? (i := 188) rfl) rfl
set_option maxRecDepth 100000 in
theorem q259 : Cond.fieldLink RX6 68 "HillHours" "cloudSixteenths" "[I" ∈ lw_tb := tb1 (List.mem_of_getElem? (i := 189) rfl) rfl
set_option maxRecDepth 100000 in
theorem q260 : Cond.fieldLink RX6 224 "HillHours" "seenCount" "I" ∈ lw_tb := tb1 (List.mem_of_getElem? (i := 190) rfl) rfl
set_option maxRecDepth 100000 in
theorem q261 : Cond.fieldLink RX6 291 "HillHours" "latestFinding" "I" ∈ lw_tb := tb1 (List.mem_of_getElem? (i := 191) rfl) rfl
set_option maxRecDepth 100000 in
theorem q262 : Cond.fieldLink RX6 358 "HillHours" "partsKnown" "Z" ∈ lw_tb := tb1 (List.mem_of_getElem? (i := 192) rfl) rfl
set_option maxRecDepth 100000 in
theorem q263 : Cond.fieldLink RX6 201 "HillHours" "plantsKnown" "Z" ∈ lw_tb := tb1 (List.mem_of_getElem? (i := 193) rfl) rfl
set_option maxRecDepth 100000 in
theorem q299 : Cond.methodLink RL 13 yX6_type ∈ lw_tb := tb1 (List.mem_of_getElem? (i := 229) rfl) rfl
set_option maxRecDepth 100000 in
theorem q300 : Cond.instanceMethod yX6_type ∈ lw_tb := tb1 (List.mem_of_getElem? (i := 230) rfl) rfl
set_option maxRecDepth 100000 in
theorem q301 : Cond.selects RX6 yX6_type yX6_type ∈ lw_tb := tb1 (List.mem_of_getElem? (i := 231) rfl) rfl
set_option maxRecDepth 100000 in
theorem q302 : Cond.code yX6_type cX6_type 2 (some .int) ∈ lw_tb := tb1 (List.mem_of_getElem? (i := 232) rfl) rfl
set_option maxRecDepth 100000 in
theorem q303 : Cond.methodLink RX6 77 yX6_isBelow ∈ lw_tb := tb1 (List.mem_of_getElem? (i := 233) rfl) rfl
set_option maxRecDepth 100000 in
theorem q304 : Cond.static yX6_isBelow ∈ lw_tb := tb1 (List.mem_of_getElem? (i := 234) rfl) rfl
set_option maxRecDepth 100000 in
theorem q305 : Cond.code yX6_isBelow cX6_isBelow 2 (some .boolean) ∈ lw_tb := tb1 (List.mem_of_getElem? (i := 235) rfl) rfl
set_option maxRecDepth 100000 in
theorem q306 : Cond.methodLink RX6 81 yX1_isFull ∈ lw_tb := tb1 (List.mem_of_getElem? (i := 236) rfl) rfl
set_option maxRecDepth 100000 in
theorem q307 : Cond.instanceMethod yX1_isFull ∈ lw_tb := tb1 (List.mem_of_getElem? (i := 237) rfl) rfl
set_option maxRecDepth 100000 in
theorem q308 : Cond.selects RX1 yX1_isFull yX1_isFull ∈ lw_tb := tb1 (List.mem_of_getElem? (i := 238) rfl) rfl
set_option maxRecDepth 100000 in
theorem q309 : Cond.code yX1_isFull cX1_isFull 1 (some .boolean) ∈ lw_tb := tb1 (List.mem_of_getElem? (i := 239) rfl) rfl
set_option maxRecDepth 100000 in
theorem q310 : Cond.methodLink RX6 87 yX1_append ∈ lw_tb := tb2 (List.mem_of_getElem? (i := 0) rfl) rfl
set_option maxRecDepth 100000 in
theorem q311 : Cond.instanceMethod yX1_append ∈ lw_tb := tb2 (List.mem_of_getElem? (i := 1) rfl) rfl
set_option maxRecDepth 100000 in
theorem q312 : Cond.selects RX1 yX1_append yX1_append ∈ lw_tb := tb2 (List.mem_of_getElem? (i := 2) rfl) rfl
set_option maxRecDepth 100000 in
theorem q313 : Cond.code yX1_append cX1_append 2 none ∈ lw_tb := tb2 (List.mem_of_getElem? (i := 3) rfl) rfl
set_option maxRecDepth 100000 in
theorem q314 : Cond.methodLink RX1 37 yX1_isFull ∈ lw_tb := tb2 (List.mem_of_getElem? (i := 4) rfl) rfl
set_option maxRecDepth 100000 in
theorem q315 : Cond.methodLink RX1 41 yX1_survey ∈ lw_tb := tb2 (List.mem_of_getElem? (i := 5) rfl) rfl
set_option maxRecDepth 100000 in
theorem q317 : Cond.instanceMethod yX1_survey ∈ lw_tb := tb2 (List.mem_of_getElem? (i := 7) rfl) rfl
set_option maxRecDepth 100000 in
theorem q318 : Cond.code yX1_survey cX1_survey 1 none ∈ lw_tb := tb2 (List.mem_of_getElem? (i := 8) rfl) rfl
set_option maxRecDepth 100000 in
theorem q319 : Cond.methodLink RX1 44 yX1_findFault ∈ lw_tb := tb2 (List.mem_of_getElem? (i := 9) rfl) rfl
set_option maxRecDepth 100000 in
theorem q321 : Cond.instanceMethod yX1_findFault ∈ lw_tb := tb2 (List.mem_of_getElem? (i := 11) rfl) rfl
set_option maxRecDepth 100000 in
theorem q322 : Cond.code yX1_findFault cX1_findFault 5 (some .int) ∈ lw_tb := tb2 (List.mem_of_getElem? (i := 12) rfl) rfl
set_option maxRecDepth 100000 in
theorem q323 : Cond.methodLink RX1 51 yX1_isFigure ∈ lw_tb := tb2 (List.mem_of_getElem? (i := 13) rfl) rfl
set_option maxRecDepth 100000 in
theorem q324 : Cond.static yX1_isFigure ∈ lw_tb := tb2 (List.mem_of_getElem? (i := 14) rfl) rfl
set_option maxRecDepth 100000 in
theorem q325 : Cond.code yX1_isFigure cX1_isFigure 1 (some .boolean) ∈ lw_tb := tb2 (List.mem_of_getElem? (i := 15) rfl) rfl
set_option maxRecDepth 100000 in
theorem q326 : Cond.methodLink RX1 55 yX1_endsRow ∈ lw_tb := tb2 (List.mem_of_getElem? (i := 16) rfl) rfl
set_option maxRecDepth 100000 in
theorem q327 : Cond.static yX1_endsRow ∈ lw_tb := tb2 (List.mem_of_getElem? (i := 17) rfl) rfl
set_option maxRecDepth 100000 in
theorem q328 : Cond.code yX1_endsRow cX1_endsRow 3 (some .boolean) ∈ lw_tb := tb2 (List.mem_of_getElem? (i := 18) rfl) rfl
set_option maxRecDepth 100000 in
theorem q329 : Cond.methodLink RX1 48 yX1_layCells ∈ lw_tb := tb2 (List.mem_of_getElem? (i := 19) rfl) rfl
set_option maxRecDepth 100000 in
theorem q331 : Cond.instanceMethod yX1_layCells ∈ lw_tb := tb2 (List.mem_of_getElem? (i := 21) rfl) rfl
set_option maxRecDepth 100000 in
theorem q332 : Cond.code yX1_layCells cX1_layCells 3 none ∈ lw_tb := tb2 (List.mem_of_getElem? (i := 22) rfl) rfl
set_option maxRecDepth 100000 in
theorem q333 : Cond.methodLink RX6 91 yX6_measureAnew ∈ lw_tb := tb2 (List.mem_of_getElem? (i := 23) rfl) rfl
set_option maxRecDepth 100000 in
theorem q335 : Cond.instanceMethod yX6_measureAnew ∈ lw_tb := tb2 (List.mem_of_getElem? (i := 25) rfl) rfl
set_option maxRecDepth 100000 in
theorem q336 : Cond.code yX6_measureAnew cX6_measureAnew 1 none ∈ lw_tb := tb2 (List.mem_of_getElem? (i := 26) rfl) rfl
set_option maxRecDepth 100000 in
theorem q337 : Cond.methodLink RX6 355 yX5_measure ∈ lw_tb := tb2 (List.mem_of_getElem? (i := 27) rfl) rfl
set_option maxRecDepth 100000 in
theorem q338 : Cond.instanceMethod yX5_measure ∈ lw_tb := tb2 (List.mem_of_getElem? (i := 28) rfl) rfl
set_option maxRecDepth 100000 in
theorem q339 : Cond.selects RX5 yX5_measure yX5_measure ∈ lw_tb := tb2 (List.mem_of_getElem? (i := 29) rfl) rfl
set_option maxRecDepth 100000 in
theorem q340 : Cond.code yX5_measure cX5_measure 4 none ∈ lw_tb := tb2 (List.mem_of_getElem? (i := 30) rfl) rfl
set_option maxRecDepth 100000 in
theorem q341 : Cond.methodLink RX5 34 yX1_cells ∈ lw_tb := tb2 (List.mem_of_getElem? (i := 31) rfl) rfl
set_option maxRecDepth 100000 in
theorem q342 : Cond.instanceMethod yX1_cells ∈ lw_tb := tb2 (List.mem_of_getElem? (i := 32) rfl) rfl
set_option maxRecDepth 100000 in
theorem q343 : Cond.selects RX1 yX1_cells yX1_cells ∈ lw_tb := tb2 (List.mem_of_getElem? (i := 33) rfl) rfl
set_option maxRecDepth 100000 in
theorem q344 : Cond.code yX1_cells cX1_cells 1 (some .int) ∈ lw_tb := tb2 (List.mem_of_getElem? (i := 34) rfl) rfl
set_option maxRecDepth 100000 in
theorem q345 : Cond.methodLink RX5 38 yX5_bitsAsBuilt ∈ lw_tb := tb2 (List.mem_of_getElem? (i := 35) rfl) rfl
set_option maxRecDepth 100000 in
theorem q347 : Cond.instanceMethod yX5_bitsAsBuilt ∈ lw_tb := tb2 (List.mem_of_getElem? (i := 37) rfl) rfl
set_option maxRecDepth 100000 in
theorem q348 : Cond.code yX5_bitsAsBuilt cX5_bitsAsBuilt 5 (some .int) ∈ lw_tb := tb2 (List.mem_of_getElem? (i := 38) rfl) rfl
set_option maxRecDepth 100000 in
theorem q349 : Cond.methodLink RX5 51 yX5_darkHours ∈ lw_tb := tb2 (List.mem_of_getElem? (i := 39) rfl) rfl
set_option maxRecDepth 100000 in
theorem q351 : Cond.instanceMethod yX5_darkHours ∈ lw_tb := tb2 (List.mem_of_getElem? (i := 41) rfl) rfl
set_option maxRecDepth 100000 in
theorem q352 : Cond.code yX5_darkHours cX5_darkHours 9 (some .int) ∈ lw_tb := tb2 (List.mem_of_getElem? (i := 42) rfl) rfl
set_option maxRecDepth 100000 in
theorem q353 : Cond.methodLink RX5 55 yX5_reachOf ∈ lw_tb := tb2 (List.mem_of_getElem? (i := 43) rfl) rfl
set_option maxRecDepth 100000 in
theorem q355 : Cond.instanceMethod yX5_reachOf ∈ lw_tb := tb2 (List.mem_of_getElem? (i := 45) rfl) rfl
set_option maxRecDepth 100000 in
theorem q356 : Cond.code yX5_reachOf cX5_reachOf 4 (some .int) ∈ lw_tb := tb2 (List.mem_of_getElem? (i := 46) rfl) rfl
set_option maxRecDepth 100000 in
theorem q357 : Cond.methodLink RX5 58 yX5_rise ∈ lw_tb := tb2 (List.mem_of_getElem? (i := 47) rfl) rfl
set_option maxRecDepth 100000 in
theorem q359 : Cond.instanceMethod yX5_rise ∈ lw_tb := tb2 (List.mem_of_getElem? (i := 49) rfl) rfl
set_option maxRecDepth 100000 in
theorem q360 : Cond.code yX5_rise cX5_rise 4 (some .int) ∈ lw_tb := tb2 (List.mem_of_getElem? (i := 50) rfl) rfl
set_option maxRecDepth 100000 in
theorem q361 : Cond.methodLink RX5 42 yJ6_bitCount_0f7a4 ∈ lw_tb := tb2 (List.mem_of_getElem? (i := 51) rfl) rfl
set_option maxRecDepth 100000 in
theorem q362 : Cond.static yJ6_bitCount_0f7a4 ∈ lw_tb := tb2 (List.mem_of_getElem? (i := 52) rfl) rfl
set_option maxRecDepth 100000 in
theorem q363 : Cond.code yJ6_bitCount_0f7a4 cJ6_bitCount_0f7a4 1 (some .int) ∈ lw_tb := tb2 (List.mem_of_getElem? (i := 53) rfl) rfl
set_option maxRecDepth 100000 in
theorem q364 : Cond.constant RJ6 265 (1431655765) ∈ lw_tb := tb2 (List.mem_of_getElem? (i := 54) rfl) rfl
set_option maxRecDepth 100000 in
theorem q365 : Cond.constant RJ6 266 (858993459) ∈ lw_tb := tb2 (List.mem_of_getElem? (i := 55) rfl) rfl
set_option maxRecDepth 100000 in
theorem q366 : Cond.constant RJ6 267 (252645135) ∈ lw_tb := tb2 (List.mem_of_getElem? (i := 56) rfl) rfl
set_option maxRecDepth 100000 in
theorem q367 : Cond.methodLink RX5 48 yX5_yearAsBuilt ∈ lw_tb := tb2 (List.mem_of_getElem? (i := 57) rfl) rfl
set_option maxRecDepth 100000 in
theorem q368 : Cond.instanceMethod yX5_yearAsBuilt ∈ lw_tb := tb2 (List.mem_of_getElem? (i := 58) rfl) rfl
set_option maxRecDepth 100000 in
theorem q369 : Cond.selects RX5 yX5_yearAsBuilt yX5_yearAsBuilt ∈ lw_tb := tb2 (List.mem_of_getElem? (i := 59) rfl) rfl
set_option maxRecDepth 100000 in
theorem q370 : Cond.code yX5_yearAsBuilt cX5_yearAsBuilt 5 (some .int) ∈ lw_tb := tb2 (List.mem_of_getElem? (i := 60) rfl) rfl
set_option maxRecDepth 100000 in
theorem q371 : Cond.methodLink RX6 94 yX1_bytes ∈ lw_tb := tb2 (List.mem_of_getElem? (i := 61) rfl) rfl
set_option maxRecDepth 100000 in
theorem q372 : Cond.instanceMethod yX1_bytes ∈ lw_tb := tb2 (List.mem_of_getElem? (i := 62) rfl) rfl
set_option maxRecDepth 100000 in
theorem q373 : Cond.selects RX1 yX1_bytes yX1_bytes ∈ lw_tb := tb2 (List.mem_of_getElem? (i := 63) rfl) rfl
set_option maxRecDepth 100000 in
theorem q374 : Cond.code yX1_bytes cX1_bytes 1 (some .int) ∈ lw_tb := tb2 (List.mem_of_getElem? (i := 64) rfl) rfl
set_option maxRecDepth 100000 in
theorem q375 : Cond.methodLink RL 18 yX6_wipe ∈ lw_tb := tb2 (List.mem_of_getElem? (i := 65) rfl) rfl
set_option maxRecDepth 100000 in
theorem q376 : Cond.instanceMethod yX6_wipe ∈ lw_tb := tb2 (List.mem_of_getElem? (i := 66) rfl) rfl
set_option maxRecDepth 100000 in
theorem q377 : Cond.selects RX6 yX6_wipe yX6_wipe ∈ lw_tb := tb2 (List.mem_of_getElem? (i := 67) rfl) rfl
set_option maxRecDepth 100000 in
theorem q378 : Cond.code yX6_wipe cX6_wipe 2 (some .int) ∈ lw_tb := tb2 (List.mem_of_getElem? (i := 68) rfl) rfl
set_option maxRecDepth 100000 in
theorem q379 : Cond.methodLink RX6 98 yX1_empty ∈ lw_tb := tb2 (List.mem_of_getElem? (i := 69) rfl) rfl
set_option maxRecDepth 100000 in
theorem q380 : Cond.instanceMethod yX1_empty ∈ lw_tb := tb2 (List.mem_of_getElem? (i := 70) rfl) rfl
set_option maxRecDepth 100000 in
theorem q381 : Cond.selects RX1 yX1_empty yX1_empty ∈ lw_tb := tb2 (List.mem_of_getElem? (i := 71) rfl) rfl
set_option maxRecDepth 100000 in
theorem q382 : Cond.code yX1_empty cX1_empty 1 none ∈ lw_tb := tb2 (List.mem_of_getElem? (i := 72) rfl) rfl
set_option maxRecDepth 100000 in
theorem q383 : Cond.methodLink RL 23 yX6_fault ∈ lw_tb := tb2 (List.mem_of_getElem? (i := 73) rfl) rfl
set_option maxRecDepth 100000 in
theorem q384 : Cond.instanceMethod yX6_fault ∈ lw_tb := tb2 (List.mem_of_getElem? (i := 74) rfl) rfl
set_option maxRecDepth 100000 in
theorem q385 : Cond.selects RX6 yX6_fault yX6_fault ∈ lw_tb := tb2 (List.mem_of_getElem? (i := 75) rfl) rfl
set_option maxRecDepth 100000 in
theorem q386 : Cond.code yX6_fault cX6_fault 1 (some .int) ∈ lw_tb := tb2 (List.mem_of_getElem? (i := 76) rfl) rfl
set_option maxRecDepth 100000 in
theorem q387 : Cond.methodLink RX6 101 yX1_faultPlace ∈ lw_tb := tb2 (List.mem_of_getElem? (i := 77) rfl) rfl
set_option maxRecDepth 100000 in
theorem q388 : Cond.instanceMethod yX1_faultPlace ∈ lw_tb := tb2 (List.mem_of_getElem? (i := 78) rfl) rfl
set_option maxRecDepth 100000 in
theorem q389 : Cond.selects RX1 yX1_faultPlace yX1_faultPlace ∈ lw_tb := tb2 (List.mem_of_getElem? (i := 79) rfl) rfl
set_option maxRecDepth 100000 in
theorem q390 : Cond.code yX1_faultPlace cX1_faultPlace 1 (some .int) ∈ lw_tb := tb2 (List.mem_of_getElem? (i := 80) rfl) rfl
set_option maxRecDepth 100000 in
theorem q391 : Cond.methodLink RL 27 yX6_cell ∈ lw_tb := tb2 (List.mem_of_getElem? (i := 81) rfl) rfl
set_option maxRecDepth 100000 in
theorem q392 : Cond.instanceMethod yX6_cell ∈ lw_tb := tb2 (List.mem_of_getElem? (i := 82) rfl) rfl
set_option maxRecDepth 100000 in
theorem q393 : Cond.selects RX6 yX6_cell yX6_cell ∈ lw_tb := tb2 (List.mem_of_getElem? (i := 83) rfl) rfl
set_option maxRecDepth 100000 in
theorem q394 : Cond.code yX6_cell cX6_cell 3 (some .int) ∈ lw_tb := tb2 (List.mem_of_getElem? (i := 84) rfl) rfl
set_option maxRecDepth 100000 in
theorem q395 : Cond.methodLink RX6 104 yX6_isCell ∈ lw_tb := tb2 (List.mem_of_getElem? (i := 85) rfl) rfl
set_option maxRecDepth 100000 in
theorem q397 : Cond.instanceMethod yX6_isCell ∈ lw_tb := tb2 (List.mem_of_getElem? (i := 87) rfl) rfl
set_option maxRecDepth 100000 in
theorem q398 : Cond.code yX6_isCell cX6_isCell 2 (some .boolean) ∈ lw_tb := tb2 (List.mem_of_getElem? (i := 88) rfl) rfl
set_option maxRecDepth 100000 in
theorem q399 : Cond.methodLink RX6 155 yX1_cells ∈ lw_tb := tb2 (List.mem_of_getElem? (i := 89) rfl) rfl
set_option maxRecDepth 100000 in
theorem q400 : Cond.methodLink RX6 108 yX1_heightOf ∈ lw_tb := tb2 (List.mem_of_getElem? (i := 90) rfl) rfl
set_option maxRecDepth 100000 in
theorem q401 : Cond.instanceMethod yX1_heightOf ∈ lw_tb := tb2 (List.mem_of_getElem? (i := 91) rfl) rfl
set_option maxRecDepth 100000 in
theorem q402 : Cond.selects RX1 yX1_heightOf yX1_heightOf ∈ lw_tb := tb2 (List.mem_of_getElem? (i := 92) rfl) rfl
set_option maxRecDepth 100000 in
theorem q403 : Cond.code yX1_heightOf cX1_heightOf 2 (some .int) ∈ lw_tb := tb2 (List.mem_of_getElem? (i := 93) rfl) rfl
set_option maxRecDepth 100000 in
theorem q404 : Cond.methodLink RX6 112 yX5_standingOn ∈ lw_tb := tb2 (List.mem_of_getElem? (i := 94) rfl) rfl
set_option maxRecDepth 100000 in
theorem q405 : Cond.instanceMethod yX5_standingOn ∈ lw_tb := tb2 (List.mem_of_getElem? (i := 95) rfl) rfl
set_option maxRecDepth 100000 in
theorem q406 : Cond.selects RX5 yX5_standingOn yX5_standingOn ∈ lw_tb := tb2 (List.mem_of_getElem? (i := 96) rfl) rfl
set_option maxRecDepth 100000 in
theorem q407 : Cond.code yX5_standingOn cX5_standingOn 2 (some .int) ∈ lw_tb := tb2 (List.mem_of_getElem? (i := 97) rfl) rfl
set_option maxRecDepth 100000 in
theorem q408 : Cond.methodLink RL 32 yX6_stand ∈ lw_tb := tb2 (List.mem_of_getElem? (i := 98) rfl) rfl
set_option maxRecDepth 100000 in
theorem q409 : Cond.instanceMethod yX6_stand ∈ lw_tb := tb2 (List.mem_of_getElem? (i := 99) rfl) rfl
set_option maxRecDepth 100000 in
theorem q410 : Cond.selects RX6 yX6_stand yX6_stand ∈ lw_tb := tb2 (List.mem_of_getElem? (i := 100) rfl) rfl
set_option maxRecDepth 100000 in
theorem q411 : Cond.code yX6_stand cX6_stand 4 (some .int) ∈ lw_tb := tb2 (List.mem_of_getElem? (i := 101) rfl) rfl
set_option maxRecDepth 100000 in
theorem q412 : Cond.methodLink RX6 115 yX5_build ∈ lw_tb := tb2 (List.mem_of_getElem? (i := 102) rfl) rfl
set_option maxRecDepth 100000 in
theorem q413 : Cond.instanceMethod yX5_build ∈ lw_tb := tb2 (List.mem_of_getElem? (i := 103) rfl) rfl
set_option maxRecDepth 100000 in
theorem q414 : Cond.selects RX5 yX5_build yX5_build ∈ lw_tb := tb2 (List.mem_of_getElem? (i := 104) rfl) rfl
set_option maxRecDepth 100000 in
theorem q415 : Cond.code yX5_build cX5_build 4 (some .int) ∈ lw_tb := tb2 (List.mem_of_getElem? (i := 105) rfl) rfl
set_option maxRecDepth 100000 in
theorem q416 : Cond.methodLink RL 36 yX6_owner ∈ lw_tb := tb2 (List.mem_of_getElem? (i := 106) rfl) rfl
set_option maxRecDepth 100000 in
theorem q417 : Cond.instanceMethod yX6_owner ∈ lw_tb := tb2 (List.mem_of_getElem? (i := 107) rfl) rfl
set_option maxRecDepth 100000 in
theorem q418 : Cond.selects RX6 yX6_owner yX6_owner ∈ lw_tb := tb2 (List.mem_of_getElem? (i := 108) rfl) rfl
set_option maxRecDepth 100000 in
theorem q419 : Cond.code yX6_owner cX6_owner 4 (some .int) ∈ lw_tb := tb2 (List.mem_of_getElem? (i := 109) rfl) rfl
set_option maxRecDepth 100000 in
theorem q420 : Cond.methodLink RL 40 yX6_read ∈ lw_tb := tb2 (List.mem_of_getElem? (i := 110) rfl) rfl
set_option maxRecDepth 100000 in
theorem q421 : Cond.instanceMethod yX6_read ∈ lw_tb := tb2 (List.mem_of_getElem? (i := 111) rfl) rfl
set_option maxRecDepth 100000 in
theorem q422 : Cond.selects RX6 yX6_read yX6_read ∈ lw_tb := tb2 (List.mem_of_getElem? (i := 112) rfl) rfl
set_option maxRecDepth 100000 in
theorem q423 : Cond.code yX6_read cX6_read 4 (some .int) ∈ lw_tb := tb2 (List.mem_of_getElem? (i := 113) rfl) rfl
set_option maxRecDepth 100000 in
theorem q424 : Cond.methodLink RX6 119 yX4_isLost ∈ lw_tb := tb2 (List.mem_of_getElem? (i := 114) rfl) rfl
set_option maxRecDepth 100000 in
theorem q425 : Cond.instanceMethod yX4_isLost ∈ lw_tb := tb2 (List.mem_of_getElem? (i := 115) rfl) rfl
set_option maxRecDepth 100000 in
theorem q426 : Cond.selects RX4 yX4_isLost yX4_isLost ∈ lw_tb := tb2 (List.mem_of_getElem? (i := 116) rfl) rfl
set_option maxRecDepth 100000 in
theorem q427 : Cond.code yX4_isLost cX4_isLost 2 (some .boolean) ∈ lw_tb := tb2 (List.mem_of_getElem? (i := 117) rfl) rfl
set_option maxRecDepth 100000 in
theorem q428 : Cond.methodLink RX6 122 yX6_found ∈ lw_tb := tb2 (List.mem_of_getElem? (i := 118) rfl) rfl
set_option maxRecDepth 100000 in
theorem q430 : Cond.instanceMethod yX6_found ∈ lw_tb := tb2 (List.mem_of_getElem? (i := 120) rfl) rfl
set_option maxRecDepth 100000 in
theorem q431 : Cond.code yX6_found cX6_found 2 (some .int) ∈ lw_tb := tb2 (List.mem_of_getElem? (i := 121) rfl) rfl
set_option maxRecDepth 100000 in
theorem q432 : Cond.methodLink RX6 125 yX4_sizeOf ∈ lw_tb := tb2 (List.mem_of_getElem? (i := 122) rfl) rfl
set_option maxRecDepth 100000 in
theorem q433 : Cond.instanceMethod yX4_sizeOf ∈ lw_tb := tb2 (List.mem_of_getElem? (i := 123) rfl) rfl
set_option maxRecDepth 100000 in
theorem q434 : Cond.selects RX4 yX4_sizeOf yX4_sizeOf ∈ lw_tb := tb2 (List.mem_of_getElem? (i := 124) rfl) rfl
set_option maxRecDepth 100000 in
theorem q435 : Cond.code yX4_sizeOf cX4_sizeOf 2 (some .int) ∈ lw_tb := tb2 (List.mem_of_getElem? (i := 125) rfl) rfl
set_option maxRecDepth 100000 in
theorem q436 : Cond.methodLink RX6 128 yJ9_min_7cf53 ∈ lw_tb := tb2 (List.mem_of_getElem? (i := 126) rfl) rfl
set_option maxRecDepth 100000 in
theorem q437 : Cond.static yJ9_min_7cf53 ∈ lw_tb := tb2 (List.mem_of_getElem? (i := 127) rfl) rfl
set_option maxRecDepth 100000 in
theorem q438 : Cond.code yJ9_min_7cf53 cJ9_min_7cf53 2 (some .int) ∈ lw_tb := tb2 (List.mem_of_getElem? (i := 128) rfl) rfl
set_option maxRecDepth 100000 in
theorem q439 : Cond.methodLink RX6 133 yX4_itemAt ∈ lw_tb := tb2 (List.mem_of_getElem? (i := 129) rfl) rfl
set_option maxRecDepth 100000 in
theorem q440 : Cond.instanceMethod yX4_itemAt ∈ lw_tb := tb2 (List.mem_of_getElem? (i := 130) rfl) rfl
set_option maxRecDepth 100000 in
theorem q441 : Cond.selects RX4 yX4_itemAt yX4_itemAt ∈ lw_tb := tb2 (List.mem_of_getElem? (i := 131) rfl) rfl
set_option maxRecDepth 100000 in
theorem q442 : Cond.code yX4_itemAt cX4_itemAt 3 (some .int) ∈ lw_tb := tb2 (List.mem_of_getElem? (i := 132) rfl) rfl
set_option maxRecDepth 100000 in
theorem q443 : Cond.methodLink RL 44 yX6_days ∈ lw_tb := tb2 (List.mem_of_getElem? (i := 133) rfl) rfl
set_option maxRecDepth 100000 in
theorem q444 : Cond.instanceMethod yX6_days ∈ lw_tb := tb2 (List.mem_of_getElem? (i := 134) rfl) rfl
set_option maxRecDepth 100000 in
theorem q445 : Cond.selects RX6 yX6_days yX6_days ∈ lw_tb := tb2 (List.mem_of_getElem? (i := 135) rfl) rfl
set_option maxRecDepth 100000 in
theorem q446 : Cond.code yX6_days cX6_days 4 (some .int) ∈ lw_tb := tb2 (List.mem_of_getElem? (i := 136) rfl) rfl
set_option maxRecDepth 100000 in
theorem q447 : Cond.methodLink RX6 136 yX5_lengthen ∈ lw_tb := tb2 (List.mem_of_getElem? (i := 137) rfl) rfl
set_option maxRecDepth 100000 in
theorem q448 : Cond.instanceMethod yX5_lengthen ∈ lw_tb := tb2 (List.mem_of_getElem? (i := 138) rfl) rfl
set_option maxRecDepth 100000 in
theorem q449 : Cond.selects RX5 yX5_lengthen yX5_lengthen ∈ lw_tb := tb2 (List.mem_of_getElem? (i := 139) rfl) rfl
set_option maxRecDepth 100000 in
theorem q450 : Cond.code yX5_lengthen cX5_lengthen 4 (some .int) ∈ lw_tb := tb2 (List.mem_of_getElem? (i := 140) rfl) rfl
set_option maxRecDepth 100000 in
theorem q451 : Cond.methodLink RL 48 yX6_steep ∈ lw_tb := tb2 (List.mem_of_getElem? (i := 141) rfl) rfl
set_option maxRecDepth 100000 in
theorem q452 : Cond.instanceMethod yX6_steep ∈ lw_tb := tb2 (List.mem_of_getElem? (i := 142) rfl) rfl
set_option maxRecDepth 100000 in
theorem q453 : Cond.selects RX6 yX6_steep yX6_steep ∈ lw_tb := tb2 (List.mem_of_getElem? (i := 143) rfl) rfl
set_option maxRecDepth 100000 in
theorem q454 : Cond.code yX6_steep cX6_steep 3 (some .int) ∈ lw_tb := tb2 (List.mem_of_getElem? (i := 144) rfl) rfl
set_option maxRecDepth 100000 in
theorem q455 : Cond.methodLink RX6 139 yX5_steepness ∈ lw_tb := tb2 (List.mem_of_getElem? (i := 145) rfl) rfl
set_option maxRecDepth 100000 in
theorem q456 : Cond.static yX5_steepness ∈ lw_tb := tb2 (List.mem_of_getElem? (i := 146) rfl) rfl
set_option maxRecDepth 100000 in
theorem q457 : Cond.code yX5_steepness cX5_steepness 2 (some .int) ∈ lw_tb := tb2 (List.mem_of_getElem? (i := 147) rfl) rfl
set_option maxRecDepth 100000 in
theorem q458 : Cond.methodLink RL 52 yX6_shade ∈ lw_tb := tb2 (List.mem_of_getElem? (i := 148) rfl) rfl
set_option maxRecDepth 100000 in
theorem q459 : Cond.instanceMethod yX6_shade ∈ lw_tb := tb2 (List.mem_of_getElem? (i := 149) rfl) rfl
set_option maxRecDepth 100000 in
theorem q460 : Cond.selects RX6 yX6_shade yX6_shade ∈ lw_tb := tb2 (List.mem_of_getElem? (i := 150) rfl) rfl
set_option maxRecDepth 100000 in
theorem q461 : Cond.code yX6_shade cX6_shade 4 (some .int) ∈ lw_tb := tb2 (List.mem_of_getElem? (i := 151) rfl) rfl
set_option maxRecDepth 100000 in
theorem q462 : Cond.methodLink RX6 142 yX5_nearestShader ∈ lw_tb := tb2 (List.mem_of_getElem? (i := 152) rfl) rfl
set_option maxRecDepth 100000 in
theorem q463 : Cond.instanceMethod yX5_nearestShader ∈ lw_tb := tb2 (List.mem_of_getElem? (i := 153) rfl) rfl
set_option maxRecDepth 100000 in
theorem q464 : Cond.selects RX5 yX5_nearestShader yX5_nearestShader ∈ lw_tb := tb2 (List.mem_of_getElem? (i := 154) rfl) rfl
set_option maxRecDepth 100000 in
theorem q465 : Cond.code yX5_nearestShader cX5_nearestShader 7 (some .int) ∈ lw_tb := tb2 (List.mem_of_getElem? (i := 155) rfl) rfl
set_option maxRecDepth 100000 in
theorem q466 : Cond.methodLink RX5 61 yX5_steepness ∈ lw_tb := tb2 (List.mem_of_getElem? (i := 156) rfl) rfl
set_option maxRecDepth 100000 in
theorem q467 : Cond.methodLink RL 57 yX6_light ∈ lw_tb := tb2 (List.mem_of_getElem? (i := 157) rfl) rfl
set_option maxRecDepth 100000 in
theorem q468 : Cond.instanceMethod yX6_light ∈ lw_tb := tb2 (List.mem_of_getElem? (i := 158) rfl) rfl
set_option maxRecDepth 100000 in
theorem q469 : Cond.selects RX6 yX6_light yX6_light ∈ lw_tb := tb2 (List.mem_of_getElem? (i := 159) rfl) rfl
set_option maxRecDepth 100000 in
theorem q470 : Cond.code yX6_light cX6_light 3 (some .int) ∈ lw_tb := tb2 (List.mem_of_getElem? (i := 160) rfl) rfl
set_option maxRecDepth 100000 in
theorem q471 : Cond.methodLink RX6 146 yX5_bitsOf ∈ lw_tb := tb2 (List.mem_of_getElem? (i := 161) rfl) rfl
set_option maxRecDepth 100000 in
theorem q472 : Cond.instanceMethod yX5_bitsOf ∈ lw_tb := tb2 (List.mem_of_getElem? (i := 162) rfl) rfl
set_option maxRecDepth 100000 in
theorem q473 : Cond.selects RX5 yX5_bitsOf yX5_bitsOf ∈ lw_tb := tb2 (List.mem_of_getElem? (i := 163) rfl) rfl
set_option maxRecDepth 100000 in
theorem q474 : Cond.code yX5_bitsOf cX5_bitsOf 3 (some .int) ∈ lw_tb := tb2 (List.mem_of_getElem? (i := 164) rfl) rfl
set_option maxRecDepth 100000 in
theorem q475 : Cond.methodLink RL 61 yX6_hours ∈ lw_tb := tb2 (List.mem_of_getElem? (i := 165) rfl) rfl
set_option maxRecDepth 100000 in
theorem q476 : Cond.instanceMethod yX6_hours ∈ lw_tb := tb2 (List.mem_of_getElem? (i := 166) rfl) rfl
set_option maxRecDepth 100000 in
theorem q477 : Cond.selects RX6 yX6_hours yX6_hours ∈ lw_tb := tb2 (List.mem_of_getElem? (i := 167) rfl) rfl
set_option maxRecDepth 100000 in
theorem q478 : Cond.code yX6_hours cX6_hours 3 (some .int) ∈ lw_tb := tb2 (List.mem_of_getElem? (i := 168) rfl) rfl
set_option maxRecDepth 100000 in
theorem q479 : Cond.methodLink RX6 149 yX5_yearOf ∈ lw_tb := tb2 (List.mem_of_getElem? (i := 169) rfl) rfl
set_option maxRecDepth 100000 in
theorem q480 : Cond.instanceMethod yX5_yearOf ∈ lw_tb := tb2 (List.mem_of_getElem? (i := 170) rfl) rfl
set_option maxRecDepth 100000 in
theorem q481 : Cond.selects RX5 yX5_yearOf yX5_yearOf ∈ lw_tb := tb2 (List.mem_of_getElem? (i := 171) rfl) rfl
set_option maxRecDepth 100000 in
theorem q482 : Cond.code yX5_yearOf cX5_yearOf 2 (some .int) ∈ lw_tb := tb2 (List.mem_of_getElem? (i := 172) rfl) rfl
set_option maxRecDepth 100000 in
theorem q483 : Cond.methodLink RX6 152 yX5_hoursOf ∈ lw_tb := tb2 (List.mem_of_getElem? (i := 173) rfl) rfl
set_option maxRecDepth 100000 in
theorem q484 : Cond.instanceMethod yX5_hoursOf ∈ lw_tb := tb2 (List.mem_of_getElem? (i := 174) rfl) rfl
set_option maxRecDepth 100000 in
theorem q485 : Cond.selects RX5 yX5_hoursOf yX5_hoursOf ∈ lw_tb := tb2 (List.mem_of_getElem? (i := 175) rfl) rfl
set_option maxRecDepth 100000 in
theorem q486 : Cond.code yX5_hoursOf cX5_hoursOf 3 (some .int) ∈ lw_tb := tb2 (List.mem_of_getElem? (i := 176) rfl) rfl
set_option maxRecDepth 100000 in
theorem q487 : Cond.methodLink RL 65 yX6_has ∈ lw_tb := tb2 (List.mem_of_getElem? (i := 177) rfl) rfl
set_option maxRecDepth 100000 in
theorem q488 : Cond.instanceMethod yX6_has ∈ lw_tb := tb2 (List.mem_of_getElem? (i := 178) rfl) rfl
set_option maxRecDepth 100000 in
theorem q489 : Cond.selects RX6 yX6_has yX6_has ∈ lw_tb := tb2 (List.mem_of_getElem? (i := 179) rfl) rfl
set_option maxRecDepth 100000 in
theorem q490 : Cond.code yX6_has cX6_has 6 (some .int) ∈ lw_tb := tb2 (List.mem_of_getElem? (i := 180) rfl) rfl
set_option maxRecDepth 100000 in
theorem q491 : Cond.methodLink RL 69 yX6_parts ∈ lw_tb := tb2 (List.mem_of_getElem? (i := 181) rfl) rfl
set_option maxRecDepth 100000 in
theorem q492 : Cond.instanceMethod yX6_parts ∈ lw_tb := tb2 (List.mem_of_getElem? (i := 182) rfl) rfl
set_option maxRecDepth 100000 in
theorem q493 : Cond.selects RX6 yX6_parts yX6_parts ∈ lw_tb := tb2 (List.mem_of_getElem? (i := 183) rfl) rfl
set_option maxRecDepth 100000 in
theorem q494 : Cond.code yX6_parts cX6_parts 2 (some .int) ∈ lw_tb := tb2 (List.mem_of_getElem? (i := 184) rfl) rfl
set_option maxRecDepth 100000 in
theorem q495 : Cond.methodLink RX6 158 yX6_knowParts ∈ lw_tb := tb2 (List.mem_of_getElem? (i := 185) rfl) rfl
set_option maxRecDepth 100000 in
theorem q497 : Cond.instanceMethod yX6_knowParts ∈ lw_tb := tb2 (List.mem_of_getElem? (i := 187) rfl) rfl
set_option maxRecDepth 100000 in
theorem q498 : Cond.code yX6_knowParts cX6_knowParts 1 none ∈ lw_tb := tb2 (List.mem_of_getElem? (i := 188) rfl) rfl
set_option maxRecDepth 100000 in
theorem q499 : Cond.methodLink RX6 211 yX5_years ∈ lw_tb := tb2 (List.mem_of_getElem? (i := 189) rfl) rfl
set_option maxRecDepth 100000 in
theorem q500 : Cond.instanceMethod yX5_years ∈ lw_tb := tb2 (List.mem_of_getElem? (i := 190) rfl) rfl
set_option maxRecDepth 100000 in
theorem q501 : Cond.selects RX5 yX5_years yX5_years ∈ lw_tb := tb2 (List.mem_of_getElem? (i := 191) rfl) rfl
set_option maxRecDepth 100000 in
theorem q502 : Cond.code yX5_years cX5_years 1 (some (.array .int)) ∈ lw_tb := tb2 (List.mem_of_getElem? (i := 192) rfl) rfl
set_option maxRecDepth 100000 in
theorem q503 : Cond.methodLink RX6 361 yX2_part ∈ lw_tb := tb2 (List.mem_of_getElem? (i := 193) rfl) rfl
set_option maxRecDepth 100000 in
theorem q504 : Cond.instanceMethod yX2_part ∈ lw_tb := tb2 (List.mem_of_getElem? (i := 194) rfl) rfl
set_option maxRecDepth 100000 in
theorem q505 : Cond.selects RX2 yX2_part yX2_part ∈ lw_tb := tb2 (List.mem_of_getElem? (i := 195) rfl) rfl
set_option maxRecDepth 100000 in
theorem q506 : Cond.code yX2_part cX2_part 5 none ∈ lw_tb := tb2 (List.mem_of_getElem? (i := 196) rfl) rfl
set_option maxRecDepth 100000 in
theorem q507 : Cond.methodLink RX2 31 yX2_prepare ∈ lw_tb := tb2 (List.mem_of_getElem? (i := 197) rfl) rfl
set_option maxRecDepth 100000 in
theorem q509 : Cond.instanceMethod yX2_prepare ∈ lw_tb := tb2 (List.mem_of_getElem? (i := 199) rfl) rfl
set_option maxRecDepth 100000 in
theorem q510 : Cond.code yX2_prepare cX2_prepare 5 none ∈ lw_tb := tb2 (List.mem_of_getElem? (i := 200) rfl) rfl
set_option maxRecDepth 100000 in
theorem q511 : Cond.methodLink RX2 51 yX1_cells ∈ lw_tb := tb2 (List.mem_of_getElem? (i := 201) rfl) rfl
set_option maxRecDepth 100000 in
theorem q512 : Cond.methodLink RX2 59 yX1_columns ∈ lw_tb := tb2 (List.mem_of_getElem? (i := 202) rfl) rfl
set_option maxRecDepth 100000 in
theorem q513 : Cond.instanceMethod yX1_columns ∈ lw_tb := tb2 (List.mem_of_getElem? (i := 203) rfl) rfl
set_option maxRecDepth 100000 in
theorem q514 : Cond.selects RX1 yX1_columns yX1_columns ∈ lw_tb := tb2 (List.mem_of_getElem? (i := 204) rfl) rfl
set_option maxRecDepth 100000 in
theorem q515 : Cond.code yX1_columns cX1_columns 1 (some .int) ∈ lw_tb := tb2 (List.mem_of_getElem? (i := 205) rfl) rfl
set_option maxRecDepth 100000 in
theorem q516 : Cond.methodLink RX2 70 yX1_columnOf ∈ lw_tb := tb2 (List.mem_of_getElem? (i := 206) rfl) rfl
set_option maxRecDepth 100000 in
theorem q517 : Cond.instanceMethod yX1_columnOf ∈ lw_tb := tb2 (List.mem_of_getElem? (i := 207) rfl) rfl
set_option maxRecDepth 100000 in
theorem q518 : Cond.selects RX1 yX1_columnOf yX1_columnOf ∈ lw_tb := tb2 (List.mem_of_getElem? (i := 208) rfl) rfl
set_option maxRecDepth 100000 in
theorem q519 : Cond.code yX1_columnOf cX1_columnOf 2 (some .int) ∈ lw_tb := tb2 (List.mem_of_getElem? (i := 209) rfl) rfl
set_option maxRecDepth 100000 in
theorem q520 : Cond.methodLink RX2 73 yX2_fillSums ∈ lw_tb := tb2 (List.mem_of_getElem? (i := 210) rfl) rfl
set_option maxRecDepth 100000 in
theorem q522 : Cond.instanceMethod yX2_fillSums ∈ lw_tb := tb2 (List.mem_of_getElem? (i := 212) rfl) rfl
set_option maxRecDepth 100000 in
theorem q523 : Cond.code yX2_fillSums cX2_fillSums 8 none ∈ lw_tb := tb2 (List.mem_of_getElem? (i := 213) rfl) rfl
set_option maxRecDepth 100000 in
theorem q524 : Cond.methodLink RX2 38 yX2_differenceOf ∈ lw_tb := tb2 (List.mem_of_getElem? (i := 214) rfl) rfl
set_option maxRecDepth 100000 in
theorem q526 : Cond.instanceMethod yX2_differenceOf ∈ lw_tb := tb2 (List.mem_of_getElem? (i := 216) rfl) rfl
set_option maxRecDepth 100000 in
theorem q527 : Cond.code yX2_differenceOf cX2_differenceOf 2 (some .int) ∈ lw_tb := tb2 (List.mem_of_getElem? (i := 217) rfl) rfl
set_option maxRecDepth 100000 in
theorem q528 : Cond.methodLink RX2 77 yX2_sumOf ∈ lw_tb := tb2 (List.mem_of_getElem? (i := 218) rfl) rfl
set_option maxRecDepth 100000 in
theorem q530 : Cond.instanceMethod yX2_sumOf ∈ lw_tb := tb2 (List.mem_of_getElem? (i := 220) rfl) rfl
set_option maxRecDepth 100000 in
theorem q531 : Cond.code yX2_sumOf cX2_sumOf 2 (some .int) ∈ lw_tb := tb2 (List.mem_of_getElem? (i := 221) rfl) rfl
set_option maxRecDepth 100000 in
theorem q532 : Cond.methodLink RX2 80 yJ9_abs_0f7a4 ∈ lw_tb := tb2 (List.mem_of_getElem? (i := 222) rfl) rfl
set_option maxRecDepth 100000 in
theorem q533 : Cond.static yJ9_abs_0f7a4 ∈ lw_tb := tb2 (List.mem_of_getElem? (i := 223) rfl) rfl
set_option maxRecDepth 100000 in
theorem q534 : Cond.code yJ9_abs_0f7a4 cJ9_abs_0f7a4 1 (some .int) ∈ lw_tb := tb2 (List.mem_of_getElem? (i := 224) rfl) rfl
set_option maxRecDepth 100000 in
theorem q535 : Cond.methodLink RX2 42 yX2_bothHang ∈ lw_tb := tb2 (List.mem_of_getElem? (i := 225) rfl) rfl
set_option maxRecDepth 100000 in
theorem q537 : Cond.instanceMethod yX2_bothHang ∈ lw_tb := tb2 (List.mem_of_getElem? (i := 227) rfl) rfl
set_option maxRecDepth 100000 in
theorem q538 : Cond.code yX2_bothHang cX2_bothHang 2 (some .boolean) ∈ lw_tb := tb2 (List.mem_of_getElem? (i := 228) rfl) rfl
set_option maxRecDepth 100000 in
theorem q539 : Cond.methodLink RX2 85 yX2_hangs ∈ lw_tb := tb2 (List.mem_of_getElem? (i := 229) rfl) rfl
set_option maxRecDepth 100000 in
theorem q541 : Cond.instanceMethod yX2_hangs ∈ lw_tb := tb2 (List.mem_of_getElem? (i := 231) rfl) rfl
set_option maxRecDepth 100000 in
theorem q542 : Cond.code yX2_hangs cX2_hangs 5 (some .boolean) ∈ lw_tb := tb2 (List.mem_of_getElem? (i := 232) rfl) rfl
set_option maxRecDepth 100000 in
theorem q543 : Cond.methodLink RX2 88 yX2_nextTo ∈ lw_tb := tb2 (List.mem_of_getElem? (i := 233) rfl) rfl
set_option maxRecDepth 100000 in
theorem q545 : Cond.instanceMethod yX2_nextTo ∈ lw_tb := tb2 (List.mem_of_getElem? (i := 235) rfl) rfl
set_option maxRecDepth 100000 in
theorem q546 : Cond.code yX2_nextTo cX2_nextTo 4 (some .int) ∈ lw_tb := tb2 (List.mem_of_getElem? (i := 236) rfl) rfl
set_option maxRecDepth 100000 in
theorem q547 : Cond.methodLink RX6 161 yX2_leastDifference ∈ lw_tb := tb2 (List.mem_of_getElem? (i := 237) rfl) rfl
set_option maxRecDepth 100000 in
theorem q548 : Cond.instanceMethod yX2_leastDifference ∈ lw_tb := tb2 (List.mem_of_getElem? (i := 238) rfl) rfl
set_option maxRecDepth 100000 in
theorem q549 : Cond.selects RX2 yX2_leastDifference yX2_leastDifference ∈ lw_tb := tb2 (List.mem_of_getElem? (i := 239) rfl) rfl
set_option maxRecDepth 100000 in
theorem q550 : Cond.code yX2_leastDifference cX2_leastDifference 1 (some .int) ∈ lw_tb := tb3 (List.mem_of_getElem? (i := 0) rfl) rfl
set_option maxRecDepth 100000 in
theorem q551 : Cond.methodLink RX6 164 yX2_firstPart ∈ lw_tb := tb3 (List.mem_of_getElem? (i := 1) rfl) rfl
set_option maxRecDepth 100000 in
theorem q552 : Cond.instanceMethod yX2_firstPart ∈ lw_tb := tb3 (List.mem_of_getElem? (i := 2) rfl) rfl
set_option maxRecDepth 100000 in
theorem q553 : Cond.selects RX2 yX2_firstPart yX2_firstPart ∈ lw_tb := tb3 (List.mem_of_getElem? (i := 3) rfl) rfl
set_option maxRecDepth 100000 in
theorem q554 : Cond.code yX2_firstPart cX2_firstPart 1 (some .int) ∈ lw_tb := tb3 (List.mem_of_getElem? (i := 4) rfl) rfl
set_option maxRecDepth 100000 in
theorem q555 : Cond.methodLink RL 73 yX6_taken ∈ lw_tb := tb3 (List.mem_of_getElem? (i := 5) rfl) rfl
set_option maxRecDepth 100000 in
theorem q556 : Cond.instanceMethod yX6_taken ∈ lw_tb := tb3 (List.mem_of_getElem? (i := 6) rfl) rfl
set_option maxRecDepth 100000 in
theorem q557 : Cond.selects RX6 yX6_taken yX6_taken ∈ lw_tb := tb3 (List.mem_of_getElem? (i := 7) rfl) rfl
set_option maxRecDepth 100000 in
theorem q558 : Cond.code yX6_taken cX6_taken 4 (some .int) ∈ lw_tb := tb3 (List.mem_of_getElem? (i := 8) rfl) rfl
set_option maxRecDepth 100000 in
theorem q559 : Cond.constant RX6 167 (-1000002) ∈ lw_tb := tb3 (List.mem_of_getElem? (i := 9) rfl) rfl
set_option maxRecDepth 100000 in
theorem q560 : Cond.methodLink RX6 168 yX6_weighLosses ∈ lw_tb := tb3 (List.mem_of_getElem? (i := 10) rfl) rfl
set_option maxRecDepth 100000 in
theorem q562 : Cond.instanceMethod yX6_weighLosses ∈ lw_tb := tb3 (List.mem_of_getElem? (i := 12) rfl) rfl
set_option maxRecDepth 100000 in
theorem q563 : Cond.code yX6_weighLosses cX6_weighLosses 6 none ∈ lw_tb := tb3 (List.mem_of_getElem? (i := 13) rfl) rfl
set_option maxRecDepth 100000 in
theorem q564 : Cond.methodLink RX6 365 yX1_rowStart ∈ lw_tb := tb3 (List.mem_of_getElem? (i := 14) rfl) rfl
set_option maxRecDepth 100000 in
theorem q565 : Cond.instanceMethod yX1_rowStart ∈ lw_tb := tb3 (List.mem_of_getElem? (i := 15) rfl) rfl
set_option maxRecDepth 100000 in
theorem q566 : Cond.selects RX1 yX1_rowStart yX1_rowStart ∈ lw_tb := tb3 (List.mem_of_getElem? (i := 16) rfl) rfl
set_option maxRecDepth 100000 in
theorem q567 : Cond.code yX1_rowStart cX1_rowStart 2 (some .int) ∈ lw_tb := tb3 (List.mem_of_getElem? (i := 17) rfl) rfl
set_option maxRecDepth 100000 in
theorem q568 : Cond.methodLink RX6 368 yX1_columns ∈ lw_tb := tb3 (List.mem_of_getElem? (i := 18) rfl) rfl
set_option maxRecDepth 100000 in
theorem q569 : Cond.methodLink RX6 371 yX5_yearAsBuilt ∈ lw_tb := tb3 (List.mem_of_getElem? (i := 19) rfl) rfl
set_option maxRecDepth 100000 in
theorem q570 : Cond.methodLink RL 77 yX6_highest ∈ lw_tb := tb3 (List.mem_of_getElem? (i := 20) rfl) rfl
set_option maxRecDepth 100000 in
theorem q571 : Cond.instanceMethod yX6_highest ∈ lw_tb := tb3 (List.mem_of_getElem? (i := 21) rfl) rfl
set_option maxRecDepth 100000 in
theorem q572 : Cond.selects RX6 yX6_highest yX6_highest ∈ lw_tb := tb3 (List.mem_of_getElem? (i := 22) rfl) rfl
set_option maxRecDepth 100000 in
theorem q573 : Cond.code yX6_highest cX6_highest 5 (some .int) ∈ lw_tb := tb3 (List.mem_of_getElem? (i := 23) rfl) rfl
set_option maxRecDepth 100000 in
theorem q574 : Cond.constant RX6 172 (100000) ∈ lw_tb := tb3 (List.mem_of_getElem? (i := 24) rfl) rfl
set_option maxRecDepth 100000 in
theorem q575 : Cond.methodLink RX6 173 yX6_mostLost ∈ lw_tb := tb3 (List.mem_of_getElem? (i := 25) rfl) rfl
set_option maxRecDepth 100000 in
theorem q577 : Cond.instanceMethod yX6_mostLost ∈ lw_tb := tb3 (List.mem_of_getElem? (i := 27) rfl) rfl
set_option maxRecDepth 100000 in
theorem q578 : Cond.code yX6_mostLost cX6_mostLost 3 (some .int) ∈ lw_tb := tb3 (List.mem_of_getElem? (i := 28) rfl) rfl
set_option maxRecDepth 100000 in
theorem q579 : Cond.methodLink RX6 374 yJ9_max_7cf53 ∈ lw_tb := tb3 (List.mem_of_getElem? (i := 29) rfl) rfl
set_option maxRecDepth 100000 in
theorem q580 : Cond.static yJ9_max_7cf53 ∈ lw_tb := tb3 (List.mem_of_getElem? (i := 30) rfl) rfl
set_option maxRecDepth 100000 in
theorem q581 : Cond.code yJ9_max_7cf53 cJ9_max_7cf53 2 (some .int) ∈ lw_tb := tb3 (List.mem_of_getElem? (i := 31) rfl) rfl
set_option maxRecDepth 100000 in
theorem q582 : Cond.methodLink RL 81 yX6_again ∈ lw_tb := tb3 (List.mem_of_getElem? (i := 32) rfl) rfl
set_option maxRecDepth 100000 in
theorem q583 : Cond.instanceMethod yX6_again ∈ lw_tb := tb3 (List.mem_of_getElem? (i := 33) rfl) rfl
set_option maxRecDepth 100000 in
theorem q584 : Cond.selects RX6 yX6_again yX6_again ∈ lw_tb := tb3 (List.mem_of_getElem? (i := 34) rfl) rfl
set_option maxRecDepth 100000 in
theorem q585 : Cond.code yX6_again cX6_again 4 (some .int) ∈ lw_tb := tb3 (List.mem_of_getElem? (i := 35) rfl) rfl
set_option maxRecDepth 100000 in
theorem q586 : Cond.methodLink RX6 176 yX6_weighFall ∈ lw_tb := tb3 (List.mem_of_getElem? (i := 36) rfl) rfl
set_option maxRecDepth 100000 in
theorem q588 : Cond.instanceMethod yX6_weighFall ∈ lw_tb := tb3 (List.mem_of_getElem? (i := 38) rfl) rfl
set_option maxRecDepth 100000 in
theorem q589 : Cond.code yX6_weighFall cX6_weighFall 4 none ∈ lw_tb := tb3 (List.mem_of_getElem? (i := 39) rfl) rfl
set_option maxRecDepth 100000 in
theorem q590 : Cond.methodLink RX6 179 yX2_partAgain ∈ lw_tb := tb3 (List.mem_of_getElem? (i := 40) rfl) rfl
set_option maxRecDepth 100000 in
theorem q591 : Cond.instanceMethod yX2_partAgain ∈ lw_tb := tb3 (List.mem_of_getElem? (i := 41) rfl) rfl
set_option maxRecDepth 100000 in
theorem q592 : Cond.selects RX2 yX2_partAgain yX2_partAgain ∈ lw_tb := tb3 (List.mem_of_getElem? (i := 42) rfl) rfl
set_option maxRecDepth 100000 in
theorem q593 : Cond.code yX2_partAgain cX2_partAgain 6 none ∈ lw_tb := tb3 (List.mem_of_getElem? (i := 43) rfl) rfl
set_option maxRecDepth 100000 in
theorem q594 : Cond.methodLink RX2 46 yJ6_bitCount_0f7a4 ∈ lw_tb := tb3 (List.mem_of_getElem? (i := 44) rfl) rfl
set_option maxRecDepth 100000 in
theorem q595 : Cond.methodLink RX6 183 yX2_fewestMoved ∈ lw_tb := tb3 (List.mem_of_getElem? (i := 45) rfl) rfl
set_option maxRecDepth 100000 in
theorem q596 : Cond.instanceMethod yX2_fewestMoved ∈ lw_tb := tb3 (List.mem_of_getElem? (i := 46) rfl) rfl
set_option maxRecDepth 100000 in
theorem q597 : Cond.selects RX2 yX2_fewestMoved yX2_fewestMoved ∈ lw_tb := tb3 (List.mem_of_getElem? (i := 47) rfl) rfl
set_option maxRecDepth 100000 in
theorem q598 : Cond.code yX2_fewestMoved cX2_fewestMoved 1 (some .int) ∈ lw_tb := tb3 (List.mem_of_getElem? (i := 48) rfl) rfl
set_option maxRecDepth 100000 in
theorem q599 : Cond.methodLink RX6 186 yX2_partAfter ∈ lw_tb := tb3 (List.mem_of_getElem? (i := 49) rfl) rfl
set_option maxRecDepth 100000 in
theorem q600 : Cond.instanceMethod yX2_partAfter ∈ lw_tb := tb3 (List.mem_of_getElem? (i := 50) rfl) rfl
set_option maxRecDepth 100000 in
theorem q601 : Cond.selects RX2 yX2_partAfter yX2_partAfter ∈ lw_tb := tb3 (List.mem_of_getElem? (i := 51) rfl) rfl
set_option maxRecDepth 100000 in
theorem q602 : Cond.code yX2_partAfter cX2_partAfter 1 (some .int) ∈ lw_tb := tb3 (List.mem_of_getElem? (i := 52) rfl) rfl
set_option maxRecDepth 100000 in
theorem q603 : Cond.methodLink RL 85 yX6_worth ∈ lw_tb := tb3 (List.mem_of_getElem? (i := 53) rfl) rfl
set_option maxRecDepth 100000 in
theorem q604 : Cond.instanceMethod yX6_worth ∈ lw_tb := tb3 (List.mem_of_getElem? (i := 54) rfl) rfl
set_option maxRecDepth 100000 in
theorem q605 : Cond.selects RX6 yX6_worth yX6_worth ∈ lw_tb := tb3 (List.mem_of_getElem? (i := 55) rfl) rfl
set_option maxRecDepth 100000 in
theorem q606 : Cond.code yX6_worth cX6_worth 6 (some .int) ∈ lw_tb := tb3 (List.mem_of_getElem? (i := 56) rfl) rfl
set_option maxRecDepth 100000 in
theorem q607 : Cond.methodLink RL 89 yX6_value ∈ lw_tb := tb3 (List.mem_of_getElem? (i := 57) rfl) rfl
set_option maxRecDepth 100000 in
theorem q608 : Cond.instanceMethod yX6_value ∈ lw_tb := tb3 (List.mem_of_getElem? (i := 58) rfl) rfl
set_option maxRecDepth 100000 in
theorem q609 : Cond.selects RX6 yX6_value yX6_value ∈ lw_tb := tb3 (List.mem_of_getElem? (i := 59) rfl) rfl
set_option maxRecDepth 100000 in
theorem q610 : Cond.code yX6_value cX6_value 3 (some .int) ∈ lw_tb := tb3 (List.mem_of_getElem? (i := 60) rfl) rfl
set_option maxRecDepth 100000 in
theorem q611 : Cond.methodLink RX6 189 yX6_worthTo ∈ lw_tb := tb3 (List.mem_of_getElem? (i := 61) rfl) rfl
set_option maxRecDepth 100000 in
theorem q613 : Cond.instanceMethod yX6_worthTo ∈ lw_tb := tb3 (List.mem_of_getElem? (i := 63) rfl) rfl
set_option maxRecDepth 100000 in
theorem q614 : Cond.code yX6_worthTo cX6_worthTo 5 (some .int) ∈ lw_tb := tb3 (List.mem_of_getElem? (i := 64) rfl) rfl
set_option maxRecDepth 100000 in
theorem q615 : Cond.methodLink RX6 377 yX5_daysOf ∈ lw_tb := tb3 (List.mem_of_getElem? (i := 65) rfl) rfl
set_option maxRecDepth 100000 in
theorem q616 : Cond.instanceMethod yX5_daysOf ∈ lw_tb := tb3 (List.mem_of_getElem? (i := 66) rfl) rfl
set_option maxRecDepth 100000 in
theorem q617 : Cond.selects RX5 yX5_daysOf yX5_daysOf ∈ lw_tb := tb3 (List.mem_of_getElem? (i := 67) rfl) rfl
set_option maxRecDepth 100000 in
theorem q618 : Cond.code yX5_daysOf cX5_daysOf 2 (some .int) ∈ lw_tb := tb3 (List.mem_of_getElem? (i := 68) rfl) rfl
set_option maxRecDepth 100000 in
theorem q619 : Cond.methodLink RL 93 yX6_change ∈ lw_tb := tb3 (List.mem_of_getElem? (i := 69) rfl) rfl
set_option maxRecDepth 100000 in
theorem q620 : Cond.instanceMethod yX6_change ∈ lw_tb := tb3 (List.mem_of_getElem? (i := 70) rfl) rfl
set_option maxRecDepth 100000 in
theorem q621 : Cond.selects RX6 yX6_change yX6_change ∈ lw_tb := tb3 (List.mem_of_getElem? (i := 71) rfl) rfl
set_option maxRecDepth 100000 in
theorem q622 : Cond.code yX6_change cX6_change 3 (some .int) ∈ lw_tb := tb3 (List.mem_of_getElem? (i := 72) rfl) rfl
set_option maxRecDepth 100000 in
theorem q623 : Cond.methodLink RX6 192 yX6_wouldSwap ∈ lw_tb := tb3 (List.mem_of_getElem? (i := 73) rfl) rfl
set_option maxRecDepth 100000 in
theorem q625 : Cond.instanceMethod yX6_wouldSwap ∈ lw_tb := tb3 (List.mem_of_getElem? (i := 75) rfl) rfl
set_option maxRecDepth 100000 in
theorem q626 : Cond.code yX6_wouldSwap cX6_wouldSwap 3 (some .boolean) ∈ lw_tb := tb3 (List.mem_of_getElem? (i := 76) rfl) rfl
set_option maxRecDepth 100000 in
theorem q627 : Cond.methodLink RX6 380 yX6_wouldRather ∈ lw_tb := tb3 (List.mem_of_getElem? (i := 77) rfl) rfl
set_option maxRecDepth 100000 in
theorem q629 : Cond.instanceMethod yX6_wouldRather ∈ lw_tb := tb3 (List.mem_of_getElem? (i := 79) rfl) rfl
set_option maxRecDepth 100000 in
theorem q630 : Cond.code yX6_wouldRather cX6_wouldRather 3 (some .boolean) ∈ lw_tb := tb3 (List.mem_of_getElem? (i := 80) rfl) rfl
set_option maxRecDepth 100000 in
theorem q631 : Cond.methodLink RL 97 yX6_changes ∈ lw_tb := tb3 (List.mem_of_getElem? (i := 81) rfl) rfl
set_option maxRecDepth 100000 in
theorem q632 : Cond.instanceMethod yX6_changes ∈ lw_tb := tb3 (List.mem_of_getElem? (i := 82) rfl) rfl
set_option maxRecDepth 100000 in
theorem q633 : Cond.selects RX6 yX6_changes yX6_changes ∈ lw_tb := tb3 (List.mem_of_getElem? (i := 83) rfl) rfl
set_option maxRecDepth 100000 in
theorem q634 : Cond.code yX6_changes cX6_changes 2 (some .int) ∈ lw_tb := tb3 (List.mem_of_getElem? (i := 84) rfl) rfl
set_option maxRecDepth 100000 in
theorem q635 : Cond.methodLink RX6 195 yX6_countPairs ∈ lw_tb := tb3 (List.mem_of_getElem? (i := 85) rfl) rfl
set_option maxRecDepth 100000 in
theorem q637 : Cond.instanceMethod yX6_countPairs ∈ lw_tb := tb3 (List.mem_of_getElem? (i := 87) rfl) rfl
set_option maxRecDepth 100000 in
theorem q638 : Cond.code yX6_countPairs cX6_countPairs 4 (some .int) ∈ lw_tb := tb3 (List.mem_of_getElem? (i := 88) rfl) rfl
set_option maxRecDepth 100000 in
theorem q639 : Cond.methodLink RX6 198 yX6_countRings ∈ lw_tb := tb3 (List.mem_of_getElem? (i := 89) rfl) rfl
set_option maxRecDepth 100000 in
theorem q641 : Cond.instanceMethod yX6_countRings ∈ lw_tb := tb3 (List.mem_of_getElem? (i := 91) rfl) rfl
set_option maxRecDepth 100000 in
theorem q642 : Cond.code yX6_countRings cX6_countRings 5 (some .int) ∈ lw_tb := tb3 (List.mem_of_getElem? (i := 92) rfl) rfl
set_option maxRecDepth 100000 in
theorem q643 : Cond.methodLink RX6 383 yX6_isRing ∈ lw_tb := tb3 (List.mem_of_getElem? (i := 93) rfl) rfl
set_option maxRecDepth 100000 in
theorem q645 : Cond.instanceMethod yX6_isRing ∈ lw_tb := tb3 (List.mem_of_getElem? (i := 95) rfl) rfl
set_option maxRecDepth 100000 in
theorem q646 : Cond.code yX6_isRing cX6_isRing 5 (some .boolean) ∈ lw_tb := tb3 (List.mem_of_getElem? (i := 96) rfl) rfl
set_option maxRecDepth 100000 in
theorem q647 : Cond.methodLink RL 101 yX6_sort ∈ lw_tb := tb3 (List.mem_of_getElem? (i := 97) rfl) rfl
set_option maxRecDepth 100000 in
theorem q648 : Cond.instanceMethod yX6_sort ∈ lw_tb := tb3 (List.mem_of_getElem? (i := 98) rfl) rfl
set_option maxRecDepth 100000 in
theorem q649 : Cond.selects RX6 yX6_sort yX6_sort ∈ lw_tb := tb3 (List.mem_of_getElem? (i := 99) rfl) rfl
set_option maxRecDepth 100000 in
theorem q650 : Cond.code yX6_sort cX6_sort 4 (some .int) ∈ lw_tb := tb3 (List.mem_of_getElem? (i := 100) rfl) rfl
set_option maxRecDepth 100000 in
theorem q651 : Cond.methodLink RX6 205 yX3_changeNeed ∈ lw_tb := tb3 (List.mem_of_getElem? (i := 101) rfl) rfl
set_option maxRecDepth 100000 in
theorem q652 : Cond.instanceMethod yX3_changeNeed ∈ lw_tb := tb3 (List.mem_of_getElem? (i := 102) rfl) rfl
set_option maxRecDepth 100000 in
theorem q653 : Cond.selects RX3 yX3_changeNeed yX3_changeNeed ∈ lw_tb := tb3 (List.mem_of_getElem? (i := 103) rfl) rfl
set_option maxRecDepth 100000 in
theorem q654 : Cond.code yX3_changeNeed cX3_changeNeed 4 (some .int) ∈ lw_tb := tb3 (List.mem_of_getElem? (i := 104) rfl) rfl
set_option maxRecDepth 100000 in
theorem q655 : Cond.methodLink RX6 208 yX3_changePay ∈ lw_tb := tb3 (List.mem_of_getElem? (i := 105) rfl) rfl
set_option maxRecDepth 100000 in
theorem q656 : Cond.instanceMethod yX3_changePay ∈ lw_tb := tb3 (List.mem_of_getElem? (i := 106) rfl) rfl
set_option maxRecDepth 100000 in
theorem q657 : Cond.selects RX3 yX3_changePay yX3_changePay ∈ lw_tb := tb3 (List.mem_of_getElem? (i := 107) rfl) rfl
set_option maxRecDepth 100000 in
theorem q658 : Cond.code yX3_changePay cX3_changePay 4 (some .int) ∈ lw_tb := tb3 (List.mem_of_getElem? (i := 108) rfl) rfl
set_option maxRecDepth 100000 in
theorem q659 : Cond.methodLink RL 105 yX6_set ∈ lw_tb := tb3 (List.mem_of_getElem? (i := 109) rfl) rfl
set_option maxRecDepth 100000 in
theorem q660 : Cond.instanceMethod yX6_set ∈ lw_tb := tb3 (List.mem_of_getElem? (i := 110) rfl) rfl
set_option maxRecDepth 100000 in
theorem q661 : Cond.selects RX6 yX6_set yX6_set ∈ lw_tb := tb3 (List.mem_of_getElem? (i := 111) rfl) rfl
set_option maxRecDepth 100000 in
theorem q662 : Cond.code yX6_set cX6_set 2 (some .int) ∈ lw_tb := tb3 (List.mem_of_getElem? (i := 112) rfl) rfl
set_option maxRecDepth 100000 in
theorem q663 : Cond.methodLink RX6 215 yX3_plant ∈ lw_tb := tb3 (List.mem_of_getElem? (i := 113) rfl) rfl
set_option maxRecDepth 100000 in
theorem q664 : Cond.instanceMethod yX3_plant ∈ lw_tb := tb3 (List.mem_of_getElem? (i := 114) rfl) rfl
set_option maxRecDepth 100000 in
theorem q665 : Cond.selects RX3 yX3_plant yX3_plant ∈ lw_tb := tb3 (List.mem_of_getElem? (i := 115) rfl) rfl
set_option maxRecDepth 100000 in
theorem q666 : Cond.code yX3_plant cX3_plant 5 none ∈ lw_tb := tb3 (List.mem_of_getElem? (i := 116) rfl) rfl
set_option maxRecDepth 100000 in
theorem q667 : Cond.methodLink RX3 24 yX3_bestFrom ∈ lw_tb := tb3 (List.mem_of_getElem? (i := 117) rfl) rfl
set_option maxRecDepth 100000 in
theorem q669 : Cond.instanceMethod yX3_bestFrom ∈ lw_tb := tb3 (List.mem_of_getElem? (i := 119) rfl) rfl
set_option maxRecDepth 100000 in
theorem q670 : Cond.code yX3_bestFrom cX3_bestFrom 6 (some .int) ∈ lw_tb := tb3 (List.mem_of_getElem? (i := 120) rfl) rfl
set_option maxRecDepth 100000 in
theorem q671 : Cond.methodLink RX3 35 yX3_payFrom ∈ lw_tb := tb3 (List.mem_of_getElem? (i := 121) rfl) rfl
set_option maxRecDepth 100000 in
theorem q673 : Cond.instanceMethod yX3_payFrom ∈ lw_tb := tb3 (List.mem_of_getElem? (i := 123) rfl) rfl
set_option maxRecDepth 100000 in
theorem q674 : Cond.code yX3_payFrom cX3_payFrom 5 (some .int) ∈ lw_tb := tb3 (List.mem_of_getElem? (i := 124) rfl) rfl
set_option maxRecDepth 100000 in
theorem q675 : Cond.methodLink RX3 31 yX3_weightOf ∈ lw_tb := tb3 (List.mem_of_getElem? (i := 125) rfl) rfl
set_option maxRecDepth 100000 in
theorem q676 : Cond.static yX3_weightOf ∈ lw_tb := tb3 (List.mem_of_getElem? (i := 126) rfl) rfl
set_option maxRecDepth 100000 in
theorem q677 : Cond.code yX3_weightOf cX3_weightOf 1 (some .int) ∈ lw_tb := tb3 (List.mem_of_getElem? (i := 127) rfl) rfl
set_option maxRecDepth 100000 in
theorem q678 : Cond.methodLink RX3 38 yX3_mayStand ∈ lw_tb := tb3 (List.mem_of_getElem? (i := 128) rfl) rfl
set_option maxRecDepth 100000 in
theorem q680 : Cond.instanceMethod yX3_mayStand ∈ lw_tb := tb3 (List.mem_of_getElem? (i := 130) rfl) rfl
set_option maxRecDepth 100000 in
theorem q681 : Cond.code yX3_mayStand cX3_mayStand 4 (some .boolean) ∈ lw_tb := tb3 (List.mem_of_getElem? (i := 131) rfl) rfl
set_option maxRecDepth 100000 in
theorem q682 : Cond.methodLink RX3 48 yX3_standAhead ∈ lw_tb := tb3 (List.mem_of_getElem? (i := 132) rfl) rfl
set_option maxRecDepth 100000 in
theorem q683 : Cond.static yX3_standAhead ∈ lw_tb := tb3 (List.mem_of_getElem? (i := 133) rfl) rfl
set_option maxRecDepth 100000 in
theorem q684 : Cond.code yX3_standAhead cX3_standAhead 2 (some .int) ∈ lw_tb := tb3 (List.mem_of_getElem? (i := 134) rfl) rfl
set_option maxRecDepth 100000 in
theorem q685 : Cond.methodLink RX3 42 yJ9_max_7cf53 ∈ lw_tb := tb3 (List.mem_of_getElem? (i := 135) rfl) rfl
set_option maxRecDepth 100000 in
theorem q686 : Cond.methodLink RX3 28 yX3_leastSort ∈ lw_tb := tb3 (List.mem_of_getElem? (i := 136) rfl) rfl
set_option maxRecDepth 100000 in
theorem q688 : Cond.instanceMethod yX3_leastSort ∈ lw_tb := tb3 (List.mem_of_getElem? (i := 138) rfl) rfl
set_option maxRecDepth 100000 in
theorem q689 : Cond.code yX3_leastSort cX3_leastSort 6 (some .int) ∈ lw_tb := tb3 (List.mem_of_getElem? (i := 139) rfl) rfl
set_option maxRecDepth 100000 in
theorem q690 : Cond.methodLink RX6 218 yX3_mostPaid ∈ lw_tb := tb3 (List.mem_of_getElem? (i := 140) rfl) rfl
set_option maxRecDepth 100000 in
theorem q691 : Cond.instanceMethod yX3_mostPaid ∈ lw_tb := tb3 (List.mem_of_getElem? (i := 141) rfl) rfl
set_option maxRecDepth 100000 in
theorem q692 : Cond.selects RX3 yX3_mostPaid yX3_mostPaid ∈ lw_tb := tb3 (List.mem_of_getElem? (i := 142) rfl) rfl
set_option maxRecDepth 100000 in
theorem q693 : Cond.code yX3_mostPaid cX3_mostPaid 1 (some .int) ∈ lw_tb := tb3 (List.mem_of_getElem? (i := 143) rfl) rfl
set_option maxRecDepth 100000 in
theorem q694 : Cond.methodLink RX6 221 yX3_sortOn ∈ lw_tb := tb3 (List.mem_of_getElem? (i := 144) rfl) rfl
set_option maxRecDepth 100000 in
theorem q695 : Cond.instanceMethod yX3_sortOn ∈ lw_tb := tb3 (List.mem_of_getElem? (i := 145) rfl) rfl
set_option maxRecDepth 100000 in
theorem q696 : Cond.selects RX3 yX3_sortOn yX3_sortOn ∈ lw_tb := tb3 (List.mem_of_getElem? (i := 146) rfl) rfl
set_option maxRecDepth 100000 in
theorem q697 : Cond.code yX3_sortOn cX3_sortOn 2 (some .int) ∈ lw_tb := tb3 (List.mem_of_getElem? (i := 147) rfl) rfl
set_option maxRecDepth 100000 in
theorem q698 : Cond.methodLink RL 109 yX6_seen ∈ lw_tb := tb3 (List.mem_of_getElem? (i := 148) rfl) rfl
set_option maxRecDepth 100000 in
theorem q699 : Cond.instanceMethod yX6_seen ∈ lw_tb := tb3 (List.mem_of_getElem? (i := 149) rfl) rfl
set_option maxRecDepth 100000 in
theorem q700 : Cond.selects RX6 yX6_seen yX6_seen ∈ lw_tb := tb3 (List.mem_of_getElem? (i := 150) rfl) rfl
set_option maxRecDepth 100000 in
theorem q701 : Cond.code yX6_seen cX6_seen 3 (some .int) ∈ lw_tb := tb3 (List.mem_of_getElem? (i := 151) rfl) rfl
set_option maxRecDepth 100000 in
theorem q702 : Cond.methodLink RL 113 yX6_forget ∈ lw_tb := tb3 (List.mem_of_getElem? (i := 152) rfl) rfl
set_option maxRecDepth 100000 in
theorem q703 : Cond.instanceMethod yX6_forget ∈ lw_tb := tb3 (List.mem_of_getElem? (i := 153) rfl) rfl
set_option maxRecDepth 100000 in
theorem q704 : Cond.selects RX6 yX6_forget yX6_forget ∈ lw_tb := tb3 (List.mem_of_getElem? (i := 154) rfl) rfl
set_option maxRecDepth 100000 in
theorem q705 : Cond.code yX6_forget cX6_forget 2 (some .int) ∈ lw_tb := tb3 (List.mem_of_getElem? (i := 155) rfl) rfl
set_option maxRecDepth 100000 in
theorem q706 : Cond.methodLink RL 117 yX6_whose ∈ lw_tb := tb3 (List.mem_of_getElem? (i := 156) rfl) rfl
set_option maxRecDepth 100000 in
theorem q707 : Cond.instanceMethod yX6_whose ∈ lw_tb := tb3 (List.mem_of_getElem? (i := 157) rfl) rfl
set_option maxRecDepth 100000 in
theorem q708 : Cond.selects RX6 yX6_whose yX6_whose ∈ lw_tb := tb3 (List.mem_of_getElem? (i := 158) rfl) rfl
set_option maxRecDepth 100000 in
theorem q709 : Cond.code yX6_whose cX6_whose 5 (some .int) ∈ lw_tb := tb3 (List.mem_of_getElem? (i := 159) rfl) rfl
set_option maxRecDepth 100000 in
theorem q710 : Cond.methodLink RX6 228 yX6_fitsAllSeen ∈ lw_tb := tb3 (List.mem_of_getElem? (i := 160) rfl) rfl
set_option maxRecDepth 100000 in
theorem q712 : Cond.instanceMethod yX6_fitsAllSeen ∈ lw_tb := tb3 (List.mem_of_getElem? (i := 162) rfl) rfl
set_option maxRecDepth 100000 in
theorem q713 : Cond.code yX6_fitsAllSeen cX6_fitsAllSeen 3 (some .boolean) ∈ lw_tb := tb3 (List.mem_of_getElem? (i := 163) rfl) rfl
set_option maxRecDepth 100000 in
theorem q714 : Cond.methodLink RX6 231 yJ6_bitCount_0f7a4 ∈ lw_tb := tb3 (List.mem_of_getElem? (i := 164) rfl) rfl
set_option maxRecDepth 100000 in
theorem q715 : Cond.methodLink RL 121 yX6_clouds ∈ lw_tb := tb3 (List.mem_of_getElem? (i := 165) rfl) rfl
set_option maxRecDepth 100000 in
theorem q716 : Cond.instanceMethod yX6_clouds ∈ lw_tb := tb3 (List.mem_of_getElem? (i := 166) rfl) rfl
set_option maxRecDepth 100000 in
theorem q717 : Cond.selects RX6 yX6_clouds yX6_clouds ∈ lw_tb := tb3 (List.mem_of_getElem? (i := 167) rfl) rfl
set_option maxRecDepth 100000 in
theorem q718 : Cond.code yX6_clouds cX6_clouds 4 (some .int) ∈ lw_tb := tb3 (List.mem_of_getElem? (i := 168) rfl) rfl
set_option maxRecDepth 100000 in
theorem q719 : Cond.methodLink RL 125 yX6_clear ∈ lw_tb := tb3 (List.mem_of_getElem? (i := 169) rfl) rfl
set_option maxRecDepth 100000 in
theorem q720 : Cond.instanceMethod yX6_clear ∈ lw_tb := tb3 (List.mem_of_getElem? (i := 170) rfl) rfl
set_option maxRecDepth 100000 in
theorem q721 : Cond.selects RX6 yX6_clear yX6_clear ∈ lw_tb := tb3 (List.mem_of_getElem? (i := 171) rfl) rfl
set_option maxRecDepth 100000 in
theorem q722 : Cond.code yX6_clear cX6_clear 6 (some .long) ∈ lw_tb := tb3 (List.mem_of_getElem? (i := 172) rfl) rfl
set_option maxRecDepth 100000 in
theorem q723 : Cond.constantLong RX6 236 (-9223372036854775806) ∈ lw_tb := tb3 (List.mem_of_getElem? (i := 173) rfl) rfl
set_option maxRecDepth 100000 in
theorem q724 : Cond.methodLink RX6 238 yX0_takeMean ∈ lw_tb := tb3 (List.mem_of_getElem? (i := 174) rfl) rfl
set_option maxRecDepth 100000 in
theorem q725 : Cond.instanceMethod yX0_takeMean ∈ lw_tb := tb3 (List.mem_of_getElem? (i := 175) rfl) rfl
set_option maxRecDepth 100000 in
theorem q726 : Cond.selects RX0 yX0_takeMean yX0_takeMean ∈ lw_tb := tb3 (List.mem_of_getElem? (i := 176) rfl) rfl
set_option maxRecDepth 100000 in
theorem q727 : Cond.code yX0_takeMean cX0_takeMean 3 none ∈ lw_tb := tb3 (List.mem_of_getElem? (i := 177) rfl) rfl
set_option maxRecDepth 100000 in
theorem q728 : Cond.constantLong RX0 22 (16) ∈ lw_tb := tb3 (List.mem_of_getElem? (i := 178) rfl) rfl
set_option maxRecDepth 100000 in
theorem q729 : Cond.methodLink RX0 24 yX0_reduce ∈ lw_tb := tb3 (List.mem_of_getElem? (i := 179) rfl) rfl
set_option maxRecDepth 100000 in
theorem q731 : Cond.instanceMethod yX0_reduce ∈ lw_tb := tb3 (List.mem_of_getElem? (i := 181) rfl) rfl
set_option maxRecDepth 100000 in
theorem q732 : Cond.code yX0_reduce cX0_reduce 2 none ∈ lw_tb := tb3 (List.mem_of_getElem? (i := 182) rfl) rfl
set_option maxRecDepth 100000 in
theorem q733 : Cond.methodLink RX6 241 yX0_takeAtLeast ∈ lw_tb := tb3 (List.mem_of_getElem? (i := 183) rfl) rfl
set_option maxRecDepth 100000 in
theorem q734 : Cond.instanceMethod yX0_takeAtLeast ∈ lw_tb := tb3 (List.mem_of_getElem? (i := 184) rfl) rfl
set_option maxRecDepth 100000 in
theorem q735 : Cond.selects RX0 yX0_takeAtLeast yX0_takeAtLeast ∈ lw_tb := tb3 (List.mem_of_getElem? (i := 185) rfl) rfl
set_option maxRecDepth 100000 in
theorem q736 : Cond.code yX0_takeAtLeast cX0_takeAtLeast 5 none ∈ lw_tb := tb3 (List.mem_of_getElem? (i := 186) rfl) rfl
set_option maxRecDepth 100000 in
theorem q737 : Cond.methodLink RX0 27 yX0_countWays ∈ lw_tb := tb3 (List.mem_of_getElem? (i := 187) rfl) rfl
set_option maxRecDepth 100000 in
theorem q739 : Cond.instanceMethod yX0_countWays ∈ lw_tb := tb3 (List.mem_of_getElem? (i := 189) rfl) rfl
set_option maxRecDepth 100000 in
theorem q740 : Cond.code yX0_countWays cX0_countWays 5 none ∈ lw_tb := tb3 (List.mem_of_getElem? (i := 190) rfl) rfl
set_option maxRecDepth 100000 in
theorem q741 : Cond.methodLink RX0 31 yJ7_fill_d0a16 ∈ lw_tb := tb3 (List.mem_of_getElem? (i := 191) rfl) rfl
set_option maxRecDepth 100000 in
theorem q742 : Cond.static yJ7_fill_d0a16 ∈ lw_tb := tb3 (List.mem_of_getElem? (i := 192) rfl) rfl
set_option maxRecDepth 100000 in
theorem q743 : Cond.code yJ7_fill_d0a16 cJ7_fill_d0a16 5 none ∈ lw_tb := tb3 (List.mem_of_getElem? (i := 193) rfl) rfl
set_option maxRecDepth 100000 in
theorem q744 : Cond.methodLink RX6 245 yX0_above ∈ lw_tb := tb3 (List.mem_of_getElem? (i := 194) rfl) rfl
set_option maxRecDepth 100000 in
theorem q745 : Cond.instanceMethod yX0_above ∈ lw_tb := tb3 (List.mem_of_getElem? (i := 195) rfl) rfl
set_option maxRecDepth 100000 in
theorem q746 : Cond.selects RX0 yX0_above yX0_above ∈ lw_tb := tb3 (List.mem_of_getElem? (i := 196) rfl) rfl
set_option maxRecDepth 100000 in
theorem q747 : Cond.code yX0_above cX0_above 1 (some .long) ∈ lw_tb := tb3 (List.mem_of_getElem? (i := 197) rfl) rfl
set_option maxRecDepth 100000 in
theorem q748 : Cond.methodLink RX6 249 yX0_below ∈ lw_tb := tb3 (List.mem_of_getElem? (i := 198) rfl) rfl
set_option maxRecDepth 100000 in
theorem q749 : Cond.instanceMethod yX0_below ∈ lw_tb := tb3 (List.mem_of_getElem? (i := 199) rfl) rfl
set_option maxRecDepth 100000 in
theorem q750 : Cond.selects RX0 yX0_below yX0_below ∈ lw_tb := tb3 (List.mem_of_getElem? (i := 200) rfl) rfl
set_option maxRecDepth 100000 in
theorem q751 : Cond.code yX0_below cX0_below 1 (some .long) ∈ lw_tb := tb3 (List.mem_of_getElem? (i := 201) rfl) rfl
set_option maxRecDepth 100000 in
theorem q752 : Cond.methodLink RL 130 yX6_sheet ∈ lw_tb := tb3 (List.mem_of_getElem? (i := 202) rfl) rfl
set_option maxRecDepth 100000 in
theorem q753 : Cond.instanceMethod yX6_sheet ∈ lw_tb := tb3 (List.mem_of_getElem? (i := 203) rfl) rfl
set_option maxRecDepth 100000 in
theorem q754 : Cond.selects RX6 yX6_sheet yX6_sheet ∈ lw_tb := tb3 (List.mem_of_getElem? (i := 204) rfl) rfl
set_option maxRecDepth 100000 in
theorem q755 : Cond.code yX6_sheet cX6_sheet 4 (some .int) ∈ lw_tb := tb3 (List.mem_of_getElem? (i := 205) rfl) rfl
set_option maxRecDepth 100000 in
theorem q756 : Cond.methodLink RX6 252 yX4_lay ∈ lw_tb := tb3 (List.mem_of_getElem? (i := 206) rfl) rfl
set_option maxRecDepth 100000 in
theorem q757 : Cond.instanceMethod yX4_lay ∈ lw_tb := tb3 (List.mem_of_getElem? (i := 207) rfl) rfl
set_option maxRecDepth 100000 in
theorem q758 : Cond.selects RX4 yX4_lay yX4_lay ∈ lw_tb := tb3 (List.mem_of_getElem? (i := 208) rfl) rfl
set_option maxRecDepth 100000 in
theorem q759 : Cond.code yX4_lay cX4_lay 5 none ∈ lw_tb := tb3 (List.mem_of_getElem? (i := 209) rfl) rfl
set_option maxRecDepth 100000 in
theorem q760 : Cond.methodLink RL 134 yX6_lose ∈ lw_tb := tb3 (List.mem_of_getElem? (i := 210) rfl) rfl
set_option maxRecDepth 100000 in
theorem q761 : Cond.instanceMethod yX6_lose ∈ lw_tb := tb3 (List.mem_of_getElem? (i := 211) rfl) rfl
set_option maxRecDepth 100000 in
theorem q762 : Cond.selects RX6 yX6_lose yX6_lose ∈ lw_tb := tb3 (List.mem_of_getElem? (i := 212) rfl) rfl
set_option maxRecDepth 100000 in
theorem q763 : Cond.code yX6_lose cX6_lose 3 (some .int) ∈ lw_tb := tb3 (List.mem_of_getElem? (i := 213) rfl) rfl
set_option maxRecDepth 100000 in
theorem q764 : Cond.methodLink RX6 255 yX4_drop ∈ lw_tb := tb3 (List.mem_of_getElem? (i := 214) rfl) rfl
set_option maxRecDepth 100000 in
theorem q765 : Cond.instanceMethod yX4_drop ∈ lw_tb := tb3 (List.mem_of_getElem? (i := 215) rfl) rfl
set_option maxRecDepth 100000 in
theorem q766 : Cond.selects RX4 yX4_drop yX4_drop ∈ lw_tb := tb3 (List.mem_of_getElem? (i := 216) rfl) rfl
set_option maxRecDepth 100000 in
theorem q767 : Cond.code yX4_drop cX4_drop 2 none ∈ lw_tb := tb3 (List.mem_of_getElem? (i := 217) rfl) rfl
set_option maxRecDepth 100000 in
theorem q768 : Cond.methodLink RL 138 yX6_put ∈ lw_tb := tb3 (List.mem_of_getElem? (i := 218) rfl) rfl
set_option maxRecDepth 100000 in
theorem q769 : Cond.instanceMethod yX6_put ∈ lw_tb := tb3 (List.mem_of_getElem? (i := 219) rfl) rfl
set_option maxRecDepth 100000 in
theorem q770 : Cond.selects RX6 yX6_put yX6_put ∈ lw_tb := tb3 (List.mem_of_getElem? (i := 220) rfl) rfl
set_option maxRecDepth 100000 in
theorem q771 : Cond.code yX6_put cX6_put 6 (some .int) ∈ lw_tb := tb3 (List.mem_of_getElem? (i := 221) rfl) rfl
set_option maxRecDepth 100000 in
theorem q772 : Cond.methodLink RX6 258 yX6_refuseItem ∈ lw_tb := tb3 (List.mem_of_getElem? (i := 222) rfl) rfl
set_option maxRecDepth 100000 in
theorem q774 : Cond.instanceMethod yX6_refuseItem ∈ lw_tb := tb3 (List.mem_of_getElem? (i := 224) rfl) rfl
set_option maxRecDepth 100000 in
theorem q775 : Cond.code yX6_refuseItem cX6_refuseItem 4 (some .int) ∈ lw_tb := tb3 (List.mem_of_getElem? (i := 225) rfl) rfl
set_option maxRecDepth 100000 in
theorem q776 : Cond.methodLink RX6 265 yX4_formOf ∈ lw_tb := tb3 (List.mem_of_getElem? (i := 226) rfl) rfl
set_option maxRecDepth 100000 in
theorem q777 : Cond.instanceMethod yX4_formOf ∈ lw_tb := tb3 (List.mem_of_getElem? (i := 227) rfl) rfl
set_option maxRecDepth 100000 in
theorem q778 : Cond.selects RX4 yX4_formOf yX4_formOf ∈ lw_tb := tb3 (List.mem_of_getElem? (i := 228) rfl) rfl
set_option maxRecDepth 100000 in
theorem q779 : Cond.code yX4_formOf cX4_formOf 2 (some .int) ∈ lw_tb := tb3 (List.mem_of_getElem? (i := 229) rfl) rfl
set_option maxRecDepth 100000 in
theorem q780 : Cond.methodLink RX6 261 yX4_store ∈ lw_tb := tb3 (List.mem_of_getElem? (i := 230) rfl) rfl
set_option maxRecDepth 100000 in
theorem q781 : Cond.instanceMethod yX4_store ∈ lw_tb := tb3 (List.mem_of_getElem? (i := 231) rfl) rfl
set_option maxRecDepth 100000 in
theorem q782 : Cond.selects RX4 yX4_store yX4_store ∈ lw_tb := tb3 (List.mem_of_getElem? (i := 232) rfl) rfl
set_option maxRecDepth 100000 in
theorem q783 : Cond.code yX4_store cX4_store 4 none ∈ lw_tb := tb3 (List.mem_of_getElem? (i := 233) rfl) rfl
set_option maxRecDepth 100000 in
theorem q784 : Cond.methodLink RX4 21 yX4_narrow ∈ lw_tb := tb3 (List.mem_of_getElem? (i := 234) rfl) rfl
set_option maxRecDepth 100000 in
theorem q785 : Cond.static yX4_narrow ∈ lw_tb := tb3 (List.mem_of_getElem? (i := 235) rfl) rfl
set_option maxRecDepth 100000 in
theorem q786 : Cond.code yX4_narrow cX4_narrow 2 (some .int) ∈ lw_tb := tb3 (List.mem_of_getElem? (i := 236) rfl) rfl
set_option maxRecDepth 100000 in
theorem q787 : Cond.methodLink RL 143 yX6_get ∈ lw_tb := tb3 (List.mem_of_getElem? (i := 237) rfl) rfl
set_option maxRecDepth 100000 in
theorem q788 : Cond.instanceMethod yX6_get ∈ lw_tb := tb3 (List.mem_of_getElem? (i := 238) rfl) rfl
set_option maxRecDepth 100000 in
theorem q789 : Cond.selects RX6 yX6_get yX6_get ∈ lw_tb := tb3 (List.mem_of_getElem? (i := 239) rfl) rfl
set_option maxRecDepth 100000 in
theorem q790 : Cond.code yX6_get cX6_get 4 (some .int) ∈ lw_tb := tb4 (List.mem_of_getElem? (i := 0) rfl) rfl
set_option maxRecDepth 100000 in
theorem q791 : Cond.constant RX6 264 (-2147483648) ∈ lw_tb := tb4 (List.mem_of_getElem? (i := 1) rfl) rfl
set_option maxRecDepth 100000 in
theorem q792 : Cond.methodLink RL 147 yX6_copy ∈ lw_tb := tb4 (List.mem_of_getElem? (i := 2) rfl) rfl
set_option maxRecDepth 100000 in
theorem q793 : Cond.instanceMethod yX6_copy ∈ lw_tb := tb4 (List.mem_of_getElem? (i := 3) rfl) rfl
set_option maxRecDepth 100000 in
theorem q794 : Cond.selects RX6 yX6_copy yX6_copy ∈ lw_tb := tb4 (List.mem_of_getElem? (i := 4) rfl) rfl
set_option maxRecDepth 100000 in
theorem q795 : Cond.code yX6_copy cX6_copy 6 (some .int) ∈ lw_tb := tb4 (List.mem_of_getElem? (i := 5) rfl) rfl
set_option maxRecDepth 100000 in
theorem q796 : Cond.methodLink RX6 268 yX4_holds ∈ lw_tb := tb4 (List.mem_of_getElem? (i := 6) rfl) rfl
set_option maxRecDepth 100000 in
theorem q797 : Cond.instanceMethod yX4_holds ∈ lw_tb := tb4 (List.mem_of_getElem? (i := 7) rfl) rfl
set_option maxRecDepth 100000 in
theorem q798 : Cond.selects RX4 yX4_holds yX4_holds ∈ lw_tb := tb4 (List.mem_of_getElem? (i := 8) rfl) rfl
set_option maxRecDepth 100000 in
theorem q799 : Cond.code yX4_holds cX4_holds 4 (some .boolean) ∈ lw_tb := tb4 (List.mem_of_getElem? (i := 9) rfl) rfl
set_option maxRecDepth 100000 in
theorem q800 : Cond.methodLink RX6 272 yX4_carry ∈ lw_tb := tb4 (List.mem_of_getElem? (i := 10) rfl) rfl
set_option maxRecDepth 100000 in
theorem q801 : Cond.instanceMethod yX4_carry ∈ lw_tb := tb4 (List.mem_of_getElem? (i := 11) rfl) rfl
set_option maxRecDepth 100000 in
theorem q802 : Cond.selects RX4 yX4_carry yX4_carry ∈ lw_tb := tb4 (List.mem_of_getElem? (i := 12) rfl) rfl
set_option maxRecDepth 100000 in
theorem q803 : Cond.code yX4_carry cX4_carry 6 none ∈ lw_tb := tb4 (List.mem_of_getElem? (i := 13) rfl) rfl
set_option maxRecDepth 100000 in
theorem q804 : Cond.methodLink RX4 25 (⟨"java/lang/System", "arraycopy", "(Ljava/lang/Object;ILjava/lang/Object;II)V"⟩ : MethodName) ∈ lw_tb := tb4 (List.mem_of_getElem? (i := 14) rfl) rfl
set_option maxRecDepth 100000 in
theorem q805 : Cond.static (⟨"java/lang/System", "arraycopy", "(Ljava/lang/Object;ILjava/lang/Object;II)V"⟩ : MethodName) ∈ lw_tb := tb4 (List.mem_of_getElem? (i := 15) rfl) rfl
set_option maxRecDepth 100000 in
theorem q806 : Cond.native (⟨"java/lang/System", "arraycopy", "(Ljava/lang/Object;ILjava/lang/Object;II)V"⟩ : MethodName) ∈ lw_tb := tb4 (List.mem_of_getElem? (i := 16) rfl) rfl
set_option maxRecDepth 100000 in
theorem q807 : Cond.methodLink RL 152 yX6_write ∈ lw_tb := tb4 (List.mem_of_getElem? (i := 17) rfl) rfl
set_option maxRecDepth 100000 in
theorem q808 : Cond.instanceMethod yX6_write ∈ lw_tb := tb4 (List.mem_of_getElem? (i := 18) rfl) rfl
set_option maxRecDepth 100000 in
theorem q809 : Cond.selects RX6 yX6_write yX6_write ∈ lw_tb := tb4 (List.mem_of_getElem? (i := 19) rfl) rfl
set_option maxRecDepth 100000 in
theorem q810 : Cond.code yX6_write cX6_write 5 (some .int) ∈ lw_tb := tb4 (List.mem_of_getElem? (i := 20) rfl) rfl
set_option maxRecDepth 100000 in
theorem q811 : Cond.methodLink RL 156 yX6_count ∈ lw_tb := tb4 (List.mem_of_getElem? (i := 21) rfl) rfl
set_option maxRecDepth 100000 in
theorem q812 : Cond.instanceMethod yX6_count ∈ lw_tb := tb4 (List.mem_of_getElem? (i := 22) rfl) rfl
set_option maxRecDepth 100000 in
theorem q813 : Cond.selects RX6 yX6_count yX6_count ∈ lw_tb := tb4 (List.mem_of_getElem? (i := 23) rfl) rfl
set_option maxRecDepth 100000 in
theorem q814 : Cond.code yX6_count cX6_count 2 (some .int) ∈ lw_tb := tb4 (List.mem_of_getElem? (i := 24) rfl) rfl
set_option maxRecDepth 100000 in
theorem q815 : Cond.methodLink RX6 276 yX1_rows ∈ lw_tb := tb4 (List.mem_of_getElem? (i := 25) rfl) rfl
set_option maxRecDepth 100000 in
theorem q816 : Cond.instanceMethod yX1_rows ∈ lw_tb := tb4 (List.mem_of_getElem? (i := 26) rfl) rfl
set_option maxRecDepth 100000 in
theorem q817 : Cond.selects RX1 yX1_rows yX1_rows ∈ lw_tb := tb4 (List.mem_of_getElem? (i := 27) rfl) rfl
set_option maxRecDepth 100000 in
theorem q818 : Cond.code yX1_rows cX1_rows 1 (some .int) ∈ lw_tb := tb4 (List.mem_of_getElem? (i := 28) rfl) rfl
set_option maxRecDepth 100000 in
theorem q819 : Cond.methodLink RX6 279 yX6_countStanding ∈ lw_tb := tb4 (List.mem_of_getElem? (i := 29) rfl) rfl
set_option maxRecDepth 100000 in
theorem q821 : Cond.instanceMethod yX6_countStanding ∈ lw_tb := tb4 (List.mem_of_getElem? (i := 31) rfl) rfl
set_option maxRecDepth 100000 in
theorem q822 : Cond.code yX6_countStanding cX6_countStanding 3 (some .int) ∈ lw_tb := tb4 (List.mem_of_getElem? (i := 32) rfl) rfl
set_option maxRecDepth 100000 in
theorem q823 : Cond.methodLink RX6 282 yX6_countOwners ∈ lw_tb := tb4 (List.mem_of_getElem? (i := 33) rfl) rfl
set_option maxRecDepth 100000 in
theorem q825 : Cond.instanceMethod yX6_countOwners ∈ lw_tb := tb4 (List.mem_of_getElem? (i := 35) rfl) rfl
set_option maxRecDepth 100000 in
theorem q826 : Cond.code yX6_countOwners cX6_countOwners 3 (some .int) ∈ lw_tb := tb4 (List.mem_of_getElem? (i := 36) rfl) rfl
set_option maxRecDepth 100000 in
theorem q827 : Cond.methodLink RX6 285 yX5_allYears ∈ lw_tb := tb4 (List.mem_of_getElem? (i := 37) rfl) rfl
set_option maxRecDepth 100000 in
theorem q828 : Cond.instanceMethod yX5_allYears ∈ lw_tb := tb4 (List.mem_of_getElem? (i := 38) rfl) rfl
set_option maxRecDepth 100000 in
theorem q829 : Cond.selects RX5 yX5_allYears yX5_allYears ∈ lw_tb := tb4 (List.mem_of_getElem? (i := 39) rfl) rfl
set_option maxRecDepth 100000 in
theorem q830 : Cond.code yX5_allYears cX5_allYears 3 (some .int) ∈ lw_tb := tb4 (List.mem_of_getElem? (i := 40) rfl) rfl
set_option maxRecDepth 100000 in
theorem q831 : Cond.methodLink RX6 288 yX5_allDays ∈ lw_tb := tb4 (List.mem_of_getElem? (i := 41) rfl) rfl
set_option maxRecDepth 100000 in
theorem q832 : Cond.instanceMethod yX5_allDays ∈ lw_tb := tb4 (List.mem_of_getElem? (i := 42) rfl) rfl
set_option maxRecDepth 100000 in
theorem q833 : Cond.selects RX5 yX5_allDays yX5_allDays ∈ lw_tb := tb4 (List.mem_of_getElem? (i := 43) rfl) rfl
set_option maxRecDepth 100000 in
theorem q834 : Cond.code yX5_allDays cX5_allDays 3 (some .int) ∈ lw_tb := tb4 (List.mem_of_getElem? (i := 44) rfl) rfl
set_option maxRecDepth 100000 in
theorem q835 : Cond.methodLink RL 160 yX6_digest ∈ lw_tb := tb4 (List.mem_of_getElem? (i := 45) rfl) rfl
set_option maxRecDepth 100000 in
theorem q836 : Cond.instanceMethod yX6_digest ∈ lw_tb := tb4 (List.mem_of_getElem? (i := 46) rfl) rfl
set_option maxRecDepth 100000 in
theorem q837 : Cond.selects RX6 yX6_digest yX6_digest ∈ lw_tb := tb4 (List.mem_of_getElem? (i := 47) rfl) rfl
set_option maxRecDepth 100000 in
theorem q838 : Cond.code yX6_digest cX6_digest 4 (some .long) ∈ lw_tb := tb4 (List.mem_of_getElem? (i := 48) rfl) rfl
set_option maxRecDepth 100000 in
theorem q839 : Cond.constantLong RX6 294 (17) ∈ lw_tb := tb4 (List.mem_of_getElem? (i := 49) rfl) rfl
set_option maxRecDepth 100000 in
theorem q840 : Cond.methodLink RX6 296 yX6_count ∈ lw_tb := tb4 (List.mem_of_getElem? (i := 50) rfl) rfl
set_option maxRecDepth 100000 in
theorem q841 : Cond.methodLink RX6 299 yX6_mix ∈ lw_tb := tb4 (List.mem_of_getElem? (i := 51) rfl) rfl
set_option maxRecDepth 100000 in
theorem q842 : Cond.static yX6_mix ∈ lw_tb := tb4 (List.mem_of_getElem? (i := 52) rfl) rfl
set_option maxRecDepth 100000 in
theorem q843 : Cond.code yX6_mix cX6_mix 4 (some .long) ∈ lw_tb := tb4 (List.mem_of_getElem? (i := 53) rfl) rfl
set_option maxRecDepth 100000 in
theorem q844 : Cond.constantLong RX6 331 (31) ∈ lw_tb := tb4 (List.mem_of_getElem? (i := 54) rfl) rfl
set_option maxRecDepth 100000 in
theorem q845 : Cond.methodLink RX6 303 yX6_fault ∈ lw_tb := tb4 (List.mem_of_getElem? (i := 55) rfl) rfl
set_option maxRecDepth 100000 in
theorem q846 : Cond.methodLink RX6 306 yX6_mixCell ∈ lw_tb := tb4 (List.mem_of_getElem? (i := 56) rfl) rfl
set_option maxRecDepth 100000 in
theorem q848 : Cond.instanceMethod yX6_mixCell ∈ lw_tb := tb4 (List.mem_of_getElem? (i := 58) rfl) rfl
set_option maxRecDepth 100000 in
theorem q849 : Cond.code yX6_mixCell cX6_mixCell 7 (some .long) ∈ lw_tb := tb4 (List.mem_of_getElem? (i := 59) rfl) rfl
set_option maxRecDepth 100000 in
theorem q850 : Cond.methodLink RX6 333 yX6_cell ∈ lw_tb := tb4 (List.mem_of_getElem? (i := 60) rfl) rfl
set_option maxRecDepth 100000 in
theorem q851 : Cond.methodLink RX6 336 yX6_light ∈ lw_tb := tb4 (List.mem_of_getElem? (i := 61) rfl) rfl
set_option maxRecDepth 100000 in
theorem q852 : Cond.methodLink RX6 339 yX6_hours ∈ lw_tb := tb4 (List.mem_of_getElem? (i := 62) rfl) rfl
set_option maxRecDepth 100000 in
theorem q853 : Cond.methodLink RX6 342 yX6_shade ∈ lw_tb := tb4 (List.mem_of_getElem? (i := 63) rfl) rfl
set_option maxRecDepth 100000 in
theorem q854 : Cond.methodLink RX6 345 yX6_value ∈ lw_tb := tb4 (List.mem_of_getElem? (i := 64) rfl) rfl
set_option maxRecDepth 100000 in
theorem q855 : Cond.methodLink RX6 348 yX6_highest ∈ lw_tb := tb4 (List.mem_of_getElem? (i := 65) rfl) rfl
set_option maxRecDepth 100000 in
theorem q856 : Cond.methodLink RX6 325 yX6_set ∈ lw_tb := tb4 (List.mem_of_getElem? (i := 66) rfl) rfl
set_option maxRecDepth 100000 in
theorem q857 : Cond.methodLink RX6 310 yX6_mixChances ∈ lw_tb := tb4 (List.mem_of_getElem? (i := 67) rfl) rfl
set_option maxRecDepth 100000 in
theorem q859 : Cond.instanceMethod yX6_mixChances ∈ lw_tb := tb4 (List.mem_of_getElem? (i := 69) rfl) rfl
set_option maxRecDepth 100000 in
theorem q860 : Cond.code yX6_mixChances cX6_mixChances 6 (some .long) ∈ lw_tb := tb4 (List.mem_of_getElem? (i := 70) rfl) rfl
set_option maxRecDepth 100000 in
theorem q861 : Cond.methodLink RX6 351 yX6_clear ∈ lw_tb := tb4 (List.mem_of_getElem? (i := 71) rfl) rfl
set_option maxRecDepth 100000 in
theorem q862 : Cond.methodLink RX6 313 yX6_has ∈ lw_tb := tb4 (List.mem_of_getElem? (i := 72) rfl) rfl
set_option maxRecDepth 100000 in
theorem q863 : Cond.methodLink RX6 316 yX6_parts ∈ lw_tb := tb4 (List.mem_of_getElem? (i := 73) rfl) rfl
set_option maxRecDepth 100000 in
theorem q864 : Cond.methodLink RX6 319 yX6_again ∈ lw_tb := tb4 (List.mem_of_getElem? (i := 74) rfl) rfl
set_option maxRecDepth 100000 in
theorem q865 : Cond.methodLink RX6 322 yX6_changes ∈ lw_tb := tb4 (List.mem_of_getElem? (i := 75) rfl) rfl
set_option maxRecDepth 100000 in
theorem q866 : Cond.methodLink RX6 328 yX6_whose ∈ lw_tb := tb4 (List.mem_of_getElem? (i := 76) rfl) rfl
set_option maxRecDepth 100000 in
theorem q867 : Cond.classLink RL 10 RX7 ∈ lw_tb := tb4 (List.mem_of_getElem? (i := 77) rfl) rfl
set_option maxRecDepth 100000 in
theorem q868 : Cond.instantiable RX7 27 ∈ lw_tb := tb4 (List.mem_of_getElem? (i := 78) rfl) rfl
set_option maxRecDepth 100000 in
theorem q869 : Cond.methodLink RL 12 yX7_init ∈ lw_tb := tb4 (List.mem_of_getElem? (i := 79) rfl) rfl
set_option maxRecDepth 100000 in
theorem q870 : Cond.instanceMethod yX7_init ∈ lw_tb := tb4 (List.mem_of_getElem? (i := 80) rfl) rfl
set_option maxRecDepth 100000 in
theorem q871 : Cond.code yX7_init cX7_init 2 none ∈ lw_tb := tb4 (List.mem_of_getElem? (i := 81) rfl) rfl
set_option maxRecDepth 100000 in
theorem q872 : Cond.methodLink RX7 1 (⟨"java/lang/Object", "<init>", "()V"⟩ : MethodName) ∈ lw_tb := tb4 (List.mem_of_getElem? (i := 82) rfl) rfl
set_option maxRecDepth 100000 in
theorem q873 : Cond.fieldLink RX7 7 "HillHoursModel" "text" "[I" ∈ lw_tb := tb4 (List.mem_of_getElem? (i := 83) rfl) rfl
set_option maxRecDepth 100000 in
theorem q874 : Cond.fieldLink RX7 81 "HillHoursModel" "typed" "I" ∈ lw_tb := tb4 (List.mem_of_getElem? (i := 84) rfl) rfl
set_option maxRecDepth 100000 in
theorem q875 : Cond.fieldLink RX7 85 "HillHoursModel" "cells" "I" ∈ lw_tb := tb4 (List.mem_of_getElem? (i := 85) rfl) rfl
set_option maxRecDepth 100000 in
theorem q876 : Cond.fieldLink RX7 88 "HillHoursModel" "wide" "I" ∈ lw_tb := tb4 (List.mem_of_getElem? (i := 86) rfl) rfl
set_option maxRecDepth 100000 in
theorem q877 : Cond.fieldLink RX7 91 "HillHoursModel" "rowsMany" "I" ∈ lw_tb := tb4 (List.mem_of_getElem? (i := 87) rfl) rfl
set_option maxRecDepth 100000 in
theorem q878 : Cond.fieldLink RX7 13 "HillHoursModel" "heights" "[I" ∈ lw_tb := tb4 (List.mem_of_getElem? (i := 88) rfl) rfl
set_option maxRecDepth 100000 in
theorem q879 : Cond.fieldLink RX7 16 "HillHoursModel" "stands" "[I" ∈ lw_tb := tb4 (List.mem_of_getElem? (i := 89) rfl) rfl
set_option maxRecDepth 100000 in
theorem q880 : Cond.fieldLink RX7 19 "HillHoursModel" "owners" "[I" ∈ lw_tb := tb4 (List.mem_of_getElem? (i := 90) rfl) rfl
set_option maxRecDepth 100000 in
theorem q881 : Cond.fieldLink RX7 22 "HillHoursModel" "dayOf" "[I" ∈ lw_tb := tb4 (List.mem_of_getElem? (i := 91) rfl) rfl
set_option maxRecDepth 100000 in
theorem q882 : Cond.fieldLink RX7 25 "HillHoursModel" "cloudOf" "[I" ∈ lw_tb := tb4 (List.mem_of_getElem? (i := 92) rfl) rfl
set_option maxRecDepth 100000 in
theorem q883 : Cond.fieldLink RX7 28 "HillHoursModel" "worths" "[I" ∈ lw_tb := tb4 (List.mem_of_getElem? (i := 93) rfl) rfl
set_option maxRecDepth 100000 in
theorem q884 : Cond.fieldLink RX7 31 "HillHoursModel" "needs" "[I" ∈ lw_tb := tb4 (List.mem_of_getElem? (i := 94) rfl) rfl
set_option maxRecDepth 100000 in
theorem q885 : Cond.fieldLink RX7 34 "HillHoursModel" "pays" "[I" ∈ lw_tb := tb4 (List.mem_of_getElem? (i := 95) rfl) rfl
set_option maxRecDepth 100000 in
theorem q886 : Cond.fieldLink RX7 37 "HillHoursModel" "years" "[I" ∈ lw_tb := tb4 (List.mem_of_getElem? (i := 96) rfl) rfl
set_option maxRecDepth 100000 in
theorem q887 : Cond.fieldLink RX7 40 "HillHoursModel" "rathers" "[I" ∈ lw_tb := tb4 (List.mem_of_getElem? (i := 97) rfl) rfl
set_option maxRecDepth 100000 in
theorem q888 : Cond.fieldLink RX7 43 "HillHoursModel" "most" "[I" ∈ lw_tb := tb4 (List.mem_of_getElem? (i := 98) rfl) rfl
set_option maxRecDepth 100000 in
theorem q889 : Cond.fieldLink RX7 46 "HillHoursModel" "chosen" "[I" ∈ lw_tb := tb4 (List.mem_of_getElem? (i := 99) rfl) rfl
set_option maxRecDepth 100000 in
theorem q890 : Cond.fieldLink RX7 201 "HillHoursModel" "sights" "I" ∈ lw_tb := tb4 (List.mem_of_getElem? (i := 100) rfl) rfl
set_option maxRecDepth 100000 in
theorem q891 : Cond.fieldLink RX7 49 "HillHoursModel" "seenSeason" "[I" ∈ lw_tb := tb4 (List.mem_of_getElem? (i := 101) rfl) rfl
set_option maxRecDepth 100000 in
theorem q892 : Cond.fieldLink RX7 52 "HillHoursModel" "seenHour" "[I" ∈ lw_tb := tb4 (List.mem_of_getElem? (i := 102) rfl) rfl
set_option maxRecDepth 100000 in
theorem q893 : Cond.fieldLink RX7 55 "HillHoursModel" "parts" "[J" ∈ lw_tb := tb4 (List.mem_of_getElem? (i := 103) rfl) rfl
set_option maxRecDepth 100000 in
theorem q894 : Cond.fieldLink RX7 59 "HillHoursModel" "isThere" "[Z" ∈ lw_tb := tb4 (List.mem_of_getElem? (i := 104) rfl) rfl
set_option maxRecDepth 100000 in
theorem q895 : Cond.fieldLink RX7 63 "HillHoursModel" "forms" "[I" ∈ lw_tb := tb4 (List.mem_of_getElem? (i := 105) rfl) rfl
set_option maxRecDepth 100000 in
theorem q896 : Cond.fieldLink RX7 66 "HillHoursModel" "sizes" "[I" ∈ lw_tb := tb4 (List.mem_of_getElem? (i := 106) rfl) rfl
set_option maxRecDepth 100000 in
theorem q897 : Cond.fieldLink RX7 69 "HillHoursModel" "items" "[I" ∈ lw_tb := tb4 (List.mem_of_getElem? (i := 107) rfl) rfl
set_option maxRecDepth 100000 in
theorem q898 : Cond.fieldLink RX7 72 "HillHoursModel" "moved" "[I" ∈ lw_tb := tb4 (List.mem_of_getElem? (i := 108) rfl) rfl
set_option maxRecDepth 100000 in
theorem q899 : Cond.fieldLink RX7 221 "HillHoursModel" "finding" "I" ∈ lw_tb := tb4 (List.mem_of_getElem? (i := 109) rfl) rfl
set_option maxRecDepth 100000 in
theorem q955 : Cond.arrayClass .boolean ∈ lw_tb := tb4 (List.mem_of_getElem? (i := 165) rfl) rfl
set_option maxRecDepth 100000 in
theorem q956 : Cond.methodLink RL 17 yX7_type ∈ lw_tb := tb4 (List.mem_of_getElem? (i := 166) rfl) rfl
set_option maxRecDepth 100000 in
theorem q957 : Cond.instanceMethod yX7_type ∈ lw_tb := tb4 (List.mem_of_getElem? (i := 167) rfl) rfl
set_option maxRecDepth 100000 in
theorem q958 : Cond.selects RX7 yX7_type yX7_type ∈ lw_tb := tb4 (List.mem_of_getElem? (i := 168) rfl) rfl
set_option maxRecDepth 100000 in
theorem q959 : Cond.code yX7_type cX7_type 2 (some .int) ∈ lw_tb := tb4 (List.mem_of_getElem? (i := 169) rfl) rfl
set_option maxRecDepth 100000 in
theorem q960 : Cond.methodLink RX7 77 yX7_in ∈ lw_tb := tb4 (List.mem_of_getElem? (i := 170) rfl) rfl
set_option maxRecDepth 100000 in
theorem q961 : Cond.static yX7_in ∈ lw_tb := tb4 (List.mem_of_getElem? (i := 171) rfl) rfl
set_option maxRecDepth 100000 in
theorem q962 : Cond.code yX7_in cX7_in 3 (some .boolean) ∈ lw_tb := tb4 (List.mem_of_getElem? (i := 172) rfl) rfl
set_option maxRecDepth 100000 in
theorem q963 : Cond.methodLink RL 22 yX7_wipe ∈ lw_tb := tb4 (List.mem_of_getElem? (i := 173) rfl) rfl
set_option maxRecDepth 100000 in
theorem q964 : Cond.instanceMethod yX7_wipe ∈ lw_tb := tb4 (List.mem_of_getElem? (i := 174) rfl) rfl
set_option maxRecDepth 100000 in
theorem q965 : Cond.selects RX7 yX7_wipe yX7_wipe ∈ lw_tb := tb4 (List.mem_of_getElem? (i := 175) rfl) rfl
set_option maxRecDepth 100000 in
theorem q966 : Cond.code yX7_wipe cX7_wipe 2 (some .int) ∈ lw_tb := tb4 (List.mem_of_getElem? (i := 176) rfl) rfl
set_option maxRecDepth 100000 in
theorem q967 : Cond.methodLink RL 26 yX7_fault ∈ lw_tb := tb4 (List.mem_of_getElem? (i := 177) rfl) rfl
set_option maxRecDepth 100000 in
theorem q968 : Cond.instanceMethod yX7_fault ∈ lw_tb := tb4 (List.mem_of_getElem? (i := 178) rfl) rfl
set_option maxRecDepth 100000 in
theorem q969 : Cond.selects RX7 yX7_fault yX7_fault ∈ lw_tb := tb4 (List.mem_of_getElem? (i := 179) rfl) rfl
set_option maxRecDepth 100000 in
theorem q970 : Cond.code yX7_fault cX7_fault 1 (some .int) ∈ lw_tb := tb4 (List.mem_of_getElem? (i := 180) rfl) rfl
set_option maxRecDepth 100000 in
theorem q971 : Cond.methodLink RX7 98 yX7_faultNow ∈ lw_tb := tb4 (List.mem_of_getElem? (i := 181) rfl) rfl
set_option maxRecDepth 100000 in
theorem q973 : Cond.instanceMethod yX7_faultNow ∈ lw_tb := tb4 (List.mem_of_getElem? (i := 183) rfl) rfl
set_option maxRecDepth 100000 in
theorem q974 : Cond.code yX7_faultNow cX7_faultNow 6 (some .int) ∈ lw_tb := tb4 (List.mem_of_getElem? (i := 184) rfl) rfl
set_option maxRecDepth 100000 in
theorem q975 : Cond.methodLink RX7 94 yX7_figureAt ∈ lw_tb := tb4 (List.mem_of_getElem? (i := 185) rfl) rfl
set_option maxRecDepth 100000 in
theorem q977 : Cond.instanceMethod yX7_figureAt ∈ lw_tb := tb4 (List.mem_of_getElem? (i := 187) rfl) rfl
set_option maxRecDepth 100000 in
theorem q978 : Cond.code yX7_figureAt cX7_figureAt 3 (some .int) ∈ lw_tb := tb4 (List.mem_of_getElem? (i := 188) rfl) rfl
set_option maxRecDepth 100000 in
theorem q979 : Cond.methodLink RL 31 yX7_cell ∈ lw_tb := tb4 (List.mem_of_getElem? (i := 189) rfl) rfl
set_option maxRecDepth 100000 in
theorem q980 : Cond.instanceMethod yX7_cell ∈ lw_tb := tb4 (List.mem_of_getElem? (i := 190) rfl) rfl
set_option maxRecDepth 100000 in
theorem q981 : Cond.selects RX7 yX7_cell yX7_cell ∈ lw_tb := tb4 (List.mem_of_getElem? (i := 191) rfl) rfl
set_option maxRecDepth 100000 in
theorem q982 : Cond.code yX7_cell cX7_cell 3 (some .int) ∈ lw_tb := tb4 (List.mem_of_getElem? (i := 192) rfl) rfl
set_option maxRecDepth 100000 in
theorem q983 : Cond.methodLink RX7 102 yX7_isCell ∈ lw_tb := tb4 (List.mem_of_getElem? (i := 193) rfl) rfl
set_option maxRecDepth 100000 in
theorem q985 : Cond.instanceMethod yX7_isCell ∈ lw_tb := tb4 (List.mem_of_getElem? (i := 195) rfl) rfl
set_option maxRecDepth 100000 in
theorem q986 : Cond.code yX7_isCell cX7_isCell 3 (some .boolean) ∈ lw_tb := tb4 (List.mem_of_getElem? (i := 196) rfl) rfl
set_option maxRecDepth 100000 in
theorem q987 : Cond.methodLink RX7 106 yX7_cellOf ∈ lw_tb := tb4 (List.mem_of_getElem? (i := 197) rfl) rfl
set_option maxRecDepth 100000 in
theorem q989 : Cond.instanceMethod yX7_cellOf ∈ lw_tb := tb4 (List.mem_of_getElem? (i := 199) rfl) rfl
set_option maxRecDepth 100000 in
theorem q990 : Cond.code yX7_cellOf cX7_cellOf 3 (some .int) ∈ lw_tb := tb4 (List.mem_of_getElem? (i := 200) rfl) rfl
set_option maxRecDepth 100000 in
theorem q991 : Cond.methodLink RL 35 yX7_stand ∈ lw_tb := tb4 (List.mem_of_getElem? (i := 201) rfl) rfl
set_option maxRecDepth 100000 in
theorem q992 : Cond.instanceMethod yX7_stand ∈ lw_tb := tb4 (List.mem_of_getElem? (i := 202) rfl) rfl
set_option maxRecDepth 100000 in
theorem q993 : Cond.selects RX7 yX7_stand yX7_stand ∈ lw_tb := tb4 (List.mem_of_getElem? (i := 203) rfl) rfl
set_option maxRecDepth 100000 in
theorem q994 : Cond.code yX7_stand cX7_stand 4 (some .int) ∈ lw_tb := tb4 (List.mem_of_getElem? (i := 204) rfl) rfl
set_option maxRecDepth 100000 in
theorem q995 : Cond.methodLink RX7 110 yX7_isTwelve ∈ lw_tb := tb4 (List.mem_of_getElem? (i := 205) rfl) rfl
set_option maxRecDepth 100000 in
theorem q996 : Cond.static yX7_isTwelve ∈ lw_tb := tb4 (List.mem_of_getElem? (i := 206) rfl) rfl
set_option maxRecDepth 100000 in
theorem q997 : Cond.code yX7_isTwelve cX7_isTwelve 1 (some .boolean) ∈ lw_tb := tb4 (List.mem_of_getElem? (i := 207) rfl) rfl
set_option maxRecDepth 100000 in
theorem q998 : Cond.methodLink RL 39 yX7_owner ∈ lw_tb := tb4 (List.mem_of_getElem? (i := 208) rfl) rfl
set_option maxRecDepth 100000 in
theorem q999 : Cond.instanceMethod yX7_owner ∈ lw_tb := tb4 (List.mem_of_getElem? (i := 209) rfl) rfl
set_option maxRecDepth 100000 in
theorem q1000 : Cond.selects RX7 yX7_owner yX7_owner ∈ lw_tb := tb4 (List.mem_of_getElem? (i := 210) rfl) rfl
set_option maxRecDepth 100000 in
theorem q1001 : Cond.code yX7_owner cX7_owner 4 (some .int) ∈ lw_tb := tb4 (List.mem_of_getElem? (i := 211) rfl) rfl
set_option maxRecDepth 100000 in
theorem q1002 : Cond.methodLink RX7 113 yX7_isFour ∈ lw_tb := tb4 (List.mem_of_getElem? (i := 212) rfl) rfl
set_option maxRecDepth 100000 in
theorem q1003 : Cond.static yX7_isFour ∈ lw_tb := tb4 (List.mem_of_getElem? (i := 213) rfl) rfl
set_option maxRecDepth 100000 in
theorem q1004 : Cond.code yX7_isFour cX7_isFour 1 (some .boolean) ∈ lw_tb := tb4 (List.mem_of_getElem? (i := 214) rfl) rfl
set_option maxRecDepth 100000 in
theorem q1005 : Cond.methodLink RL 43 yX7_read ∈ lw_tb := tb4 (List.mem_of_getElem? (i := 215) rfl) rfl
set_option maxRecDepth 100000 in
theorem q1006 : Cond.instanceMethod yX7_read ∈ lw_tb := tb4 (List.mem_of_getElem? (i := 216) rfl) rfl
set_option maxRecDepth 100000 in
theorem q1007 : Cond.selects RX7 yX7_read yX7_read ∈ lw_tb := tb4 (List.mem_of_getElem? (i := 217) rfl) rfl
set_option maxRecDepth 100000 in
theorem q1008 : Cond.code yX7_read cX7_read 3 (some .int) ∈ lw_tb := tb4 (List.mem_of_getElem? (i := 218) rfl) rfl
set_option maxRecDepth 100000 in
theorem q1009 : Cond.methodLink RX7 116 yX7_isSheet ∈ lw_tb := tb4 (List.mem_of_getElem? (i := 219) rfl) rfl
set_option maxRecDepth 100000 in
theorem q1010 : Cond.static yX7_isSheet ∈ lw_tb := tb4 (List.mem_of_getElem? (i := 220) rfl) rfl
set_option maxRecDepth 100000 in
theorem q1011 : Cond.code yX7_isSheet cX7_isSheet 1 (some .boolean) ∈ lw_tb := tb4 (List.mem_of_getElem? (i := 221) rfl) rfl
set_option maxRecDepth 100000 in
theorem q1012 : Cond.methodLink RX7 119 yX7_meets ∈ lw_tb := tb4 (List.mem_of_getElem? (i := 222) rfl) rfl
set_option maxRecDepth 100000 in
theorem q1014 : Cond.instanceMethod yX7_meets ∈ lw_tb := tb4 (List.mem_of_getElem? (i := 224) rfl) rfl
set_option maxRecDepth 100000 in
theorem q1015 : Cond.code yX7_meets cX7_meets 2 (some .int) ∈ lw_tb := tb4 (List.mem_of_getElem? (i := 225) rfl) rfl
set_option maxRecDepth 100000 in
theorem q1016 : Cond.methodLink RL 47 yX7_days ∈ lw_tb := tb4 (List.mem_of_getElem? (i := 226) rfl) rfl
set_option maxRecDepth 100000 in
theorem q1017 : Cond.instanceMethod yX7_days ∈ lw_tb := tb4 (List.mem_of_getElem? (i := 227) rfl) rfl
set_option maxRecDepth 100000 in
theorem q1018 : Cond.selects RX7 yX7_days yX7_days ∈ lw_tb := tb4 (List.mem_of_getElem? (i := 228) rfl) rfl
set_option maxRecDepth 100000 in
theorem q1019 : Cond.code yX7_days cX7_days 4 (some .int) ∈ lw_tb := tb4 (List.mem_of_getElem? (i := 229) rfl) rfl
set_option maxRecDepth 100000 in
theorem q1020 : Cond.methodLink RL 51 yX7_steep ∈ lw_tb := tb4 (List.mem_of_getElem? (i := 230) rfl) rfl
set_option maxRecDepth 100000 in
theorem q1021 : Cond.instanceMethod yX7_steep ∈ lw_tb := tb4 (List.mem_of_getElem? (i := 231) rfl) rfl
set_option maxRecDepth 100000 in
theorem q1022 : Cond.selects RX7 yX7_steep yX7_steep ∈ lw_tb := tb4 (List.mem_of_getElem? (i := 232) rfl) rfl
set_option maxRecDepth 100000 in
theorem q1023 : Cond.code yX7_steep cX7_steep 3 (some .int) ∈ lw_tb := tb4 (List.mem_of_getElem? (i := 233) rfl) rfl
set_option maxRecDepth 100000 in
theorem q1024 : Cond.methodLink RX7 122 yX7_steepOf ∈ lw_tb := tb4 (List.mem_of_getElem? (i := 234) rfl) rfl
set_option maxRecDepth 100000 in
theorem q1025 : Cond.static yX7_steepOf ∈ lw_tb := tb4 (List.mem_of_getElem? (i := 235) rfl) rfl
set_option maxRecDepth 100000 in
theorem q1026 : Cond.code yX7_steepOf cX7_steepOf 2 (some .int) ∈ lw_tb := tb4 (List.mem_of_getElem? (i := 236) rfl) rfl
set_option maxRecDepth 100000 in
theorem q1027 : Cond.methodLink RL 56 yX7_shade ∈ lw_tb := tb4 (List.mem_of_getElem? (i := 237) rfl) rfl
set_option maxRecDepth 100000 in
theorem q1028 : Cond.instanceMethod yX7_shade ∈ lw_tb := tb4 (List.mem_of_getElem? (i := 238) rfl) rfl
set_option maxRecDepth 100000 in
theorem q1029 : Cond.selects RX7 yX7_shade yX7_shade ∈ lw_tb := tb4 (List.mem_of_getElem? (i := 239) rfl) rfl
set_option maxRecDepth 100000 in
theorem q1030 : Cond.code yX7_shade cX7_shade 4 (some .int) ∈ lw_tb := tb5 (List.mem_of_getElem? (i := 0) rfl) rfl
set_option maxRecDepth 100000 in
theorem q1031 : Cond.methodLink RX7 125 yX7_shadeOf ∈ lw_tb := tb5 (List.mem_of_getElem? (i := 1) rfl) rfl
set_option maxRecDepth 100000 in
theorem q1033 : Cond.instanceMethod yX7_shadeOf ∈ lw_tb := tb5 (List.mem_of_getElem? (i := 3) rfl) rfl
set_option maxRecDepth 100000 in
theorem q1034 : Cond.code yX7_shadeOf cX7_shadeOf 8 (some .int) ∈ lw_tb := tb5 (List.mem_of_getElem? (i := 4) rfl) rfl
set_option maxRecDepth 100000 in
theorem q1035 : Cond.methodLink RL 60 yX7_light ∈ lw_tb := tb5 (List.mem_of_getElem? (i := 5) rfl) rfl
set_option maxRecDepth 100000 in
theorem q1036 : Cond.instanceMethod yX7_light ∈ lw_tb := tb5 (List.mem_of_getElem? (i := 6) rfl) rfl
set_option maxRecDepth 100000 in
theorem q1037 : Cond.selects RX7 yX7_light yX7_light ∈ lw_tb := tb5 (List.mem_of_getElem? (i := 7) rfl) rfl
set_option maxRecDepth 100000 in
theorem q1038 : Cond.code yX7_light cX7_light 3 (some .int) ∈ lw_tb := tb5 (List.mem_of_getElem? (i := 8) rfl) rfl
set_option maxRecDepth 100000 in
theorem q1039 : Cond.methodLink RX7 129 yX7_lightOf ∈ lw_tb := tb5 (List.mem_of_getElem? (i := 9) rfl) rfl
set_option maxRecDepth 100000 in
theorem q1041 : Cond.instanceMethod yX7_lightOf ∈ lw_tb := tb5 (List.mem_of_getElem? (i := 11) rfl) rfl
set_option maxRecDepth 100000 in
theorem q1042 : Cond.code yX7_lightOf cX7_lightOf 5 (some .int) ∈ lw_tb := tb5 (List.mem_of_getElem? (i := 12) rfl) rfl
set_option maxRecDepth 100000 in
theorem q1043 : Cond.methodLink RL 64 yX7_hours ∈ lw_tb := tb5 (List.mem_of_getElem? (i := 13) rfl) rfl
set_option maxRecDepth 100000 in
theorem q1044 : Cond.instanceMethod yX7_hours ∈ lw_tb := tb5 (List.mem_of_getElem? (i := 14) rfl) rfl
set_option maxRecDepth 100000 in
theorem q1045 : Cond.selects RX7 yX7_hours yX7_hours ∈ lw_tb := tb5 (List.mem_of_getElem? (i := 15) rfl) rfl
set_option maxRecDepth 100000 in
theorem q1046 : Cond.code yX7_hours cX7_hours 3 (some .int) ∈ lw_tb := tb5 (List.mem_of_getElem? (i := 16) rfl) rfl
set_option maxRecDepth 100000 in
theorem q1047 : Cond.methodLink RX7 138 yX7_hoursOf ∈ lw_tb := tb5 (List.mem_of_getElem? (i := 17) rfl) rfl
set_option maxRecDepth 100000 in
theorem q1049 : Cond.instanceMethod yX7_hoursOf ∈ lw_tb := tb5 (List.mem_of_getElem? (i := 19) rfl) rfl
set_option maxRecDepth 100000 in
theorem q1050 : Cond.code yX7_hoursOf cX7_hoursOf 3 (some .int) ∈ lw_tb := tb5 (List.mem_of_getElem? (i := 20) rfl) rfl
set_option maxRecDepth 100000 in
theorem q1051 : Cond.methodLink RX7 135 yX7_yearOf ∈ lw_tb := tb5 (List.mem_of_getElem? (i := 21) rfl) rfl
set_option maxRecDepth 100000 in
theorem q1053 : Cond.instanceMethod yX7_yearOf ∈ lw_tb := tb5 (List.mem_of_getElem? (i := 23) rfl) rfl
set_option maxRecDepth 100000 in
theorem q1054 : Cond.code yX7_yearOf cX7_yearOf 4 (some .int) ∈ lw_tb := tb5 (List.mem_of_getElem? (i := 24) rfl) rfl
set_option maxRecDepth 100000 in
theorem q1055 : Cond.methodLink RX7 132 yX7_ones ∈ lw_tb := tb5 (List.mem_of_getElem? (i := 25) rfl) rfl
set_option maxRecDepth 100000 in
theorem q1056 : Cond.static yX7_ones ∈ lw_tb := tb5 (List.mem_of_getElem? (i := 26) rfl) rfl
set_option maxRecDepth 100000 in
theorem q1057 : Cond.code yX7_ones cX7_ones 3 (some .int) ∈ lw_tb := tb5 (List.mem_of_getElem? (i := 27) rfl) rfl
set_option maxRecDepth 100000 in
theorem q1058 : Cond.methodLink RL 68 yX7_has ∈ lw_tb := tb5 (List.mem_of_getElem? (i := 28) rfl) rfl
set_option maxRecDepth 100000 in
theorem q1059 : Cond.instanceMethod yX7_has ∈ lw_tb := tb5 (List.mem_of_getElem? (i := 29) rfl) rfl
set_option maxRecDepth 100000 in
theorem q1060 : Cond.selects RX7 yX7_has yX7_has ∈ lw_tb := tb5 (List.mem_of_getElem? (i := 30) rfl) rfl
set_option maxRecDepth 100000 in
theorem q1061 : Cond.code yX7_has cX7_has 3 (some .int) ∈ lw_tb := tb5 (List.mem_of_getElem? (i := 31) rfl) rfl
set_option maxRecDepth 100000 in
theorem q1062 : Cond.methodLink RX7 141 yX7_hasOf ∈ lw_tb := tb5 (List.mem_of_getElem? (i := 32) rfl) rfl
set_option maxRecDepth 100000 in
theorem q1064 : Cond.instanceMethod yX7_hasOf ∈ lw_tb := tb5 (List.mem_of_getElem? (i := 34) rfl) rfl
set_option maxRecDepth 100000 in
theorem q1065 : Cond.code yX7_hasOf cX7_hasOf 7 (some .int) ∈ lw_tb := tb5 (List.mem_of_getElem? (i := 35) rfl) rfl
set_option maxRecDepth 100000 in
theorem q1066 : Cond.methodLink RL 72 yX7_parts ∈ lw_tb := tb5 (List.mem_of_getElem? (i := 36) rfl) rfl
set_option maxRecDepth 100000 in
theorem q1067 : Cond.instanceMethod yX7_parts ∈ lw_tb := tb5 (List.mem_of_getElem? (i := 37) rfl) rfl
set_option maxRecDepth 100000 in
theorem q1068 : Cond.selects RX7 yX7_parts yX7_parts ∈ lw_tb := tb5 (List.mem_of_getElem? (i := 38) rfl) rfl
set_option maxRecDepth 100000 in
theorem q1069 : Cond.code yX7_parts cX7_parts 2 (some .int) ∈ lw_tb := tb5 (List.mem_of_getElem? (i := 39) rfl) rfl
set_option maxRecDepth 100000 in
theorem q1070 : Cond.methodLink RX7 169 yX7_partsOf ∈ lw_tb := tb5 (List.mem_of_getElem? (i := 40) rfl) rfl
set_option maxRecDepth 100000 in
theorem q1072 : Cond.instanceMethod yX7_partsOf ∈ lw_tb := tb5 (List.mem_of_getElem? (i := 42) rfl) rfl
set_option maxRecDepth 100000 in
theorem q1073 : Cond.code yX7_partsOf cX7_partsOf 3 (some .int) ∈ lw_tb := tb5 (List.mem_of_getElem? (i := 43) rfl) rfl
set_option maxRecDepth 100000 in
theorem q1074 : Cond.methodLink RX7 166 yX7_partsNow ∈ lw_tb := tb5 (List.mem_of_getElem? (i := 44) rfl) rfl
set_option maxRecDepth 100000 in
theorem q1076 : Cond.instanceMethod yX7_partsNow ∈ lw_tb := tb5 (List.mem_of_getElem? (i := 46) rfl) rfl
set_option maxRecDepth 100000 in
theorem q1077 : Cond.code yX7_partsNow cX7_partsNow 5 (some .int) ∈ lw_tb := tb5 (List.mem_of_getElem? (i := 47) rfl) rfl
set_option maxRecDepth 100000 in
theorem q1078 : Cond.methodLink RX7 157 yX7_laysYears ∈ lw_tb := tb5 (List.mem_of_getElem? (i := 48) rfl) rfl
set_option maxRecDepth 100000 in
theorem q1080 : Cond.instanceMethod yX7_laysYears ∈ lw_tb := tb5 (List.mem_of_getElem? (i := 50) rfl) rfl
set_option maxRecDepth 100000 in
theorem q1081 : Cond.code yX7_laysYears cX7_laysYears 2 none ∈ lw_tb := tb5 (List.mem_of_getElem? (i := 51) rfl) rfl
set_option maxRecDepth 100000 in
theorem q1082 : Cond.methodLink RX7 154 yX7_all ∈ lw_tb := tb5 (List.mem_of_getElem? (i := 52) rfl) rfl
set_option maxRecDepth 100000 in
theorem q1084 : Cond.instanceMethod yX7_all ∈ lw_tb := tb5 (List.mem_of_getElem? (i := 54) rfl) rfl
set_option maxRecDepth 100000 in
theorem q1085 : Cond.code yX7_all cX7_all 1 (some .int) ∈ lw_tb := tb5 (List.mem_of_getElem? (i := 55) rfl) rfl
set_option maxRecDepth 100000 in
theorem q1086 : Cond.methodLink RX7 160 yX7_differs ∈ lw_tb := tb5 (List.mem_of_getElem? (i := 56) rfl) rfl
set_option maxRecDepth 100000 in
theorem q1088 : Cond.instanceMethod yX7_differs ∈ lw_tb := tb5 (List.mem_of_getElem? (i := 58) rfl) rfl
set_option maxRecDepth 100000 in
theorem q1089 : Cond.code yX7_differs cX7_differs 4 (some .int) ∈ lw_tb := tb5 (List.mem_of_getElem? (i := 59) rfl) rfl
set_option maxRecDepth 100000 in
theorem q1090 : Cond.methodLink RX7 144 yX7_isIn ∈ lw_tb := tb5 (List.mem_of_getElem? (i := 60) rfl) rfl
set_option maxRecDepth 100000 in
theorem q1091 : Cond.static yX7_isIn ∈ lw_tb := tb5 (List.mem_of_getElem? (i := 61) rfl) rfl
set_option maxRecDepth 100000 in
theorem q1092 : Cond.code yX7_isIn cX7_isIn 2 (some .boolean) ∈ lw_tb := tb5 (List.mem_of_getElem? (i := 62) rfl) rfl
set_option maxRecDepth 100000 in
theorem q1093 : Cond.methodLink RX7 163 yX7_isParting ∈ lw_tb := tb5 (List.mem_of_getElem? (i := 63) rfl) rfl
set_option maxRecDepth 100000 in
theorem q1095 : Cond.instanceMethod yX7_isParting ∈ lw_tb := tb5 (List.mem_of_getElem? (i := 65) rfl) rfl
set_option maxRecDepth 100000 in
theorem q1096 : Cond.code yX7_isParting cX7_isParting 2 (some .boolean) ∈ lw_tb := tb5 (List.mem_of_getElem? (i := 66) rfl) rfl
set_option maxRecDepth 100000 in
theorem q1097 : Cond.methodLink RX7 151 yX7_hangs ∈ lw_tb := tb5 (List.mem_of_getElem? (i := 67) rfl) rfl
set_option maxRecDepth 100000 in
theorem q1099 : Cond.instanceMethod yX7_hangs ∈ lw_tb := tb5 (List.mem_of_getElem? (i := 69) rfl) rfl
set_option maxRecDepth 100000 in
theorem q1100 : Cond.code yX7_hangs cX7_hangs 6 (some .boolean) ∈ lw_tb := tb5 (List.mem_of_getElem? (i := 70) rfl) rfl
set_option maxRecDepth 100000 in
theorem q1101 : Cond.methodLink RX7 148 yX7_isNext ∈ lw_tb := tb5 (List.mem_of_getElem? (i := 71) rfl) rfl
set_option maxRecDepth 100000 in
theorem q1103 : Cond.instanceMethod yX7_isNext ∈ lw_tb := tb5 (List.mem_of_getElem? (i := 73) rfl) rfl
set_option maxRecDepth 100000 in
theorem q1104 : Cond.code yX7_isNext cX7_isNext 4 (some .boolean) ∈ lw_tb := tb5 (List.mem_of_getElem? (i := 74) rfl) rfl
set_option maxRecDepth 100000 in
theorem q1105 : Cond.methodLink RL 76 yX7_taken ∈ lw_tb := tb5 (List.mem_of_getElem? (i := 75) rfl) rfl
set_option maxRecDepth 100000 in
theorem q1106 : Cond.instanceMethod yX7_taken ∈ lw_tb := tb5 (List.mem_of_getElem? (i := 76) rfl) rfl
set_option maxRecDepth 100000 in
theorem q1107 : Cond.selects RX7 yX7_taken yX7_taken ∈ lw_tb := tb5 (List.mem_of_getElem? (i := 77) rfl) rfl
set_option maxRecDepth 100000 in
theorem q1108 : Cond.code yX7_taken cX7_taken 4 (some .int) ∈ lw_tb := tb5 (List.mem_of_getElem? (i := 78) rfl) rfl
set_option maxRecDepth 100000 in
theorem q1109 : Cond.methodLink RX7 172 yX7_takenOf ∈ lw_tb := tb5 (List.mem_of_getElem? (i := 79) rfl) rfl
set_option maxRecDepth 100000 in
theorem q1111 : Cond.instanceMethod yX7_takenOf ∈ lw_tb := tb5 (List.mem_of_getElem? (i := 81) rfl) rfl
set_option maxRecDepth 100000 in
theorem q1112 : Cond.code yX7_takenOf cX7_takenOf 7 (some .int) ∈ lw_tb := tb5 (List.mem_of_getElem? (i := 82) rfl) rfl
set_option maxRecDepth 100000 in
theorem q1113 : Cond.constant RX7 175 (-1000002) ∈ lw_tb := tb5 (List.mem_of_getElem? (i := 83) rfl) rfl
set_option maxRecDepth 100000 in
theorem q1114 : Cond.methodLink RL 80 yX7_highest ∈ lw_tb := tb5 (List.mem_of_getElem? (i := 84) rfl) rfl
set_option maxRecDepth 100000 in
theorem q1115 : Cond.instanceMethod yX7_highest ∈ lw_tb := tb5 (List.mem_of_getElem? (i := 85) rfl) rfl
set_option maxRecDepth 100000 in
theorem q1116 : Cond.selects RX7 yX7_highest yX7_highest ∈ lw_tb := tb5 (List.mem_of_getElem? (i := 86) rfl) rfl
set_option maxRecDepth 100000 in
theorem q1117 : Cond.code yX7_highest cX7_highest 3 (some .int) ∈ lw_tb := tb5 (List.mem_of_getElem? (i := 87) rfl) rfl
set_option maxRecDepth 100000 in
theorem q1118 : Cond.constant RX7 176 (99999) ∈ lw_tb := tb5 (List.mem_of_getElem? (i := 88) rfl) rfl
set_option maxRecDepth 100000 in
theorem q1119 : Cond.methodLink RX7 177 yX7_highestOf ∈ lw_tb := tb5 (List.mem_of_getElem? (i := 89) rfl) rfl
set_option maxRecDepth 100000 in
theorem q1121 : Cond.instanceMethod yX7_highestOf ∈ lw_tb := tb5 (List.mem_of_getElem? (i := 91) rfl) rfl
set_option maxRecDepth 100000 in
theorem q1122 : Cond.code yX7_highestOf cX7_highestOf 7 (some .int) ∈ lw_tb := tb5 (List.mem_of_getElem? (i := 92) rfl) rfl
set_option maxRecDepth 100000 in
theorem q1123 : Cond.methodLink RL 84 yX7_again ∈ lw_tb := tb5 (List.mem_of_getElem? (i := 93) rfl) rfl
set_option maxRecDepth 100000 in
theorem q1124 : Cond.instanceMethod yX7_again ∈ lw_tb := tb5 (List.mem_of_getElem? (i := 94) rfl) rfl
set_option maxRecDepth 100000 in
theorem q1125 : Cond.selects RX7 yX7_again yX7_again ∈ lw_tb := tb5 (List.mem_of_getElem? (i := 95) rfl) rfl
set_option maxRecDepth 100000 in
theorem q1126 : Cond.code yX7_again cX7_again 4 (some .int) ∈ lw_tb := tb5 (List.mem_of_getElem? (i := 96) rfl) rfl
set_option maxRecDepth 100000 in
theorem q1127 : Cond.methodLink RX7 180 yX7_againOf ∈ lw_tb := tb5 (List.mem_of_getElem? (i := 97) rfl) rfl
set_option maxRecDepth 100000 in
theorem q1129 : Cond.instanceMethod yX7_againOf ∈ lw_tb := tb5 (List.mem_of_getElem? (i := 99) rfl) rfl
set_option maxRecDepth 100000 in
theorem q1130 : Cond.code yX7_againOf cX7_againOf 9 (some .int) ∈ lw_tb := tb5 (List.mem_of_getElem? (i := 100) rfl) rfl
set_option maxRecDepth 100000 in
theorem q1131 : Cond.methodLink RL 88 yX7_worth ∈ lw_tb := tb5 (List.mem_of_getElem? (i := 101) rfl) rfl
set_option maxRecDepth 100000 in
theorem q1132 : Cond.instanceMethod yX7_worth ∈ lw_tb := tb5 (List.mem_of_getElem? (i := 102) rfl) rfl
set_option maxRecDepth 100000 in
theorem q1133 : Cond.selects RX7 yX7_worth yX7_worth ∈ lw_tb := tb5 (List.mem_of_getElem? (i := 103) rfl) rfl
set_option maxRecDepth 100000 in
theorem q1134 : Cond.code yX7_worth cX7_worth 5 (some .int) ∈ lw_tb := tb5 (List.mem_of_getElem? (i := 104) rfl) rfl
set_option maxRecDepth 100000 in
theorem q1135 : Cond.methodLink RL 92 yX7_value ∈ lw_tb := tb5 (List.mem_of_getElem? (i := 105) rfl) rfl
set_option maxRecDepth 100000 in
theorem q1136 : Cond.instanceMethod yX7_value ∈ lw_tb := tb5 (List.mem_of_getElem? (i := 106) rfl) rfl
set_option maxRecDepth 100000 in
theorem q1137 : Cond.selects RX7 yX7_value yX7_value ∈ lw_tb := tb5 (List.mem_of_getElem? (i := 107) rfl) rfl
set_option maxRecDepth 100000 in
theorem q1138 : Cond.code yX7_value cX7_value 3 (some .int) ∈ lw_tb := tb5 (List.mem_of_getElem? (i := 108) rfl) rfl
set_option maxRecDepth 100000 in
theorem q1139 : Cond.methodLink RX7 183 yX7_valueOf ∈ lw_tb := tb5 (List.mem_of_getElem? (i := 109) rfl) rfl
set_option maxRecDepth 100000 in
theorem q1141 : Cond.instanceMethod yX7_valueOf ∈ lw_tb := tb5 (List.mem_of_getElem? (i := 111) rfl) rfl
set_option maxRecDepth 100000 in
theorem q1142 : Cond.code yX7_valueOf cX7_valueOf 5 (some .int) ∈ lw_tb := tb5 (List.mem_of_getElem? (i := 112) rfl) rfl
set_option maxRecDepth 100000 in
theorem q1143 : Cond.methodLink RL 96 yX7_change ∈ lw_tb := tb5 (List.mem_of_getElem? (i := 113) rfl) rfl
set_option maxRecDepth 100000 in
theorem q1144 : Cond.instanceMethod yX7_change ∈ lw_tb := tb5 (List.mem_of_getElem? (i := 114) rfl) rfl
set_option maxRecDepth 100000 in
theorem q1145 : Cond.selects RX7 yX7_change yX7_change ∈ lw_tb := tb5 (List.mem_of_getElem? (i := 115) rfl) rfl
set_option maxRecDepth 100000 in
theorem q1146 : Cond.code yX7_change cX7_change 3 (some .int) ∈ lw_tb := tb5 (List.mem_of_getElem? (i := 116) rfl) rfl
set_option maxRecDepth 100000 in
theorem q1147 : Cond.methodLink RX7 189 yX7_isChange ∈ lw_tb := tb5 (List.mem_of_getElem? (i := 117) rfl) rfl
set_option maxRecDepth 100000 in
theorem q1149 : Cond.instanceMethod yX7_isChange ∈ lw_tb := tb5 (List.mem_of_getElem? (i := 119) rfl) rfl
set_option maxRecDepth 100000 in
theorem q1150 : Cond.code yX7_isChange cX7_isChange 3 (some .boolean) ∈ lw_tb := tb5 (List.mem_of_getElem? (i := 120) rfl) rfl
set_option maxRecDepth 100000 in
theorem q1151 : Cond.methodLink RX7 186 yX7_isRather ∈ lw_tb := tb5 (List.mem_of_getElem? (i := 121) rfl) rfl
set_option maxRecDepth 100000 in
theorem q1153 : Cond.instanceMethod yX7_isRather ∈ lw_tb := tb5 (List.mem_of_getElem? (i := 123) rfl) rfl
set_option maxRecDepth 100000 in
theorem q1154 : Cond.code yX7_isRather cX7_isRather 3 (some .boolean) ∈ lw_tb := tb5 (List.mem_of_getElem? (i := 124) rfl) rfl
set_option maxRecDepth 100000 in
theorem q1155 : Cond.methodLink RL 100 yX7_changes ∈ lw_tb := tb5 (List.mem_of_getElem? (i := 125) rfl) rfl
set_option maxRecDepth 100000 in
theorem q1156 : Cond.instanceMethod yX7_changes ∈ lw_tb := tb5 (List.mem_of_getElem? (i := 126) rfl) rfl
set_option maxRecDepth 100000 in
theorem q1157 : Cond.selects RX7 yX7_changes yX7_changes ∈ lw_tb := tb5 (List.mem_of_getElem? (i := 127) rfl) rfl
set_option maxRecDepth 100000 in
theorem q1158 : Cond.code yX7_changes cX7_changes 2 (some .int) ∈ lw_tb := tb5 (List.mem_of_getElem? (i := 128) rfl) rfl
set_option maxRecDepth 100000 in
theorem q1159 : Cond.methodLink RX7 192 yX7_changesOf ∈ lw_tb := tb5 (List.mem_of_getElem? (i := 129) rfl) rfl
set_option maxRecDepth 100000 in
theorem q1161 : Cond.instanceMethod yX7_changesOf ∈ lw_tb := tb5 (List.mem_of_getElem? (i := 131) rfl) rfl
set_option maxRecDepth 100000 in
theorem q1162 : Cond.code yX7_changesOf cX7_changesOf 9 (some .int) ∈ lw_tb := tb5 (List.mem_of_getElem? (i := 132) rfl) rfl
set_option maxRecDepth 100000 in
theorem q1163 : Cond.methodLink RL 104 yX7_sort ∈ lw_tb := tb5 (List.mem_of_getElem? (i := 133) rfl) rfl
set_option maxRecDepth 100000 in
theorem q1164 : Cond.instanceMethod yX7_sort ∈ lw_tb := tb5 (List.mem_of_getElem? (i := 134) rfl) rfl
set_option maxRecDepth 100000 in
theorem q1165 : Cond.selects RX7 yX7_sort yX7_sort ∈ lw_tb := tb5 (List.mem_of_getElem? (i := 135) rfl) rfl
set_option maxRecDepth 100000 in
theorem q1166 : Cond.code yX7_sort cX7_sort 5 (some .int) ∈ lw_tb := tb5 (List.mem_of_getElem? (i := 136) rfl) rfl
set_option maxRecDepth 100000 in
theorem q1167 : Cond.methodLink RL 108 yX7_set ∈ lw_tb := tb5 (List.mem_of_getElem? (i := 137) rfl) rfl
set_option maxRecDepth 100000 in
theorem q1168 : Cond.instanceMethod yX7_set ∈ lw_tb := tb5 (List.mem_of_getElem? (i := 138) rfl) rfl
set_option maxRecDepth 100000 in
theorem q1169 : Cond.selects RX7 yX7_set yX7_set ∈ lw_tb := tb5 (List.mem_of_getElem? (i := 139) rfl) rfl
set_option maxRecDepth 100000 in
theorem q1170 : Cond.code yX7_set cX7_set 2 (some .int) ∈ lw_tb := tb5 (List.mem_of_getElem? (i := 140) rfl) rfl
set_option maxRecDepth 100000 in
theorem q1171 : Cond.methodLink RX7 198 yX7_setOf ∈ lw_tb := tb5 (List.mem_of_getElem? (i := 141) rfl) rfl
set_option maxRecDepth 100000 in
theorem q1173 : Cond.instanceMethod yX7_setOf ∈ lw_tb := tb5 (List.mem_of_getElem? (i := 143) rfl) rfl
set_option maxRecDepth 100000 in
theorem q1174 : Cond.code yX7_setOf cX7_setOf 7 (some .int) ∈ lw_tb := tb5 (List.mem_of_getElem? (i := 144) rfl) rfl
set_option maxRecDepth 100000 in
theorem q1175 : Cond.methodLink RX7 195 yX7_fives ∈ lw_tb := tb5 (List.mem_of_getElem? (i := 145) rfl) rfl
set_option maxRecDepth 100000 in
theorem q1176 : Cond.static yX7_fives ∈ lw_tb := tb5 (List.mem_of_getElem? (i := 146) rfl) rfl
set_option maxRecDepth 100000 in
theorem q1177 : Cond.code yX7_fives cX7_fives 1 (some .int) ∈ lw_tb := tb5 (List.mem_of_getElem? (i := 147) rfl) rfl
set_option maxRecDepth 100000 in
theorem q1178 : Cond.methodLink RL 112 yX7_seen ∈ lw_tb := tb5 (List.mem_of_getElem? (i := 148) rfl) rfl
set_option maxRecDepth 100000 in
theorem q1179 : Cond.instanceMethod yX7_seen ∈ lw_tb := tb5 (List.mem_of_getElem? (i := 149) rfl) rfl
set_option maxRecDepth 100000 in
theorem q1180 : Cond.selects RX7 yX7_seen yX7_seen ∈ lw_tb := tb5 (List.mem_of_getElem? (i := 150) rfl) rfl
set_option maxRecDepth 100000 in
theorem q1181 : Cond.code yX7_seen cX7_seen 3 (some .int) ∈ lw_tb := tb5 (List.mem_of_getElem? (i := 151) rfl) rfl
set_option maxRecDepth 100000 in
theorem q1182 : Cond.methodLink RL 116 yX7_forget ∈ lw_tb := tb5 (List.mem_of_getElem? (i := 152) rfl) rfl
set_option maxRecDepth 100000 in
theorem q1183 : Cond.instanceMethod yX7_forget ∈ lw_tb := tb5 (List.mem_of_getElem? (i := 153) rfl) rfl
set_option maxRecDepth 100000 in
theorem q1184 : Cond.selects RX7 yX7_forget yX7_forget ∈ lw_tb := tb5 (List.mem_of_getElem? (i := 154) rfl) rfl
set_option maxRecDepth 100000 in
theorem q1185 : Cond.code yX7_forget cX7_forget 2 (some .int) ∈ lw_tb := tb5 (List.mem_of_getElem? (i := 155) rfl) rfl
set_option maxRecDepth 100000 in
theorem q1186 : Cond.methodLink RL 120 yX7_whose ∈ lw_tb := tb5 (List.mem_of_getElem? (i := 156) rfl) rfl
set_option maxRecDepth 100000 in
theorem q1187 : Cond.instanceMethod yX7_whose ∈ lw_tb := tb5 (List.mem_of_getElem? (i := 157) rfl) rfl
set_option maxRecDepth 100000 in
theorem q1188 : Cond.selects RX7 yX7_whose yX7_whose ∈ lw_tb := tb5 (List.mem_of_getElem? (i := 158) rfl) rfl
set_option maxRecDepth 100000 in
theorem q1189 : Cond.code yX7_whose cX7_whose 2 (some .int) ∈ lw_tb := tb5 (List.mem_of_getElem? (i := 159) rfl) rfl
set_option maxRecDepth 100000 in
theorem q1190 : Cond.methodLink RX7 204 yX7_whoseOf ∈ lw_tb := tb5 (List.mem_of_getElem? (i := 160) rfl) rfl
set_option maxRecDepth 100000 in
theorem q1192 : Cond.instanceMethod yX7_whoseOf ∈ lw_tb := tb5 (List.mem_of_getElem? (i := 162) rfl) rfl
set_option maxRecDepth 100000 in
theorem q1193 : Cond.code yX7_whoseOf cX7_whoseOf 8 (some .int) ∈ lw_tb := tb5 (List.mem_of_getElem? (i := 163) rfl) rfl
set_option maxRecDepth 100000 in
theorem q1194 : Cond.methodLink RL 124 yX7_clouds ∈ lw_tb := tb5 (List.mem_of_getElem? (i := 164) rfl) rfl
set_option maxRecDepth 100000 in
theorem q1195 : Cond.instanceMethod yX7_clouds ∈ lw_tb := tb5 (List.mem_of_getElem? (i := 165) rfl) rfl
set_option maxRecDepth 100000 in
theorem q1196 : Cond.selects RX7 yX7_clouds yX7_clouds ∈ lw_tb := tb5 (List.mem_of_getElem? (i := 166) rfl) rfl
set_option maxRecDepth 100000 in
theorem q1197 : Cond.code yX7_clouds cX7_clouds 4 (some .int) ∈ lw_tb := tb5 (List.mem_of_getElem? (i := 167) rfl) rfl
set_option maxRecDepth 100000 in
theorem q1198 : Cond.methodLink RL 129 yX7_clear ∈ lw_tb := tb5 (List.mem_of_getElem? (i := 168) rfl) rfl
set_option maxRecDepth 100000 in
theorem q1199 : Cond.instanceMethod yX7_clear ∈ lw_tb := tb5 (List.mem_of_getElem? (i := 169) rfl) rfl
set_option maxRecDepth 100000 in
theorem q1200 : Cond.selects RX7 yX7_clear yX7_clear ∈ lw_tb := tb5 (List.mem_of_getElem? (i := 170) rfl) rfl
set_option maxRecDepth 100000 in
theorem q1201 : Cond.code yX7_clear cX7_clear 5 (some .long) ∈ lw_tb := tb5 (List.mem_of_getElem? (i := 171) rfl) rfl
set_option maxRecDepth 100000 in
theorem q1202 : Cond.methodLink RX7 213 yX7_clearOf ∈ lw_tb := tb5 (List.mem_of_getElem? (i := 172) rfl) rfl
set_option maxRecDepth 100000 in
theorem q1204 : Cond.instanceMethod yX7_clearOf ∈ lw_tb := tb5 (List.mem_of_getElem? (i := 174) rfl) rfl
set_option maxRecDepth 100000 in
theorem q1205 : Cond.code yX7_clearOf cX7_clearOf 12 (some .long) ∈ lw_tb := tb5 (List.mem_of_getElem? (i := 175) rfl) rfl
set_option maxRecDepth 100000 in
theorem q1206 : Cond.constantLong RX7 207 (16) ∈ lw_tb := tb5 (List.mem_of_getElem? (i := 176) rfl) rfl
set_option maxRecDepth 100000 in
theorem q1207 : Cond.methodLink RX7 209 yX7_lowest ∈ lw_tb := tb5 (List.mem_of_getElem? (i := 177) rfl) rfl
set_option maxRecDepth 100000 in
theorem q1208 : Cond.static yX7_lowest ∈ lw_tb := tb5 (List.mem_of_getElem? (i := 178) rfl) rfl
set_option maxRecDepth 100000 in
theorem q1209 : Cond.code yX7_lowest cX7_lowest 11 (some .long) ∈ lw_tb := tb5 (List.mem_of_getElem? (i := 179) rfl) rfl
set_option maxRecDepth 100000 in
theorem q1210 : Cond.methodLink RX7 217 yX7_no ∈ lw_tb := tb5 (List.mem_of_getElem? (i := 180) rfl) rfl
set_option maxRecDepth 100000 in
theorem q1211 : Cond.static yX7_no ∈ lw_tb := tb5 (List.mem_of_getElem? (i := 181) rfl) rfl
set_option maxRecDepth 100000 in
theorem q1212 : Cond.code yX7_no cX7_no 1 (some .long) ∈ lw_tb := tb5 (List.mem_of_getElem? (i := 182) rfl) rfl
set_option maxRecDepth 100000 in
theorem q1213 : Cond.constantLong RX7 75 (-9223372036854775808) ∈ lw_tb := tb5 (List.mem_of_getElem? (i := 183) rfl) rfl
set_option maxRecDepth 100000 in
theorem q1214 : Cond.methodLink RL 133 yX7_sheet ∈ lw_tb := tb5 (List.mem_of_getElem? (i := 184) rfl) rfl
set_option maxRecDepth 100000 in
theorem q1215 : Cond.instanceMethod yX7_sheet ∈ lw_tb := tb5 (List.mem_of_getElem? (i := 185) rfl) rfl
set_option maxRecDepth 100000 in
theorem q1216 : Cond.selects RX7 yX7_sheet yX7_sheet ∈ lw_tb := tb5 (List.mem_of_getElem? (i := 186) rfl) rfl
set_option maxRecDepth 100000 in
theorem q1217 : Cond.code yX7_sheet cX7_sheet 5 (some .int) ∈ lw_tb := tb5 (List.mem_of_getElem? (i := 187) rfl) rfl
set_option maxRecDepth 100000 in
theorem q1218 : Cond.methodLink RL 137 yX7_lose ∈ lw_tb := tb5 (List.mem_of_getElem? (i := 188) rfl) rfl
set_option maxRecDepth 100000 in
theorem q1219 : Cond.instanceMethod yX7_lose ∈ lw_tb := tb5 (List.mem_of_getElem? (i := 189) rfl) rfl
set_option maxRecDepth 100000 in
theorem q1220 : Cond.selects RX7 yX7_lose yX7_lose ∈ lw_tb := tb5 (List.mem_of_getElem? (i := 190) rfl) rfl
set_option maxRecDepth 100000 in
theorem q1221 : Cond.code yX7_lose cX7_lose 2 (some .int) ∈ lw_tb := tb5 (List.mem_of_getElem? (i := 191) rfl) rfl
set_option maxRecDepth 100000 in
theorem q1222 : Cond.methodLink RL 142 yX7_put ∈ lw_tb := tb5 (List.mem_of_getElem? (i := 192) rfl) rfl
set_option maxRecDepth 100000 in
theorem q1223 : Cond.instanceMethod yX7_put ∈ lw_tb := tb5 (List.mem_of_getElem? (i := 193) rfl) rfl
set_option maxRecDepth 100000 in
theorem q1224 : Cond.selects RX7 yX7_put yX7_put ∈ lw_tb := tb5 (List.mem_of_getElem? (i := 194) rfl) rfl
set_option maxRecDepth 100000 in
theorem q1225 : Cond.code yX7_put cX7_put 6 (some .int) ∈ lw_tb := tb5 (List.mem_of_getElem? (i := 195) rfl) rfl
set_option maxRecDepth 100000 in
theorem q1226 : Cond.methodLink RX7 224 yX7_lacks ∈ lw_tb := tb5 (List.mem_of_getElem? (i := 196) rfl) rfl
set_option maxRecDepth 100000 in
theorem q1228 : Cond.instanceMethod yX7_lacks ∈ lw_tb := tb5 (List.mem_of_getElem? (i := 198) rfl) rfl
set_option maxRecDepth 100000 in
theorem q1229 : Cond.code yX7_lacks cX7_lacks 4 (some .int) ∈ lw_tb := tb5 (List.mem_of_getElem? (i := 199) rfl) rfl
set_option maxRecDepth 100000 in
theorem q1230 : Cond.methodLink RX7 227 yX7_keep ∈ lw_tb := tb5 (List.mem_of_getElem? (i := 200) rfl) rfl
set_option maxRecDepth 100000 in
theorem q1232 : Cond.instanceMethod yX7_keep ∈ lw_tb := tb5 (List.mem_of_getElem? (i := 202) rfl) rfl
set_option maxRecDepth 100000 in
theorem q1233 : Cond.code yX7_keep cX7_keep 4 none ∈ lw_tb := tb5 (List.mem_of_getElem? (i := 203) rfl) rfl
set_option maxRecDepth 100000 in
theorem q1234 : Cond.methodLink RL 146 yX7_get ∈ lw_tb := tb5 (List.mem_of_getElem? (i := 204) rfl) rfl
set_option maxRecDepth 100000 in
theorem q1235 : Cond.instanceMethod yX7_get ∈ lw_tb := tb5 (List.mem_of_getElem? (i := 205) rfl) rfl
set_option maxRecDepth 100000 in
theorem q1236 : Cond.selects RX7 yX7_get yX7_get ∈ lw_tb := tb5 (List.mem_of_getElem? (i := 206) rfl) rfl
set_option maxRecDepth 100000 in
theorem q1237 : Cond.code yX7_get cX7_get 5 (some .int) ∈ lw_tb := tb5 (List.mem_of_getElem? (i := 207) rfl) rfl
set_option maxRecDepth 100000 in
theorem q1238 : Cond.constant RX7 231 (-2147483648) ∈ lw_tb := tb5 (List.mem_of_getElem? (i := 208) rfl) rfl
set_option maxRecDepth 100000 in
theorem q1239 : Cond.methodLink RL 151 yX7_copy ∈ lw_tb := tb5 (List.mem_of_getElem? (i := 209) rfl) rfl
set_option maxRecDepth 100000 in
theorem q1240 : Cond.instanceMethod yX7_copy ∈ lw_tb := tb5 (List.mem_of_getElem? (i := 210) rfl) rfl
set_option maxRecDepth 100000 in
theorem q1241 : Cond.selects RX7 yX7_copy yX7_copy ∈ lw_tb := tb5 (List.mem_of_getElem? (i := 211) rfl) rfl
set_option maxRecDepth 100000 in
theorem q1242 : Cond.code yX7_copy cX7_copy 7 (some .int) ∈ lw_tb := tb5 (List.mem_of_getElem? (i := 212) rfl) rfl
set_option maxRecDepth 100000 in
theorem q1243 : Cond.methodLink RL 155 yX7_write ∈ lw_tb := tb5 (List.mem_of_getElem? (i := 213) rfl) rfl
set_option maxRecDepth 100000 in
theorem q1244 : Cond.instanceMethod yX7_write ∈ lw_tb := tb5 (List.mem_of_getElem? (i := 214) rfl) rfl
set_option maxRecDepth 100000 in
theorem q1245 : Cond.selects RX7 yX7_write yX7_write ∈ lw_tb := tb5 (List.mem_of_getElem? (i := 215) rfl) rfl
set_option maxRecDepth 100000 in
theorem q1246 : Cond.code yX7_write cX7_write 5 (some .int) ∈ lw_tb := tb5 (List.mem_of_getElem? (i := 216) rfl) rfl
set_option maxRecDepth 100000 in
theorem q1247 : Cond.methodLink RL 159 yX7_count ∈ lw_tb := tb5 (List.mem_of_getElem? (i := 217) rfl) rfl
set_option maxRecDepth 100000 in
theorem q1248 : Cond.instanceMethod yX7_count ∈ lw_tb := tb5 (List.mem_of_getElem? (i := 218) rfl) rfl
set_option maxRecDepth 100000 in
theorem q1249 : Cond.selects RX7 yX7_count yX7_count ∈ lw_tb := tb5 (List.mem_of_getElem? (i := 219) rfl) rfl
set_option maxRecDepth 100000 in
theorem q1250 : Cond.code yX7_count cX7_count 2 (some .int) ∈ lw_tb := tb5 (List.mem_of_getElem? (i := 220) rfl) rfl
set_option maxRecDepth 100000 in
theorem q1251 : Cond.methodLink RX7 232 yX7_sumOf ∈ lw_tb := tb5 (List.mem_of_getElem? (i := 221) rfl) rfl
set_option maxRecDepth 100000 in
theorem q1253 : Cond.instanceMethod yX7_sumOf ∈ lw_tb := tb5 (List.mem_of_getElem? (i := 223) rfl) rfl
set_option maxRecDepth 100000 in
theorem q1254 : Cond.code yX7_sumOf cX7_sumOf 6 (some .int) ∈ lw_tb := tb5 (List.mem_of_getElem? (i := 224) rfl) rfl
set_option maxRecDepth 100000 in
theorem q1255 : Cond.methodLink RL 164 yX7_digest ∈ lw_tb := tb5 (List.mem_of_getElem? (i := 225) rfl) rfl
set_option maxRecDepth 100000 in
theorem q1256 : Cond.instanceMethod yX7_digest ∈ lw_tb := tb5 (List.mem_of_getElem? (i := 226) rfl) rfl
set_option maxRecDepth 100000 in
theorem q1257 : Cond.selects RX7 yX7_digest yX7_digest ∈ lw_tb := tb5 (List.mem_of_getElem? (i := 227) rfl) rfl
set_option maxRecDepth 100000 in
theorem q1258 : Cond.code yX7_digest cX7_digest 5 (some .long) ∈ lw_tb := tb5 (List.mem_of_getElem? (i := 228) rfl) rfl
set_option maxRecDepth 100000 in
theorem q1259 : Cond.constantLong RX7 235 (17) ∈ lw_tb := tb5 (List.mem_of_getElem? (i := 229) rfl) rfl
set_option maxRecDepth 100000 in
theorem q1260 : Cond.constantLong RX7 237 (31) ∈ lw_tb := tb5 (List.mem_of_getElem? (i := 230) rfl) rfl
set_option maxRecDepth 100000 in
theorem q1261 : Cond.methodLink RX7 239 yX7_count ∈ lw_tb := tb5 (List.mem_of_getElem? (i := 231) rfl) rfl
set_option maxRecDepth 100000 in
theorem q1262 : Cond.methodLink RX7 242 yX7_again ∈ lw_tb := tb5 (List.mem_of_getElem? (i := 232) rfl) rfl
set_option maxRecDepth 100000 in
theorem inX0_0 : u_lay RX0 TX0 0 ∈ lw_tb := tb1 (List.mem_of_getElem? (i := 150) rfl) rfl
set_option maxRecDepth 100000 in
theorem inX0_1 : u_lay RX0 TX0 1 ∈ lw_tb := tb1 (List.mem_of_getElem? (i := 152) rfl) rfl
set_option maxRecDepth 100000 in
theorem inX0_2 : u_lay RX0 TX0 2 ∈ lw_tb := tb1 (List.mem_of_getElem? (i := 154) rfl) rfl
theorem inX0 : ∀ w ∈ u_ws RX0 TX0 3, w ∈ lw_tb := by
  intro w hw
  obtain ⟨k, hk, rfl⟩ := List.mem_map.mp hw
  have hk := List.mem_range.mp hk
  rcases (show k = 0 ∨ k = 1 ∨ k = 2 by omega) with rfl | rfl | rfl
  · exact inX0_0
  · exact inX0_1
  · exact inX0_2
set_option maxRecDepth 100000 in
theorem inX1_0 : u_lay RX1 TX1 0 ∈ lw_tb := tb1 (List.mem_of_getElem? (i := 44) rfl) rfl
set_option maxRecDepth 100000 in
theorem inX1_1 : u_lay RX1 TX1 1 ∈ lw_tb := tb1 (List.mem_of_getElem? (i := 46) rfl) rfl
set_option maxRecDepth 100000 in
theorem inX1_2 : u_lay RX1 TX1 2 ∈ lw_tb := tb1 (List.mem_of_getElem? (i := 48) rfl) rfl
set_option maxRecDepth 100000 in
theorem inX1_3 : u_lay RX1 TX1 3 ∈ lw_tb := tb1 (List.mem_of_getElem? (i := 50) rfl) rfl
set_option maxRecDepth 100000 in
theorem inX1_4 : u_lay RX1 TX1 4 ∈ lw_tb := tb1 (List.mem_of_getElem? (i := 52) rfl) rfl
set_option maxRecDepth 100000 in
theorem inX1_5 : u_lay RX1 TX1 5 ∈ lw_tb := tb1 (List.mem_of_getElem? (i := 54) rfl) rfl
set_option maxRecDepth 100000 in
theorem inX1_6 : u_lay RX1 TX1 6 ∈ lw_tb := tb1 (List.mem_of_getElem? (i := 56) rfl) rfl
set_option maxRecDepth 100000 in
theorem inX1_7 : u_lay RX1 TX1 7 ∈ lw_tb := tb1 (List.mem_of_getElem? (i := 58) rfl) rfl
theorem inX1 : ∀ w ∈ u_ws RX1 TX1 8, w ∈ lw_tb := by
  intro w hw
  obtain ⟨k, hk, rfl⟩ := List.mem_map.mp hw
  have hk := List.mem_range.mp hk
  rcases (show k = 0 ∨ k = 1 ∨ k = 2 ∨ k = 3 ∨ k = 4 ∨ k = 5 ∨ k = 6 ∨ k = 7 by omega) with rfl | rfl | rfl | rfl | rfl | rfl | rfl | rfl
  · exact inX1_0
  · exact inX1_1
  · exact inX1_2
  · exact inX1_3
  · exact inX1_4
  · exact inX1_5
  · exact inX1_6
  · exact inX1_7
set_option maxRecDepth 100000 in
theorem inX2_0 : u_lay RX2 TX2 0 ∈ lw_tb := tb1 (List.mem_of_getElem? (i := 99) rfl) rfl
set_option maxRecDepth 100000 in
theorem inX2_1 : u_lay RX2 TX2 1 ∈ lw_tb := tb1 (List.mem_of_getElem? (i := 101) rfl) rfl
set_option maxRecDepth 100000 in
theorem inX2_2 : u_lay RX2 TX2 2 ∈ lw_tb := tb1 (List.mem_of_getElem? (i := 103) rfl) rfl
set_option maxRecDepth 100000 in
theorem inX2_3 : u_lay RX2 TX2 3 ∈ lw_tb := tb1 (List.mem_of_getElem? (i := 105) rfl) rfl
set_option maxRecDepth 100000 in
theorem inX2_4 : u_lay RX2 TX2 4 ∈ lw_tb := tb1 (List.mem_of_getElem? (i := 107) rfl) rfl
set_option maxRecDepth 100000 in
theorem inX2_5 : u_lay RX2 TX2 5 ∈ lw_tb := tb1 (List.mem_of_getElem? (i := 109) rfl) rfl
set_option maxRecDepth 100000 in
theorem inX2_6 : u_lay RX2 TX2 6 ∈ lw_tb := tb1 (List.mem_of_getElem? (i := 111) rfl) rfl
set_option maxRecDepth 100000 in
theorem inX2_7 : u_lay RX2 TX2 7 ∈ lw_tb := tb1 (List.mem_of_getElem? (i := 113) rfl) rfl
set_option maxRecDepth 100000 in
theorem inX2_8 : u_lay RX2 TX2 8 ∈ lw_tb := tb1 (List.mem_of_getElem? (i := 115) rfl) rfl
set_option maxRecDepth 100000 in
theorem inX2_9 : u_lay RX2 TX2 9 ∈ lw_tb := tb1 (List.mem_of_getElem? (i := 117) rfl) rfl
set_option maxRecDepth 100000 in
theorem inX2_10 : u_lay RX2 TX2 10 ∈ lw_tb := tb1 (List.mem_of_getElem? (i := 119) rfl) rfl
theorem inX2 : ∀ w ∈ u_ws RX2 TX2 11, w ∈ lw_tb := by
  intro w hw
  obtain ⟨k, hk, rfl⟩ := List.mem_map.mp hw
  have hk := List.mem_range.mp hk
  rcases (show k = 0 ∨ k = 1 ∨ k = 2 ∨ k = 3 ∨ k = 4 ∨ k = 5 ∨ k = 6 ∨ k = 7 ∨ k = 8 ∨ k = 9 ∨ k = 10 by omega) with rfl | rfl | rfl | rfl | rfl | rfl | rfl | rfl | rfl | rfl | rfl
  · exact inX2_0
  · exact inX2_1
  · exact inX2_2
  · exact inX2_3
  · exact inX2_4
  · exact inX2_5
  · exact inX2_6
  · exact inX2_7
  · exact inX2_8
  · exact inX2_9
  · exact inX2_10
set_option maxRecDepth 100000 in
theorem inX3_0 : u_lay RX3 TX3 0 ∈ lw_tb := tb1 (List.mem_of_getElem? (i := 132) rfl) rfl
set_option maxRecDepth 100000 in
theorem inX3_1 : u_lay RX3 TX3 1 ∈ lw_tb := tb1 (List.mem_of_getElem? (i := 134) rfl) rfl
set_option maxRecDepth 100000 in
theorem inX3_2 : u_lay RX3 TX3 2 ∈ lw_tb := tb1 (List.mem_of_getElem? (i := 136) rfl) rfl
set_option maxRecDepth 100000 in
theorem inX3_3 : u_lay RX3 TX3 3 ∈ lw_tb := tb1 (List.mem_of_getElem? (i := 138) rfl) rfl
theorem inX3 : ∀ w ∈ u_ws RX3 TX3 4, w ∈ lw_tb := by
  intro w hw
  obtain ⟨k, hk, rfl⟩ := List.mem_map.mp hw
  have hk := List.mem_range.mp hk
  rcases (show k = 0 ∨ k = 1 ∨ k = 2 ∨ k = 3 by omega) with rfl | rfl | rfl | rfl
  · exact inX3_0
  · exact inX3_1
  · exact inX3_2
  · exact inX3_3
set_option maxRecDepth 100000 in
theorem inX4_0 : u_lay RX4 TX4 0 ∈ lw_tb := tb1 (List.mem_of_getElem? (i := 167) rfl) rfl
set_option maxRecDepth 100000 in
theorem inX4_1 : u_lay RX4 TX4 1 ∈ lw_tb := tb1 (List.mem_of_getElem? (i := 169) rfl) rfl
set_option maxRecDepth 100000 in
theorem inX4_2 : u_lay RX4 TX4 2 ∈ lw_tb := tb1 (List.mem_of_getElem? (i := 171) rfl) rfl
theorem inX4 : ∀ w ∈ u_ws RX4 TX4 3, w ∈ lw_tb := by
  intro w hw
  obtain ⟨k, hk, rfl⟩ := List.mem_map.mp hw
  have hk := List.mem_range.mp hk
  rcases (show k = 0 ∨ k = 1 ∨ k = 2 by omega) with rfl | rfl | rfl
  · exact inX4_0
  · exact inX4_1
  · exact inX4_2
set_option maxRecDepth 100000 in
theorem inX5_0 : u_lay RX5 TX5 0 ∈ lw_tb := tb1 (List.mem_of_getElem? (i := 69) rfl) rfl
set_option maxRecDepth 100000 in
theorem inX5_1 : u_lay RX5 TX5 1 ∈ lw_tb := tb1 (List.mem_of_getElem? (i := 71) rfl) rfl
set_option maxRecDepth 100000 in
theorem inX5_2 : u_lay RX5 TX5 2 ∈ lw_tb := tb1 (List.mem_of_getElem? (i := 73) rfl) rfl
set_option maxRecDepth 100000 in
theorem inX5_3 : u_lay RX5 TX5 3 ∈ lw_tb := tb1 (List.mem_of_getElem? (i := 75) rfl) rfl
set_option maxRecDepth 100000 in
theorem inX5_4 : u_lay RX5 TX5 4 ∈ lw_tb := tb1 (List.mem_of_getElem? (i := 77) rfl) rfl
set_option maxRecDepth 100000 in
theorem inX5_5 : u_lay RX5 TX5 5 ∈ lw_tb := tb1 (List.mem_of_getElem? (i := 79) rfl) rfl
theorem inX5 : ∀ w ∈ u_ws RX5 TX5 6, w ∈ lw_tb := by
  intro w hw
  obtain ⟨k, hk, rfl⟩ := List.mem_map.mp hw
  have hk := List.mem_range.mp hk
  rcases (show k = 0 ∨ k = 1 ∨ k = 2 ∨ k = 3 ∨ k = 4 ∨ k = 5 by omega) with rfl | rfl | rfl | rfl | rfl | rfl
  · exact inX5_0
  · exact inX5_1
  · exact inX5_2
  · exact inX5_3
  · exact inX5_4
  · exact inX5_5
set_option maxRecDepth 100000 in
theorem inX6_0 : u_lay RX6 TX6 0 ∈ lw_tb := tb1 (List.mem_of_getElem? (i := 194) rfl) rfl
set_option maxRecDepth 100000 in
theorem inX6_1 : u_lay RX6 TX6 1 ∈ lw_tb := tb1 (List.mem_of_getElem? (i := 196) rfl) rfl
set_option maxRecDepth 100000 in
theorem inX6_2 : u_lay RX6 TX6 2 ∈ lw_tb := tb1 (List.mem_of_getElem? (i := 198) rfl) rfl
set_option maxRecDepth 100000 in
theorem inX6_3 : u_lay RX6 TX6 3 ∈ lw_tb := tb1 (List.mem_of_getElem? (i := 200) rfl) rfl
set_option maxRecDepth 100000 in
theorem inX6_4 : u_lay RX6 TX6 4 ∈ lw_tb := tb1 (List.mem_of_getElem? (i := 202) rfl) rfl
set_option maxRecDepth 100000 in
theorem inX6_5 : u_lay RX6 TX6 5 ∈ lw_tb := tb1 (List.mem_of_getElem? (i := 204) rfl) rfl
set_option maxRecDepth 100000 in
theorem inX6_6 : u_lay RX6 TX6 6 ∈ lw_tb := tb1 (List.mem_of_getElem? (i := 206) rfl) rfl
set_option maxRecDepth 100000 in
theorem inX6_7 : u_lay RX6 TX6 7 ∈ lw_tb := tb1 (List.mem_of_getElem? (i := 208) rfl) rfl
set_option maxRecDepth 100000 in
theorem inX6_8 : u_lay RX6 TX6 8 ∈ lw_tb := tb1 (List.mem_of_getElem? (i := 210) rfl) rfl
set_option maxRecDepth 100000 in
theorem inX6_9 : u_lay RX6 TX6 9 ∈ lw_tb := tb1 (List.mem_of_getElem? (i := 212) rfl) rfl
set_option maxRecDepth 100000 in
theorem inX6_10 : u_lay RX6 TX6 10 ∈ lw_tb := tb1 (List.mem_of_getElem? (i := 214) rfl) rfl
set_option maxRecDepth 100000 in
theorem inX6_11 : u_lay RX6 TX6 11 ∈ lw_tb := tb1 (List.mem_of_getElem? (i := 216) rfl) rfl
set_option maxRecDepth 100000 in
theorem inX6_12 : u_lay RX6 TX6 12 ∈ lw_tb := tb1 (List.mem_of_getElem? (i := 218) rfl) rfl
set_option maxRecDepth 100000 in
theorem inX6_13 : u_lay RX6 TX6 13 ∈ lw_tb := tb1 (List.mem_of_getElem? (i := 220) rfl) rfl
set_option maxRecDepth 100000 in
theorem inX6_14 : u_lay RX6 TX6 14 ∈ lw_tb := tb1 (List.mem_of_getElem? (i := 222) rfl) rfl
set_option maxRecDepth 100000 in
theorem inX6_15 : u_lay RX6 TX6 15 ∈ lw_tb := tb1 (List.mem_of_getElem? (i := 224) rfl) rfl
set_option maxRecDepth 100000 in
theorem inX6_16 : u_lay RX6 TX6 16 ∈ lw_tb := tb1 (List.mem_of_getElem? (i := 226) rfl) rfl
theorem inX6 : ∀ w ∈ u_ws RX6 TX6 17, w ∈ lw_tb := by
  intro w hw
  obtain ⟨k, hk, rfl⟩ := List.mem_map.mp hw
  have hk := List.mem_range.mp hk
  rcases (show k = 0 ∨ k = 1 ∨ k = 2 ∨ k = 3 ∨ k = 4 ∨ k = 5 ∨ k = 6 ∨ k = 7 ∨ k = 8 ∨ k = 9 ∨ k = 10 ∨ k = 11 ∨ k = 12 ∨ k = 13 ∨ k = 14 ∨ k = 15 ∨ k = 16 by omega) with rfl | rfl | rfl | rfl | rfl | rfl | rfl | rfl | rfl | rfl | rfl | rfl | rfl | rfl | rfl | rfl | rfl
  · exact inX6_0
  · exact inX6_1
  · exact inX6_2
  · exact inX6_3
  · exact inX6_4
  · exact inX6_5
  · exact inX6_6
  · exact inX6_7
  · exact inX6_8
  · exact inX6_9
  · exact inX6_10
  · exact inX6_11
  · exact inX6_12
  · exact inX6_13
  · exact inX6_14
  · exact inX6_15
  · exact inX6_16
set_option maxRecDepth 100000 in
theorem inX7_0 : u_lay RX7 TX7 0 ∈ lw_tb := tb4 (List.mem_of_getElem? (i := 110) rfl) rfl
set_option maxRecDepth 100000 in
theorem inX7_1 : u_lay RX7 TX7 1 ∈ lw_tb := tb4 (List.mem_of_getElem? (i := 112) rfl) rfl
set_option maxRecDepth 100000 in
theorem inX7_2 : u_lay RX7 TX7 2 ∈ lw_tb := tb4 (List.mem_of_getElem? (i := 114) rfl) rfl
set_option maxRecDepth 100000 in
theorem inX7_3 : u_lay RX7 TX7 3 ∈ lw_tb := tb4 (List.mem_of_getElem? (i := 116) rfl) rfl
set_option maxRecDepth 100000 in
theorem inX7_4 : u_lay RX7 TX7 4 ∈ lw_tb := tb4 (List.mem_of_getElem? (i := 118) rfl) rfl
set_option maxRecDepth 100000 in
theorem inX7_5 : u_lay RX7 TX7 5 ∈ lw_tb := tb4 (List.mem_of_getElem? (i := 120) rfl) rfl
set_option maxRecDepth 100000 in
theorem inX7_6 : u_lay RX7 TX7 6 ∈ lw_tb := tb4 (List.mem_of_getElem? (i := 122) rfl) rfl
set_option maxRecDepth 100000 in
theorem inX7_7 : u_lay RX7 TX7 7 ∈ lw_tb := tb4 (List.mem_of_getElem? (i := 124) rfl) rfl
set_option maxRecDepth 100000 in
theorem inX7_8 : u_lay RX7 TX7 8 ∈ lw_tb := tb4 (List.mem_of_getElem? (i := 126) rfl) rfl
set_option maxRecDepth 100000 in
theorem inX7_9 : u_lay RX7 TX7 9 ∈ lw_tb := tb4 (List.mem_of_getElem? (i := 128) rfl) rfl
set_option maxRecDepth 100000 in
theorem inX7_10 : u_lay RX7 TX7 10 ∈ lw_tb := tb4 (List.mem_of_getElem? (i := 130) rfl) rfl
set_option maxRecDepth 100000 in
theorem inX7_11 : u_lay RX7 TX7 11 ∈ lw_tb := tb4 (List.mem_of_getElem? (i := 132) rfl) rfl
set_option maxRecDepth 100000 in
theorem inX7_12 : u_lay RX7 TX7 12 ∈ lw_tb := tb4 (List.mem_of_getElem? (i := 134) rfl) rfl
set_option maxRecDepth 100000 in
theorem inX7_13 : u_lay RX7 TX7 13 ∈ lw_tb := tb4 (List.mem_of_getElem? (i := 136) rfl) rfl
set_option maxRecDepth 100000 in
theorem inX7_14 : u_lay RX7 TX7 14 ∈ lw_tb := tb4 (List.mem_of_getElem? (i := 138) rfl) rfl
set_option maxRecDepth 100000 in
theorem inX7_15 : u_lay RX7 TX7 15 ∈ lw_tb := tb4 (List.mem_of_getElem? (i := 140) rfl) rfl
set_option maxRecDepth 100000 in
theorem inX7_16 : u_lay RX7 TX7 16 ∈ lw_tb := tb4 (List.mem_of_getElem? (i := 142) rfl) rfl
set_option maxRecDepth 100000 in
theorem inX7_17 : u_lay RX7 TX7 17 ∈ lw_tb := tb4 (List.mem_of_getElem? (i := 144) rfl) rfl
set_option maxRecDepth 100000 in
theorem inX7_18 : u_lay RX7 TX7 18 ∈ lw_tb := tb4 (List.mem_of_getElem? (i := 146) rfl) rfl
set_option maxRecDepth 100000 in
theorem inX7_19 : u_lay RX7 TX7 19 ∈ lw_tb := tb4 (List.mem_of_getElem? (i := 148) rfl) rfl
set_option maxRecDepth 100000 in
theorem inX7_20 : u_lay RX7 TX7 20 ∈ lw_tb := tb4 (List.mem_of_getElem? (i := 150) rfl) rfl
set_option maxRecDepth 100000 in
theorem inX7_21 : u_lay RX7 TX7 21 ∈ lw_tb := tb4 (List.mem_of_getElem? (i := 152) rfl) rfl
set_option maxRecDepth 100000 in
theorem inX7_22 : u_lay RX7 TX7 22 ∈ lw_tb := tb4 (List.mem_of_getElem? (i := 154) rfl) rfl
set_option maxRecDepth 100000 in
theorem inX7_23 : u_lay RX7 TX7 23 ∈ lw_tb := tb4 (List.mem_of_getElem? (i := 156) rfl) rfl
set_option maxRecDepth 100000 in
theorem inX7_24 : u_lay RX7 TX7 24 ∈ lw_tb := tb4 (List.mem_of_getElem? (i := 158) rfl) rfl
set_option maxRecDepth 100000 in
theorem inX7_25 : u_lay RX7 TX7 25 ∈ lw_tb := tb4 (List.mem_of_getElem? (i := 160) rfl) rfl
set_option maxRecDepth 100000 in
theorem inX7_26 : u_lay RX7 TX7 26 ∈ lw_tb := tb4 (List.mem_of_getElem? (i := 162) rfl) rfl
theorem inX7 : ∀ w ∈ u_ws RX7 TX7 27, w ∈ lw_tb := by
  intro w hw
  obtain ⟨k, hk, rfl⟩ := List.mem_map.mp hw
  have hk := List.mem_range.mp hk
  rcases (show k = 0 ∨ k = 1 ∨ k = 2 ∨ k = 3 ∨ k = 4 ∨ k = 5 ∨ k = 6 ∨ k = 7 ∨ k = 8 ∨ k = 9 ∨ k = 10 ∨ k = 11 ∨ k = 12 ∨ k = 13 ∨ k = 14 ∨ k = 15 ∨ k = 16 ∨ k = 17 ∨ k = 18 ∨ k = 19 ∨ k = 20 ∨ k = 21 ∨ k = 22 ∨ k = 23 ∨ k = 24 ∨ k = 25 ∨ k = 26 by omega) with rfl | rfl | rfl | rfl | rfl | rfl | rfl | rfl | rfl | rfl | rfl | rfl | rfl | rfl | rfl | rfl | rfl | rfl | rfl | rfl | rfl | rfl | rfl | rfl | rfl | rfl | rfl
  · exact inX7_0
  · exact inX7_1
  · exact inX7_2
  · exact inX7_3
  · exact inX7_4
  · exact inX7_5
  · exact inX7_6
  · exact inX7_7
  · exact inX7_8
  · exact inX7_9
  · exact inX7_10
  · exact inX7_11
  · exact inX7_12
  · exact inX7_13
  · exact inX7_14
  · exact inX7_15
  · exact inX7_16
  · exact inX7_17
  · exact inX7_18
  · exact inX7_19
  · exact inX7_20
  · exact inX7_21
  · exact inX7_22
  · exact inX7_23
  · exact inX7_24
  · exact inX7_25
  · exact inX7_26
theorem mw_X0_above : MwV RX0 yX0_above cX0_above 1 (some .long) 0 := ⟨by decide +kernel, q745, q746, q76, q747⟩
theorem mw_X0_below : MwV RX0 yX0_below cX0_below 1 (some .long) 0 := ⟨by decide +kernel, q749, q750, q76, q751⟩
theorem mw_X0_takeMean : MwV RX0 yX0_takeMean cX0_takeMean 3 none 2 := ⟨by decide +kernel, q725, q726, q76, q727⟩
theorem mw_X0_takeAtLeast : MwV RX0 yX0_takeAtLeast cX0_takeAtLeast 5 none 3 := ⟨by decide +kernel, q734, q735, q76, q736⟩
theorem mw_X0_countWays : MwV RX0 yX0_countWays cX0_countWays 5 none 2 := ⟨by decide +kernel, q739, q33, q76, q740⟩
theorem mw_X0_reduce : MwV RX0 yX0_reduce cX0_reduce 2 none 0 := ⟨by decide +kernel, q731, q32, q76, q732⟩
theorem mw_X1_bytes : MwV RX1 yX1_bytes cX1_bytes 1 (some .int) 0 := ⟨by decide +kernel, q372, q373, q73, q374⟩
theorem mw_X1_rows : MwV RX1 yX1_rows cX1_rows 1 (some .int) 0 := ⟨by decide +kernel, q816, q817, q73, q818⟩
theorem mw_X1_columns : MwV RX1 yX1_columns cX1_columns 1 (some .int) 0 := ⟨by decide +kernel, q513, q514, q73, q515⟩
theorem mw_X1_cells : MwV RX1 yX1_cells cX1_cells 1 (some .int) 0 := ⟨by decide +kernel, q342, q343, q73, q344⟩
theorem mw_X1_faultPlace : MwV RX1 yX1_faultPlace cX1_faultPlace 1 (some .int) 0 := ⟨by decide +kernel, q388, q389, q73, q390⟩
theorem mw_X1_heightOf : MwV RX1 yX1_heightOf cX1_heightOf 2 (some .int) 1 := ⟨by decide +kernel, q401, q402, q73, q403⟩
theorem mw_X1_columnOf : MwV RX1 yX1_columnOf cX1_columnOf 2 (some .int) 1 := ⟨by decide +kernel, q517, q518, q73, q519⟩
theorem mw_X1_rowStart : MwV RX1 yX1_rowStart cX1_rowStart 2 (some .int) 1 := ⟨by decide +kernel, q565, q566, q73, q567⟩
theorem mw_X1_isFull : MwV RX1 yX1_isFull cX1_isFull 1 (some .boolean) 0 := ⟨by decide +kernel, q307, q308, q73, q309⟩
theorem mw_X1_append : MwV RX1 yX1_append cX1_append 2 none 1 := ⟨by decide +kernel, q311, q312, q73, q313⟩
theorem mw_X1_empty : MwV RX1 yX1_empty cX1_empty 1 none 0 := ⟨by decide +kernel, q380, q381, q73, q382⟩
theorem mw_X1_survey : MwV RX1 yX1_survey cX1_survey 1 none 0 := ⟨by decide +kernel, q317, q0, q73, q318⟩
theorem mw_X1_findFault : MwV RX1 yX1_findFault cX1_findFault 5 (some .int) 0 := ⟨by decide +kernel, q321, q1, q73, q322⟩
theorem mw_X1_endsRow : MwS yX1_endsRow cX1_endsRow 3 (some .boolean) 3 := ⟨by decide +kernel, q327, q73, q328⟩
theorem mw_X1_layCells : MwV RX1 yX1_layCells cX1_layCells 3 none 0 := ⟨by decide +kernel, q331, q2, q73, q332⟩
theorem mw_X1_isFigure : MwS yX1_isFigure cX1_isFigure 1 (some .boolean) 1 := ⟨by decide +kernel, q324, q73, q325⟩
theorem mw_X2_firstPart : MwV RX2 yX2_firstPart cX2_firstPart 1 (some .int) 0 := ⟨by decide +kernel, q552, q553, q74, q554⟩
theorem mw_X2_leastDifference : MwV RX2 yX2_leastDifference cX2_leastDifference 1 (some .int) 0 := ⟨by decide +kernel, q548, q549, q74, q550⟩
theorem mw_X2_partAfter : MwV RX2 yX2_partAfter cX2_partAfter 1 (some .int) 0 := ⟨by decide +kernel, q600, q601, q74, q602⟩
theorem mw_X2_fewestMoved : MwV RX2 yX2_fewestMoved cX2_fewestMoved 1 (some .int) 0 := ⟨by decide +kernel, q596, q597, q74, q598⟩
theorem mw_X2_part : MwV RX2 yX2_part cX2_part 5 none 2 := ⟨by decide +kernel, q504, q505, q74, q506⟩
theorem mw_X2_partAgain : MwV RX2 yX2_partAgain cX2_partAgain 6 none 3 := ⟨by decide +kernel, q591, q592, q74, q593⟩
theorem mw_X2_prepare : MwV RX2 yX2_prepare cX2_prepare 5 none 2 := ⟨by decide +kernel, q509, q11, q74, q510⟩
theorem mw_X2_fillSums : MwV RX2 yX2_fillSums cX2_fillSums 8 none 3 := ⟨by decide +kernel, q522, q12, q74, q523⟩
theorem mw_X2_sumOf : MwV RX2 yX2_sumOf cX2_sumOf 2 (some .int) 1 := ⟨by decide +kernel, q530, q14, q74, q531⟩
theorem mw_X2_differenceOf : MwV RX2 yX2_differenceOf cX2_differenceOf 2 (some .int) 1 := ⟨by decide +kernel, q526, q13, q74, q527⟩
theorem mw_X2_bothHang : MwV RX2 yX2_bothHang cX2_bothHang 2 (some .boolean) 1 := ⟨by decide +kernel, q537, q15, q74, q538⟩
theorem mw_X2_hangs : MwV RX2 yX2_hangs cX2_hangs 5 (some .boolean) 1 := ⟨by decide +kernel, q541, q16, q74, q542⟩
theorem mw_X2_nextTo : MwV RX2 yX2_nextTo cX2_nextTo 4 (some .int) 1 := ⟨by decide +kernel, q545, q17, q74, q546⟩
theorem mw_X3_changeNeed : MwV RX3 yX3_changeNeed cX3_changeNeed 4 (some .int) 2 := ⟨by decide +kernel, q652, q653, q75, q654⟩
theorem mw_X3_changePay : MwV RX3 yX3_changePay cX3_changePay 4 (some .int) 2 := ⟨by decide +kernel, q656, q657, q75, q658⟩
theorem mw_X3_mostPaid : MwV RX3 yX3_mostPaid cX3_mostPaid 1 (some .int) 0 := ⟨by decide +kernel, q691, q692, q75, q693⟩
theorem mw_X3_sortOn : MwV RX3 yX3_sortOn cX3_sortOn 2 (some .int) 1 := ⟨by decide +kernel, q695, q696, q75, q697⟩
theorem mw_X3_plant : MwV RX3 yX3_plant cX3_plant 5 none 2 := ⟨by decide +kernel, q664, q665, q75, q666⟩
theorem mw_X3_bestFrom : MwV RX3 yX3_bestFrom cX3_bestFrom 6 (some .int) 3 := ⟨by decide +kernel, q669, q27, q75, q670⟩
theorem mw_X3_leastSort : MwV RX3 yX3_leastSort cX3_leastSort 6 (some .int) 3 := ⟨by decide +kernel, q688, q30, q75, q689⟩
theorem mw_X3_mayStand : MwV RX3 yX3_mayStand cX3_mayStand 4 (some .boolean) 3 := ⟨by decide +kernel, q680, q29, q75, q681⟩
theorem mw_X3_payFrom : MwV RX3 yX3_payFrom cX3_payFrom 5 (some .int) 3 := ⟨by decide +kernel, q673, q28, q75, q674⟩
theorem mw_X3_standAhead : MwS yX3_standAhead cX3_standAhead 2 (some .int) 2 := ⟨by decide +kernel, q683, q75, q684⟩
theorem mw_X3_weightOf : MwS yX3_weightOf cX3_weightOf 1 (some .int) 1 := ⟨by decide +kernel, q676, q75, q677⟩
theorem mw_X4_isLost : MwV RX4 yX4_isLost cX4_isLost 2 (some .boolean) 1 := ⟨by decide +kernel, q425, q426, q77, q427⟩
theorem mw_X4_sizeOf : MwV RX4 yX4_sizeOf cX4_sizeOf 2 (some .int) 1 := ⟨by decide +kernel, q433, q434, q77, q435⟩
theorem mw_X4_formOf : MwV RX4 yX4_formOf cX4_formOf 2 (some .int) 1 := ⟨by decide +kernel, q777, q778, q77, q779⟩
theorem mw_X4_lay : MwV RX4 yX4_lay cX4_lay 5 none 3 := ⟨by decide +kernel, q757, q758, q77, q759⟩
theorem mw_X4_drop : MwV RX4 yX4_drop cX4_drop 2 none 1 := ⟨by decide +kernel, q765, q766, q77, q767⟩
theorem mw_X4_itemAt : MwV RX4 yX4_itemAt cX4_itemAt 3 (some .int) 2 := ⟨by decide +kernel, q440, q441, q77, q442⟩
theorem mw_X4_store : MwV RX4 yX4_store cX4_store 4 none 3 := ⟨by decide +kernel, q781, q782, q77, q783⟩
theorem mw_X4_holds : MwV RX4 yX4_holds cX4_holds 4 (some .boolean) 3 := ⟨by decide +kernel, q797, q798, q77, q799⟩
theorem mw_X4_carry : MwV RX4 yX4_carry cX4_carry 6 none 5 := ⟨by decide +kernel, q801, q802, q77, q803⟩
theorem mw_X4_narrow : MwS yX4_narrow cX4_narrow 2 (some .int) 2 := ⟨by decide +kernel, q785, q77, q786⟩
theorem mw_X5_steepness : MwS yX5_steepness cX5_steepness 2 (some .int) 2 := ⟨by decide +kernel, q456, q72, q457⟩
theorem mw_X5_standingOn : MwV RX5 yX5_standingOn cX5_standingOn 2 (some .int) 1 := ⟨by decide +kernel, q405, q406, q72, q407⟩
theorem mw_X5_build : MwV RX5 yX5_build cX5_build 4 (some .int) 2 := ⟨by decide +kernel, q413, q414, q72, q415⟩
theorem mw_X5_daysOf : MwV RX5 yX5_daysOf cX5_daysOf 2 (some .int) 1 := ⟨by decide +kernel, q616, q617, q72, q618⟩
theorem mw_X5_lengthen : MwV RX5 yX5_lengthen cX5_lengthen 4 (some .int) 2 := ⟨by decide +kernel, q448, q449, q72, q450⟩
theorem mw_X5_allDays : MwV RX5 yX5_allDays cX5_allDays 3 (some .int) 0 := ⟨by decide +kernel, q832, q833, q72, q834⟩
theorem mw_X5_years : MwV RX5 yX5_years cX5_years 1 (some (.array .int)) 0 := ⟨by decide +kernel, q500, q501, q72, q502⟩
theorem mw_X5_yearOf : MwV RX5 yX5_yearOf cX5_yearOf 2 (some .int) 1 := ⟨by decide +kernel, q480, q481, q72, q482⟩
theorem mw_X5_allYears : MwV RX5 yX5_allYears cX5_allYears 3 (some .int) 0 := ⟨by decide +kernel, q828, q829, q72, q830⟩
theorem mw_X5_bitsOf : MwV RX5 yX5_bitsOf cX5_bitsOf 3 (some .int) 2 := ⟨by decide +kernel, q472, q473, q72, q474⟩
theorem mw_X5_hoursOf : MwV RX5 yX5_hoursOf cX5_hoursOf 3 (some .int) 2 := ⟨by decide +kernel, q484, q485, q72, q486⟩
theorem mw_X5_measure : MwV RX5 yX5_measure cX5_measure 4 none 0 := ⟨by decide +kernel, q338, q339, q72, q340⟩
theorem mw_X5_yearAsBuilt : MwV RX5 yX5_yearAsBuilt cX5_yearAsBuilt 5 (some .int) 1 := ⟨by decide +kernel, q368, q369, q72, q370⟩
theorem mw_X5_nearestShader : MwV RX5 yX5_nearestShader cX5_nearestShader 7 (some .int) 3 := ⟨by decide +kernel, q463, q464, q72, q465⟩
theorem mw_X5_bitsAsBuilt : MwV RX5 yX5_bitsAsBuilt cX5_bitsAsBuilt 5 (some .int) 2 := ⟨by decide +kernel, q347, q4, q72, q348⟩
theorem mw_X5_darkHours : MwV RX5 yX5_darkHours cX5_darkHours 9 (some .int) 3 := ⟨by decide +kernel, q351, q5, q72, q352⟩
theorem mw_X5_reachOf : MwV RX5 yX5_reachOf cX5_reachOf 4 (some .int) 2 := ⟨by decide +kernel, q355, q6, q72, q356⟩
theorem mw_X5_rise : MwV RX5 yX5_rise cX5_rise 4 (some .int) 2 := ⟨by decide +kernel, q359, q7, q72, q360⟩
theorem mw_X6_type : MwV RX6 yX6_type cX6_type 2 (some .int) 1 := ⟨by decide +kernel, q300, q301, q71, q302⟩
theorem mw_X6_wipe : MwV RX6 yX6_wipe cX6_wipe 2 (some .int) 0 := ⟨by decide +kernel, q376, q377, q71, q378⟩
theorem mw_X6_fault : MwV RX6 yX6_fault cX6_fault 1 (some .int) 0 := ⟨by decide +kernel, q384, q385, q71, q386⟩
theorem mw_X6_cell : MwV RX6 yX6_cell cX6_cell 3 (some .int) 2 := ⟨by decide +kernel, q392, q393, q71, q394⟩
theorem mw_X6_stand : MwV RX6 yX6_stand cX6_stand 4 (some .int) 2 := ⟨by decide +kernel, q409, q410, q71, q411⟩
theorem mw_X6_owner : MwV RX6 yX6_owner cX6_owner 4 (some .int) 2 := ⟨by decide +kernel, q417, q418, q71, q419⟩
theorem mw_X6_read : MwV RX6 yX6_read cX6_read 4 (some .int) 1 := ⟨by decide +kernel, q421, q422, q71, q423⟩
theorem mw_X6_days : MwV RX6 yX6_days cX6_days 4 (some .int) 2 := ⟨by decide +kernel, q444, q445, q71, q446⟩
theorem mw_X6_steep : MwV RX6 yX6_steep cX6_steep 3 (some .int) 2 := ⟨by decide +kernel, q452, q453, q71, q454⟩
theorem mw_X6_shade : MwV RX6 yX6_shade cX6_shade 4 (some .int) 3 := ⟨by decide +kernel, q459, q460, q71, q461⟩
theorem mw_X6_light : MwV RX6 yX6_light cX6_light 3 (some .int) 2 := ⟨by decide +kernel, q468, q469, q71, q470⟩
theorem mw_X6_hours : MwV RX6 yX6_hours cX6_hours 3 (some .int) 2 := ⟨by decide +kernel, q476, q477, q71, q478⟩
theorem mw_X6_has : MwV RX6 yX6_has cX6_has 6 (some .int) 2 := ⟨by decide +kernel, q488, q489, q71, q490⟩
theorem mw_X6_parts : MwV RX6 yX6_parts cX6_parts 2 (some .int) 1 := ⟨by decide +kernel, q492, q493, q71, q494⟩
theorem mw_X6_taken : MwV RX6 yX6_taken cX6_taken 4 (some .int) 3 := ⟨by decide +kernel, q556, q557, q71, q558⟩
theorem mw_X6_highest : MwV RX6 yX6_highest cX6_highest 5 (some .int) 2 := ⟨by decide +kernel, q571, q572, q71, q573⟩
theorem mw_X6_again : MwV RX6 yX6_again cX6_again 4 (some .int) 3 := ⟨by decide +kernel, q583, q584, q71, q585⟩
theorem mw_X6_worth : MwV RX6 yX6_worth cX6_worth 6 (some .int) 3 := ⟨by decide +kernel, q604, q605, q71, q606⟩
theorem mw_X6_value : MwV RX6 yX6_value cX6_value 3 (some .int) 2 := ⟨by decide +kernel, q608, q609, q71, q610⟩
theorem mw_X6_change : MwV RX6 yX6_change cX6_change 3 (some .int) 2 := ⟨by decide +kernel, q620, q621, q71, q622⟩
theorem mw_X6_changes : MwV RX6 yX6_changes cX6_changes 2 (some .int) 1 := ⟨by decide +kernel, q632, q633, q71, q634⟩
theorem mw_X6_sort : MwV RX6 yX6_sort cX6_sort 4 (some .int) 3 := ⟨by decide +kernel, q648, q649, q71, q650⟩
theorem mw_X6_set : MwV RX6 yX6_set cX6_set 2 (some .int) 1 := ⟨by decide +kernel, q660, q661, q71, q662⟩
theorem mw_X6_seen : MwV RX6 yX6_seen cX6_seen 3 (some .int) 2 := ⟨by decide +kernel, q699, q700, q71, q701⟩
theorem mw_X6_forget : MwV RX6 yX6_forget cX6_forget 2 (some .int) 0 := ⟨by decide +kernel, q703, q704, q71, q705⟩
theorem mw_X6_whose : MwV RX6 yX6_whose cX6_whose 5 (some .int) 1 := ⟨by decide +kernel, q707, q708, q71, q709⟩
theorem mw_X6_clouds : MwV RX6 yX6_clouds cX6_clouds 4 (some .int) 2 := ⟨by decide +kernel, q716, q717, q71, q718⟩
theorem mw_X6_clear : MwV RX6 yX6_clear cX6_clear 6 (some .long) 4 := ⟨by decide +kernel, q720, q721, q71, q722⟩
theorem mw_X6_sheet : MwV RX6 yX6_sheet cX6_sheet 4 (some .int) 3 := ⟨by decide +kernel, q753, q754, q71, q755⟩
theorem mw_X6_lose : MwV RX6 yX6_lose cX6_lose 3 (some .int) 1 := ⟨by decide +kernel, q761, q762, q71, q763⟩
theorem mw_X6_put : MwV RX6 yX6_put cX6_put 6 (some .int) 4 := ⟨by decide +kernel, q769, q770, q71, q771⟩
theorem mw_X6_get : MwV RX6 yX6_get cX6_get 4 (some .int) 3 := ⟨by decide +kernel, q788, q789, q71, q790⟩
theorem mw_X6_copy : MwV RX6 yX6_copy cX6_copy 6 (some .int) 5 := ⟨by decide +kernel, q793, q794, q71, q795⟩
theorem mw_X6_write : MwV RX6 yX6_write cX6_write 5 (some .int) 2 := ⟨by decide +kernel, q808, q809, q71, q810⟩
theorem mw_X6_count : MwV RX6 yX6_count cX6_count 2 (some .int) 1 := ⟨by decide +kernel, q812, q813, q71, q814⟩
theorem mw_X6_digest : MwV RX6 yX6_digest cX6_digest 4 (some .long) 0 := ⟨by decide +kernel, q836, q837, q71, q838⟩
theorem mw_X6_mix : MwS yX6_mix cX6_mix 4 (some .long) 2 := ⟨by decide +kernel, q842, q71, q843⟩
theorem mw_X6_mixCell : MwV RX6 yX6_mixCell cX6_mixCell 7 (some .long) 2 := ⟨by decide +kernel, q848, q37, q71, q849⟩
theorem mw_X6_mixChances : MwV RX6 yX6_mixChances cX6_mixChances 6 (some .long) 2 := ⟨by decide +kernel, q859, q38, q71, q860⟩
theorem mw_X6_isBelow : MwS yX6_isBelow cX6_isBelow 2 (some .boolean) 2 := ⟨by decide +kernel, q304, q71, q305⟩
theorem mw_X6_isCell : MwV RX6 yX6_isCell cX6_isCell 2 (some .boolean) 1 := ⟨by decide +kernel, q397, q8, q71, q398⟩
theorem mw_X6_found : MwV RX6 yX6_found cX6_found 2 (some .int) 1 := ⟨by decide +kernel, q430, q9, q71, q431⟩
theorem mw_X6_refuseItem : MwV RX6 yX6_refuseItem cX6_refuseItem 4 (some .int) 3 := ⟨by decide +kernel, q774, q34, q71, q775⟩
theorem mw_X6_measureAnew : MwV RX6 yX6_measureAnew cX6_measureAnew 1 none 0 := ⟨by decide +kernel, q335, q3, q71, q336⟩
theorem mw_X6_knowParts : MwV RX6 yX6_knowParts cX6_knowParts 1 none 0 := ⟨by decide +kernel, q497, q10, q71, q498⟩
theorem mw_X6_weighLosses : MwV RX6 yX6_weighLosses cX6_weighLosses 6 none 2 := ⟨by decide +kernel, q562, q18, q71, q563⟩
theorem mw_X6_mostLost : MwV RX6 yX6_mostLost cX6_mostLost 3 (some .int) 0 := ⟨by decide +kernel, q577, q19, q71, q578⟩
theorem mw_X6_weighFall : MwV RX6 yX6_weighFall cX6_weighFall 4 none 1 := ⟨by decide +kernel, q588, q20, q71, q589⟩
theorem mw_X6_worthTo : MwV RX6 yX6_worthTo cX6_worthTo 5 (some .int) 2 := ⟨by decide +kernel, q613, q21, q71, q614⟩
theorem mw_X6_wouldRather : MwV RX6 yX6_wouldRather cX6_wouldRather 3 (some .boolean) 2 := ⟨by decide +kernel, q629, q23, q71, q630⟩
theorem mw_X6_wouldSwap : MwV RX6 yX6_wouldSwap cX6_wouldSwap 3 (some .boolean) 2 := ⟨by decide +kernel, q625, q22, q71, q626⟩
theorem mw_X6_countPairs : MwV RX6 yX6_countPairs cX6_countPairs 4 (some .int) 0 := ⟨by decide +kernel, q637, q24, q71, q638⟩
theorem mw_X6_countRings : MwV RX6 yX6_countRings cX6_countRings 5 (some .int) 0 := ⟨by decide +kernel, q641, q25, q71, q642⟩
theorem mw_X6_isRing : MwV RX6 yX6_isRing cX6_isRing 5 (some .boolean) 3 := ⟨by decide +kernel, q645, q26, q71, q646⟩
theorem mw_X6_fitsAllSeen : MwV RX6 yX6_fitsAllSeen cX6_fitsAllSeen 3 (some .boolean) 1 := ⟨by decide +kernel, q712, q31, q71, q713⟩
theorem mw_X6_countStanding : MwV RX6 yX6_countStanding cX6_countStanding 3 (some .int) 0 := ⟨by decide +kernel, q821, q35, q71, q822⟩
theorem mw_X6_countOwners : MwV RX6 yX6_countOwners cX6_countOwners 3 (some .int) 0 := ⟨by decide +kernel, q825, q36, q71, q826⟩
theorem mw_X7_in : MwS yX7_in cX7_in 3 (some .boolean) 3 := ⟨by decide +kernel, q961, q79, q962⟩
theorem mw_X7_isIn : MwS yX7_isIn cX7_isIn 2 (some .boolean) 2 := ⟨by decide +kernel, q1091, q79, q1092⟩
theorem mw_X7_ones : MwS yX7_ones cX7_ones 3 (some .int) 1 := ⟨by decide +kernel, q1056, q79, q1057⟩
theorem mw_X7_no : MwS yX7_no cX7_no 1 (some .long) 1 := ⟨by decide +kernel, q1211, q79, q1212⟩
theorem mw_X7_lowest : MwS yX7_lowest cX7_lowest 11 (some .long) 3 := ⟨by decide +kernel, q1208, q79, q1209⟩
theorem mw_X7_type : MwV RX7 yX7_type cX7_type 2 (some .int) 1 := ⟨by decide +kernel, q957, q958, q79, q959⟩
theorem mw_X7_wipe : MwV RX7 yX7_wipe cX7_wipe 2 (some .int) 0 := ⟨by decide +kernel, q964, q965, q79, q966⟩
theorem mw_X7_figureAt : MwV RX7 yX7_figureAt cX7_figureAt 3 (some .int) 1 := ⟨by decide +kernel, q977, q40, q79, q978⟩
theorem mw_X7_faultNow : MwV RX7 yX7_faultNow cX7_faultNow 6 (some .int) 0 := ⟨by decide +kernel, q973, q39, q79, q974⟩
theorem mw_X7_fault : MwV RX7 yX7_fault cX7_fault 1 (some .int) 0 := ⟨by decide +kernel, q968, q969, q79, q970⟩
theorem mw_X7_isCell : MwV RX7 yX7_isCell cX7_isCell 3 (some .boolean) 1 := ⟨by decide +kernel, q985, q41, q79, q986⟩
theorem mw_X7_isTwelve : MwS yX7_isTwelve cX7_isTwelve 1 (some .boolean) 1 := ⟨by decide +kernel, q996, q79, q997⟩
theorem mw_X7_isFour : MwS yX7_isFour cX7_isFour 1 (some .boolean) 1 := ⟨by decide +kernel, q1003, q79, q1004⟩
theorem mw_X7_cellOf : MwV RX7 yX7_cellOf cX7_cellOf 3 (some .int) 2 := ⟨by decide +kernel, q989, q42, q79, q990⟩
theorem mw_X7_cell : MwV RX7 yX7_cell cX7_cell 3 (some .int) 2 := ⟨by decide +kernel, q980, q981, q79, q982⟩
theorem mw_X7_stand : MwV RX7 yX7_stand cX7_stand 4 (some .int) 2 := ⟨by decide +kernel, q992, q993, q79, q994⟩
theorem mw_X7_owner : MwV RX7 yX7_owner cX7_owner 4 (some .int) 2 := ⟨by decide +kernel, q999, q1000, q79, q1001⟩
theorem mw_X7_read : MwV RX7 yX7_read cX7_read 3 (some .int) 1 := ⟨by decide +kernel, q1006, q1007, q79, q1008⟩
theorem mw_X7_days : MwV RX7 yX7_days cX7_days 4 (some .int) 2 := ⟨by decide +kernel, q1017, q1018, q79, q1019⟩
theorem mw_X7_steepOf : MwS yX7_steepOf cX7_steepOf 2 (some .int) 2 := ⟨by decide +kernel, q1025, q79, q1026⟩
theorem mw_X7_steep : MwV RX7 yX7_steep cX7_steep 3 (some .int) 2 := ⟨by decide +kernel, q1021, q1022, q79, q1023⟩
theorem mw_X7_shadeOf : MwV RX7 yX7_shadeOf cX7_shadeOf 8 (some .int) 3 := ⟨by decide +kernel, q1033, q44, q79, q1034⟩
theorem mw_X7_shade : MwV RX7 yX7_shade cX7_shade 4 (some .int) 3 := ⟨by decide +kernel, q1028, q1029, q79, q1030⟩
theorem mw_X7_lightOf : MwV RX7 yX7_lightOf cX7_lightOf 5 (some .int) 2 := ⟨by decide +kernel, q1041, q45, q79, q1042⟩
theorem mw_X7_light : MwV RX7 yX7_light cX7_light 3 (some .int) 2 := ⟨by decide +kernel, q1036, q1037, q79, q1038⟩
theorem mw_X7_yearOf : MwV RX7 yX7_yearOf cX7_yearOf 4 (some .int) 1 := ⟨by decide +kernel, q1053, q47, q79, q1054⟩
theorem mw_X7_hoursOf : MwV RX7 yX7_hoursOf cX7_hoursOf 3 (some .int) 2 := ⟨by decide +kernel, q1049, q46, q79, q1050⟩
theorem mw_X7_hours : MwV RX7 yX7_hours cX7_hours 3 (some .int) 2 := ⟨by decide +kernel, q1044, q1045, q79, q1046⟩
theorem mw_X7_hasOf : MwV RX7 yX7_hasOf cX7_hasOf 7 (some .int) 2 := ⟨by decide +kernel, q1064, q48, q79, q1065⟩
theorem mw_X7_has : MwV RX7 yX7_has cX7_has 3 (some .int) 2 := ⟨by decide +kernel, q1059, q1060, q79, q1061⟩
theorem mw_X7_laysYears : MwV RX7 yX7_laysYears cX7_laysYears 2 none 0 := ⟨by decide +kernel, q1080, q51, q79, q1081⟩
theorem mw_X7_isNext : MwV RX7 yX7_isNext cX7_isNext 4 (some .boolean) 2 := ⟨by decide +kernel, q1103, q56, q79, q1104⟩
theorem mw_X7_hangs : MwV RX7 yX7_hangs cX7_hangs 6 (some .boolean) 1 := ⟨by decide +kernel, q1099, q55, q79, q1100⟩
theorem mw_X7_all : MwV RX7 yX7_all cX7_all 1 (some .int) 0 := ⟨by decide +kernel, q1084, q52, q79, q1085⟩
theorem mw_X7_isParting : MwV RX7 yX7_isParting cX7_isParting 2 (some .boolean) 1 := ⟨by decide +kernel, q1095, q54, q79, q1096⟩
theorem mw_X7_differs : MwV RX7 yX7_differs cX7_differs 4 (some .int) 1 := ⟨by decide +kernel, q1088, q53, q79, q1089⟩
theorem mw_X7_partsNow : MwV RX7 yX7_partsNow cX7_partsNow 5 (some .int) 0 := ⟨by decide +kernel, q1076, q50, q79, q1077⟩
theorem mw_X7_partsOf : MwV RX7 yX7_partsOf cX7_partsOf 3 (some .int) 1 := ⟨by decide +kernel, q1072, q49, q79, q1073⟩
theorem mw_X7_parts : MwV RX7 yX7_parts cX7_parts 2 (some .int) 1 := ⟨by decide +kernel, q1067, q1068, q79, q1069⟩
theorem mw_X7_takenOf : MwV RX7 yX7_takenOf cX7_takenOf 7 (some .int) 3 := ⟨by decide +kernel, q1111, q57, q79, q1112⟩
theorem mw_X7_taken : MwV RX7 yX7_taken cX7_taken 4 (some .int) 3 := ⟨by decide +kernel, q1106, q1107, q79, q1108⟩
theorem mw_X7_highestOf : MwV RX7 yX7_highestOf cX7_highestOf 7 (some .int) 2 := ⟨by decide +kernel, q1121, q58, q79, q1122⟩
theorem mw_X7_highest : MwV RX7 yX7_highest cX7_highest 3 (some .int) 2 := ⟨by decide +kernel, q1115, q1116, q79, q1117⟩
theorem mw_X7_againOf : MwV RX7 yX7_againOf cX7_againOf 9 (some .int) 3 := ⟨by decide +kernel, q1129, q59, q79, q1130⟩
theorem mw_X7_again : MwV RX7 yX7_again cX7_again 4 (some .int) 3 := ⟨by decide +kernel, q1124, q1125, q79, q1126⟩
theorem mw_X7_worth : MwV RX7 yX7_worth cX7_worth 5 (some .int) 3 := ⟨by decide +kernel, q1132, q1133, q79, q1134⟩
theorem mw_X7_valueOf : MwV RX7 yX7_valueOf cX7_valueOf 5 (some .int) 2 := ⟨by decide +kernel, q1141, q60, q79, q1142⟩
theorem mw_X7_value : MwV RX7 yX7_value cX7_value 3 (some .int) 2 := ⟨by decide +kernel, q1136, q1137, q79, q1138⟩
theorem mw_X7_isRather : MwV RX7 yX7_isRather cX7_isRather 3 (some .boolean) 2 := ⟨by decide +kernel, q1153, q62, q79, q1154⟩
theorem mw_X7_isChange : MwV RX7 yX7_isChange cX7_isChange 3 (some .boolean) 2 := ⟨by decide +kernel, q1149, q61, q79, q1150⟩
theorem mw_X7_change : MwV RX7 yX7_change cX7_change 3 (some .int) 2 := ⟨by decide +kernel, q1144, q1145, q79, q1146⟩
theorem mw_X7_changesOf : MwV RX7 yX7_changesOf cX7_changesOf 9 (some .int) 1 := ⟨by decide +kernel, q1161, q63, q79, q1162⟩
theorem mw_X7_changes : MwV RX7 yX7_changes cX7_changes 2 (some .int) 1 := ⟨by decide +kernel, q1156, q1157, q79, q1158⟩
theorem mw_X7_sort : MwV RX7 yX7_sort cX7_sort 5 (some .int) 3 := ⟨by decide +kernel, q1164, q1165, q79, q1166⟩
theorem mw_X7_fives : MwS yX7_fives cX7_fives 1 (some .int) 1 := ⟨by decide +kernel, q1176, q79, q1177⟩
theorem mw_X7_setOf : MwV RX7 yX7_setOf cX7_setOf 7 (some .int) 1 := ⟨by decide +kernel, q1173, q64, q79, q1174⟩
theorem mw_X7_set : MwV RX7 yX7_set cX7_set 2 (some .int) 1 := ⟨by decide +kernel, q1168, q1169, q79, q1170⟩
theorem mw_X7_seen : MwV RX7 yX7_seen cX7_seen 3 (some .int) 2 := ⟨by decide +kernel, q1179, q1180, q79, q1181⟩
theorem mw_X7_forget : MwV RX7 yX7_forget cX7_forget 2 (some .int) 0 := ⟨by decide +kernel, q1183, q1184, q79, q1185⟩
theorem mw_X7_whoseOf : MwV RX7 yX7_whoseOf cX7_whoseOf 8 (some .int) 1 := ⟨by decide +kernel, q1192, q65, q79, q1193⟩
theorem mw_X7_whose : MwV RX7 yX7_whose cX7_whose 2 (some .int) 1 := ⟨by decide +kernel, q1187, q1188, q79, q1189⟩
theorem mw_X7_clouds : MwV RX7 yX7_clouds cX7_clouds 4 (some .int) 2 := ⟨by decide +kernel, q1195, q1196, q79, q1197⟩
theorem mw_X7_clearOf : MwV RX7 yX7_clearOf cX7_clearOf 12 (some .long) 4 := ⟨by decide +kernel, q1204, q66, q79, q1205⟩
theorem mw_X7_clear : MwV RX7 yX7_clear cX7_clear 5 (some .long) 4 := ⟨by decide +kernel, q1199, q1200, q79, q1201⟩
theorem mw_X7_meets : MwV RX7 yX7_meets cX7_meets 2 (some .int) 1 := ⟨by decide +kernel, q1014, q43, q79, q1015⟩
theorem mw_X7_isSheet : MwS yX7_isSheet cX7_isSheet 1 (some .boolean) 1 := ⟨by decide +kernel, q1010, q79, q1011⟩
theorem mw_X7_sheet : MwV RX7 yX7_sheet cX7_sheet 5 (some .int) 3 := ⟨by decide +kernel, q1215, q1216, q79, q1217⟩
theorem mw_X7_lose : MwV RX7 yX7_lose cX7_lose 2 (some .int) 1 := ⟨by decide +kernel, q1219, q1220, q79, q1221⟩
theorem mw_X7_lacks : MwV RX7 yX7_lacks cX7_lacks 4 (some .int) 3 := ⟨by decide +kernel, q1228, q67, q79, q1229⟩
theorem mw_X7_keep : MwV RX7 yX7_keep cX7_keep 4 none 3 := ⟨by decide +kernel, q1232, q68, q79, q1233⟩
theorem mw_X7_put : MwV RX7 yX7_put cX7_put 6 (some .int) 4 := ⟨by decide +kernel, q1223, q1224, q79, q1225⟩
theorem mw_X7_get : MwV RX7 yX7_get cX7_get 5 (some .int) 3 := ⟨by decide +kernel, q1235, q1236, q79, q1237⟩
theorem mw_X7_copy : MwV RX7 yX7_copy cX7_copy 7 (some .int) 5 := ⟨by decide +kernel, q1240, q1241, q79, q1242⟩
theorem mw_X7_write : MwV RX7 yX7_write cX7_write 5 (some .int) 2 := ⟨by decide +kernel, q1244, q1245, q79, q1246⟩
theorem mw_X7_sumOf : MwV RX7 yX7_sumOf cX7_sumOf 6 (some .int) 1 := ⟨by decide +kernel, q1253, q69, q79, q1254⟩
theorem mw_X7_count : MwV RX7 yX7_count cX7_count 2 (some .int) 1 := ⟨by decide +kernel, q1248, q1249, q79, q1250⟩
theorem mw_X7_digest : MwV RX7 yX7_digest cX7_digest 5 (some .long) 0 := ⟨by decide +kernel, q1256, q1257, q79, q1258⟩
theorem mw_J6_bitCount_0f7a4 : MwS yJ6_bitCount_0f7a4 cJ6_bitCount_0f7a4 1 (some .int) 1 := ⟨by decide +kernel, q362, q80, q363⟩
theorem mw_J9_abs_0f7a4 : MwS yJ9_abs_0f7a4 cJ9_abs_0f7a4 1 (some .int) 1 := ⟨by decide +kernel, q533, q81, q534⟩
theorem mw_J9_max_7cf53 : MwS yJ9_max_7cf53 cJ9_max_7cf53 2 (some .int) 2 := ⟨by decide +kernel, q580, q81, q581⟩
theorem mw_J9_min_7cf53 : MwS yJ9_min_7cf53 cJ9_min_7cf53 2 (some .int) 2 := ⟨by decide +kernel, q437, q81, q438⟩
theorem mw_J7_fill_d0a16 : MwS yJ7_fill_d0a16 cJ7_fill_d0a16 5 none 2 := ⟨by decide +kernel, q742, q78, q743⟩
theorem mw_J7_fill_53178 : MwS yJ7_fill_53178 cJ7_fill_53178 4 none 2 := ⟨by decide +kernel, q245, q78, q246⟩
set_option maxRecDepth 100000 in
theorem qm_min : Cond.code Lib.Math.min.name Lib.Math.min.code 2 (some .int) ∈ lw_tb := tb2 (List.mem_of_getElem? (i := 128) rfl) rfl
set_option maxRecDepth 100000 in
theorem qm_max : Cond.code Lib.Math.max.name Lib.Math.max.code 2 (some .int) ∈ lw_tb := tb3 (List.mem_of_getElem? (i := 31) rfl) rfl
set_option maxRecDepth 100000 in
theorem qm_abs : Cond.code Lib.Math.abs.name Lib.Math.abs.code 1 (some .int) ∈ lw_tb := tb2 (List.mem_of_getElem? (i := 224) rfl) rfl
