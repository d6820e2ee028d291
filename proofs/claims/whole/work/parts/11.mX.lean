section MM
variable {p : Program} {l : Launch} {e : Env} {s : State} {m : MethodId} {args : Array Value} {below : List Frame} {meth : Method} {c : Code} {D : va_G} {ad : Nat → Nat} {n : Nat} {cI cJ cZ : ClassId}
noncomputable def m_X1_empty (S : St) : Option (St) :=
nm (sI S 40 0 (0 : Int32)) fun S1 =>
bndV (m_X1_survey S1) fun S2 =>
some S2
set_option maxRecDepth 20000 in
theorem c_X1_empty {l : Launch} {D : va_G} {ad : Nat → Nat} {cI cJ cZ : ClassId} {n : Nat} (hD : ∀ sz S, va_D (Adr ad n sz) (wX ad cI cJ cZ S)) {S : St} {z : St} (hf : m_X1_empty S = some z) : CtV l yX1_empty cX1_empty 1 none ({ frames := 3, cells := 0, slots := 0, locals := 66 } : Room) D (wX ad cI cJ cZ) (tyX cI cJ cZ) ad n [.ref (ad 2)] S z := by
  refine CtV.of hf (by decide +kernel) (Nat.le_of_ble_eq_true rfl) hD (fun p e s m args below meth c C hr => ?_)
  refine g_sub [0] (lv2 := [(0, .ref (ad 2))]) rfl ?_
  unfold m_X1_empty
  refine g_aload_n (pc := 0) C dX1_empty_0 (i := 0) rfl 0 rfl ?_
  refine g_iconst (pc := 1) (v := 0) C dX1_empty_1 (by decide) ?_
  refine pt_X1_byteCount (pc := 2) C q108 dX1_empty_2 fun S1 => ?_
  refine g_aload_n (pc := 5) C dX1_empty_5 (i := 0) rfl 0 rfl ?_
  refine g_callVv (pc := 6) (As := []) C q315 mw_X1_survey (fun _ hz => c_X1_survey C.2.2.2.2.2.2.2.1 hz) ⟨Nat.le_of_ble_eq_true rfl, Nat.le_of_ble_eq_true rfl⟩ rfl rfl 2 rfl rfl rfl (Nat.le_of_ble_eq_true rfl) dX1_empty_6 fun S2 => ?_
  exact g_vret (pc := 9) C hr dX1_empty_9
noncomputable def m_X6_wipe (S : St) : Option (Int32 × St) :=
bnd (m_X1_bytes S) fun r2 S1 =>
bndV (m_X1_empty S1) fun S3 =>
bndV (m_X6_measureAnew S3) fun S5 =>
some (r2, S5)
set_option maxRecDepth 20000 in
theorem c_X6_wipe {l : Launch} {D : va_G} {ad : Nat → Nat} {cI cJ cZ : ClassId} {n : Nat} (hD : ∀ sz S, va_D (Adr ad n sz) (wX ad cI cJ cZ S)) {S : St} {z : Int32 × St} (hf : m_X6_wipe S = some z) : CtI l yX6_wipe cX6_wipe 2 (some .int) ({ frames := 5, cells := 0, slots := 0, locals := 118 } : Room) D (wX ad cI cJ cZ) (tyX cI cJ cZ) ad n [.ref (ad 0)] S z := by
  refine CtI.of hf (by decide +kernel) (Nat.le_of_ble_eq_true rfl) hD (fun p e s m args below meth c C hr => ?_)
  refine g_sub [0] (lv2 := [(0, .ref (ad 0))]) rfl ?_
  unfold m_X6_wipe
  refine g_aload_n (pc := 0) C dX6_wipe_0 (i := 0) rfl 0 rfl ?_
  refine gt_X6_ground (pc := 1) C q248 dX6_wipe_1 ?_
  refine g_callVi (pc := 4) (As := []) C q371 mw_X1_bytes (fun _ hz => c_X1_bytes C.2.2.2.2.2.2.2.1 hz) ⟨Nat.le_of_ble_eq_true rfl, Nat.le_of_ble_eq_true rfl⟩ rfl rfl 2 rfl rfl rfl (Nat.le_of_ble_eq_true rfl) dX6_wipe_4 fun r2 S1 => ?_
  refine g_istore_n (pc := 7) (i := 1) (lv2 := [(1, .int r2), (0, .ref (ad 0))]) C dX6_wipe_7 rfl (by decide) rfl ?_
  refine g_aload_n (pc := 8) C dX6_wipe_8 (i := 0) rfl 1 rfl ?_
  refine gt_X6_ground (pc := 9) C q248 dX6_wipe_9 ?_
  refine g_callVv (pc := 12) (As := []) C q379 mw_X1_empty (fun _ hz => c_X1_empty C.2.2.2.2.2.2.2.1 hz) ⟨Nat.le_of_ble_eq_true rfl, Nat.le_of_ble_eq_true rfl⟩ rfl rfl 2 rfl rfl rfl (Nat.le_of_ble_eq_true rfl) dX6_wipe_12 fun S3 => ?_
  refine g_aload_n (pc := 15) C dX6_wipe_15 (i := 0) rfl 1 rfl ?_
  refine g_callVv (pc := 16) (As := []) C q333 mw_X6_measureAnew (fun _ hz => c_X6_measureAnew C.2.2.2.2.2.2.2.1 hz) ⟨Nat.le_of_ble_eq_true rfl, Nat.le_of_ble_eq_true rfl⟩ rfl rfl 0 rfl rfl rfl (Nat.le_of_ble_eq_true rfl) dX6_wipe_16 fun S5 => ?_
  refine g_iload_n (pc := 19) C dX6_wipe_19 (i := 1) rfl 0 rfl ?_
  exact g_iret (pc := 20) C hr dX6_wipe_20
noncomputable def m_X1_faultPlace (S : St) : Option (Int32 × St) :=
some ((gI S 44 0), S)
set_option maxRecDepth 20000 in
theorem c_X1_faultPlace {l : Launch} {D : va_G} {ad : Nat → Nat} {cI cJ cZ : ClassId} {n : Nat} (hD : ∀ sz S, va_D (Adr ad n sz) (wX ad cI cJ cZ S)) {S : St} {z : Int32 × St} (hf : m_X1_faultPlace S = some z) : CtI l yX1_faultPlace cX1_faultPlace 1 (some .int) ({ frames := 0, cells := 0, slots := 0, locals := 0 } : Room) D (wX ad cI cJ cZ) (tyX cI cJ cZ) ad n [.ref (ad 2)] S z := by
  refine CtI.of hf (by decide +kernel) (Nat.le_of_ble_eq_true rfl) hD (fun p e s m args below meth c C hr => ?_)
  refine g_sub [0] (lv2 := [(0, .ref (ad 2))]) rfl ?_
  unfold m_X1_faultPlace
  refine g_aload_n (pc := 0) C dX1_faultPlace_0 (i := 0) rfl 0 rfl ?_
  refine gt_X1_faultAt (pc := 1) C q113 dX1_faultPlace_1 ?_
  exact g_iret (pc := 4) C hr dX1_faultPlace_4
noncomputable def m_X6_fault (S : St) : Option (Int32 × St) :=
bnd (m_X1_faultPlace S) fun r2 S1 =>
some (r2, S1)
set_option maxRecDepth 20000 in
theorem c_X6_fault {l : Launch} {D : va_G} {ad : Nat → Nat} {cI cJ cZ : ClassId} {n : Nat} (hD : ∀ sz S, va_D (Adr ad n sz) (wX ad cI cJ cZ S)) {S : St} {z : Int32 × St} (hf : m_X6_fault S = some z) : CtI l yX6_fault cX6_fault 1 (some .int) ({ frames := 1, cells := 0, slots := 0, locals := 20 } : Room) D (wX ad cI cJ cZ) (tyX cI cJ cZ) ad n [.ref (ad 0)] S z := by
  refine CtI.of hf (by decide +kernel) (Nat.le_of_ble_eq_true rfl) hD (fun p e s m args below meth c C hr => ?_)
  refine g_sub [0] (lv2 := [(0, .ref (ad 0))]) rfl ?_
  unfold m_X6_fault
  refine g_aload_n (pc := 0) C dX6_fault_0 (i := 0) rfl 0 rfl ?_
  refine gt_X6_ground (pc := 1) C q248 dX6_fault_1 ?_
  refine g_callVi (pc := 4) (As := []) C q387 mw_X1_faultPlace (fun _ hz => c_X1_faultPlace C.2.2.2.2.2.2.2.1 hz) ⟨Nat.le_of_ble_eq_true rfl, Nat.le_of_ble_eq_true rfl⟩ rfl rfl 2 rfl rfl rfl (Nat.le_of_ble_eq_true rfl) dX6_fault_4 fun r2 S1 => ?_
  exact g_iret (pc := 7) C hr dX6_fault_7
noncomputable def m_X6_isCell (x1 : Int32) (S : St) : Option (Int32 × St) :=
bnd (m_X1_cells S) fun r2 S1 =>
bnd (m_X6_isBelow x1 r2 S1) fun r4 S3 =>
zchk r4 (some (r4, S3))
set_option maxRecDepth 20000 in
theorem c_X6_isCell {l : Launch} {D : va_G} {ad : Nat → Nat} {cI cJ cZ : ClassId} {n : Nat} (hD : ∀ sz S, va_D (Adr ad n sz) (wX ad cI cJ cZ S)) {x1 : Int32} {S : St} {z : Int32 × St} (hf : m_X6_isCell x1 S = some z) : CtI l yX6_isCell cX6_isCell 2 (some .boolean) ({ frames := 1, cells := 0, slots := 0, locals := 21 } : Room) D (wX ad cI cJ cZ) (tyX cI cJ cZ) ad n [.ref (ad 0), .int x1] S z := by
  refine CtI.of hf (by decide +kernel) (Nat.le_of_ble_eq_true rfl) hD (fun p e s m args below meth c C hr => ?_)
  refine g_sub [0, 1] (lv2 := [(0, .ref (ad 0)), (1, .int x1)]) rfl ?_
  unfold m_X6_isCell
  refine g_iload_n (pc := 0) C dX6_isCell_0 (i := 1) rfl 1 rfl ?_
  refine g_aload_n (pc := 1) C dX6_isCell_1 (i := 0) rfl 0 rfl ?_
  refine gt_X6_ground (pc := 2) C q248 dX6_isCell_2 ?_
  refine g_callVi (pc := 5) (As := []) C q399 mw_X1_cells (fun _ hz => c_X1_cells C.2.2.2.2.2.2.2.1 hz) ⟨Nat.le_of_ble_eq_true rfl, Nat.le_of_ble_eq_true rfl⟩ rfl rfl 2 rfl rfl rfl (Nat.le_of_ble_eq_true rfl) dX6_isCell_5 fun r2 S1 => ?_
  refine g_callSi (pc := 8) (As := [.int _, .int _]) C q303 mw_X6_isBelow (fun _ hz => c_X6_isBelow C.2.2.2.2.2.2.2.1 hz) ⟨Nat.le_of_ble_eq_true rfl, Nat.le_of_ble_eq_true rfl⟩ rfl rfl rfl (Nat.le_of_ble_eq_true rfl) dX6_isCell_8 fun r4 S3 => ?_
  exact g_zret (pc := 11) C hr dX6_isCell_11
noncomputable def m_X5_standingOn (x1 : Int32) (S : St) : Option (Int32 × St) :=
chk x1 12 <|
some ((gI S 10 (ix x1)), S)
set_option maxRecDepth 20000 in
theorem c_X5_standingOn {l : Launch} {D : va_G} {ad : Nat → Nat} {cI cJ cZ : ClassId} {n : Nat} (hD : ∀ sz S, va_D (Adr ad n sz) (wX ad cI cJ cZ S)) {x1 : Int32} {S : St} {z : Int32 × St} (hf : m_X5_standingOn x1 S = some z) : CtI l yX5_standingOn cX5_standingOn 2 (some .int) ({ frames := 0, cells := 0, slots := 0, locals := 0 } : Room) D (wX ad cI cJ cZ) (tyX cI cJ cZ) ad n [.ref (ad 1), .int x1] S z := by
  refine CtI.of hf (by decide +kernel) (Nat.le_of_ble_eq_true rfl) hD (fun p e s m args below meth c C hr => ?_)
  refine g_sub [0, 1] (lv2 := [(0, .ref (ad 1)), (1, .int x1)]) rfl ?_
  unfold m_X5_standingOn
  refine g_aload_n (pc := 0) C dX5_standingOn_0 (i := 0) rfl 0 rfl ?_
  refine gt_X5_standing (pc := 1) C q134 dX5_standingOn_1 ?_
  refine g_iload_n (pc := 4) C dX5_standingOn_4 (i := 1) rfl 1 rfl ?_
  refine al_X5_standing (pc := 5) C dX5_standingOn_5 ?_
  exact g_iret (pc := 6) C hr dX5_standingOn_6
noncomputable def m_X1_heightOf (x1 : Int32) (S : St) : Option (Int32 × St) :=
chk x1 12 <|
some ((gI S 8 (ix x1)), S)
set_option maxRecDepth 20000 in
theorem c_X1_heightOf {l : Launch} {D : va_G} {ad : Nat → Nat} {cI cJ cZ : ClassId} {n : Nat} (hD : ∀ sz S, va_D (Adr ad n sz) (wX ad cI cJ cZ S)) {x1 : Int32} {S : St} {z : Int32 × St} (hf : m_X1_heightOf x1 S = some z) : CtI l yX1_heightOf cX1_heightOf 2 (some .int) ({ frames := 0, cells := 0, slots := 0, locals := 0 } : Room) D (wX ad cI cJ cZ) (tyX cI cJ cZ) ad n [.ref (ad 2), .int x1] S z := by
  refine CtI.of hf (by decide +kernel) (Nat.le_of_ble_eq_true rfl) hD (fun p e s m args below meth c C hr => ?_)
  refine g_sub [0, 1] (lv2 := [(0, .ref (ad 2)), (1, .int x1)]) rfl ?_
  unfold m_X1_heightOf
  refine g_aload_n (pc := 0) C dX1_heightOf_0 (i := 0) rfl 0 rfl ?_
  refine gt_X1_heights (pc := 1) C q104 dX1_heightOf_1 ?_
  refine g_iload_n (pc := 4) C dX1_heightOf_4 (i := 1) rfl 1 rfl ?_
  refine al_X1_heights (pc := 5) C dX1_heightOf_5 ?_
  exact g_iret (pc := 6) C hr dX1_heightOf_6
noncomputable def m_X6_cell (x1 : Int32) (x2 : Int32) (S : St) : Option (Int32 × St) :=
bnd (m_X6_isCell x1 S) fun r2 S1 =>
if r2 = 0 then (
some ((-2 : Int32), S1))
else
bnd (m_X6_isBelow x2 (3 : Int32) S1) fun r4 S3 =>
if r4 = 0 then (
some ((-2 : Int32), S3))
else
if x2 = 0 then (
bnd (m_X1_heightOf x1 S3) fun r8 S7 =>
some (r8, S7))
else
if x2 = (1 : Int32) then (
bnd (m_X5_standingOn x1 S3) fun r6 S5 =>
some (r6, S5))
else
chk x1 12 <|
some ((gI S3 25 (ix x1)), S3)
set_option maxRecDepth 20000 in
theorem c_X6_cell {l : Launch} {D : va_G} {ad : Nat → Nat} {cI cJ cZ : ClassId} {n : Nat} (hD : ∀ sz S, va_D (Adr ad n sz) (wX ad cI cJ cZ S)) {x1 : Int32} {x2 : Int32} {S : St} {z : Int32 × St} (hf : m_X6_cell x1 x2 S = some z) : CtI l yX6_cell cX6_cell 3 (some .int) ({ frames := 2, cells := 0, slots := 0, locals := 42 } : Room) D (wX ad cI cJ cZ) (tyX cI cJ cZ) ad n [.ref (ad 0), .int x1, .int x2] S z := by
  refine CtI.of hf (by decide +kernel) (Nat.le_of_ble_eq_true rfl) hD (fun p e s m args below meth c C hr => ?_)
  refine g_sub [0, 1, 2] (lv2 := [(0, .ref (ad 0)), (1, .int x1), (2, .int x2)]) rfl ?_
  unfold m_X6_cell
  refine g_aload_n (pc := 0) C dX6_cell_0 (i := 0) rfl 0 rfl ?_
  refine g_iload_n (pc := 1) C dX6_cell_1 (i := 1) rfl 1 rfl ?_
  refine g_callVi (pc := 2) (As := [.int _]) C q395 mw_X6_isCell (fun _ hz => c_X6_isCell C.2.2.2.2.2.2.2.1 hz) ⟨Nat.le_of_ble_eq_true rfl, Nat.le_of_ble_eq_true rfl⟩ rfl rfl 0 rfl rfl rfl (Nat.le_of_ble_eq_true rfl) dX6_cell_2 fun r2 S1 => ?_
  refine g_if_eq (pc := 5) (tgt := 16) C dX6_cell_5 (by decide) ?_ ?_
  · refine g_bipush (pc := 16) (v := -2) C dX6_cell_16 (by decide) ?_
    exact g_iret (pc := 18) C hr dX6_cell_18
  · refine g_iload_n (pc := 8) C dX6_cell_8 (i := 2) rfl 2 rfl ?_
    refine g_iconst (pc := 9) (v := 3) C dX6_cell_9 (by decide) ?_
    refine g_callSi (pc := 10) (As := [.int _, .int _]) C q303 mw_X6_isBelow (fun _ hz => c_X6_isBelow C.2.2.2.2.2.2.2.1 hz) ⟨Nat.le_of_ble_eq_true rfl, Nat.le_of_ble_eq_true rfl⟩ rfl rfl rfl (Nat.le_of_ble_eq_true rfl) dX6_cell_10 fun r4 S3 => ?_
    refine g_if_ne (pc := 13) (tgt := 19) C dX6_cell_13 (by decide) ?_ ?_
    · refine g_iload_n (pc := 19) C dX6_cell_19 (i := 2) rfl 2 rfl ?_
      refine g_if_ne (pc := 20) (tgt := 32) C dX6_cell_20 (by decide) ?_ ?_
      · refine g_iload_n (pc := 32) C dX6_cell_32 (i := 2) rfl 2 rfl ?_
        refine g_iconst (pc := 33) (v := 1) C dX6_cell_33 (by decide) ?_
        refine g_icmp_ne (pc := 34) (tgt := 48) C dX6_cell_34 (by decide) ?_ ?_
        · refine g_aload_n (pc := 48) C dX6_cell_48 (i := 0) rfl 0 rfl ?_
          refine gt_X6_owners (pc := 49) C q253 dX6_cell_49 ?_
          refine g_iload_n (pc := 52) C dX6_cell_52 (i := 1) rfl 1 rfl ?_
          refine al_X6_owners (pc := 53) C dX6_cell_53 ?_
          exact g_iret (pc := 54) C hr dX6_cell_54
        · refine g_aload_n (pc := 37) C dX6_cell_37 (i := 0) rfl 0 rfl ?_
          refine gt_X6_sun (pc := 38) C q247 dX6_cell_38 ?_
          refine g_iload_n (pc := 41) C dX6_cell_41 (i := 1) rfl 1 rfl ?_
          refine g_callVi (pc := 42) (As := [.int _]) C q404 mw_X5_standingOn (fun _ hz => c_X5_standingOn C.2.2.2.2.2.2.2.1 hz) ⟨Nat.le_of_ble_eq_true rfl, Nat.le_of_ble_eq_true rfl⟩ rfl rfl 1 rfl rfl rfl (Nat.le_of_ble_eq_true rfl) dX6_cell_42 fun r6 S5 => ?_
          refine g_goto (pc := 45) (tgt := 54) C dX6_cell_45 (by decide) ?_
          exact g_iret (pc := 54) C hr dX6_cell_54
      · refine g_aload_n (pc := 23) C dX6_cell_23 (i := 0) rfl 0 rfl ?_
        refine gt_X6_ground (pc := 24) C q248 dX6_cell_24 ?_
        refine g_iload_n (pc := 27) C dX6_cell_27 (i := 1) rfl 1 rfl ?_
        refine g_callVi (pc := 28) (As := [.int _]) C q400 mw_X1_heightOf (fun _ hz => c_X1_heightOf C.2.2.2.2.2.2.2.1 hz) ⟨Nat.le_of_ble_eq_true rfl, Nat.le_of_ble_eq_true rfl⟩ rfl rfl 2 rfl rfl rfl (Nat.le_of_ble_eq_true rfl) dX6_cell_28 fun r8 S7 => ?_
        exact g_iret (pc := 31) C hr dX6_cell_31
    · refine g_bipush (pc := 16) (v := -2) C dX6_cell_16 (by decide) ?_
      exact g_iret (pc := 18) C hr dX6_cell_18
noncomputable def m_X5_build (x1 : Int32) (x2 : Int32) (S : St) : Option (Int32 × St) :=
chk x1 12 <|
nm ((gI S 10 (ix x1))) fun y1 =>
chk x1 12 <|
nm (sI S 10 (ix x1) x2) fun S2 =>
some (y1, S2)
set_option maxRecDepth 20000 in
theorem c_X5_build {l : Launch} {D : va_G} {ad : Nat → Nat} {cI cJ cZ : ClassId} {n : Nat} (hD : ∀ sz S, va_D (Adr ad n sz) (wX ad cI cJ cZ S)) {x1 : Int32} {x2 : Int32} {S : St} {z : Int32 × St} (hf : m_X5_build x1 x2 S = some z) : CtI l yX5_build cX5_build 4 (some .int) ({ frames := 0, cells := 0, slots := 0, locals := 0 } : Room) D (wX ad cI cJ cZ) (tyX cI cJ cZ) ad n [.ref (ad 1), .int x1, .int x2] S z := by
  refine CtI.of hf (by decide +kernel) (Nat.le_of_ble_eq_true rfl) hD (fun p e s m args below meth c C hr => ?_)
  refine g_sub [0, 1, 2] (lv2 := [(0, .ref (ad 1)), (1, .int x1), (2, .int x2)]) rfl ?_
  unfold m_X5_build
  refine g_aload_n (pc := 0) C dX5_build_0 (i := 0) rfl 0 rfl ?_
  refine gt_X5_standing (pc := 1) C q134 dX5_build_1 ?_
  refine g_iload_n (pc := 4) C dX5_build_4 (i := 1) rfl 1 rfl ?_
  refine al_X5_standing (pc := 5) C dX5_build_5 ?_
  refine g_nmi fun y1 => ?_
  refine g_istore_n (pc := 6) (i := 3) (lv2 := [(3, .int y1), (0, .ref (ad 1)), (1, .int x1), (2, .int x2)]) C dX5_build_6 rfl (by decide) rfl ?_
  refine g_aload_n (pc := 7) C dX5_build_7 (i := 0) rfl 1 rfl ?_
  refine gt_X5_standing (pc := 8) C q134 dX5_build_8 ?_
  refine g_iload_n (pc := 11) C dX5_build_11 (i := 1) rfl 2 rfl ?_
  refine g_iload_n (pc := 12) C dX5_build_12 (i := 2) rfl 3 rfl ?_
  refine as_X5_standing (pc := 13) C dX5_build_13 fun S2 => ?_
  refine g_iload_n (pc := 14) C dX5_build_14 (i := 3) rfl 0 rfl ?_
  exact g_iret (pc := 15) C hr dX5_build_15
noncomputable def m_X6_stand (x1 : Int32) (x2 : Int32) (S : St) : Option (Int32 × St) :=
bnd (m_X6_isBelow x1 (12 : Int32) S) fun r2 S1 =>
if r2 = 0 then (
some ((-2 : Int32), S1))
else
bnd (m_X6_isBelow x2 (21 : Int32) S1) fun r4 S3 =>
if r4 = 0 then (
some ((-2 : Int32), S3))
else
bnd (m_X5_build x1 x2 S3) fun r6 S5 =>
bndV (m_X6_measureAnew S5) fun S7 =>
some (r6, S7)
set_option maxRecDepth 20000 in
theorem c_X6_stand {l : Launch} {D : va_G} {ad : Nat → Nat} {cI cJ cZ : ClassId} {n : Nat} (hD : ∀ sz S, va_D (Adr ad n sz) (wX ad cI cJ cZ S)) {x1 : Int32} {x2 : Int32} {S : St} {z : Int32 × St} (hf : m_X6_stand x1 x2 S = some z) : CtI l yX6_stand cX6_stand 4 (some .int) ({ frames := 5, cells := 0, slots := 0, locals := 118 } : Room) D (wX ad cI cJ cZ) (tyX cI cJ cZ) ad n [.ref (ad 0), .int x1, .int x2] S z := by
  refine CtI.of hf (by decide +kernel) (Nat.le_of_ble_eq_true rfl) hD (fun p e s m args below meth c C hr => ?_)
  refine g_sub [0, 1, 2] (lv2 := [(0, .ref (ad 0)), (1, .int x1), (2, .int x2)]) rfl ?_
  unfold m_X6_stand
  refine g_iload_n (pc := 0) C dX6_stand_0 (i := 1) rfl 1 rfl ?_
  refine g_bipush (pc := 1) (v := 12) C dX6_stand_1 (by decide) ?_
  refine g_callSi (pc := 3) (As := [.int _, .int _]) C q303 mw_X6_isBelow (fun _ hz => c_X6_isBelow C.2.2.2.2.2.2.2.1 hz) ⟨Nat.le_of_ble_eq_true rfl, Nat.le_of_ble_eq_true rfl⟩ rfl rfl rfl (Nat.le_of_ble_eq_true rfl) dX6_stand_3 fun r2 S1 => ?_
  refine g_if_eq (pc := 6) (tgt := 18) C dX6_stand_6 (by decide) ?_ ?_
  · refine g_bipush (pc := 18) (v := -2) C dX6_stand_18 (by decide) ?_
    exact g_iret (pc := 20) C hr dX6_stand_20
  · refine g_iload_n (pc := 9) C dX6_stand_9 (i := 2) rfl 2 rfl ?_
    refine g_bipush (pc := 10) (v := 21) C dX6_stand_10 (by decide) ?_
    refine g_callSi (pc := 12) (As := [.int _, .int _]) C q303 mw_X6_isBelow (fun _ hz => c_X6_isBelow C.2.2.2.2.2.2.2.1 hz) ⟨Nat.le_of_ble_eq_true rfl, Nat.le_of_ble_eq_true rfl⟩ rfl rfl rfl (Nat.le_of_ble_eq_true rfl) dX6_stand_12 fun r4 S3 => ?_
    refine g_if_ne (pc := 15) (tgt := 21) C dX6_stand_15 (by decide) ?_ ?_
    · refine g_aload_n (pc := 21) C dX6_stand_21 (i := 0) rfl 0 rfl ?_
      refine gt_X6_sun (pc := 22) C q247 dX6_stand_22 ?_
      refine g_iload_n (pc := 25) C dX6_stand_25 (i := 1) rfl 1 rfl ?_
      refine g_iload_n (pc := 26) C dX6_stand_26 (i := 2) rfl 2 rfl ?_
      refine g_callVi (pc := 27) (As := [.int _, .int _]) C q412 mw_X5_build (fun _ hz => c_X5_build C.2.2.2.2.2.2.2.1 hz) ⟨Nat.le_of_ble_eq_true rfl, Nat.le_of_ble_eq_true rfl⟩ rfl rfl 1 rfl rfl rfl (Nat.le_of_ble_eq_true rfl) dX6_stand_27 fun r6 S5 => ?_
      refine g_istore_n (pc := 30) (i := 3) (lv2 := [(3, .int r6), (0, .ref (ad 0)), (1, .int x1), (2, .int x2)]) C dX6_stand_30 rfl (by decide) rfl ?_
      refine g_aload_n (pc := 31) C dX6_stand_31 (i := 0) rfl 1 rfl ?_
      refine g_callVv (pc := 32) (As := []) C q333 mw_X6_measureAnew (fun _ hz => c_X6_measureAnew C.2.2.2.2.2.2.2.1 hz) ⟨Nat.le_of_ble_eq_true rfl, Nat.le_of_ble_eq_true rfl⟩ rfl rfl 0 rfl rfl rfl (Nat.le_of_ble_eq_true rfl) dX6_stand_32 fun S7 => ?_
      refine g_iload_n (pc := 35) C dX6_stand_35 (i := 3) rfl 0 rfl ?_
      exact g_iret (pc := 36) C hr dX6_stand_36
    · refine g_bipush (pc := 18) (v := -2) C dX6_stand_18 (by decide) ?_
      exact g_iret (pc := 20) C hr dX6_stand_20
noncomputable def m_X6_owner (x1 : Int32) (x2 : Int32) (S : St) : Option (Int32 × St) :=
bnd (m_X6_isBelow x1 (12 : Int32) S) fun r2 S1 =>
if r2 = 0 then (
some ((-2 : Int32), S1))
else
bnd (m_X6_isBelow x2 (4 : Int32) S1) fun r4 S3 =>
if r4 = 0 then (
some ((-2 : Int32), S3))
else
chk x1 12 <|
nm ((gI S3 25 (ix x1))) fun y5 =>
chk x1 12 <|
nm (sI S3 25 (ix x1) x2) fun S6 =>
some (y5, S6)
set_option maxRecDepth 20000 in
theorem c_X6_owner {l : Launch} {D : va_G} {ad : Nat → Nat} {cI cJ cZ : ClassId} {n : Nat} (hD : ∀ sz S, va_D (Adr ad n sz) (wX ad cI cJ cZ S)) {x1 : Int32} {x2 : Int32} {S : St} {z : Int32 × St} (hf : m_X6_owner x1 x2 S = some z) : CtI l yX6_owner cX6_owner 4 (some .int) ({ frames := 1, cells := 0, slots := 0, locals := 21 } : Room) D (wX ad cI cJ cZ) (tyX cI cJ cZ) ad n [.ref (ad 0), .int x1, .int x2] S z := by
  refine CtI.of hf (by decide +kernel) (Nat.le_of_ble_eq_true rfl) hD (fun p e s m args below meth c C hr => ?_)
  refine g_sub [0, 1, 2] (lv2 := [(0, .ref (ad 0)), (1, .int x1), (2, .int x2)]) rfl ?_
  unfold m_X6_owner
  refine g_iload_n (pc := 0) C dX6_owner_0 (i := 1) rfl 1 rfl ?_
  refine g_bipush (pc := 1) (v := 12) C dX6_owner_1 (by decide) ?_
  refine g_callSi (pc := 3) (As := [.int _, .int _]) C q303 mw_X6_isBelow (fun _ hz => c_X6_isBelow C.2.2.2.2.2.2.2.1 hz) ⟨Nat.le_of_ble_eq_true rfl, Nat.le_of_ble_eq_true rfl⟩ rfl rfl rfl (Nat.le_of_ble_eq_true rfl) dX6_owner_3 fun r2 S1 => ?_
  refine g_if_eq (pc := 6) (tgt := 17) C dX6_owner_6 (by decide) ?_ ?_
  · refine g_bipush (pc := 17) (v := -2) C dX6_owner_17 (by decide) ?_
    exact g_iret (pc := 19) C hr dX6_owner_19
  · refine g_iload_n (pc := 9) C dX6_owner_9 (i := 2) rfl 2 rfl ?_
    refine g_iconst (pc := 10) (v := 4) C dX6_owner_10 (by decide) ?_
    refine g_callSi (pc := 11) (As := [.int _, .int _]) C q303 mw_X6_isBelow (fun _ hz => c_X6_isBelow C.2.2.2.2.2.2.2.1 hz) ⟨Nat.le_of_ble_eq_true rfl, Nat.le_of_ble_eq_true rfl⟩ rfl rfl rfl (Nat.le_of_ble_eq_true rfl) dX6_owner_11 fun r4 S3 => ?_
    refine g_if_ne (pc := 14) (tgt := 20) C dX6_owner_14 (by decide) ?_ ?_
    · refine g_aload_n (pc := 20) C dX6_owner_20 (i := 0) rfl 0 rfl ?_
      refine gt_X6_owners (pc := 21) C q253 dX6_owner_21 ?_
      refine g_iload_n (pc := 24) C dX6_owner_24 (i := 1) rfl 1 rfl ?_
      refine al_X6_owners (pc := 25) C dX6_owner_25 ?_
      refine g_nmi fun y5 => ?_
      refine g_istore_n (pc := 26) (i := 3) (lv2 := [(3, .int y5), (0, .ref (ad 0)), (1, .int x1), (2, .int x2)]) C dX6_owner_26 rfl (by decide) rfl ?_
      refine g_aload_n (pc := 27) C dX6_owner_27 (i := 0) rfl 1 rfl ?_
      refine gt_X6_owners (pc := 28) C q253 dX6_owner_28 ?_
      refine g_iload_n (pc := 31) C dX6_owner_31 (i := 1) rfl 2 rfl ?_
      refine g_iload_n (pc := 32) C dX6_owner_32 (i := 2) rfl 3 rfl ?_
      refine as_X6_owners (pc := 33) C dX6_owner_33 fun S6 => ?_
      refine g_iload_n (pc := 34) C dX6_owner_34 (i := 3) rfl 0 rfl ?_
      exact g_iret (pc := 35) C hr dX6_owner_35
    · refine g_bipush (pc := 17) (v := -2) C dX6_owner_17 (by decide) ?_
      exact g_iret (pc := 19) C hr dX6_owner_19
noncomputable def m_X4_isLost (x1 : Int32) (S : St) : Option (Int32 × St) :=
chk x1 4 <|
if (gI S 24 (ix x1)) = (-1 : Int32) then (
some ((1 : Int32), S))
else
some ((0 : Int32), S)
set_option maxRecDepth 20000 in
theorem c_X4_isLost {l : Launch} {D : va_G} {ad : Nat → Nat} {cI cJ cZ : ClassId} {n : Nat} (hD : ∀ sz S, va_D (Adr ad n sz) (wX ad cI cJ cZ S)) {x1 : Int32} {S : St} {z : Int32 × St} (hf : m_X4_isLost x1 S = some z) : CtI l yX4_isLost cX4_isLost 2 (some .boolean) ({ frames := 0, cells := 0, slots := 0, locals := 0 } : Room) D (wX ad cI cJ cZ) (tyX cI cJ cZ) ad n [.ref (ad 6), .int x1] S z := by
  refine CtI.of hf (by decide +kernel) (Nat.le_of_ble_eq_true rfl) hD (fun p e s m args below meth c C hr => ?_)
  refine g_sub [0, 1] (lv2 := [(0, .ref (ad 6)), (1, .int x1)]) rfl ?_
  unfold m_X4_isLost
  refine g_aload_n (pc := 0) C dX4_isLost_0 (i := 0) rfl 0 rfl ?_
  refine gt_X4_sizes (pc := 1) C q236 dX4_isLost_1 ?_
  refine g_iload_n (pc := 4) C dX4_isLost_4 (i := 1) rfl 1 rfl ?_
  refine al_X4_sizes (pc := 5) C dX4_isLost_5 ?_
  refine g_iconst (pc := 6) (v := -1) C dX4_isLost_6 (by decide) ?_
  refine g_icmp_ne (pc := 7) (tgt := 14) C dX4_isLost_7 (by decide) ?_ ?_
  · refine g_iconst (pc := 14) (v := 0) C dX4_isLost_14 (by decide) ?_
    exact g_zretq (pc := 15) C hr (Or.inl rfl) dX4_isLost_15
  · refine g_iconst (pc := 10) (v := 1) C dX4_isLost_10 (by decide) ?_
    refine g_goto (pc := 11) (tgt := 15) C dX4_isLost_11 (by decide) ?_
    exact g_zretq (pc := 15) C hr (Or.inr rfl) dX4_isLost_15
noncomputable def m_X4_sizeOf (x1 : Int32) (S : St) : Option (Int32 × St) :=
chk x1 4 <|
some ((gI S 24 (ix x1)), S)
set_option maxRecDepth 20000 in
theorem c_X4_sizeOf {l : Launch} {D : va_G} {ad : Nat → Nat} {cI cJ cZ : ClassId} {n : Nat} (hD : ∀ sz S, va_D (Adr ad n sz) (wX ad cI cJ cZ S)) {x1 : Int32} {S : St} {z : Int32 × St} (hf : m_X4_sizeOf x1 S = some z) : CtI l yX4_sizeOf cX4_sizeOf 2 (some .int) ({ frames := 0, cells := 0, slots := 0, locals := 0 } : Room) D (wX ad cI cJ cZ) (tyX cI cJ cZ) ad n [.ref (ad 6), .int x1] S z := by
  refine CtI.of hf (by decide +kernel) (Nat.le_of_ble_eq_true rfl) hD (fun p e s m args below meth c C hr => ?_)
  refine g_sub [0, 1] (lv2 := [(0, .ref (ad 6)), (1, .int x1)]) rfl ?_
  unfold m_X4_sizeOf
  refine g_aload_n (pc := 0) C dX4_sizeOf_0 (i := 0) rfl 0 rfl ?_
  refine gt_X4_sizes (pc := 1) C q236 dX4_sizeOf_1 ?_
  refine g_iload_n (pc := 4) C dX4_sizeOf_4 (i := 1) rfl 1 rfl ?_
  refine al_X4_sizes (pc := 5) C dX4_sizeOf_5 ?_
  exact g_iret (pc := 6) C hr dX4_sizeOf_6
noncomputable def m_X4_itemAt (x1 : Int32) (x2 : Int32) (S : St) : Option (Int32 × St) :=
chk ((x1 * (48 : Int32)) + x2) 192 <|
some ((gI S 22 (ix ((x1 * (48 : Int32)) + x2))), S)
set_option maxRecDepth 20000 in
theorem c_X4_itemAt {l : Launch} {D : va_G} {ad : Nat → Nat} {cI cJ cZ : ClassId} {n : Nat} (hD : ∀ sz S, va_D (Adr ad n sz) (wX ad cI cJ cZ S)) {x1 : Int32} {x2 : Int32} {S : St} {z : Int32 × St} (hf : m_X4_itemAt x1 x2 S = some z) : CtI l yX4_itemAt cX4_itemAt 3 (some .int) ({ frames := 0, cells := 0, slots := 0, locals := 0 } : Room) D (wX ad cI cJ cZ) (tyX cI cJ cZ) ad n [.ref (ad 6), .int x1, .int x2] S z := by
  refine CtI.of hf (by decide +kernel) (Nat.le_of_ble_eq_true rfl) hD (fun p e s m args below meth c C hr => ?_)
  refine g_sub [0, 1, 2] (lv2 := [(0, .ref (ad 6)), (1, .int x1), (2, .int x2)]) rfl ?_
  unfold m_X4_itemAt
  refine g_aload_n (pc := 0) C dX4_itemAt_0 (i := 0) rfl 0 rfl ?_
  refine gt_X4_items (pc := 1) C q234 dX4_itemAt_1 ?_
  refine g_iload_n (pc := 4) C dX4_itemAt_4 (i := 1) rfl 1 rfl ?_
  refine g_bipush (pc := 5) (v := 48) C dX4_itemAt_5 (by decide) ?_
  refine g_imul (pc := 7) C dX4_itemAt_7 ?_
  refine g_iload_n (pc := 8) C dX4_itemAt_8 (i := 2) rfl 2 rfl ?_
  refine g_iadd (pc := 9) C dX4_itemAt_9 ?_
  refine al_X4_items (pc := 10) C dX4_itemAt_10 ?_
  exact g_iret (pc := 11) C hr dX4_itemAt_11
noncomputable def m_X6_found (x1 : Int32) (S : St) : Option (Int32 × St) :=
nm (sI S 55 0 x1) fun S1 =>
some (((-10 : Int32) - x1), S1)
set_option maxRecDepth 20000 in
theorem c_X6_found {l : Launch} {D : va_G} {ad : Nat → Nat} {cI cJ cZ : ClassId} {n : Nat} (hD : ∀ sz S, va_D (Adr ad n sz) (wX ad cI cJ cZ S)) {x1 : Int32} {S : St} {z : Int32 × St} (hf : m_X6_found x1 S = some z) : CtI l yX6_found cX6_found 2 (some .int) ({ frames := 0, cells := 0, slots := 0, locals := 0 } : Room) D (wX ad cI cJ cZ) (tyX cI cJ cZ) ad n [.ref (ad 0), .int x1] S z := by
  refine CtI.of hf (by decide +kernel) (Nat.le_of_ble_eq_true rfl) hD (fun p e s m args below meth c C hr => ?_)
  refine g_sub [0, 1] (lv2 := [(0, .ref (ad 0)), (1, .int x1)]) rfl ?_
  unfold m_X6_found
  refine g_aload_n (pc := 0) C dX6_found_0 (i := 0) rfl 0 rfl ?_
  refine g_iload_n (pc := 1) C dX6_found_1 (i := 1) rfl 1 rfl ?_
  refine pt_X6_latestFinding (pc := 2) C q261 dX6_found_2 fun S1 => ?_
  refine g_bipush (pc := 5) (v := -10) C dX6_found_5 (by decide) ?_
  refine g_iload_n (pc := 7) C dX6_found_7 (i := 1) rfl 1 rfl ?_
  refine g_isub (pc := 8) C dX6_found_8 ?_
  exact g_iret (pc := 9) C hr dX6_found_9
noncomputable def b_X6_read_44 (x1 : Int32) (x2 : Int32) (k : Int32 → St → Option (Int32 × St)) (rec : Int32 → St → Option (Int32 × St)) (x3 : Int32) (S : St) : Option (Int32 × St) :=
if x3 < x2 then (
bnd (m_X4_itemAt x1 x3 S) fun r9 S8 =>
bnd (m_X6_isBelow r9 (4 : Int32) S8) fun r11 S10 =>
if r11 = 0 then (
k x3 S10)
else
bnd (m_X4_itemAt x1 x3 S10) fun r13 S12 =>
chk x3 12 <|
nm (sI S12 25 (ix x3) r13) fun S14 =>
rec (x3 + 1) S14)
else
k x3 S
noncomputable def m_X6_read (x1 : Int32) (S : St) : Option (Int32 × St) :=
bnd (m_X6_isBelow x1 (4 : Int32) S) fun r2 S1 =>
if r2 = 0 then (
some ((-2 : Int32), S1))
else
bnd (m_X4_isLost x1 S1) fun r4 S3 =>
if r4 = 0 then (
bnd (m_X4_sizeOf x1 S3) fun r6 S5 =>
nm ((if r6 < (12 : Int32) then r6 else (12 : Int32))) fun y7 =>
it1 (b_X6_read_44 x1 y7 (fun x3_S15 S15 =>
some (x3_S15, S15))) 5000 (0 : Int32) S5)
else
bnd (m_X6_found (1 : Int32) S3) fun r17 S16 =>
some (r17, S16)
set_option maxRecDepth 20000 in
theorem u_X6_read_44 (C : Cx p s m args meth c cX6_read 4 RX6 D (tyX cI cJ cZ) ad n (wX ad cI cJ cZ)) (hr : meth.sig.returnType = (some .int)) (x1 : Int32) (x2 : Int32) (k : Int32 → St → Option (Int32 × St)) (hk : ∀ (x3 : Int32) (S : St), GM p l e ({ frames := 1, cells := 0, slots := 0, locals := 22 } : Room) s m args below meth c D ad n (wX ad cI cJ cZ) 4 (QI D (wX ad cI cJ cZ) ad n args s below) (k x3 S) S 86 [(3, .int x3)] []) (rec : Int32 → St → Option (Int32 × St)) (hrec : ∀ (x3 : Int32) (S : St), GM p l e ({ frames := 1, cells := 0, slots := 0, locals := 22 } : Room) s m args below meth c D ad n (wX ad cI cJ cZ) 4 (QI D (wX ad cI cJ cZ) ad n args s below) (rec x3 S) S 44 [(0, .ref (ad 0)), (1, .int x1), (2, .int x2), (3, .int x3)] []) (x3 : Int32) (S : St) : GM p l e ({ frames := 1, cells := 0, slots := 0, locals := 22 } : Room) s m args below meth c D ad n (wX ad cI cJ cZ) 4 (QI D (wX ad cI cJ cZ) ad n args s below) (b_X6_read_44 x1 x2 k rec x3 S) S 44 [(0, .ref (ad 0)), (1, .int x1), (2, .int x2), (3, .int x3)] [] := by
  unfold b_X6_read_44
  refine g_iload_n (pc := 44) C dX6_read_44 (i := 3) rfl 3 rfl ?_
  refine g_iload_n (pc := 45) C dX6_read_45 (i := 2) rfl 2 rfl ?_
  refine g_icmp_ge (pc := 46) (tgt := 86) C dX6_read_46 (by decide) ?_ ?_
  · refine g_sub [3] rfl (hk _ _)
  · refine g_aload_n (pc := 49) C dX6_read_49 (i := 0) rfl 0 rfl ?_
    refine gt_X6_sheets (pc := 50) C q252 dX6_read_50 ?_
    refine g_iload_n (pc := 53) C dX6_read_53 (i := 1) rfl 1 rfl ?_
    refine g_iload_n (pc := 54) C dX6_read_54 (i := 3) rfl 3 rfl ?_
    refine g_callVi (pc := 55) (As := [.int _, .int _]) C q439 mw_X4_itemAt (fun _ hz => c_X4_itemAt C.2.2.2.2.2.2.2.1 hz) ⟨Nat.le_of_ble_eq_true rfl, Nat.le_of_ble_eq_true rfl⟩ rfl rfl 6 rfl rfl rfl (Nat.le_of_ble_eq_true rfl) dX6_read_55 fun r9 S8 => ?_
    refine g_iconst (pc := 58) (v := 4) C dX6_read_58 (by decide) ?_
    refine g_callSi (pc := 59) (As := [.int _, .int _]) C q303 mw_X6_isBelow (fun _ hz => c_X6_isBelow C.2.2.2.2.2.2.2.1 hz) ⟨Nat.le_of_ble_eq_true rfl, Nat.le_of_ble_eq_true rfl⟩ rfl rfl rfl (Nat.le_of_ble_eq_true rfl) dX6_read_59 fun r11 S10 => ?_
    refine g_if_eq (pc := 62) (tgt := 86) C dX6_read_62 (by decide) ?_ ?_
    · refine g_sub [3] rfl (hk _ _)
    · refine g_aload_n (pc := 65) C dX6_read_65 (i := 0) rfl 0 rfl ?_
      refine gt_X6_owners (pc := 66) C q253 dX6_read_66 ?_
      refine g_iload_n (pc := 69) C dX6_read_69 (i := 3) rfl 3 rfl ?_
      refine g_aload_n (pc := 70) C dX6_read_70 (i := 0) rfl 0 rfl ?_
      refine gt_X6_sheets (pc := 71) C q252 dX6_read_71 ?_
      refine g_iload_n (pc := 74) C dX6_read_74 (i := 1) rfl 1 rfl ?_
      refine g_iload_n (pc := 75) C dX6_read_75 (i := 3) rfl 3 rfl ?_
      refine g_callVi (pc := 76) (As := [.int _, .int _]) C q439 mw_X4_itemAt (fun _ hz => c_X4_itemAt C.2.2.2.2.2.2.2.1 hz) ⟨Nat.le_of_ble_eq_true rfl, Nat.le_of_ble_eq_true rfl⟩ rfl rfl 6 rfl rfl rfl (Nat.le_of_ble_eq_true rfl) dX6_read_76 fun r13 S12 => ?_
      refine as_X6_owners (pc := 79) C dX6_read_79 fun S14 => ?_
      refine g_iinc (pc := 80) (v := (x3 + 1)) (lv2 := [(3, .int (x3 + 1)), (0, .ref (ad 0)), (1, .int x1), (2, .int x2)]) C dX6_read_80 3 rfl rfl (by decide) rfl ?_
      refine g_goto (pc := 83) (tgt := 44) C dX6_read_83 (by decide) ?_
      refine g_sub [1, 2, 3, 0] rfl (hrec _ _)
set_option maxRecDepth 20000 in
theorem c_X6_read {l : Launch} {D : va_G} {ad : Nat → Nat} {cI cJ cZ : ClassId} {n : Nat} (hD : ∀ sz S, va_D (Adr ad n sz) (wX ad cI cJ cZ S)) {x1 : Int32} {S : St} {z : Int32 × St} (hf : m_X6_read x1 S = some z) : CtI l yX6_read cX6_read 4 (some .int) ({ frames := 1, cells := 0, slots := 0, locals := 22 } : Room) D (wX ad cI cJ cZ) (tyX cI cJ cZ) ad n [.ref (ad 0), .int x1] S z := by
  refine CtI.of hf (by decide +kernel) (Nat.le_of_ble_eq_true rfl) hD (fun p e s m args below meth c C hr => ?_)
  refine g_sub [0, 1] (lv2 := [(0, .ref (ad 0)), (1, .int x1)]) rfl ?_
  unfold m_X6_read
  refine g_iload_n (pc := 0) C dX6_read_0 (i := 1) rfl 1 rfl ?_
  refine g_iconst (pc := 1) (v := 4) C dX6_read_1 (by decide) ?_
  refine g_callSi (pc := 2) (As := [.int _, .int _]) C q303 mw_X6_isBelow (fun _ hz => c_X6_isBelow C.2.2.2.2.2.2.2.1 hz) ⟨Nat.le_of_ble_eq_true rfl, Nat.le_of_ble_eq_true rfl⟩ rfl rfl rfl (Nat.le_of_ble_eq_true rfl) dX6_read_2 fun r2 S1 => ?_
  refine g_if_ne (pc := 5) (tgt := 11) C dX6_read_5 (by decide) ?_ ?_
  · refine g_aload_n (pc := 11) C dX6_read_11 (i := 0) rfl 0 rfl ?_
    refine gt_X6_sheets (pc := 12) C q252 dX6_read_12 ?_
    refine g_iload_n (pc := 15) C dX6_read_15 (i := 1) rfl 1 rfl ?_
    refine g_callVi (pc := 16) (As := [.int _]) C q424 mw_X4_isLost (fun _ hz => c_X4_isLost C.2.2.2.2.2.2.2.1 hz) ⟨Nat.le_of_ble_eq_true rfl, Nat.le_of_ble_eq_true rfl⟩ rfl rfl 6 rfl rfl rfl (Nat.le_of_ble_eq_true rfl) dX6_read_16 fun r4 S3 => ?_
    refine g_if_eq (pc := 19) (tgt := 28) C dX6_read_19 (by decide) ?_ ?_
    · refine g_bipush (pc := 28) (v := 12) C dX6_read_28 (by decide) ?_
      refine g_aload_n (pc := 30) C dX6_read_30 (i := 0) rfl 0 rfl ?_
      refine gt_X6_sheets (pc := 31) C q252 dX6_read_31 ?_
      refine g_iload_n (pc := 34) C dX6_read_34 (i := 1) rfl 1 rfl ?_
      refine g_callVi (pc := 35) (As := [.int _]) C q432 mw_X4_sizeOf (fun _ hz => c_X4_sizeOf C.2.2.2.2.2.2.2.1 hz) ⟨Nat.le_of_ble_eq_true rfl, Nat.le_of_ble_eq_true rfl⟩ rfl rfl 6 rfl rfl rfl (Nat.le_of_ble_eq_true rfl) dX6_read_35 fun r6 S5 => ?_
      refine g_mmin (pc := 38) C q436 q437 q81 qm_min (Nat.le_of_ble_eq_true rfl) (Nat.le_of_ble_eq_true rfl) dX6_read_38 ?_
      refine g_nmi fun y7 => ?_
      refine g_istore_n (pc := 41) (i := 2) (lv2 := [(2, .int y7), (0, .ref (ad 0)), (1, .int x1)]) C dX6_read_41 rfl (by decide) rfl ?_
      refine g_iconst (pc := 42) (v := 0) C dX6_read_42 (by decide) ?_
      refine g_istore_n (pc := 43) (i := 3) (lv2 := [(3, .int (0 : Int32)), (2, .int y7), (0, .ref (ad 0)), (1, .int x1)]) C dX6_read_43 rfl (by decide) rfl ?_
      refine g_sub [2, 3, 1, 0] (lv2 := [(0, .ref (ad 0)), (1, .int x1), (2, .int y7), (3, .int (0 : Int32))]) rfl ?_
      refine g_it1 (pc := 44) (u_X6_read_44 C hr _ _ _ fun x3_S15 S15 => ?_) _ _ _
      refine g_iload_n (pc := 86) C dX6_read_86 (i := 3) rfl 0 rfl ?_
      exact g_iret (pc := 87) C hr dX6_read_87
    · refine g_aload_n (pc := 22) C dX6_read_22 (i := 0) rfl 0 rfl ?_
      refine g_iconst (pc := 23) (v := 1) C dX6_read_23 (by decide) ?_
      refine g_callVi (pc := 24) (As := [.int _]) C q428 mw_X6_found (fun _ hz => c_X6_found C.2.2.2.2.2.2.2.1 hz) ⟨Nat.le_of_ble_eq_true rfl, Nat.le_of_ble_eq_true rfl⟩ rfl rfl 0 rfl rfl rfl (Nat.le_of_ble_eq_true rfl) dX6_read_24 fun r17 S16 => ?_
      exact g_iret (pc := 27) C hr dX6_read_27
  · refine g_bipush (pc := 8) (v := -2) C dX6_read_8 (by decide) ?_
    exact g_iret (pc := 10) C hr dX6_read_10
noncomputable def m_X5_lengthen (x1 : Int32) (x2 : Int32) (S : St) : Option (Int32 × St) :=
chk x1 4 <|
nm ((gI S 11 (ix x1))) fun y1 =>
chk x1 4 <|
nm (sI S 11 (ix x1) x2) fun S2 =>
some (y1, S2)
set_option maxRecDepth 20000 in
theorem c_X5_lengthen {l : Launch} {D : va_G} {ad : Nat → Nat} {cI cJ cZ : ClassId} {n : Nat} (hD : ∀ sz S, va_D (Adr ad n sz) (wX ad cI cJ cZ S)) {x1 : Int32} {x2 : Int32} {S : St} {z : Int32 × St} (hf : m_X5_lengthen x1 x2 S = some z) : CtI l yX5_lengthen cX5_lengthen 4 (some .int) ({ frames := 0, cells := 0, slots := 0, locals := 0 } : Room) D (wX ad cI cJ cZ) (tyX cI cJ cZ) ad n [.ref (ad 1), .int x1, .int x2] S z := by
  refine CtI.of hf (by decide +kernel) (Nat.le_of_ble_eq_true rfl) hD (fun p e s m args below meth c C hr => ?_)
  refine g_sub [0, 1, 2] (lv2 := [(0, .ref (ad 1)), (1, .int x1), (2, .int x2)]) rfl ?_
  unfold m_X5_lengthen
  refine g_aload_n (pc := 0) C dX5_lengthen_0 (i := 0) rfl 0 rfl ?_
  refine gt_X5_dayCounts (pc := 1) C q135 dX5_lengthen_1 ?_
  refine g_iload_n (pc := 4) C dX5_lengthen_4 (i := 1) rfl 1 rfl ?_
  refine al_X5_dayCounts (pc := 5) C dX5_lengthen_5 ?_
  refine g_nmi fun y1 => ?_
  refine g_istore_n (pc := 6) (i := 3) (lv2 := [(3, .int y1), (0, .ref (ad 1)), (1, .int x1), (2, .int x2)]) C dX5_lengthen_6 rfl (by decide) rfl ?_
  refine g_aload_n (pc := 7) C dX5_lengthen_7 (i := 0) rfl 1 rfl ?_
  refine gt_X5_dayCounts (pc := 8) C q135 dX5_lengthen_8 ?_
  refine g_iload_n (pc := 11) C dX5_lengthen_11 (i := 1) rfl 2 rfl ?_
  refine g_iload_n (pc := 12) C dX5_lengthen_12 (i := 2) rfl 3 rfl ?_
  refine as_X5_dayCounts (pc := 13) C dX5_lengthen_13 fun S2 => ?_
  refine g_iload_n (pc := 14) C dX5_lengthen_14 (i := 3) rfl 0 rfl ?_
  exact g_iret (pc := 15) C hr dX5_lengthen_15
noncomputable def m_X6_days (x1 : Int32) (x2 : Int32) (S : St) : Option (Int32 × St) :=
bnd (m_X6_isBelow x1 (4 : Int32) S) fun r2 S1 =>
if r2 = 0 then (
some ((-2 : Int32), S1))
else
bnd (m_X6_isBelow x2 (100 : Int32) S1) fun r4 S3 =>
if r4 = 0 then (
some ((-2 : Int32), S3))
else
bnd (m_X5_lengthen x1 x2 S3) fun r6 S5 =>
bndV (m_X6_measureAnew S5) fun S7 =>
some (r6, S7)
set_option maxRecDepth 20000 in
theorem c_X6_days {l : Launch} {D : va_G} {ad : Nat → Nat} {cI cJ cZ : ClassId} {n : Nat} (hD : ∀ sz S, va_D (Adr ad n sz) (wX ad cI cJ cZ S)) {x1 : Int32} {x2 : Int32} {S : St} {z : Int32 × St} (hf : m_X6_days x1 x2 S = some z) : CtI l yX6_days cX6_days 4 (some .int) ({ frames := 5, cells := 0, slots := 0, locals := 118 } : Room) D (wX ad cI cJ cZ) (tyX cI cJ cZ) ad n [.ref (ad 0), .int x1, .int x2] S z := by
  refine CtI.of hf (by decide +kernel) (Nat.le_of_ble_eq_true rfl) hD (fun p e s m args below meth c C hr => ?_)
  refine g_sub [0, 1, 2] (lv2 := [(0, .ref (ad 0)), (1, .int x1), (2, .int x2)]) rfl ?_
  unfold m_X6_days
  refine g_iload_n (pc := 0) C dX6_days_0 (i := 1) rfl 1 rfl ?_
  refine g_iconst (pc := 1) (v := 4) C dX6_days_1 (by decide) ?_
  refine g_callSi (pc := 2) (As := [.int _, .int _]) C q303 mw_X6_isBelow (fun _ hz => c_X6_isBelow C.2.2.2.2.2.2.2.1 hz) ⟨Nat.le_of_ble_eq_true rfl, Nat.le_of_ble_eq_true rfl⟩ rfl rfl rfl (Nat.le_of_ble_eq_true rfl) dX6_days_2 fun r2 S1 => ?_
  refine g_if_eq (pc := 5) (tgt := 17) C dX6_days_5 (by decide) ?_ ?_
  · refine g_bipush (pc := 17) (v := -2) C dX6_days_17 (by decide) ?_
    exact g_iret (pc := 19) C hr dX6_days_19
  · refine g_iload_n (pc := 8) C dX6_days_8 (i := 2) rfl 2 rfl ?_
    refine g_bipush (pc := 9) (v := 100) C dX6_days_9 (by decide) ?_
    refine g_callSi (pc := 11) (As := [.int _, .int _]) C q303 mw_X6_isBelow (fun _ hz => c_X6_isBelow C.2.2.2.2.2.2.2.1 hz) ⟨Nat.le_of_ble_eq_true rfl, Nat.le_of_ble_eq_true rfl⟩ rfl rfl rfl (Nat.le_of_ble_eq_true rfl) dX6_days_11 fun r4 S3 => ?_
    refine g_if_ne (pc := 14) (tgt := 20) C dX6_days_14 (by decide) ?_ ?_
    · refine g_aload_n (pc := 20) C dX6_days_20 (i := 0) rfl 0 rfl ?_
      refine gt_X6_sun (pc := 21) C q247 dX6_days_21 ?_
      refine g_iload_n (pc := 24) C dX6_days_24 (i := 1) rfl 1 rfl ?_
      refine g_iload_n (pc := 25) C dX6_days_25 (i := 2) rfl 2 rfl ?_
      refine g_callVi (pc := 26) (As := [.int _, .int _]) C q447 mw_X5_lengthen (fun _ hz => c_X5_lengthen C.2.2.2.2.2.2.2.1 hz) ⟨Nat.le_of_ble_eq_true rfl, Nat.le_of_ble_eq_true rfl⟩ rfl rfl 1 rfl rfl rfl (Nat.le_of_ble_eq_true rfl) dX6_days_26 fun r6 S5 => ?_
      refine g_istore_n (pc := 29) (i := 3) (lv2 := [(3, .int r6), (0, .ref (ad 0)), (1, .int x1), (2, .int x2)]) C dX6_days_29 rfl (by decide) rfl ?_
      refine g_aload_n (pc := 30) C dX6_days_30 (i := 0) rfl 1 rfl ?_
      refine g_callVv (pc := 31) (As := []) C q333 mw_X6_measureAnew (fun _ hz => c_X6_measureAnew C.2.2.2.2.2.2.2.1 hz) ⟨Nat.le_of_ble_eq_true rfl, Nat.le_of_ble_eq_true rfl⟩ rfl rfl 0 rfl rfl rfl (Nat.le_of_ble_eq_true rfl) dX6_days_31 fun S7 => ?_
      refine g_iload_n (pc := 34) C dX6_days_34 (i := 3) rfl 0 rfl ?_
      exact g_iret (pc := 35) C hr dX6_days_35
    · refine g_bipush (pc := 17) (v := -2) C dX6_days_17 (by decide) ?_
      exact g_iret (pc := 19) C hr dX6_days_19
noncomputable def m_X5_steepness (x0 : Int32) (x1 : Int32) (S : St) : Option (Int32 × St) :=
if x1 < (6 : Int32) then (
some (((x0 + (1 : Int32)) * (x1 + (1 : Int32))), S))
else
some (((x0 + (1 : Int32)) * ((12 : Int32) - x1)), S)
set_option maxRecDepth 20000 in
theorem c_X5_steepness {l : Launch} {D : va_G} {ad : Nat → Nat} {cI cJ cZ : ClassId} {n : Nat} (hD : ∀ sz S, va_D (Adr ad n sz) (wX ad cI cJ cZ S)) {x0 : Int32} {x1 : Int32} {S : St} {z : Int32 × St} (hf : m_X5_steepness x0 x1 S = some z) : CtI l yX5_steepness cX5_steepness 2 (some .int) ({ frames := 0, cells := 0, slots := 0, locals := 0 } : Room) D (wX ad cI cJ cZ) (tyX cI cJ cZ) ad n [.int x0, .int x1] S z := by
  refine CtI.of hf (by decide +kernel) (Nat.le_of_ble_eq_true rfl) hD (fun p e s m args below meth c C hr => ?_)
  refine g_sub [0, 1] (lv2 := [(0, .int x0), (1, .int x1)]) rfl ?_
  unfold m_X5_steepness
  refine g_iload_n (pc := 0) C dX5_steepness_0 (i := 0) rfl 0 rfl ?_
  refine g_iconst (pc := 1) (v := 1) C dX5_steepness_1 (by decide) ?_
  refine g_iadd (pc := 2) C dX5_steepness_2 ?_
  refine g_iload_n (pc := 3) C dX5_steepness_3 (i := 1) rfl 1 rfl ?_
  refine g_bipush (pc := 4) (v := 6) C dX5_steepness_4 (by decide) ?_
  refine g_icmp_ge (pc := 6) (tgt := 15) C dX5_steepness_6 (by decide) ?_ ?_
  · refine g_bipush (pc := 15) (v := 12) C dX5_steepness_15 (by decide) ?_
    refine g_iload_n (pc := 17) C dX5_steepness_17 (i := 1) rfl 1 rfl ?_
    refine g_isub (pc := 18) C dX5_steepness_18 ?_
    refine g_imul (pc := 19) C dX5_steepness_19 ?_
    exact g_iret (pc := 20) C hr dX5_steepness_20
  · refine g_iload_n (pc := 9) C dX5_steepness_9 (i := 1) rfl 1 rfl ?_
    refine g_iconst (pc := 10) (v := 1) C dX5_steepness_10 (by decide) ?_
    refine g_iadd (pc := 11) C dX5_steepness_11 ?_
    refine g_goto (pc := 12) (tgt := 19) C dX5_steepness_12 (by decide) ?_
    refine g_imul (pc := 19) C dX5_steepness_19 ?_
    exact g_iret (pc := 20) C hr dX5_steepness_20
noncomputable def m_X6_steep (x1 : Int32) (x2 : Int32) (S : St) : Option (Int32 × St) :=
bnd (m_X6_isBelow x1 (4 : Int32) S) fun r2 S1 =>
if r2 = 0 then (
some ((-2 : Int32), S1))
else
bnd (m_X6_isBelow x2 (12 : Int32) S1) fun r4 S3 =>
if r4 = 0 then (
some ((-2 : Int32), S3))
else
bnd (m_X5_steepness x1 x2 S3) fun r6 S5 =>
some (r6, S5)
set_option maxRecDepth 20000 in
theorem c_X6_steep {l : Launch} {D : va_G} {ad : Nat → Nat} {cI cJ cZ : ClassId} {n : Nat} (hD : ∀ sz S, va_D (Adr ad n sz) (wX ad cI cJ cZ S)) {x1 : Int32} {x2 : Int32} {S : St} {z : Int32 × St} (hf : m_X6_steep x1 x2 S = some z) : CtI l yX6_steep cX6_steep 3 (some .int) ({ frames := 1, cells := 0, slots := 0, locals := 21 } : Room) D (wX ad cI cJ cZ) (tyX cI cJ cZ) ad n [.ref (ad 0), .int x1, .int x2] S z := by
  refine CtI.of hf (by decide +kernel) (Nat.le_of_ble_eq_true rfl) hD (fun p e s m args below meth c C hr => ?_)
  refine g_sub [0, 1, 2] (lv2 := [(0, .ref (ad 0)), (1, .int x1), (2, .int x2)]) rfl ?_
  unfold m_X6_steep
  refine g_iload_n (pc := 0) C dX6_steep_0 (i := 1) rfl 1 rfl ?_
  refine g_iconst (pc := 1) (v := 4) C dX6_steep_1 (by decide) ?_
  refine g_callSi (pc := 2) (As := [.int _, .int _]) C q303 mw_X6_isBelow (fun _ hz => c_X6_isBelow C.2.2.2.2.2.2.2.1 hz) ⟨Nat.le_of_ble_eq_true rfl, Nat.le_of_ble_eq_true rfl⟩ rfl rfl rfl (Nat.le_of_ble_eq_true rfl) dX6_steep_2 fun r2 S1 => ?_
  refine g_if_eq (pc := 5) (tgt := 17) C dX6_steep_5 (by decide) ?_ ?_
  · refine g_bipush (pc := 17) (v := -2) C dX6_steep_17 (by decide) ?_
    exact g_iret (pc := 19) C hr dX6_steep_19
  · refine g_iload_n (pc := 8) C dX6_steep_8 (i := 2) rfl 2 rfl ?_
    refine g_bipush (pc := 9) (v := 12) C dX6_steep_9 (by decide) ?_
    refine g_callSi (pc := 11) (As := [.int _, .int _]) C q303 mw_X6_isBelow (fun _ hz => c_X6_isBelow C.2.2.2.2.2.2.2.1 hz) ⟨Nat.le_of_ble_eq_true rfl, Nat.le_of_ble_eq_true rfl⟩ rfl rfl rfl (Nat.le_of_ble_eq_true rfl) dX6_steep_11 fun r4 S3 => ?_
    refine g_if_ne (pc := 14) (tgt := 20) C dX6_steep_14 (by decide) ?_ ?_
    · refine g_iload_n (pc := 20) C dX6_steep_20 (i := 1) rfl 1 rfl ?_
      refine g_iload_n (pc := 21) C dX6_steep_21 (i := 2) rfl 2 rfl ?_
      refine g_callSi (pc := 22) (As := [.int _, .int _]) C q455 mw_X5_steepness (fun _ hz => c_X5_steepness C.2.2.2.2.2.2.2.1 hz) ⟨Nat.le_of_ble_eq_true rfl, Nat.le_of_ble_eq_true rfl⟩ rfl rfl rfl (Nat.le_of_ble_eq_true rfl) dX6_steep_22 fun r6 S5 => ?_
      exact g_iret (pc := 25) C hr dX6_steep_25
    · refine g_bipush (pc := 17) (v := -2) C dX6_steep_17 (by decide) ?_
      exact g_iret (pc := 19) C hr dX6_steep_19
noncomputable def b_X5_nearestShader_25 (x1 : Int32) (x2 : Int32) (x3 : Int32) (x4 : Int32) (x5 : Int32) (k : St → Option (Int32 × St)) (rec : Int32 → St → Option (Int32 × St)) (x6 : Int32) (S : St) : Option (Int32 × St) :=
if x5 < x6 then (
k S)
else
bnd (m_X5_rise x1 (x4 * x6) S) fun r4 S3 =>
bnd (m_X5_steepness x2 x3 S3) fun r6 S5 =>
if (x6 * r6) < r4 then (
some ((x1 + (x4 * x6)), S5))
else
rec (x6 + 1) S5
noncomputable def m_X5_nearestShader (x1 : Int32) (x2 : Int32) (x3 : Int32) (S : St) : Option (Int32 × St) :=
if x3 < (6 : Int32) then (
bnd (m_X5_reachOf x1 (-1 : Int32) S) fun r9 S8 =>
it1 (b_X5_nearestShader_25 x1 x2 x3 (-1 : Int32) r9 (fun S10 =>
some ((-1 : Int32), S10))) 5000 (1 : Int32) S8)
else
bnd (m_X5_reachOf x1 (1 : Int32) S) fun r2 S1 =>
it1 (b_X5_nearestShader_25 x1 x2 x3 (1 : Int32) r2 (fun S7 =>
some ((-1 : Int32), S7))) 5000 (1 : Int32) S1
set_option maxRecDepth 20000 in
theorem u_X5_nearestShader_25 (C : Cx p s m args meth c cX5_nearestShader 7 RX5 D (tyX cI cJ cZ) ad n (wX ad cI cJ cZ)) (hr : meth.sig.returnType = (some .int)) (x1 : Int32) (x2 : Int32) (x3 : Int32) (x4 : Int32) (x5 : Int32) (k : St → Option (Int32 × St)) (hk : ∀ (S : St), GM p l e ({ frames := 1, cells := 0, slots := 0, locals := 23 } : Room) s m args below meth c D ad n (wX ad cI cJ cZ) 7 (QI D (wX ad cI cJ cZ) ad n args s below) (k S) S 67 [] []) (rec : Int32 → St → Option (Int32 × St)) (hrec : ∀ (x6 : Int32) (S : St), GM p l e ({ frames := 1, cells := 0, slots := 0, locals := 23 } : Room) s m args below meth c D ad n (wX ad cI cJ cZ) 7 (QI D (wX ad cI cJ cZ) ad n args s below) (rec x6 S) S 25 [(0, .ref (ad 1)), (1, .int x1), (2, .int x2), (3, .int x3), (4, .int x4), (5, .int x5), (6, .int x6)] []) (x6 : Int32) (S : St) : GM p l e ({ frames := 1, cells := 0, slots := 0, locals := 23 } : Room) s m args below meth c D ad n (wX ad cI cJ cZ) 7 (QI D (wX ad cI cJ cZ) ad n args s below) (b_X5_nearestShader_25 x1 x2 x3 x4 x5 k rec x6 S) S 25 [(0, .ref (ad 1)), (1, .int x1), (2, .int x2), (3, .int x3), (4, .int x4), (5, .int x5), (6, .int x6)] [] := by
  unfold b_X5_nearestShader_25
  refine g_iload (pc := 25) C dX5_nearestShader_25 6 rfl ?_
  refine g_iload (pc := 27) C dX5_nearestShader_27 5 rfl ?_
  refine g_icmp_gt (pc := 29) (tgt := 67) C dX5_nearestShader_29 (by decide) ?_ ?_
  · refine g_sub [] rfl (hk _)
  · refine g_aload_n (pc := 32) C dX5_nearestShader_32 (i := 0) rfl 0 rfl ?_
    refine g_iload_n (pc := 33) C dX5_nearestShader_33 (i := 1) rfl 1 rfl ?_
    refine g_iload (pc := 34) C dX5_nearestShader_34 4 rfl ?_
    refine g_iload (pc := 36) C dX5_nearestShader_36 6 rfl ?_
    refine g_imul (pc := 38) C dX5_nearestShader_38 ?_
    refine g_callVi (pc := 39) (As := [.int _, .int _]) C q357 mw_X5_rise (fun _ hz => c_X5_rise C.2.2.2.2.2.2.2.1 hz) ⟨Nat.le_of_ble_eq_true rfl, Nat.le_of_ble_eq_true rfl⟩ rfl rfl 1 rfl rfl rfl (Nat.le_of_ble_eq_true rfl) dX5_nearestShader_39 fun r4 S3 => ?_
    refine g_iload (pc := 42) C dX5_nearestShader_42 6 rfl ?_
    refine g_iload_n (pc := 44) C dX5_nearestShader_44 (i := 2) rfl 2 rfl ?_
    refine g_iload_n (pc := 45) C dX5_nearestShader_45 (i := 3) rfl 3 rfl ?_
    refine g_callSi (pc := 46) (As := [.int _, .int _]) C q466 mw_X5_steepness (fun _ hz => c_X5_steepness C.2.2.2.2.2.2.2.1 hz) ⟨Nat.le_of_ble_eq_true rfl, Nat.le_of_ble_eq_true rfl⟩ rfl rfl rfl (Nat.le_of_ble_eq_true rfl) dX5_nearestShader_46 fun r6 S5 => ?_
    refine g_imul (pc := 49) C dX5_nearestShader_49 ?_
    refine g_icmp_le (pc := 50) (tgt := 61) C dX5_nearestShader_50 (by decide) ?_ ?_
    · refine g_iinc (pc := 61) (v := (x6 + 1)) (lv2 := [(6, .int (x6 + 1)), (0, .ref (ad 1)), (1, .int x1), (2, .int x2), (3, .int x3), (4, .int x4), (5, .int x5)]) C dX5_nearestShader_61 6 rfl rfl (by decide) rfl ?_
      refine g_goto (pc := 64) (tgt := 25) C dX5_nearestShader_64 (by decide) ?_
      refine g_sub [1, 2, 3, 4, 5, 6, 0] rfl (hrec _ _)
    · refine g_iload_n (pc := 53) C dX5_nearestShader_53 (i := 1) rfl 1 rfl ?_
      refine g_iload (pc := 54) C dX5_nearestShader_54 4 rfl ?_
      refine g_iload (pc := 56) C dX5_nearestShader_56 6 rfl ?_
      refine g_imul (pc := 58) C dX5_nearestShader_58 ?_
      refine g_iadd (pc := 59) C dX5_nearestShader_59 ?_
      exact g_iret (pc := 60) C hr dX5_nearestShader_60
set_option maxRecDepth 20000 in
theorem c_X5_nearestShader {l : Launch} {D : va_G} {ad : Nat → Nat} {cI cJ cZ : ClassId} {n : Nat} (hD : ∀ sz S, va_D (Adr ad n sz) (wX ad cI cJ cZ S)) {x1 : Int32} {x2 : Int32} {x3 : Int32} {S : St} {z : Int32 × St} (hf : m_X5_nearestShader x1 x2 x3 S = some z) : CtI l yX5_nearestShader cX5_nearestShader 7 (some .int) ({ frames := 1, cells := 0, slots := 0, locals := 23 } : Room) D (wX ad cI cJ cZ) (tyX cI cJ cZ) ad n [.ref (ad 1), .int x1, .int x2, .int x3] S z := by
  refine CtI.of hf (by decide +kernel) (Nat.le_of_ble_eq_true rfl) hD (fun p e s m args below meth c C hr => ?_)
  refine g_sub [0, 1, 2, 3] (lv2 := [(0, .ref (ad 1)), (1, .int x1), (2, .int x2), (3, .int x3)]) rfl ?_
  unfold m_X5_nearestShader
  refine g_iload_n (pc := 0) C dX5_nearestShader_0 (i := 3) rfl 3 rfl ?_
  refine g_bipush (pc := 1) (v := 6) C dX5_nearestShader_1 (by decide) ?_
  refine g_icmp_ge (pc := 3) (tgt := 10) C dX5_nearestShader_3 (by decide) ?_ ?_
  · refine g_iconst (pc := 10) (v := 1) C dX5_nearestShader_10 (by decide) ?_
    refine g_istore (pc := 11) (i := 4) (j := 0) (lv2 := [(4, .int (1 : Int32)), (0, .ref (ad 1)), (1, .int x1), (2, .int x2), (3, .int x3)]) C dX5_nearestShader_11 (by decide) rfl ?_
    refine g_aload_n (pc := 13) C dX5_nearestShader_13 (i := 0) rfl 1 rfl ?_
    refine g_iload_n (pc := 14) C dX5_nearestShader_14 (i := 1) rfl 2 rfl ?_
    refine g_iload (pc := 15) C dX5_nearestShader_15 0 rfl ?_
    refine g_callVi (pc := 17) (As := [.int _, .int _]) C q353 mw_X5_reachOf (fun _ hz => c_X5_reachOf C.2.2.2.2.2.2.2.1 hz) ⟨Nat.le_of_ble_eq_true rfl, Nat.le_of_ble_eq_true rfl⟩ rfl rfl 1 rfl rfl rfl (Nat.le_of_ble_eq_true rfl) dX5_nearestShader_17 fun r2 S1 => ?_
    refine g_istore (pc := 20) (i := 5) (j := 0) (lv2 := [(5, .int r2), (4, .int (1 : Int32)), (0, .ref (ad 1)), (1, .int x1), (2, .int x2), (3, .int x3)]) C dX5_nearestShader_20 (by decide) rfl ?_
    refine g_iconst (pc := 22) (v := 1) C dX5_nearestShader_22 (by decide) ?_
    refine g_istore (pc := 23) (i := 6) (j := 0) (lv2 := [(6, .int (1 : Int32)), (5, .int r2), (4, .int (1 : Int32)), (0, .ref (ad 1)), (1, .int x1), (2, .int x2), (3, .int x3)]) C dX5_nearestShader_23 (by decide) rfl ?_
    refine g_sub [3, 4, 5, 6, 2, 1, 0] (lv2 := [(0, .ref (ad 1)), (1, .int x1), (2, .int x2), (3, .int x3), (4, .int (1 : Int32)), (5, .int r2), (6, .int (1 : Int32))]) rfl ?_
    refine g_it1 (pc := 25) (u_X5_nearestShader_25 C hr _ _ _ _ _ _ fun S7 => ?_) _ _ _
    refine g_iconst (pc := 67) (v := -1) C dX5_nearestShader_67 (by decide) ?_
    exact g_iret (pc := 68) C hr dX5_nearestShader_68
  · refine g_iconst (pc := 6) (v := -1) C dX5_nearestShader_6 (by decide) ?_
    refine g_goto (pc := 7) (tgt := 11) C dX5_nearestShader_7 (by decide) ?_
    refine g_istore (pc := 11) (i := 4) (j := 0) (lv2 := [(4, .int (-1 : Int32)), (0, .ref (ad 1)), (1, .int x1), (2, .int x2), (3, .int x3)]) C dX5_nearestShader_11 (by decide) rfl ?_
    refine g_aload_n (pc := 13) C dX5_nearestShader_13 (i := 0) rfl 1 rfl ?_
    refine g_iload_n (pc := 14) C dX5_nearestShader_14 (i := 1) rfl 2 rfl ?_
    refine g_iload (pc := 15) C dX5_nearestShader_15 0 rfl ?_
    refine g_callVi (pc := 17) (As := [.int _, .int _]) C q353 mw_X5_reachOf (fun _ hz => c_X5_reachOf C.2.2.2.2.2.2.2.1 hz) ⟨Nat.le_of_ble_eq_true rfl, Nat.le_of_ble_eq_true rfl⟩ rfl rfl 1 rfl rfl rfl (Nat.le_of_ble_eq_true rfl) dX5_nearestShader_17 fun r9 S8 => ?_
    refine g_istore (pc := 20) (i := 5) (j := 0) (lv2 := [(5, .int r9), (4, .int (-1 : Int32)), (0, .ref (ad 1)), (1, .int x1), (2, .int x2), (3, .int x3)]) C dX5_nearestShader_20 (by decide) rfl ?_
    refine g_iconst (pc := 22) (v := 1) C dX5_nearestShader_22 (by decide) ?_
    refine g_istore (pc := 23) (i := 6) (j := 0) (lv2 := [(6, .int (1 : Int32)), (5, .int r9), (4, .int (-1 : Int32)), (0, .ref (ad 1)), (1, .int x1), (2, .int x2), (3, .int x3)]) C dX5_nearestShader_23 (by decide) rfl ?_
    refine g_sub [3, 4, 5, 6, 2, 1, 0] (lv2 := [(0, .ref (ad 1)), (1, .int x1), (2, .int x2), (3, .int x3), (4, .int (-1 : Int32)), (5, .int r9), (6, .int (1 : Int32))]) rfl ?_
    refine g_it1 (pc := 25) (u_X5_nearestShader_25 C hr _ _ _ _ _ _ fun S10 => ?_) _ _ _
    refine g_iconst (pc := 67) (v := -1) C dX5_nearestShader_67 (by decide) ?_
    exact g_iret (pc := 68) C hr dX5_nearestShader_68
noncomputable def m_X6_shade (x1 : Int32) (x2 : Int32) (x3 : Int32) (S : St) : Option (Int32 × St) :=
bnd (m_X6_isCell x1 S) fun r2 S1 =>
if r2 = 0 then (
some ((-2 : Int32), S1))
else
bnd (m_X6_isBelow x2 (4 : Int32) S1) fun r4 S3 =>
if r4 = 0 then (
some ((-2 : Int32), S3))
else
bnd (m_X6_isBelow x3 (12 : Int32) S3) fun r6 S5 =>
if r6 = 0 then (
some ((-2 : Int32), S5))
else
bnd (m_X5_nearestShader x1 x2 x3 S5) fun r8 S7 =>
some (r8, S7)
set_option maxRecDepth 20000 in
theorem c_X6_shade {l : Launch} {D : va_G} {ad : Nat → Nat} {cI cJ cZ : ClassId} {n : Nat} (hD : ∀ sz S, va_D (Adr ad n sz) (wX ad cI cJ cZ S)) {x1 : Int32} {x2 : Int32} {x3 : Int32} {S : St} {z : Int32 × St} (hf : m_X6_shade x1 x2 x3 S = some z) : CtI l yX6_shade cX6_shade 4 (some .int) ({ frames := 2, cells := 0, slots := 0, locals := 49 } : Room) D (wX ad cI cJ cZ) (tyX cI cJ cZ) ad n [.ref (ad 0), .int x1, .int x2, .int x3] S z := by
  refine CtI.of hf (by decide +kernel) (Nat.le_of_ble_eq_true rfl) hD (fun p e s m args below meth c C hr => ?_)
  refine g_sub [0, 1, 2, 3] (lv2 := [(0, .ref (ad 0)), (1, .int x1), (2, .int x2), (3, .int x3)]) rfl ?_
  unfold m_X6_shade
  refine g_aload_n (pc := 0) C dX6_shade_0 (i := 0) rfl 0 rfl ?_
  refine g_iload_n (pc := 1) C dX6_shade_1 (i := 1) rfl 1 rfl ?_
  refine g_callVi (pc := 2) (As := [.int _]) C q395 mw_X6_isCell (fun _ hz => c_X6_isCell C.2.2.2.2.2.2.2.1 hz) ⟨Nat.le_of_ble_eq_true rfl, Nat.le_of_ble_eq_true rfl⟩ rfl rfl 0 rfl rfl rfl (Nat.le_of_ble_eq_true rfl) dX6_shade_2 fun r2 S1 => ?_
  refine g_if_eq (pc := 5) (tgt := 25) C dX6_shade_5 (by decide) ?_ ?_
  · refine g_bipush (pc := 25) (v := -2) C dX6_shade_25 (by decide) ?_
    exact g_iret (pc := 27) C hr dX6_shade_27
  · refine g_iload_n (pc := 8) C dX6_shade_8 (i := 2) rfl 2 rfl ?_
    refine g_iconst (pc := 9) (v := 4) C dX6_shade_9 (by decide) ?_
    refine g_callSi (pc := 10) (As := [.int _, .int _]) C q303 mw_X6_isBelow (fun _ hz => c_X6_isBelow C.2.2.2.2.2.2.2.1 hz) ⟨Nat.le_of_ble_eq_true rfl, Nat.le_of_ble_eq_true rfl⟩ rfl rfl rfl (Nat.le_of_ble_eq_true rfl) dX6_shade_10 fun r4 S3 => ?_
    refine g_if_eq (pc := 13) (tgt := 25) C dX6_shade_13 (by decide) ?_ ?_
    · refine g_bipush (pc := 25) (v := -2) C dX6_shade_25 (by decide) ?_
      exact g_iret (pc := 27) C hr dX6_shade_27
    · refine g_iload_n (pc := 16) C dX6_shade_16 (i := 3) rfl 3 rfl ?_
      refine g_bipush (pc := 17) (v := 12) C dX6_shade_17 (by decide) ?_
      refine g_callSi (pc := 19) (As := [.int _, .int _]) C q303 mw_X6_isBelow (fun _ hz => c_X6_isBelow C.2.2.2.2.2.2.2.1 hz) ⟨Nat.le_of_ble_eq_true rfl, Nat.le_of_ble_eq_true rfl⟩ rfl rfl rfl (Nat.le_of_ble_eq_true rfl) dX6_shade_19 fun r6 S5 => ?_
      refine g_if_ne (pc := 22) (tgt := 28) C dX6_shade_22 (by decide) ?_ ?_
      · refine g_aload_n (pc := 28) C dX6_shade_28 (i := 0) rfl 0 rfl ?_
        refine gt_X6_sun (pc := 29) C q247 dX6_shade_29 ?_
        refine g_iload_n (pc := 32) C dX6_shade_32 (i := 1) rfl 1 rfl ?_
        refine g_iload_n (pc := 33) C dX6_shade_33 (i := 2) rfl 2 rfl ?_
        refine g_iload_n (pc := 34) C dX6_shade_34 (i := 3) rfl 3 rfl ?_
        refine g_callVi (pc := 35) (As := [.int _, .int _, .int _]) C q462 mw_X5_nearestShader (fun _ hz => c_X5_nearestShader C.2.2.2.2.2.2.2.1 hz) ⟨Nat.le_of_ble_eq_true rfl, Nat.le_of_ble_eq_true rfl⟩ rfl rfl 1 rfl rfl rfl (Nat.le_of_ble_eq_true rfl) dX6_shade_35 fun r8 S7 => ?_
        exact g_iret (pc := 38) C hr dX6_shade_38
      · refine g_bipush (pc := 25) (v := -2) C dX6_shade_25 (by decide) ?_
        exact g_iret (pc := 27) C hr dX6_shade_27
noncomputable def m_X5_bitsOf (x1 : Int32) (x2 : Int32) (S : St) : Option (Int32 × St) :=
chk ((x1 * (4 : Int32)) + x2) 48 <|
some ((gI S 12 (ix ((x1 * (4 : Int32)) + x2))), S)
set_option maxRecDepth 20000 in
theorem c_X5_bitsOf {l : Launch} {D : va_G} {ad : Nat → Nat} {cI cJ cZ : ClassId} {n : Nat} (hD : ∀ sz S, va_D (Adr ad n sz) (wX ad cI cJ cZ S)) {x1 : Int32} {x2 : Int32} {S : St} {z : Int32 × St} (hf : m_X5_bitsOf x1 x2 S = some z) : CtI l yX5_bitsOf cX5_bitsOf 3 (some .int) ({ frames := 0, cells := 0, slots := 0, locals := 0 } : Room) D (wX ad cI cJ cZ) (tyX cI cJ cZ) ad n [.ref (ad 1), .int x1, .int x2] S z := by
  refine CtI.of hf (by decide +kernel) (Nat.le_of_ble_eq_true rfl) hD (fun p e s m args below meth c C hr => ?_)
  refine g_sub [0, 1, 2] (lv2 := [(0, .ref (ad 1)), (1, .int x1), (2, .int x2)]) rfl ?_
  unfold m_X5_bitsOf
  refine g_aload_n (pc := 0) C dX5_bitsOf_0 (i := 0) rfl 0 rfl ?_
  refine gt_X5_lightBits (pc := 1) C q136 dX5_bitsOf_1 ?_
  refine g_iload_n (pc := 4) C dX5_bitsOf_4 (i := 1) rfl 1 rfl ?_
  refine g_iconst (pc := 5) (v := 4) C dX5_bitsOf_5 (by decide) ?_
  refine g_imul (pc := 6) C dX5_bitsOf_6 ?_
  refine g_iload_n (pc := 7) C dX5_bitsOf_7 (i := 2) rfl 2 rfl ?_
  refine g_iadd (pc := 8) C dX5_bitsOf_8 ?_
  refine al_X5_lightBits (pc := 9) C dX5_bitsOf_9 ?_
  exact g_iret (pc := 10) C hr dX5_bitsOf_10
noncomputable def m_X6_light (x1 : Int32) (x2 : Int32) (S : St) : Option (Int32 × St) :=
bnd (m_X6_isCell x1 S) fun r2 S1 =>
if r2 = 0 then (
some ((-2 : Int32), S1))
else
bnd (m_X6_isBelow x2 (4 : Int32) S1) fun r4 S3 =>
if r4 = 0 then (
some ((-2 : Int32), S3))
else
bnd (m_X5_bitsOf x1 x2 S3) fun r6 S5 =>
some (r6, S5)
set_option maxRecDepth 20000 in
theorem c_X6_light {l : Launch} {D : va_G} {ad : Nat → Nat} {cI cJ cZ : ClassId} {n : Nat} (hD : ∀ sz S, va_D (Adr ad n sz) (wX ad cI cJ cZ S)) {x1 : Int32} {x2 : Int32} {S : St} {z : Int32 × St} (hf : m_X6_light x1 x2 S = some z) : CtI l yX6_light cX6_light 3 (some .int) ({ frames := 2, cells := 0, slots := 0, locals := 42 } : Room) D (wX ad cI cJ cZ) (tyX cI cJ cZ) ad n [.ref (ad 0), .int x1, .int x2] S z := by
  refine CtI.of hf (by decide +kernel) (Nat.le_of_ble_eq_true rfl) hD (fun p e s m args below meth c C hr => ?_)
  refine g_sub [0, 1, 2] (lv2 := [(0, .ref (ad 0)), (1, .int x1), (2, .int x2)]) rfl ?_
  unfold m_X6_light
  refine g_aload_n (pc := 0) C dX6_light_0 (i := 0) rfl 0 rfl ?_
  refine g_iload_n (pc := 1) C dX6_light_1 (i := 1) rfl 1 rfl ?_
  refine g_callVi (pc := 2) (As := [.int _]) C q395 mw_X6_isCell (fun _ hz => c_X6_isCell C.2.2.2.2.2.2.2.1 hz) ⟨Nat.le_of_ble_eq_true rfl, Nat.le_of_ble_eq_true rfl⟩ rfl rfl 0 rfl rfl rfl (Nat.le_of_ble_eq_true rfl) dX6_light_2 fun r2 S1 => ?_
  refine g_if_eq (pc := 5) (tgt := 16) C dX6_light_5 (by decide) ?_ ?_
  · refine g_bipush (pc := 16) (v := -2) C dX6_light_16 (by decide) ?_
    exact g_iret (pc := 18) C hr dX6_light_18
  · refine g_iload_n (pc := 8) C dX6_light_8 (i := 2) rfl 2 rfl ?_
    refine g_iconst (pc := 9) (v := 4) C dX6_light_9 (by decide) ?_
    refine g_callSi (pc := 10) (As := [.int _, .int _]) C q303 mw_X6_isBelow (fun _ hz => c_X6_isBelow C.2.2.2.2.2.2.2.1 hz) ⟨Nat.le_of_ble_eq_true rfl, Nat.le_of_ble_eq_true rfl⟩ rfl rfl rfl (Nat.le_of_ble_eq_true rfl) dX6_light_10 fun r4 S3 => ?_
    refine g_if_ne (pc := 13) (tgt := 19) C dX6_light_13 (by decide) ?_ ?_
    · refine g_aload_n (pc := 19) C dX6_light_19 (i := 0) rfl 0 rfl ?_
      refine gt_X6_sun (pc := 20) C q247 dX6_light_20 ?_
      refine g_iload_n (pc := 23) C dX6_light_23 (i := 1) rfl 1 rfl ?_
      refine g_iload_n (pc := 24) C dX6_light_24 (i := 2) rfl 2 rfl ?_
      refine g_callVi (pc := 25) (As := [.int _, .int _]) C q471 mw_X5_bitsOf (fun _ hz => c_X5_bitsOf C.2.2.2.2.2.2.2.1 hz) ⟨Nat.le_of_ble_eq_true rfl, Nat.le_of_ble_eq_true rfl⟩ rfl rfl 1 rfl rfl rfl (Nat.le_of_ble_eq_true rfl) dX6_light_25 fun r6 S5 => ?_
      exact g_iret (pc := 28) C hr dX6_light_28
    · refine g_bipush (pc := 16) (v := -2) C dX6_light_16 (by decide) ?_
      exact g_iret (pc := 18) C hr dX6_light_18
noncomputable def m_X5_hoursOf (x1 : Int32) (x2 : Int32) (S : St) : Option (Int32 × St) :=
chk ((x1 * (4 : Int32)) + x2) 48 <|
some ((gI S 13 (ix ((x1 * (4 : Int32)) + x2))), S)
set_option maxRecDepth 20000 in
theorem c_X5_hoursOf {l : Launch} {D : va_G} {ad : Nat → Nat} {cI cJ cZ : ClassId} {n : Nat} (hD : ∀ sz S, va_D (Adr ad n sz) (wX ad cI cJ cZ S)) {x1 : Int32} {x2 : Int32} {S : St} {z : Int32 × St} (hf : m_X5_hoursOf x1 x2 S = some z) : CtI l yX5_hoursOf cX5_hoursOf 3 (some .int) ({ frames := 0, cells := 0, slots := 0, locals := 0 } : Room) D (wX ad cI cJ cZ) (tyX cI cJ cZ) ad n [.ref (ad 1), .int x1, .int x2] S z := by
  refine CtI.of hf (by decide +kernel) (Nat.le_of_ble_eq_true rfl) hD (fun p e s m args below meth c C hr => ?_)
  refine g_sub [0, 1, 2] (lv2 := [(0, .ref (ad 1)), (1, .int x1), (2, .int x2)]) rfl ?_
  unfold m_X5_hoursOf
  refine g_aload_n (pc := 0) C dX5_hoursOf_0 (i := 0) rfl 0 rfl ?_
  refine gt_X5_sunHours (pc := 1) C q137 dX5_hoursOf_1 ?_
  refine g_iload_n (pc := 4) C dX5_hoursOf_4 (i := 1) rfl 1 rfl ?_
  refine g_iconst (pc := 5) (v := 4) C dX5_hoursOf_5 (by decide) ?_
  refine g_imul (pc := 6) C dX5_hoursOf_6 ?_
  refine g_iload_n (pc := 7) C dX5_hoursOf_7 (i := 2) rfl 2 rfl ?_
  refine g_iadd (pc := 8) C dX5_hoursOf_8 ?_
  refine al_X5_sunHours (pc := 9) C dX5_hoursOf_9 ?_
  exact g_iret (pc := 10) C hr dX5_hoursOf_10
noncomputable def m_X5_yearOf (x1 : Int32) (S : St) : Option (Int32 × St) :=
chk x1 12 <|
some ((gI S 14 (ix x1)), S)
set_option maxRecDepth 20000 in
theorem c_X5_yearOf {l : Launch} {D : va_G} {ad : Nat → Nat} {cI cJ cZ : ClassId} {n : Nat} (hD : ∀ sz S, va_D (Adr ad n sz) (wX ad cI cJ cZ S)) {x1 : Int32} {S : St} {z : Int32 × St} (hf : m_X5_yearOf x1 S = some z) : CtI l yX5_yearOf cX5_yearOf 2 (some .int) ({ frames := 0, cells := 0, slots := 0, locals := 0 } : Room) D (wX ad cI cJ cZ) (tyX cI cJ cZ) ad n [.ref (ad 1), .int x1] S z := by
  refine CtI.of hf (by decide +kernel) (Nat.le_of_ble_eq_true rfl) hD (fun p e s m args below meth c C hr => ?_)
  refine g_sub [0, 1] (lv2 := [(0, .ref (ad 1)), (1, .int x1)]) rfl ?_
  unfold m_X5_yearOf
  refine g_aload_n (pc := 0) C dX5_yearOf_0 (i := 0) rfl 0 rfl ?_
  refine gt_X5_cellYears (pc := 1) C q138 dX5_yearOf_1 ?_
  refine g_iload_n (pc := 4) C dX5_yearOf_4 (i := 1) rfl 1 rfl ?_
  refine al_X5_cellYears (pc := 5) C dX5_yearOf_5 ?_
  exact g_iret (pc := 6) C hr dX5_yearOf_6
noncomputable def m_X6_hours (x1 : Int32) (x2 : Int32) (S : St) : Option (Int32 × St) :=
bnd (m_X6_isCell x1 S) fun r2 S1 =>
if r2 = 0 then (
some ((-2 : Int32), S1))
else
if x2 = (-1 : Int32) then (
if x2 = (-1 : Int32) then (
bnd (m_X5_yearOf x1 S1) fun r6 S5 =>
some (r6, S5))
else
bnd (m_X5_hoursOf x1 x2 S1) fun r4 S3 =>
some (r4, S3))
else
bnd (m_X6_isBelow x2 (4 : Int32) S1) fun r8 S7 =>
if r8 = 0 then (
some ((-2 : Int32), S7))
else
if x2 = (-1 : Int32) then (
bnd (m_X5_yearOf x1 S7) fun r12 S11 =>
some (r12, S11))
else
bnd (m_X5_hoursOf x1 x2 S7) fun r10 S9 =>
some (r10, S9)
set_option maxRecDepth 20000 in
theorem c_X6_hours {l : Launch} {D : va_G} {ad : Nat → Nat} {cI cJ cZ : ClassId} {n : Nat} (hD : ∀ sz S, va_D (Adr ad n sz) (wX ad cI cJ cZ S)) {x1 : Int32} {x2 : Int32} {S : St} {z : Int32 × St} (hf : m_X6_hours x1 x2 S = some z) : CtI l yX6_hours cX6_hours 3 (some .int) ({ frames := 2, cells := 0, slots := 0, locals := 42 } : Room) D (wX ad cI cJ cZ) (tyX cI cJ cZ) ad n [.ref (ad 0), .int x1, .int x2] S z := by
  refine CtI.of hf (by decide +kernel) (Nat.le_of_ble_eq_true rfl) hD (fun p e s m args below meth c C hr => ?_)
  refine g_sub [0, 1, 2] (lv2 := [(0, .ref (ad 0)), (1, .int x1), (2, .int x2)]) rfl ?_
  unfold m_X6_hours
  refine g_aload_n (pc := 0) C dX6_hours_0 (i := 0) rfl 0 rfl ?_
  refine g_iload_n (pc := 1) C dX6_hours_1 (i := 1) rfl 1 rfl ?_
  refine g_callVi (pc := 2) (As := [.int _]) C q395 mw_X6_isCell (fun _ hz => c_X6_isCell C.2.2.2.2.2.2.2.1 hz) ⟨Nat.le_of_ble_eq_true rfl, Nat.le_of_ble_eq_true rfl⟩ rfl rfl 0 rfl rfl rfl (Nat.le_of_ble_eq_true rfl) dX6_hours_2 fun r2 S1 => ?_
  refine g_if_eq (pc := 5) (tgt := 21) C dX6_hours_5 (by decide) ?_ ?_
  · refine g_bipush (pc := 21) (v := -2) C dX6_hours_21 (by decide) ?_
    exact g_iret (pc := 23) C hr dX6_hours_23
  · refine g_iload_n (pc := 8) C dX6_hours_8 (i := 2) rfl 2 rfl ?_
    refine g_iconst (pc := 9) (v := -1) C dX6_hours_9 (by decide) ?_
    refine g_icmp_eq (pc := 10) (tgt := 24) C dX6_hours_10 (by decide) ?_ ?_
    · refine g_iload_n (pc := 24) C dX6_hours_24 (i := 2) rfl 2 rfl ?_
      refine g_iconst (pc := 25) (v := -1) C dX6_hours_25 (by decide) ?_
      refine g_icmp_ne (pc := 26) (tgt := 40) C dX6_hours_26 (by decide) ?_ ?_
      · refine g_aload_n (pc := 40) C dX6_hours_40 (i := 0) rfl 0 rfl ?_
        refine gt_X6_sun (pc := 41) C q247 dX6_hours_41 ?_
        refine g_iload_n (pc := 44) C dX6_hours_44 (i := 1) rfl 1 rfl ?_
        refine g_iload_n (pc := 45) C dX6_hours_45 (i := 2) rfl 2 rfl ?_
        refine g_callVi (pc := 46) (As := [.int _, .int _]) C q483 mw_X5_hoursOf (fun _ hz => c_X5_hoursOf C.2.2.2.2.2.2.2.1 hz) ⟨Nat.le_of_ble_eq_true rfl, Nat.le_of_ble_eq_true rfl⟩ rfl rfl 1 rfl rfl rfl (Nat.le_of_ble_eq_true rfl) dX6_hours_46 fun r4 S3 => ?_
        exact g_iret (pc := 49) C hr dX6_hours_49
      · refine g_aload_n (pc := 29) C dX6_hours_29 (i := 0) rfl 0 rfl ?_
        refine gt_X6_sun (pc := 30) C q247 dX6_hours_30 ?_
        refine g_iload_n (pc := 33) C dX6_hours_33 (i := 1) rfl 1 rfl ?_
        refine g_callVi (pc := 34) (As := [.int _]) C q479 mw_X5_yearOf (fun _ hz => c_X5_yearOf C.2.2.2.2.2.2.2.1 hz) ⟨Nat.le_of_ble_eq_true rfl, Nat.le_of_ble_eq_true rfl⟩ rfl rfl 1 rfl rfl rfl (Nat.le_of_ble_eq_true rfl) dX6_hours_34 fun r6 S5 => ?_
        refine g_goto (pc := 37) (tgt := 49) C dX6_hours_37 (by decide) ?_
        exact g_iret (pc := 49) C hr dX6_hours_49
    · refine g_iload_n (pc := 13) C dX6_hours_13 (i := 2) rfl 2 rfl ?_
      refine g_iconst (pc := 14) (v := 4) C dX6_hours_14 (by decide) ?_
      refine g_callSi (pc := 15) (As := [.int _, .int _]) C q303 mw_X6_isBelow (fun _ hz => c_X6_isBelow C.2.2.2.2.2.2.2.1 hz) ⟨Nat.le_of_ble_eq_true rfl, Nat.le_of_ble_eq_true rfl⟩ rfl rfl rfl (Nat.le_of_ble_eq_true rfl) dX6_hours_15 fun r8 S7 => ?_
      refine g_if_ne (pc := 18) (tgt := 24) C dX6_hours_18 (by decide) ?_ ?_
      · refine g_iload_n (pc := 24) C dX6_hours_24 (i := 2) rfl 2 rfl ?_
        refine g_iconst (pc := 25) (v := -1) C dX6_hours_25 (by decide) ?_
        refine g_icmp_ne (pc := 26) (tgt := 40) C dX6_hours_26 (by decide) ?_ ?_
        · refine g_aload_n (pc := 40) C dX6_hours_40 (i := 0) rfl 0 rfl ?_
          refine gt_X6_sun (pc := 41) C q247 dX6_hours_41 ?_
          refine g_iload_n (pc := 44) C dX6_hours_44 (i := 1) rfl 1 rfl ?_
          refine g_iload_n (pc := 45) C dX6_hours_45 (i := 2) rfl 2 rfl ?_
          refine g_callVi (pc := 46) (As := [.int _, .int _]) C q483 mw_X5_hoursOf (fun _ hz => c_X5_hoursOf C.2.2.2.2.2.2.2.1 hz) ⟨Nat.le_of_ble_eq_true rfl, Nat.le_of_ble_eq_true rfl⟩ rfl rfl 1 rfl rfl rfl (Nat.le_of_ble_eq_true rfl) dX6_hours_46 fun r10 S9 => ?_
          exact g_iret (pc := 49) C hr dX6_hours_49
        · refine g_aload_n (pc := 29) C dX6_hours_29 (i := 0) rfl 0 rfl ?_
          refine gt_X6_sun (pc := 30) C q247 dX6_hours_30 ?_
          refine g_iload_n (pc := 33) C dX6_hours_33 (i := 1) rfl 1 rfl ?_
          refine g_callVi (pc := 34) (As := [.int _]) C q479 mw_X5_yearOf (fun _ hz => c_X5_yearOf C.2.2.2.2.2.2.2.1 hz) ⟨Nat.le_of_ble_eq_true rfl, Nat.le_of_ble_eq_true rfl⟩ rfl rfl 1 rfl rfl rfl (Nat.le_of_ble_eq_true rfl) dX6_hours_34 fun r12 S11 => ?_
          refine g_goto (pc := 37) (tgt := 49) C dX6_hours_37 (by decide) ?_
          exact g_iret (pc := 49) C hr dX6_hours_49
      · refine g_bipush (pc := 21) (v := -2) C dX6_hours_21 (by decide) ?_
        exact g_iret (pc := 23) C hr dX6_hours_23
noncomputable def b_X6_has_27 (x1 : Int32) (x2 : Int32) (k : Int32 → Int32 → St → Option (Int32 × St)) (rec : Int32 → Int32 → Int32 → St → Option (Int32 × St)) (x3 : Int32) (x4 : Int32) (x5 : Int32) (S : St) : Option (Int32 × St) :=
bnd (m_X1_cells S) fun r6 S5 =>
if x5 < r6 then (
chk x5 12 <|
if (gI S5 25 (ix x5)) = x1 then (
nm ((x3 ||| ((1 : Int32) <<< (x5 &&& 31)))) fun y7 =>
bnd (m_X5_yearOf x5 S5) fun r9 S8 =>
nm ((x4 + r9)) fun y10 =>
rec y7 y10 (x5 + 1) S8)
else
rec x3 x4 (x5 + 1) S5)
else
k x3 x4 S5
noncomputable def m_X6_has (x1 : Int32) (x2 : Int32) (S : St) : Option (Int32 × St) :=
bnd (m_X6_isBelow x1 (4 : Int32) S) fun r2 S1 =>
if r2 = 0 then (
some ((-2 : Int32), S1))
else
bnd (m_X6_isBelow x2 (2 : Int32) S1) fun r4 S3 =>
if r4 = 0 then (
some ((-2 : Int32), S3))
else
it3 (b_X6_has_27 x1 x2 (fun x3_S11 x4_S11 S11 =>
if x2 = 0 then (
some (x3_S11, S11))
else
some (x4_S11, S11))) 5000 (0 : Int32) (0 : Int32) (0 : Int32) S3
set_option maxRecDepth 20000 in
theorem u_X6_has_27 (C : Cx p s m args meth c cX6_has 6 RX6 D (tyX cI cJ cZ) ad n (wX ad cI cJ cZ)) (hr : meth.sig.returnType = (some .int)) (x1 : Int32) (x2 : Int32) (k : Int32 → Int32 → St → Option (Int32 × St)) (hk : ∀ (x3 : Int32) (x4 : Int32) (S : St), GM p l e ({ frames := 1, cells := 0, slots := 0, locals := 21 } : Room) s m args below meth c D ad n (wX ad cI cJ cZ) 6 (QI D (wX ad cI cJ cZ) ad n args s below) (k x3 x4 S) S 77 [(2, .int x2), (3, .int x3), (4, .int x4)] []) (rec : Int32 → Int32 → Int32 → St → Option (Int32 × St)) (hrec : ∀ (x3 : Int32) (x4 : Int32) (x5 : Int32) (S : St), GM p l e ({ frames := 1, cells := 0, slots := 0, locals := 21 } : Room) s m args below meth c D ad n (wX ad cI cJ cZ) 6 (QI D (wX ad cI cJ cZ) ad n args s below) (rec x3 x4 x5 S) S 27 [(0, .ref (ad 0)), (1, .int x1), (2, .int x2), (3, .int x3), (4, .int x4), (5, .int x5)] []) (x3 : Int32) (x4 : Int32) (x5 : Int32) (S : St) : GM p l e ({ frames := 1, cells := 0, slots := 0, locals := 21 } : Room) s m args below meth c D ad n (wX ad cI cJ cZ) 6 (QI D (wX ad cI cJ cZ) ad n args s below) (b_X6_has_27 x1 x2 k rec x3 x4 x5 S) S 27 [(0, .ref (ad 0)), (1, .int x1), (2, .int x2), (3, .int x3), (4, .int x4), (5, .int x5)] [] := by
  unfold b_X6_has_27
  refine g_iload (pc := 27) C dX6_has_27 5 rfl ?_
  refine g_aload_n (pc := 29) C dX6_has_29 (i := 0) rfl 0 rfl ?_
  refine gt_X6_ground (pc := 30) C q248 dX6_has_30 ?_
  refine g_callVi (pc := 33) (As := []) C q399 mw_X1_cells (fun _ hz => c_X1_cells C.2.2.2.2.2.2.2.1 hz) ⟨Nat.le_of_ble_eq_true rfl, Nat.le_of_ble_eq_true rfl⟩ rfl rfl 2 rfl rfl rfl (Nat.le_of_ble_eq_true rfl) dX6_has_33 fun r6 S5 => ?_
  refine g_icmp_ge (pc := 36) (tgt := 77) C dX6_has_36 (by decide) ?_ ?_
  · refine g_sub [2, 3, 4] rfl (hk _ _ _)
  · refine g_aload_n (pc := 39) C dX6_has_39 (i := 0) rfl 0 rfl ?_
    refine gt_X6_owners (pc := 40) C q253 dX6_has_40 ?_
    refine g_iload (pc := 43) C dX6_has_43 5 rfl ?_
    refine al_X6_owners (pc := 45) C dX6_has_45 ?_
    refine g_iload_n (pc := 46) C dX6_has_46 (i := 1) rfl 1 rfl ?_
    refine g_icmp_ne (pc := 47) (tgt := 71) C dX6_has_47 (by decide) ?_ ?_
    · refine g_iinc (pc := 71) (v := (x5 + 1)) (lv2 := [(5, .int (x5 + 1)), (0, .ref (ad 0)), (1, .int x1), (2, .int x2), (3, .int x3), (4, .int x4)]) C dX6_has_71 5 rfl rfl (by decide) rfl ?_
      refine g_goto (pc := 74) (tgt := 27) C dX6_has_74 (by decide) ?_
      refine g_sub [1, 2, 3, 4, 5, 0] rfl (hrec _ _ _ _)
    · refine g_iload_n (pc := 50) C dX6_has_50 (i := 3) rfl 3 rfl ?_
      refine g_iconst (pc := 51) (v := 1) C dX6_has_51 (by decide) ?_
      refine g_iload (pc := 52) C dX6_has_52 5 rfl ?_
      refine g_ishl (pc := 54) C dX6_has_54 ?_
      refine g_ior (pc := 55) C dX6_has_55 ?_
      refine g_nmi fun y7 => ?_
      refine g_istore_n (pc := 56) (i := 3) (lv2 := [(3, .int y7), (0, .ref (ad 0)), (1, .int x1), (2, .int x2), (4, .int x4), (5, .int x5)]) C dX6_has_56 rfl (by decide) rfl ?_
      refine g_iload (pc := 57) C dX6_has_57 4 rfl ?_
      refine g_aload_n (pc := 59) C dX6_has_59 (i := 0) rfl 1 rfl ?_
      refine gt_X6_sun (pc := 60) C q247 dX6_has_60 ?_
      refine g_iload (pc := 63) C dX6_has_63 5 rfl ?_
      refine g_callVi (pc := 65) (As := [.int _]) C q479 mw_X5_yearOf (fun _ hz => c_X5_yearOf C.2.2.2.2.2.2.2.1 hz) ⟨Nat.le_of_ble_eq_true rfl, Nat.le_of_ble_eq_true rfl⟩ rfl rfl 1 rfl rfl rfl (Nat.le_of_ble_eq_true rfl) dX6_has_65 fun r9 S8 => ?_
      refine g_iadd (pc := 68) C dX6_has_68 ?_
      refine g_nmi fun y10 => ?_
      refine g_istore (pc := 69) (i := 4) (j := 0) (lv2 := [(4, .int y10), (3, .int y7), (0, .ref (ad 0)), (1, .int x1), (2, .int x2), (5, .int x5)]) C dX6_has_69 (by decide) rfl ?_
      refine g_iinc (pc := 71) (v := (x5 + 1)) (lv2 := [(5, .int (x5 + 1)), (4, .int y10), (3, .int y7), (0, .ref (ad 0)), (1, .int x1), (2, .int x2)]) C dX6_has_71 5 rfl rfl (by decide) rfl ?_
      refine g_goto (pc := 74) (tgt := 27) C dX6_has_74 (by decide) ?_
      refine g_sub [3, 4, 5, 2, 1, 0] rfl (hrec _ _ _ _)
set_option maxRecDepth 20000 in
theorem c_X6_has {l : Launch} {D : va_G} {ad : Nat → Nat} {cI cJ cZ : ClassId} {n : Nat} (hD : ∀ sz S, va_D (Adr ad n sz) (wX ad cI cJ cZ S)) {x1 : Int32} {x2 : Int32} {S : St} {z : Int32 × St} (hf : m_X6_has x1 x2 S = some z) : CtI l yX6_has cX6_has 6 (some .int) ({ frames := 1, cells := 0, slots := 0, locals := 21 } : Room) D (wX ad cI cJ cZ) (tyX cI cJ cZ) ad n [.ref (ad 0), .int x1, .int x2] S z := by
  refine CtI.of hf (by decide +kernel) (Nat.le_of_ble_eq_true rfl) hD (fun p e s m args below meth c C hr => ?_)
  refine g_sub [0, 1, 2] (lv2 := [(0, .ref (ad 0)), (1, .int x1), (2, .int x2)]) rfl ?_
  unfold m_X6_has
  refine g_iload_n (pc := 0) C dX6_has_0 (i := 1) rfl 1 rfl ?_
  refine g_iconst (pc := 1) (v := 4) C dX6_has_1 (by decide) ?_
  refine g_callSi (pc := 2) (As := [.int _, .int _]) C q303 mw_X6_isBelow (fun _ hz => c_X6_isBelow C.2.2.2.2.2.2.2.1 hz) ⟨Nat.le_of_ble_eq_true rfl, Nat.le_of_ble_eq_true rfl⟩ rfl rfl rfl (Nat.le_of_ble_eq_true rfl) dX6_has_2 fun r2 S1 => ?_
  refine g_if_eq (pc := 5) (tgt := 16) C dX6_has_5 (by decide) ?_ ?_
  · refine g_bipush (pc := 16) (v := -2) C dX6_has_16 (by decide) ?_
    exact g_iret (pc := 18) C hr dX6_has_18
  · refine g_iload_n (pc := 8) C dX6_has_8 (i := 2) rfl 2 rfl ?_
    refine g_iconst (pc := 9) (v := 2) C dX6_has_9 (by decide) ?_
    refine g_callSi (pc := 10) (As := [.int _, .int _]) C q303 mw_X6_isBelow (fun _ hz => c_X6_isBelow C.2.2.2.2.2.2.2.1 hz) ⟨Nat.le_of_ble_eq_true rfl, Nat.le_of_ble_eq_true rfl⟩ rfl rfl rfl (Nat.le_of_ble_eq_true rfl) dX6_has_10 fun r4 S3 => ?_
    refine g_if_ne (pc := 13) (tgt := 19) C dX6_has_13 (by decide) ?_ ?_
    · refine g_iconst (pc := 19) (v := 0) C dX6_has_19 (by decide) ?_
      refine g_istore_n (pc := 20) (i := 3) (lv2 := [(3, .int (0 : Int32)), (0, .ref (ad 0)), (1, .int x1), (2, .int x2)]) C dX6_has_20 rfl (by decide) rfl ?_
      refine g_iconst (pc := 21) (v := 0) C dX6_has_21 (by decide) ?_
      refine g_istore (pc := 22) (i := 4) (j := 0) (lv2 := [(4, .int (0 : Int32)), (3, .int (0 : Int32)), (0, .ref (ad 0)), (1, .int x1), (2, .int x2)]) C dX6_has_22 (by decide) rfl ?_
      refine g_iconst (pc := 24) (v := 0) C dX6_has_24 (by decide) ?_
      refine g_istore (pc := 25) (i := 5) (j := 0) (lv2 := [(5, .int (0 : Int32)), (4, .int (0 : Int32)), (3, .int (0 : Int32)), (0, .ref (ad 0)), (1, .int x1), (2, .int x2)]) C dX6_has_25 (by decide) rfl ?_
      refine g_sub [3, 4, 5, 2, 1, 0] (lv2 := [(0, .ref (ad 0)), (1, .int x1), (2, .int x2), (3, .int (0 : Int32)), (4, .int (0 : Int32)), (5, .int (0 : Int32))]) rfl ?_
      refine g_it3 (pc := 27) (u_X6_has_27 C hr _ _ _ fun x3_S11 x4_S11 S11 => ?_) _ _ _ _ _
      refine g_iload_n (pc := 77) C dX6_has_77 (i := 2) rfl 0 rfl ?_
      refine g_if_ne (pc := 78) (tgt := 85) C dX6_has_78 (by decide) ?_ ?_
      · refine g_iload (pc := 85) C dX6_has_85 2 rfl ?_
        exact g_iret (pc := 87) C hr dX6_has_87
      · refine g_iload_n (pc := 81) C dX6_has_81 (i := 3) rfl 1 rfl ?_
        refine g_goto (pc := 82) (tgt := 87) C dX6_has_82 (by decide) ?_
        exact g_iret (pc := 87) C hr dX6_has_87
    · refine g_bipush (pc := 16) (v := -2) C dX6_has_16 (by decide) ?_
      exact g_iret (pc := 18) C hr dX6_has_18
noncomputable def m_X5_years (S : St) : Option (St) :=
some S
set_option maxRecDepth 20000 in
theorem c_X5_years {l : Launch} {D : va_G} {ad : Nat → Nat} {cI cJ cZ : ClassId} {n : Nat} (hD : ∀ sz S, va_D (Adr ad n sz) (wX ad cI cJ cZ S)) {S : St} {z : St} (hf : m_X5_years S = some z) : CtR l yX5_years cX5_years 1 (some (.array .int)) ({ frames := 0, cells := 0, slots := 0, locals := 0 } : Room) D (wX ad cI cJ cZ) (tyX cI cJ cZ) ad n [.ref (ad 1)] S 14 z := by
  refine CtR.of hf (by decide +kernel) (Nat.le_of_ble_eq_true rfl) hD (fun p e s m args below meth c C hr => ?_)
  refine g_sub [0] (lv2 := [(0, .ref (ad 1))]) rfl ?_
  unfold m_X5_years
  refine g_aload_n (pc := 0) C dX5_years_0 (i := 0) rfl 0 rfl ?_
  refine gt_X5_cellYears (pc := 1) C q138 dX5_years_1 ?_
  exact g_aret (pc := 4) C hr (Or.inr ⟨_, rfl⟩) dX5_years_4
noncomputable def m_X1_columns (S : St) : Option (Int32 × St) :=
some ((gI S 42 0), S)
set_option maxRecDepth 20000 in
theorem c_X1_columns {l : Launch} {D : va_G} {ad : Nat → Nat} {cI cJ cZ : ClassId} {n : Nat} (hD : ∀ sz S, va_D (Adr ad n sz) (wX ad cI cJ cZ S)) {S : St} {z : Int32 × St} (hf : m_X1_columns S = some z) : CtI l yX1_columns cX1_columns 1 (some .int) ({ frames := 0, cells := 0, slots := 0, locals := 0 } : Room) D (wX ad cI cJ cZ) (tyX cI cJ cZ) ad n [.ref (ad 2)] S z := by
  refine CtI.of hf (by decide +kernel) (Nat.le_of_ble_eq_true rfl) hD (fun p e s m args below meth c C hr => ?_)
  refine g_sub [0] (lv2 := [(0, .ref (ad 2))]) rfl ?_
  unfold m_X1_columns
  refine g_aload_n (pc := 0) C dX1_columns_0 (i := 0) rfl 0 rfl ?_
  refine gt_X1_columnCount (pc := 1) C q110 dX1_columns_1 ?_
  exact g_iret (pc := 4) C hr dX1_columns_4
noncomputable def m_X1_columnOf (x1 : Int32) (S : St) : Option (Int32 × St) :=
chk x1 12 <|
some ((gI S 9 (ix x1)), S)
set_option maxRecDepth 20000 in
theorem c_X1_columnOf {l : Launch} {D : va_G} {ad : Nat → Nat} {cI cJ cZ : ClassId} {n : Nat} (hD : ∀ sz S, va_D (Adr ad n sz) (wX ad cI cJ cZ S)) {x1 : Int32} {S : St} {z : Int32 × St} (hf : m_X1_columnOf x1 S = some z) : CtI l yX1_columnOf cX1_columnOf 2 (some .int) ({ frames := 0, cells := 0, slots := 0, locals := 0 } : Room) D (wX ad cI cJ cZ) (tyX cI cJ cZ) ad n [.ref (ad 2), .int x1] S z := by
  refine CtI.of hf (by decide +kernel) (Nat.le_of_ble_eq_true rfl) hD (fun p e s m args below meth c C hr => ?_)
  refine g_sub [0, 1] (lv2 := [(0, .ref (ad 2)), (1, .int x1)]) rfl ?_
  unfold m_X1_columnOf
  refine g_aload_n (pc := 0) C dX1_columnOf_0 (i := 0) rfl 0 rfl ?_
  refine gt_X1_columnsOfCells (pc := 1) C q106 dX1_columnOf_1 ?_
  refine g_iload_n (pc := 4) C dX1_columnOf_4 (i := 1) rfl 1 rfl ?_
  refine al_X1_columnsOfCells (pc := 5) C dX1_columnOf_5 ?_
  exact g_iret (pc := 6) C hr dX1_columnOf_6
noncomputable def b_X2_fillSums_15_14_42 (x3 : Int32) (x4 : Int32) (x6 : Int32) (k : St → Option (St)) (rec : Int32 → St → Option (St)) (x7 : Int32) (S : St) : Option (St) :=
if x7 < ((1 : Int32) <<< (x4 &&& 31)) then (
chk x7 64 <|
chk (x7 ||| ((1 : Int32) <<< (x4 &&& 31))) 64 <|
nm (sI S 15 (ix (x7 ||| ((1 : Int32) <<< (x4 &&& 31)))) ((gI S 15 (ix x7)) + x6)) fun S3 =>
rec (x7 + 1) S3)
else
k S
noncomputable def b_X2_fillSums_15_14_7 (x3 : Int32) (k : St → Option (St)) (rec : Int32 → St → Option (St)) (x4 : Int32) (S : St) : Option (St) :=
if x4 < (6 : Int32) then (
nm ((x3 + x4)) fun y2 =>
if y2 < (gI S 45 0) then (
chk y2 12 <|
nm ((gI S 14 (ix y2))) fun y5 =>
it1 (b_X2_fillSums_15_14_42 x3 x4 y5 (fun S6 =>
rec (x4 + 1) S6)) 5000 (0 : Int32) S)
else
it1 (b_X2_fillSums_15_14_42 x3 x4 (0 : Int32) (fun S4 =>
rec (x4 + 1) S4)) 5000 (0 : Int32) S)
else
k S
noncomputable def m_X2_fillSums_15_14 (x3 : Int32) (S : St) : Option (St) :=
chk (0 : Int32) 64 <|
nm (sI S 15 (ix (0 : Int32)) (0 : Int32)) fun S1 =>
it1 (b_X2_fillSums_15_14_7 x3 (fun S7 =>
some S7)) 5000 (0 : Int32) S1
set_option maxRecDepth 20000 in
theorem u_X2_fillSums_15_14_42 (C : Cx p s m args meth c cX2_fillSums 8 RX2 D (tyX cI cJ cZ) ad n (wX ad cI cJ cZ)) (hr : meth.sig.returnType = none) (x3 : Int32) (x4 : Int32) (x6 : Int32) (k : St → Option (St)) (hk : ∀ (S : St), GM p l e ({ frames := 0, cells := 0, slots := 0, locals := 0 } : Room) s m args below meth c D ad n (wX ad cI cJ cZ) 8 (QV D (wX ad cI cJ cZ) ad n args s below) (k S) S 73 [(0, .ref (ad 3)), (1, .ref (ad 15)), (2, .ref (ad 14)), (3, .int x3), (4, .int x4)] []) (rec : Int32 → St → Option (St)) (hrec : ∀ (x7 : Int32) (S : St), GM p l e ({ frames := 0, cells := 0, slots := 0, locals := 0 } : Room) s m args below meth c D ad n (wX ad cI cJ cZ) 8 (QV D (wX ad cI cJ cZ) ad n args s below) (rec x7 S) S 42 [(0, .ref (ad 3)), (1, .ref (ad 15)), (2, .ref (ad 14)), (3, .int x3), (4, .int x4), (6, .int x6), (7, .int x7)] []) (x7 : Int32) (S : St) : GM p l e ({ frames := 0, cells := 0, slots := 0, locals := 0 } : Room) s m args below meth c D ad n (wX ad cI cJ cZ) 8 (QV D (wX ad cI cJ cZ) ad n args s below) (b_X2_fillSums_15_14_42 x3 x4 x6 k rec x7 S) S 42 [(0, .ref (ad 3)), (1, .ref (ad 15)), (2, .ref (ad 14)), (3, .int x3), (4, .int x4), (6, .int x6), (7, .int x7)] [] := by
  unfold b_X2_fillSums_15_14_42
  refine g_iload (pc := 42) C dX2_fillSums_42 6 rfl ?_
  refine g_iconst (pc := 44) (v := 1) C dX2_fillSums_44 (by decide) ?_
  refine g_iload (pc := 45) C dX2_fillSums_45 4 rfl ?_
  refine g_ishl (pc := 47) C dX2_fillSums_47 ?_
  refine g_icmp_ge (pc := 48) (tgt := 73) C dX2_fillSums_48 (by decide) ?_ ?_
  · refine g_sub [0, 1, 2, 3, 4] rfl (hk _)
  · refine g_aload_n (pc := 51) C dX2_fillSums_51 (i := 1) rfl 1 rfl ?_
    refine g_iload (pc := 52) C dX2_fillSums_52 6 rfl ?_
    refine g_iconst (pc := 54) (v := 1) C dX2_fillSums_54 (by decide) ?_
    refine g_iload (pc := 55) C dX2_fillSums_55 4 rfl ?_
    refine g_ishl (pc := 57) C dX2_fillSums_57 ?_
    refine g_ior (pc := 58) C dX2_fillSums_58 ?_
    refine g_aload_n (pc := 59) C dX2_fillSums_59 (i := 1) rfl 1 rfl ?_
    refine g_iload (pc := 60) C dX2_fillSums_60 6 rfl ?_
    refine al_X2_lowSums (pc := 62) C dX2_fillSums_62 ?_
    refine g_iload (pc := 63) C dX2_fillSums_63 5 rfl ?_
    refine g_iadd (pc := 65) C dX2_fillSums_65 ?_
    refine as_X2_lowSums (pc := 66) C dX2_fillSums_66 fun S3 => ?_
    refine g_iinc (pc := 67) (v := (x7 + 1)) (lv2 := [(7, .int (x7 + 1)), (0, .ref (ad 3)), (1, .ref (ad 15)), (2, .ref (ad 14)), (3, .int x3), (4, .int x4), (6, .int x6)]) C dX2_fillSums_67 6 rfl rfl (by decide) rfl ?_
    refine g_goto (pc := 70) (tgt := 42) C dX2_fillSums_70 (by decide) ?_
    refine g_sub [1, 2, 3, 4, 5, 6, 0] rfl (hrec _ _)
set_option maxRecDepth 20000 in
theorem u_X2_fillSums_15_14_7 (C : Cx p s m args meth c cX2_fillSums 8 RX2 D (tyX cI cJ cZ) ad n (wX ad cI cJ cZ)) (hr : meth.sig.returnType = none) (x3 : Int32) (k : St → Option (St)) (hk : ∀ (S : St), GM p l e ({ frames := 0, cells := 0, slots := 0, locals := 0 } : Room) s m args below meth c D ad n (wX ad cI cJ cZ) 8 (QV D (wX ad cI cJ cZ) ad n args s below) (k S) S 79 [] []) (rec : Int32 → St → Option (St)) (hrec : ∀ (x4 : Int32) (S : St), GM p l e ({ frames := 0, cells := 0, slots := 0, locals := 0 } : Room) s m args below meth c D ad n (wX ad cI cJ cZ) 8 (QV D (wX ad cI cJ cZ) ad n args s below) (rec x4 S) S 7 [(0, .ref (ad 3)), (1, .ref (ad 15)), (2, .ref (ad 14)), (3, .int x3), (4, .int x4)] []) (x4 : Int32) (S : St) : GM p l e ({ frames := 0, cells := 0, slots := 0, locals := 0 } : Room) s m args below meth c D ad n (wX ad cI cJ cZ) 8 (QV D (wX ad cI cJ cZ) ad n args s below) (b_X2_fillSums_15_14_7 x3 k rec x4 S) S 7 [(0, .ref (ad 3)), (1, .ref (ad 15)), (2, .ref (ad 14)), (3, .int x3), (4, .int x4)] [] := by
  unfold b_X2_fillSums_15_14_7
  refine g_iload (pc := 7) C dX2_fillSums_7 4 rfl ?_
  refine g_bipush (pc := 9) (v := 6) C dX2_fillSums_9 (by decide) ?_
  refine g_icmp_ge (pc := 11) (tgt := 79) C dX2_fillSums_11 (by decide) ?_ ?_
  · refine g_sub [] rfl (hk _)
  · refine g_iload_n (pc := 14) C dX2_fillSums_14 (i := 3) rfl 3 rfl ?_
    refine g_iload (pc := 15) C dX2_fillSums_15 4 rfl ?_
    refine g_iadd (pc := 17) C dX2_fillSums_17 ?_
    refine g_nmi fun y2 => ?_
    refine g_istore (pc := 18) (i := 5) (j := 0) (lv2 := [(5, .int y2), (0, .ref (ad 3)), (1, .ref (ad 15)), (2, .ref (ad 14)), (3, .int x3), (4, .int x4)]) C dX2_fillSums_18 (by decide) rfl ?_
    refine g_iload (pc := 20) C dX2_fillSums_20 0 rfl ?_
    refine g_aload_n (pc := 22) C dX2_fillSums_22 (i := 0) rfl 1 rfl ?_
    refine gt_X2_cells (pc := 23) C q160 dX2_fillSums_23 ?_
    refine g_icmp_ge (pc := 26) (tgt := 36) C dX2_fillSums_26 (by decide) ?_ ?_
    · refine g_iconst (pc := 36) (v := 0) C dX2_fillSums_36 (by decide) ?_
      refine g_istore (pc := 37) (i := 6) (j := 0) (lv2 := [(6, .int (0 : Int32)), (5, .int y2), (0, .ref (ad 3)), (1, .ref (ad 15)), (2, .ref (ad 14)), (3, .int x3), (4, .int x4)]) C dX2_fillSums_37 (by decide) rfl ?_
      refine g_iconst (pc := 39) (v := 0) C dX2_fillSums_39 (by decide) ?_
      refine g_istore (pc := 40) (i := 7) (j := 0) (lv2 := [(7, .int (0 : Int32)), (6, .int (0 : Int32)), (5, .int y2), (0, .ref (ad 3)), (1, .ref (ad 15)), (2, .ref (ad 14)), (3, .int x3), (4, .int x4)]) C dX2_fillSums_40 (by decide) rfl ?_
      refine g_sub [3, 4, 5, 6, 7, 1, 0] (lv2 := [(0, .ref (ad 3)), (1, .ref (ad 15)), (2, .ref (ad 14)), (3, .int x3), (4, .int x4), (6, .int (0 : Int32)), (7, .int (0 : Int32))]) rfl ?_
      refine g_it1 (pc := 42) (u_X2_fillSums_15_14_42 C hr _ _ _ _ fun S4 => ?_) _ _ _
      refine g_iinc (pc := 73) (v := (x4 + 1)) (lv2 := [(4, .int (x4 + 1)), (0, .ref (ad 3)), (1, .ref (ad 15)), (2, .ref (ad 14)), (3, .int x3)]) C dX2_fillSums_73 4 rfl rfl (by decide) rfl ?_
      refine g_goto (pc := 76) (tgt := 7) C dX2_fillSums_76 (by decide) ?_
      refine g_sub [1, 2, 3, 4, 0] rfl (hrec _ _)
    · refine g_aload_n (pc := 29) C dX2_fillSums_29 (i := 2) rfl 3 rfl ?_
      refine g_iload (pc := 30) C dX2_fillSums_30 0 rfl ?_
      refine al_X5_cellYears (pc := 32) C dX2_fillSums_32 ?_
      refine g_goto (pc := 33) (tgt := 37) C dX2_fillSums_33 (by decide) ?_
      refine g_nmi fun y5 => ?_
      refine g_istore (pc := 37) (i := 6) (j := 0) (lv2 := [(6, .int y5), (5, .int y2), (0, .ref (ad 3)), (1, .ref (ad 15)), (2, .ref (ad 14)), (3, .int x3), (4, .int x4)]) C dX2_fillSums_37 (by decide) rfl ?_
      refine g_iconst (pc := 39) (v := 0) C dX2_fillSums_39 (by decide) ?_
      refine g_istore (pc := 40) (i := 7) (j := 0) (lv2 := [(7, .int (0 : Int32)), (6, .int y5), (5, .int y2), (0, .ref (ad 3)), (1, .ref (ad 15)), (2, .ref (ad 14)), (3, .int x3), (4, .int x4)]) C dX2_fillSums_40 (by decide) rfl ?_
      refine g_sub [3, 4, 5, 6, 7, 1, 0] (lv2 := [(0, .ref (ad 3)), (1, .ref (ad 15)), (2, .ref (ad 14)), (3, .int x3), (4, .int x4), (6, .int y5), (7, .int (0 : Int32))]) rfl ?_
      refine g_it1 (pc := 42) (u_X2_fillSums_15_14_42 C hr _ _ _ _ fun S6 => ?_) _ _ _
      refine g_iinc (pc := 73) (v := (x4 + 1)) (lv2 := [(4, .int (x4 + 1)), (0, .ref (ad 3)), (1, .ref (ad 15)), (2, .ref (ad 14)), (3, .int x3)]) C dX2_fillSums_73 4 rfl rfl (by decide) rfl ?_
      refine g_goto (pc := 76) (tgt := 7) C dX2_fillSums_76 (by decide) ?_
      refine g_sub [1, 2, 3, 4, 0] rfl (hrec _ _)
set_option maxRecDepth 20000 in
theorem c_X2_fillSums_15_14 {l : Launch} {D : va_G} {ad : Nat → Nat} {cI cJ cZ : ClassId} {n : Nat} (hD : ∀ sz S, va_D (Adr ad n sz) (wX ad cI cJ cZ S)) {x3 : Int32} {S : St} {z : St} (hf : m_X2_fillSums_15_14 x3 S = some z) : CtV l yX2_fillSums cX2_fillSums 8 none ({ frames := 0, cells := 0, slots := 0, locals := 0 } : Room) D (wX ad cI cJ cZ) (tyX cI cJ cZ) ad n [.ref (ad 3), .ref (ad 15), .ref (ad 14), .int x3] S z := by
  refine CtV.of hf (by decide +kernel) (Nat.le_of_ble_eq_true rfl) hD (fun p e s m args below meth c C hr => ?_)
  refine g_sub [0, 1, 2, 3] (lv2 := [(0, .ref (ad 3)), (1, .ref (ad 15)), (2, .ref (ad 14)), (3, .int x3)]) rfl ?_
  unfold m_X2_fillSums_15_14
  refine g_aload_n (pc := 0) C dX2_fillSums_0 (i := 1) rfl 1 rfl ?_
  refine g_iconst (pc := 1) (v := 0) C dX2_fillSums_1 (by decide) ?_
  refine g_iconst (pc := 2) (v := 0) C dX2_fillSums_2 (by decide) ?_
  refine as_X2_lowSums (pc := 3) C dX2_fillSums_3 fun S1 => ?_
  refine g_iconst (pc := 4) (v := 0) C dX2_fillSums_4 (by decide) ?_
  refine g_istore (pc := 5) (i := 4) (j := 0) (lv2 := [(4, .int (0 : Int32)), (0, .ref (ad 3)), (1, .ref (ad 15)), (2, .ref (ad 14)), (3, .int x3)]) C dX2_fillSums_5 (by decide) rfl ?_
  refine g_sub [1, 2, 3, 4, 0] (lv2 := [(0, .ref (ad 3)), (1, .ref (ad 15)), (2, .ref (ad 14)), (3, .int x3), (4, .int (0 : Int32))]) rfl ?_
  refine g_it1 (pc := 7) (u_X2_fillSums_15_14_7 C hr _ _ fun S7 => ?_) _ _ _
  exact g_vret (pc := 79) C hr dX2_fillSums_79
end MM
