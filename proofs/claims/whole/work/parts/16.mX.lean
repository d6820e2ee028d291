section MM
variable {p : Program} {l : Launch} {e : Env} {s : State} {m : MethodId} {args : Array Value} {below : List Frame} {meth : Method} {c : Code} {D : va_G} {ad : Nat → Nat} {n : Nat} {cI cJ cZ : ClassId}
noncomputable def m_X6_clear (x1 : Int32) (x2 : Int32) (x3 : Int32) (x4 : Int32) (S : St) : Option (Int64 × St) :=
bnd (m_X6_isCell x1 S) fun r2 S1 =>
if r2 = 0 then (
some ((-9223372036854775806 : Int64), S1))
else
bnd (m_X6_isBelow x2 (4 : Int32) S1) fun r4 S3 =>
if r4 = 0 then (
some ((-9223372036854775806 : Int64), S3))
else
if x3 = (-1 : Int32) then (
bnd (m_X6_isBelow x4 (2 : Int32) S3) fun r6 S5 =>
if r6 = 0 then (
some ((-9223372036854775806 : Int64), S5))
else
bnd (m_X5_hoursOf x1 x2 S5) fun r8 S7 =>
if x3 = (-1 : Int32) then (
chk x2 4 <|
bndV (m_X0_takeMean r8 (gI S7 31 (ix x2)) S7) fun S15 =>
if x4 = 0 then (
bnd (m_X0_above S15) fun r20 S19 =>
some (r20, S19))
else
bnd (m_X0_below S15) fun r18 S17 =>
some (r18, S17))
else
chk x2 4 <|
bndV (m_X0_takeAtLeast r8 (gI S7 31 (ix x2)) x3 S7) fun S9 =>
if x4 = 0 then (
bnd (m_X0_above S9) fun r14 S13 =>
some (r14, S13))
else
bnd (m_X0_below S9) fun r12 S11 =>
some (r12, S11))
else
bnd (m_X6_isBelow x3 (13 : Int32) S3) fun r22 S21 =>
if r22 = 0 then (
some ((-9223372036854775806 : Int64), S21))
else
bnd (m_X6_isBelow x4 (2 : Int32) S21) fun r24 S23 =>
if r24 = 0 then (
some ((-9223372036854775806 : Int64), S23))
else
bnd (m_X5_hoursOf x1 x2 S23) fun r26 S25 =>
if x3 = (-1 : Int32) then (
chk x2 4 <|
bndV (m_X0_takeMean r26 (gI S25 31 (ix x2)) S25) fun S33 =>
if x4 = 0 then (
bnd (m_X0_above S33) fun r38 S37 =>
some (r38, S37))
else
bnd (m_X0_below S33) fun r36 S35 =>
some (r36, S35))
else
chk x2 4 <|
bndV (m_X0_takeAtLeast r26 (gI S25 31 (ix x2)) x3 S25) fun S27 =>
if x4 = 0 then (
bnd (m_X0_above S27) fun r32 S31 =>
some (r32, S31))
else
bnd (m_X0_below S27) fun r30 S29 =>
some (r30, S29)
set_option maxRecDepth 20000 in
theorem c_X6_clear {l : Launch} {D : va_G} {ad : Nat → Nat} {cI cJ cZ : ClassId} {n : Nat} (hD : ∀ sz S, va_D (Adr ad n sz) (wX ad cI cJ cZ S)) {x1 : Int32} {x2 : Int32} {x3 : Int32} {x4 : Int32} {S : St} {z : Int64 × St} (hf : m_X6_clear x1 x2 x3 x4 S = some z) : CtL l yX6_clear cX6_clear 6 (some .long) ({ frames := 3, cells := 0, slots := 0, locals := 72 } : Room) D (wX ad cI cJ cZ) (tyX cI cJ cZ) ad n [.ref (ad 0), .int x1, .int x2, .int x3, .int x4] S z := by
  refine CtL.of hf (by decide +kernel) (Nat.le_of_ble_eq_true rfl) hD (fun p e s m args below meth c C hr => ?_)
  refine g_sub [0, 1, 2, 3, 4] (lv2 := [(0, .ref (ad 0)), (1, .int x1), (2, .int x2), (3, .int x3), (4, .int x4)]) rfl ?_
  unfold m_X6_clear
  refine g_aload_n (pc := 0) C dX6_clear_0 (i := 0) rfl 0 rfl ?_
  refine g_iload_n (pc := 1) C dX6_clear_1 (i := 1) rfl 1 rfl ?_
  refine g_callVi (pc := 2) (As := [.int _]) C q395 mw_X6_isCell (fun _ hz => c_X6_isCell C.2.2.2.2.2.2.2.1 hz) ⟨Nat.le_of_ble_eq_true rfl, Nat.le_of_ble_eq_true rfl⟩ rfl rfl 0 rfl rfl rfl (Nat.le_of_ble_eq_true rfl) dX6_clear_2 fun r2 S1 => ?_
  refine g_if_eq (pc := 5) (tgt := 16) C dX6_clear_5 (by decide) ?_ ?_
  · refine g_ldc2 (pc := 16) C q723 dX6_clear_16 ?_
    exact g_lret (pc := 19) C hr dX6_clear_19
  · refine g_iload_n (pc := 8) C dX6_clear_8 (i := 2) rfl 2 rfl ?_
    refine g_iconst (pc := 9) (v := 4) C dX6_clear_9 (by decide) ?_
    refine g_callSi (pc := 10) (As := [.int _, .int _]) C q303 mw_X6_isBelow (fun _ hz => c_X6_isBelow C.2.2.2.2.2.2.2.1 hz) ⟨Nat.le_of_ble_eq_true rfl, Nat.le_of_ble_eq_true rfl⟩ rfl rfl rfl (Nat.le_of_ble_eq_true rfl) dX6_clear_10 fun r4 S3 => ?_
    refine g_if_ne (pc := 13) (tgt := 20) C dX6_clear_13 (by decide) ?_ ?_
    · refine g_iload_n (pc := 20) C dX6_clear_20 (i := 3) rfl 3 rfl ?_
      refine g_iconst (pc := 21) (v := -1) C dX6_clear_21 (by decide) ?_
      refine g_icmp_eq (pc := 22) (tgt := 34) C dX6_clear_22 (by decide) ?_ ?_
      · refine g_iload (pc := 34) C dX6_clear_34 4 rfl ?_
        refine g_iconst (pc := 36) (v := 2) C dX6_clear_36 (by decide) ?_
        refine g_callSi (pc := 37) (As := [.int _, .int _]) C q303 mw_X6_isBelow (fun _ hz => c_X6_isBelow C.2.2.2.2.2.2.2.1 hz) ⟨Nat.le_of_ble_eq_true rfl, Nat.le_of_ble_eq_true rfl⟩ rfl rfl rfl (Nat.le_of_ble_eq_true rfl) dX6_clear_37 fun r6 S5 => ?_
        refine g_if_ne (pc := 40) (tgt := 47) C dX6_clear_40 (by decide) ?_ ?_
        · refine g_aload_n (pc := 47) C dX6_clear_47 (i := 0) rfl 0 rfl ?_
          refine gt_X6_sun (pc := 48) C q247 dX6_clear_48 ?_
          refine g_iload_n (pc := 51) C dX6_clear_51 (i := 1) rfl 1 rfl ?_
          refine g_iload_n (pc := 52) C dX6_clear_52 (i := 2) rfl 2 rfl ?_
          refine g_callVi (pc := 53) (As := [.int _, .int _]) C q483 mw_X5_hoursOf (fun _ hz => c_X5_hoursOf C.2.2.2.2.2.2.2.1 hz) ⟨Nat.le_of_ble_eq_true rfl, Nat.le_of_ble_eq_true rfl⟩ rfl rfl 1 rfl rfl rfl (Nat.le_of_ble_eq_true rfl) dX6_clear_53 fun r8 S7 => ?_
          refine g_istore (pc := 56) (i := 5) (j := 0) (lv2 := [(5, .int r8), (0, .ref (ad 0)), (1, .int x1), (2, .int x2), (3, .int x3), (4, .int x4)]) C dX6_clear_56 (by decide) rfl ?_
          refine g_iload_n (pc := 58) C dX6_clear_58 (i := 3) rfl 4 rfl ?_
          refine g_iconst (pc := 59) (v := -1) C dX6_clear_59 (by decide) ?_
          refine g_icmp_ne (pc := 60) (tgt := 81) C dX6_clear_60 (by decide) ?_ ?_
          · refine g_aload_n (pc := 81) C dX6_clear_81 (i := 0) rfl 1 rfl ?_
            refine gt_X6_chance (pc := 82) C q251 dX6_clear_82 ?_
            refine g_iload (pc := 85) C dX6_clear_85 0 rfl ?_
            refine g_aload_n (pc := 87) C dX6_clear_87 (i := 0) rfl 1 rfl ?_
            refine gt_X6_cloudSixteenths (pc := 88) C q259 dX6_clear_88 ?_
            refine g_iload_n (pc := 91) C dX6_clear_91 (i := 2) rfl 3 rfl ?_
            refine al_X6_cloudSixteenths (pc := 92) C dX6_clear_92 ?_
            refine g_iload_n (pc := 93) C dX6_clear_93 (i := 3) rfl 4 rfl ?_
            refine g_callVv (pc := 94) (As := [.int _, .int _, .int _]) C q733 mw_X0_takeAtLeast (fun _ hz => c_X0_takeAtLeast C.2.2.2.2.2.2.2.1 hz) ⟨Nat.le_of_ble_eq_true rfl, Nat.le_of_ble_eq_true rfl⟩ rfl rfl 5 rfl rfl rfl (Nat.le_of_ble_eq_true rfl) dX6_clear_94 fun S9 => ?_
            refine g_iload (pc := 97) C dX6_clear_97 5 rfl ?_
            refine g_if_ne (pc := 99) (tgt := 112) C dX6_clear_99 (by decide) ?_ ?_
            · refine g_aload_n (pc := 112) C dX6_clear_112 (i := 0) rfl 1 rfl ?_
              refine gt_X6_chance (pc := 113) C q251 dX6_clear_113 ?_
              refine g_callVl (pc := 116) (As := []) C q748 mw_X0_below (fun _ hz => c_X0_below C.2.2.2.2.2.2.2.1 hz) ⟨Nat.le_of_ble_eq_true rfl, Nat.le_of_ble_eq_true rfl⟩ rfl rfl 5 rfl rfl rfl (Nat.le_of_ble_eq_true rfl) dX6_clear_116 fun r12 S11 => ?_
              exact g_lret (pc := 119) C hr dX6_clear_119
            · refine g_aload_n (pc := 102) C dX6_clear_102 (i := 0) rfl 1 rfl ?_
              refine gt_X6_chance (pc := 103) C q251 dX6_clear_103 ?_
              refine g_callVl (pc := 106) (As := []) C q744 mw_X0_above (fun _ hz => c_X0_above C.2.2.2.2.2.2.2.1 hz) ⟨Nat.le_of_ble_eq_true rfl, Nat.le_of_ble_eq_true rfl⟩ rfl rfl 5 rfl rfl rfl (Nat.le_of_ble_eq_true rfl) dX6_clear_106 fun r14 S13 => ?_
              refine g_goto (pc := 109) (tgt := 119) C dX6_clear_109 (by decide) ?_
              exact g_lret (pc := 119) C hr dX6_clear_119
          · refine g_aload_n (pc := 63) C dX6_clear_63 (i := 0) rfl 1 rfl ?_
            refine gt_X6_chance (pc := 64) C q251 dX6_clear_64 ?_
            refine g_iload (pc := 67) C dX6_clear_67 0 rfl ?_
            refine g_aload_n (pc := 69) C dX6_clear_69 (i := 0) rfl 1 rfl ?_
            refine gt_X6_cloudSixteenths (pc := 70) C q259 dX6_clear_70 ?_
            refine g_iload_n (pc := 73) C dX6_clear_73 (i := 2) rfl 3 rfl ?_
            refine al_X6_cloudSixteenths (pc := 74) C dX6_clear_74 ?_
            refine g_callVv (pc := 75) (As := [.int _, .int _]) C q724 mw_X0_takeMean (fun _ hz => c_X0_takeMean C.2.2.2.2.2.2.2.1 hz) ⟨Nat.le_of_ble_eq_true rfl, Nat.le_of_ble_eq_true rfl⟩ rfl rfl 5 rfl rfl rfl (Nat.le_of_ble_eq_true rfl) dX6_clear_75 fun S15 => ?_
            refine g_goto (pc := 78) (tgt := 97) C dX6_clear_78 (by decide) ?_
            refine g_iload (pc := 97) C dX6_clear_97 5 rfl ?_
            refine g_if_ne (pc := 99) (tgt := 112) C dX6_clear_99 (by decide) ?_ ?_
            · refine g_aload_n (pc := 112) C dX6_clear_112 (i := 0) rfl 1 rfl ?_
              refine gt_X6_chance (pc := 113) C q251 dX6_clear_113 ?_
              refine g_callVl (pc := 116) (As := []) C q748 mw_X0_below (fun _ hz => c_X0_below C.2.2.2.2.2.2.2.1 hz) ⟨Nat.le_of_ble_eq_true rfl, Nat.le_of_ble_eq_true rfl⟩ rfl rfl 5 rfl rfl rfl (Nat.le_of_ble_eq_true rfl) dX6_clear_116 fun r18 S17 => ?_
              exact g_lret (pc := 119) C hr dX6_clear_119
            · refine g_aload_n (pc := 102) C dX6_clear_102 (i := 0) rfl 1 rfl ?_
              refine gt_X6_chance (pc := 103) C q251 dX6_clear_103 ?_
              refine g_callVl (pc := 106) (As := []) C q744 mw_X0_above (fun _ hz => c_X0_above C.2.2.2.2.2.2.2.1 hz) ⟨Nat.le_of_ble_eq_true rfl, Nat.le_of_ble_eq_true rfl⟩ rfl rfl 5 rfl rfl rfl (Nat.le_of_ble_eq_true rfl) dX6_clear_106 fun r20 S19 => ?_
              refine g_goto (pc := 109) (tgt := 119) C dX6_clear_109 (by decide) ?_
              exact g_lret (pc := 119) C hr dX6_clear_119
        · refine g_ldc2 (pc := 43) C q723 dX6_clear_43 ?_
          exact g_lret (pc := 46) C hr dX6_clear_46
      · refine g_iload_n (pc := 25) C dX6_clear_25 (i := 3) rfl 3 rfl ?_
        refine g_bipush (pc := 26) (v := 13) C dX6_clear_26 (by decide) ?_
        refine g_callSi (pc := 28) (As := [.int _, .int _]) C q303 mw_X6_isBelow (fun _ hz => c_X6_isBelow C.2.2.2.2.2.2.2.1 hz) ⟨Nat.le_of_ble_eq_true rfl, Nat.le_of_ble_eq_true rfl⟩ rfl rfl rfl (Nat.le_of_ble_eq_true rfl) dX6_clear_28 fun r22 S21 => ?_
        refine g_if_eq (pc := 31) (tgt := 43) C dX6_clear_31 (by decide) ?_ ?_
        · refine g_ldc2 (pc := 43) C q723 dX6_clear_43 ?_
          exact g_lret (pc := 46) C hr dX6_clear_46
        · refine g_iload (pc := 34) C dX6_clear_34 4 rfl ?_
          refine g_iconst (pc := 36) (v := 2) C dX6_clear_36 (by decide) ?_
          refine g_callSi (pc := 37) (As := [.int _, .int _]) C q303 mw_X6_isBelow (fun _ hz => c_X6_isBelow C.2.2.2.2.2.2.2.1 hz) ⟨Nat.le_of_ble_eq_true rfl, Nat.le_of_ble_eq_true rfl⟩ rfl rfl rfl (Nat.le_of_ble_eq_true rfl) dX6_clear_37 fun r24 S23 => ?_
          refine g_if_ne (pc := 40) (tgt := 47) C dX6_clear_40 (by decide) ?_ ?_
          · refine g_aload_n (pc := 47) C dX6_clear_47 (i := 0) rfl 0 rfl ?_
            refine gt_X6_sun (pc := 48) C q247 dX6_clear_48 ?_
            refine g_iload_n (pc := 51) C dX6_clear_51 (i := 1) rfl 1 rfl ?_
            refine g_iload_n (pc := 52) C dX6_clear_52 (i := 2) rfl 2 rfl ?_
            refine g_callVi (pc := 53) (As := [.int _, .int _]) C q483 mw_X5_hoursOf (fun _ hz => c_X5_hoursOf C.2.2.2.2.2.2.2.1 hz) ⟨Nat.le_of_ble_eq_true rfl, Nat.le_of_ble_eq_true rfl⟩ rfl rfl 1 rfl rfl rfl (Nat.le_of_ble_eq_true rfl) dX6_clear_53 fun r26 S25 => ?_
            refine g_istore (pc := 56) (i := 5) (j := 0) (lv2 := [(5, .int r26), (0, .ref (ad 0)), (1, .int x1), (2, .int x2), (3, .int x3), (4, .int x4)]) C dX6_clear_56 (by decide) rfl ?_
            refine g_iload_n (pc := 58) C dX6_clear_58 (i := 3) rfl 4 rfl ?_
            refine g_iconst (pc := 59) (v := -1) C dX6_clear_59 (by decide) ?_
            refine g_icmp_ne (pc := 60) (tgt := 81) C dX6_clear_60 (by decide) ?_ ?_
            · refine g_aload_n (pc := 81) C dX6_clear_81 (i := 0) rfl 1 rfl ?_
              refine gt_X6_chance (pc := 82) C q251 dX6_clear_82 ?_
              refine g_iload (pc := 85) C dX6_clear_85 0 rfl ?_
              refine g_aload_n (pc := 87) C dX6_clear_87 (i := 0) rfl 1 rfl ?_
              refine gt_X6_cloudSixteenths (pc := 88) C q259 dX6_clear_88 ?_
              refine g_iload_n (pc := 91) C dX6_clear_91 (i := 2) rfl 3 rfl ?_
              refine al_X6_cloudSixteenths (pc := 92) C dX6_clear_92 ?_
              refine g_iload_n (pc := 93) C dX6_clear_93 (i := 3) rfl 4 rfl ?_
              refine g_callVv (pc := 94) (As := [.int _, .int _, .int _]) C q733 mw_X0_takeAtLeast (fun _ hz => c_X0_takeAtLeast C.2.2.2.2.2.2.2.1 hz) ⟨Nat.le_of_ble_eq_true rfl, Nat.le_of_ble_eq_true rfl⟩ rfl rfl 5 rfl rfl rfl (Nat.le_of_ble_eq_true rfl) dX6_clear_94 fun S27 => ?_
              refine g_iload (pc := 97) C dX6_clear_97 5 rfl ?_
              refine g_if_ne (pc := 99) (tgt := 112) C dX6_clear_99 (by decide) ?_ ?_
              · refine g_aload_n (pc := 112) C dX6_clear_112 (i := 0) rfl 1 rfl ?_
                refine gt_X6_chance (pc := 113) C q251 dX6_clear_113 ?_
                refine g_callVl (pc := 116) (As := []) C q748 mw_X0_below (fun _ hz => c_X0_below C.2.2.2.2.2.2.2.1 hz) ⟨Nat.le_of_ble_eq_true rfl, Nat.le_of_ble_eq_true rfl⟩ rfl rfl 5 rfl rfl rfl (Nat.le_of_ble_eq_true rfl) dX6_clear_116 fun r30 S29 => ?_
                exact g_lret (pc := 119) C hr dX6_clear_119
              · refine g_aload_n (pc := 102) C dX6_clear_102 (i := 0) rfl 1 rfl ?_
                refine gt_X6_chance (pc := 103) C q251 dX6_clear_103 ?_
                refine g_callVl (pc := 106) (As := []) C q744 mw_X0_above (fun _ hz => c_X0_above C.2.2.2.2.2.2.2.1 hz) ⟨Nat.le_of_ble_eq_true rfl, Nat.le_of_ble_eq_true rfl⟩ rfl rfl 5 rfl rfl rfl (Nat.le_of_ble_eq_true rfl) dX6_clear_106 fun r32 S31 => ?_
                refine g_goto (pc := 109) (tgt := 119) C dX6_clear_109 (by decide) ?_
                exact g_lret (pc := 119) C hr dX6_clear_119
            · refine g_aload_n (pc := 63) C dX6_clear_63 (i := 0) rfl 1 rfl ?_
              refine gt_X6_chance (pc := 64) C q251 dX6_clear_64 ?_
              refine g_iload (pc := 67) C dX6_clear_67 0 rfl ?_
              refine g_aload_n (pc := 69) C dX6_clear_69 (i := 0) rfl 1 rfl ?_
              refine gt_X6_cloudSixteenths (pc := 70) C q259 dX6_clear_70 ?_
              refine g_iload_n (pc := 73) C dX6_clear_73 (i := 2) rfl 3 rfl ?_
              refine al_X6_cloudSixteenths (pc := 74) C dX6_clear_74 ?_
              refine g_callVv (pc := 75) (As := [.int _, .int _]) C q724 mw_X0_takeMean (fun _ hz => c_X0_takeMean C.2.2.2.2.2.2.2.1 hz) ⟨Nat.le_of_ble_eq_true rfl, Nat.le_of_ble_eq_true rfl⟩ rfl rfl 5 rfl rfl rfl (Nat.le_of_ble_eq_true rfl) dX6_clear_75 fun S33 => ?_
              refine g_goto (pc := 78) (tgt := 97) C dX6_clear_78 (by decide) ?_
              refine g_iload (pc := 97) C dX6_clear_97 5 rfl ?_
              refine g_if_ne (pc := 99) (tgt := 112) C dX6_clear_99 (by decide) ?_ ?_
              · refine g_aload_n (pc := 112) C dX6_clear_112 (i := 0) rfl 1 rfl ?_
                refine gt_X6_chance (pc := 113) C q251 dX6_clear_113 ?_
                refine g_callVl (pc := 116) (As := []) C q748 mw_X0_below (fun _ hz => c_X0_below C.2.2.2.2.2.2.2.1 hz) ⟨Nat.le_of_ble_eq_true rfl, Nat.le_of_ble_eq_true rfl⟩ rfl rfl 5 rfl rfl rfl (Nat.le_of_ble_eq_true rfl) dX6_clear_116 fun r36 S35 => ?_
                exact g_lret (pc := 119) C hr dX6_clear_119
              · refine g_aload_n (pc := 102) C dX6_clear_102 (i := 0) rfl 1 rfl ?_
                refine gt_X6_chance (pc := 103) C q251 dX6_clear_103 ?_
                refine g_callVl (pc := 106) (As := []) C q744 mw_X0_above (fun _ hz => c_X0_above C.2.2.2.2.2.2.2.1 hz) ⟨Nat.le_of_ble_eq_true rfl, Nat.le_of_ble_eq_true rfl⟩ rfl rfl 5 rfl rfl rfl (Nat.le_of_ble_eq_true rfl) dX6_clear_106 fun r38 S37 => ?_
                refine g_goto (pc := 109) (tgt := 119) C dX6_clear_109 (by decide) ?_
                exact g_lret (pc := 119) C hr dX6_clear_119
          · refine g_ldc2 (pc := 43) C q723 dX6_clear_43 ?_
            exact g_lret (pc := 46) C hr dX6_clear_46
    · refine g_ldc2 (pc := 16) C q723 dX6_clear_16 ?_
      exact g_lret (pc := 19) C hr dX6_clear_19
noncomputable def b_X4_lay_17 (x1 : Int32) (x3 : Int32) (k : St → Option (St)) (rec : Int32 → St → Option (St)) (x4 : Int32) (S : St) : Option (St) :=
if x4 < x3 then (
chk ((x1 * (48 : Int32)) + x4) 192 <|
nm (sI S 22 (ix ((x1 * (48 : Int32)) + x4)) (0 : Int32)) fun S3 =>
rec (x4 + 1) S3)
else
k S
noncomputable def m_X4_lay (x1 : Int32) (x2 : Int32) (x3 : Int32) (S : St) : Option (St) :=
chk x1 4 <|
nm (sI S 23 (ix x1) x2) fun S1 =>
chk x1 4 <|
nm (sI S1 24 (ix x1) x3) fun S2 =>
it1 (b_X4_lay_17 x1 x3 (fun S4 =>
some S4)) 5000 (0 : Int32) S2
set_option maxRecDepth 20000 in
theorem u_X4_lay_17 (C : Cx p s m args meth c cX4_lay 5 RX4 D (tyX cI cJ cZ) ad n (wX ad cI cJ cZ)) (hr : meth.sig.returnType = none) (x1 : Int32) (x3 : Int32) (k : St → Option (St)) (hk : ∀ (S : St), GM p l e ({ frames := 0, cells := 0, slots := 0, locals := 0 } : Room) s m args below meth c D ad n (wX ad cI cJ cZ) 5 (QV D (wX ad cI cJ cZ) ad n args s below) (k S) S 42 [] []) (rec : Int32 → St → Option (St)) (hrec : ∀ (x4 : Int32) (S : St), GM p l e ({ frames := 0, cells := 0, slots := 0, locals := 0 } : Room) s m args below meth c D ad n (wX ad cI cJ cZ) 5 (QV D (wX ad cI cJ cZ) ad n args s below) (rec x4 S) S 17 [(0, .ref (ad 6)), (1, .int x1), (3, .int x3), (4, .int x4)] []) (x4 : Int32) (S : St) : GM p l e ({ frames := 0, cells := 0, slots := 0, locals := 0 } : Room) s m args below meth c D ad n (wX ad cI cJ cZ) 5 (QV D (wX ad cI cJ cZ) ad n args s below) (b_X4_lay_17 x1 x3 k rec x4 S) S 17 [(0, .ref (ad 6)), (1, .int x1), (3, .int x3), (4, .int x4)] [] := by
  unfold b_X4_lay_17
  refine g_iload (pc := 17) C dX4_lay_17 3 rfl ?_
  refine g_iload_n (pc := 19) C dX4_lay_19 (i := 3) rfl 2 rfl ?_
  refine g_icmp_ge (pc := 20) (tgt := 42) C dX4_lay_20 (by decide) ?_ ?_
  · refine g_sub [] rfl (hk _)
  · refine g_aload_n (pc := 23) C dX4_lay_23 (i := 0) rfl 0 rfl ?_
    refine gt_X4_items (pc := 24) C q234 dX4_lay_24 ?_
    refine g_iload_n (pc := 27) C dX4_lay_27 (i := 1) rfl 1 rfl ?_
    refine g_bipush (pc := 28) (v := 48) C dX4_lay_28 (by decide) ?_
    refine g_imul (pc := 30) C dX4_lay_30 ?_
    refine g_iload (pc := 31) C dX4_lay_31 3 rfl ?_
    refine g_iadd (pc := 33) C dX4_lay_33 ?_
    refine g_iconst (pc := 34) (v := 0) C dX4_lay_34 (by decide) ?_
    refine as_X4_items (pc := 35) C dX4_lay_35 fun S3 => ?_
    refine g_iinc (pc := 36) (v := (x4 + 1)) (lv2 := [(4, .int (x4 + 1)), (0, .ref (ad 6)), (1, .int x1), (3, .int x3)]) C dX4_lay_36 3 rfl rfl (by decide) rfl ?_
    refine g_goto (pc := 39) (tgt := 17) C dX4_lay_39 (by decide) ?_
    refine g_sub [1, 2, 3, 0] rfl (hrec _ _)
set_option maxRecDepth 20000 in
theorem c_X4_lay {l : Launch} {D : va_G} {ad : Nat → Nat} {cI cJ cZ : ClassId} {n : Nat} (hD : ∀ sz S, va_D (Adr ad n sz) (wX ad cI cJ cZ S)) {x1 : Int32} {x2 : Int32} {x3 : Int32} {S : St} {z : St} (hf : m_X4_lay x1 x2 x3 S = some z) : CtV l yX4_lay cX4_lay 5 none ({ frames := 0, cells := 0, slots := 0, locals := 0 } : Room) D (wX ad cI cJ cZ) (tyX cI cJ cZ) ad n [.ref (ad 6), .int x1, .int x2, .int x3] S z := by
  refine CtV.of hf (by decide +kernel) (Nat.le_of_ble_eq_true rfl) hD (fun p e s m args below meth c C hr => ?_)
  refine g_sub [0, 1, 2, 3] (lv2 := [(0, .ref (ad 6)), (1, .int x1), (2, .int x2), (3, .int x3)]) rfl ?_
  unfold m_X4_lay
  refine g_aload_n (pc := 0) C dX4_lay_0 (i := 0) rfl 0 rfl ?_
  refine gt_X4_forms (pc := 1) C q235 dX4_lay_1 ?_
  refine g_iload_n (pc := 4) C dX4_lay_4 (i := 1) rfl 1 rfl ?_
  refine g_iload_n (pc := 5) C dX4_lay_5 (i := 2) rfl 2 rfl ?_
  refine as_X4_forms (pc := 6) C dX4_lay_6 fun S1 => ?_
  refine g_aload_n (pc := 7) C dX4_lay_7 (i := 0) rfl 0 rfl ?_
  refine gt_X4_sizes (pc := 8) C q236 dX4_lay_8 ?_
  refine g_iload_n (pc := 11) C dX4_lay_11 (i := 1) rfl 1 rfl ?_
  refine g_iload_n (pc := 12) C dX4_lay_12 (i := 3) rfl 3 rfl ?_
  refine as_X4_sizes (pc := 13) C dX4_lay_13 fun S2 => ?_
  refine g_iconst (pc := 14) (v := 0) C dX4_lay_14 (by decide) ?_
  refine g_istore (pc := 15) (i := 4) (j := 0) (lv2 := [(4, .int (0 : Int32)), (0, .ref (ad 6)), (1, .int x1), (2, .int x2), (3, .int x3)]) C dX4_lay_15 (by decide) rfl ?_
  refine g_sub [1, 2, 4, 0] (lv2 := [(0, .ref (ad 6)), (1, .int x1), (3, .int x3), (4, .int (0 : Int32))]) rfl ?_
  refine g_it1 (pc := 17) (u_X4_lay_17 C hr _ _ _ fun S4 => ?_) _ _ _
  exact g_vret (pc := 42) C hr dX4_lay_42
noncomputable def m_X6_sheet (x1 : Int32) (x2 : Int32) (x3 : Int32) (S : St) : Option (Int32 × St) :=
bnd (m_X6_isBelow x1 (4 : Int32) S) fun r2 S1 =>
if r2 = 0 then (
some ((-2 : Int32), S1))
else
bnd (m_X6_isBelow x2 (3 : Int32) S1) fun r4 S3 =>
if r4 = 0 then (
some ((-2 : Int32), S3))
else
if (48 : Int32) < x3 then (
some ((-2 : Int32), S3))
else
if x3 < 0 then (
bnd (m_X6_found (5 : Int32) S3) fun r8 S7 =>
some (r8, S7))
else
bndV (m_X4_lay x1 x2 x3 S3) fun S5 =>
some (x3, S5)
set_option maxRecDepth 20000 in
theorem c_X6_sheet {l : Launch} {D : va_G} {ad : Nat → Nat} {cI cJ cZ : ClassId} {n : Nat} (hD : ∀ sz S, va_D (Adr ad n sz) (wX ad cI cJ cZ S)) {x1 : Int32} {x2 : Int32} {x3 : Int32} {S : St} {z : Int32 × St} (hf : m_X6_sheet x1 x2 x3 S = some z) : CtI l yX6_sheet cX6_sheet 4 (some .int) ({ frames := 1, cells := 0, slots := 0, locals := 24 } : Room) D (wX ad cI cJ cZ) (tyX cI cJ cZ) ad n [.ref (ad 0), .int x1, .int x2, .int x3] S z := by
  refine CtI.of hf (by decide +kernel) (Nat.le_of_ble_eq_true rfl) hD (fun p e s m args below meth c C hr => ?_)
  refine g_sub [0, 1, 2, 3] (lv2 := [(0, .ref (ad 0)), (1, .int x1), (2, .int x2), (3, .int x3)]) rfl ?_
  unfold m_X6_sheet
  refine g_iload_n (pc := 0) C dX6_sheet_0 (i := 1) rfl 1 rfl ?_
  refine g_iconst (pc := 1) (v := 4) C dX6_sheet_1 (by decide) ?_
  refine g_callSi (pc := 2) (As := [.int _, .int _]) C q303 mw_X6_isBelow (fun _ hz => c_X6_isBelow C.2.2.2.2.2.2.2.1 hz) ⟨Nat.le_of_ble_eq_true rfl, Nat.le_of_ble_eq_true rfl⟩ rfl rfl rfl (Nat.le_of_ble_eq_true rfl) dX6_sheet_2 fun r2 S1 => ?_
  refine g_if_eq (pc := 5) (tgt := 22) C dX6_sheet_5 (by decide) ?_ ?_
  · refine g_bipush (pc := 22) (v := -2) C dX6_sheet_22 (by decide) ?_
    exact g_iret (pc := 24) C hr dX6_sheet_24
  · refine g_iload_n (pc := 8) C dX6_sheet_8 (i := 2) rfl 2 rfl ?_
    refine g_iconst (pc := 9) (v := 3) C dX6_sheet_9 (by decide) ?_
    refine g_callSi (pc := 10) (As := [.int _, .int _]) C q303 mw_X6_isBelow (fun _ hz => c_X6_isBelow C.2.2.2.2.2.2.2.1 hz) ⟨Nat.le_of_ble_eq_true rfl, Nat.le_of_ble_eq_true rfl⟩ rfl rfl rfl (Nat.le_of_ble_eq_true rfl) dX6_sheet_10 fun r4 S3 => ?_
    refine g_if_eq (pc := 13) (tgt := 22) C dX6_sheet_13 (by decide) ?_ ?_
    · refine g_bipush (pc := 22) (v := -2) C dX6_sheet_22 (by decide) ?_
      exact g_iret (pc := 24) C hr dX6_sheet_24
    · refine g_iload_n (pc := 16) C dX6_sheet_16 (i := 3) rfl 3 rfl ?_
      refine g_bipush (pc := 17) (v := 48) C dX6_sheet_17 (by decide) ?_
      refine g_icmp_le (pc := 19) (tgt := 25) C dX6_sheet_19 (by decide) ?_ ?_
      · refine g_iload_n (pc := 25) C dX6_sheet_25 (i := 3) rfl 3 rfl ?_
        refine g_if_ge (pc := 26) (tgt := 35) C dX6_sheet_26 (by decide) ?_ ?_
        · refine g_aload_n (pc := 35) C dX6_sheet_35 (i := 0) rfl 0 rfl ?_
          refine gt_X6_sheets (pc := 36) C q252 dX6_sheet_36 ?_
          refine g_iload_n (pc := 39) C dX6_sheet_39 (i := 1) rfl 1 rfl ?_
          refine g_iload_n (pc := 40) C dX6_sheet_40 (i := 2) rfl 2 rfl ?_
          refine g_iload_n (pc := 41) C dX6_sheet_41 (i := 3) rfl 3 rfl ?_
          refine g_callVv (pc := 42) (As := [.int _, .int _, .int _]) C q756 mw_X4_lay (fun _ hz => c_X4_lay C.2.2.2.2.2.2.2.1 hz) ⟨Nat.le_of_ble_eq_true rfl, Nat.le_of_ble_eq_true rfl⟩ rfl rfl 6 rfl rfl rfl (Nat.le_of_ble_eq_true rfl) dX6_sheet_42 fun S5 => ?_
          refine g_iload_n (pc := 45) C dX6_sheet_45 (i := 3) rfl 3 rfl ?_
          exact g_iret (pc := 46) C hr dX6_sheet_46
        · refine g_aload_n (pc := 29) C dX6_sheet_29 (i := 0) rfl 0 rfl ?_
          refine g_iconst (pc := 30) (v := 5) C dX6_sheet_30 (by decide) ?_
          refine g_callVi (pc := 31) (As := [.int _]) C q428 mw_X6_found (fun _ hz => c_X6_found C.2.2.2.2.2.2.2.1 hz) ⟨Nat.le_of_ble_eq_true rfl, Nat.le_of_ble_eq_true rfl⟩ rfl rfl 0 rfl rfl rfl (Nat.le_of_ble_eq_true rfl) dX6_sheet_31 fun r8 S7 => ?_
          exact g_iret (pc := 34) C hr dX6_sheet_34
      · refine g_bipush (pc := 22) (v := -2) C dX6_sheet_22 (by decide) ?_
        exact g_iret (pc := 24) C hr dX6_sheet_24
noncomputable def m_X4_drop (x1 : Int32) (S : St) : Option (St) :=
chk x1 4 <|
nm (sI S 24 (ix x1) (-1 : Int32)) fun S1 =>
some S1
set_option maxRecDepth 20000 in
theorem c_X4_drop {l : Launch} {D : va_G} {ad : Nat → Nat} {cI cJ cZ : ClassId} {n : Nat} (hD : ∀ sz S, va_D (Adr ad n sz) (wX ad cI cJ cZ S)) {x1 : Int32} {S : St} {z : St} (hf : m_X4_drop x1 S = some z) : CtV l yX4_drop cX4_drop 2 none ({ frames := 0, cells := 0, slots := 0, locals := 0 } : Room) D (wX ad cI cJ cZ) (tyX cI cJ cZ) ad n [.ref (ad 6), .int x1] S z := by
  refine CtV.of hf (by decide +kernel) (Nat.le_of_ble_eq_true rfl) hD (fun p e s m args below meth c C hr => ?_)
  refine g_sub [0, 1] (lv2 := [(0, .ref (ad 6)), (1, .int x1)]) rfl ?_
  unfold m_X4_drop
  refine g_aload_n (pc := 0) C dX4_drop_0 (i := 0) rfl 0 rfl ?_
  refine gt_X4_sizes (pc := 1) C q236 dX4_drop_1 ?_
  refine g_iload_n (pc := 4) C dX4_drop_4 (i := 1) rfl 1 rfl ?_
  refine g_iconst (pc := 5) (v := -1) C dX4_drop_5 (by decide) ?_
  refine as_X4_sizes (pc := 6) C dX4_drop_6 fun S1 => ?_
  exact g_vret (pc := 7) C hr dX4_drop_7
noncomputable def m_X6_lose (x1 : Int32) (S : St) : Option (Int32 × St) :=
bnd (m_X6_isBelow x1 (4 : Int32) S) fun r2 S1 =>
if r2 = 0 then (
some ((-2 : Int32), S1))
else
bnd (m_X4_isLost x1 S1) fun r4 S3 =>
if r4 = 0 then (
bnd (m_X4_sizeOf x1 S3) fun r6 S5 =>
bndV (m_X4_drop x1 S5) fun S7 =>
some (r6, S7))
else
bnd (m_X6_found (1 : Int32) S3) fun r10 S9 =>
some (r10, S9)
set_option maxRecDepth 20000 in
theorem c_X6_lose {l : Launch} {D : va_G} {ad : Nat → Nat} {cI cJ cZ : ClassId} {n : Nat} (hD : ∀ sz S, va_D (Adr ad n sz) (wX ad cI cJ cZ S)) {x1 : Int32} {S : St} {z : Int32 × St} (hf : m_X6_lose x1 S = some z) : CtI l yX6_lose cX6_lose 3 (some .int) ({ frames := 1, cells := 0, slots := 0, locals := 21 } : Room) D (wX ad cI cJ cZ) (tyX cI cJ cZ) ad n [.ref (ad 0), .int x1] S z := by
  refine CtI.of hf (by decide +kernel) (Nat.le_of_ble_eq_true rfl) hD (fun p e s m args below meth c C hr => ?_)
  refine g_sub [0, 1] (lv2 := [(0, .ref (ad 0)), (1, .int x1)]) rfl ?_
  unfold m_X6_lose
  refine g_iload_n (pc := 0) C dX6_lose_0 (i := 1) rfl 1 rfl ?_
  refine g_iconst (pc := 1) (v := 4) C dX6_lose_1 (by decide) ?_
  refine g_callSi (pc := 2) (As := [.int _, .int _]) C q303 mw_X6_isBelow (fun _ hz => c_X6_isBelow C.2.2.2.2.2.2.2.1 hz) ⟨Nat.le_of_ble_eq_true rfl, Nat.le_of_ble_eq_true rfl⟩ rfl rfl rfl (Nat.le_of_ble_eq_true rfl) dX6_lose_2 fun r2 S1 => ?_
  refine g_if_ne (pc := 5) (tgt := 11) C dX6_lose_5 (by decide) ?_ ?_
  · refine g_aload_n (pc := 11) C dX6_lose_11 (i := 0) rfl 0 rfl ?_
    refine gt_X6_sheets (pc := 12) C q252 dX6_lose_12 ?_
    refine g_iload_n (pc := 15) C dX6_lose_15 (i := 1) rfl 1 rfl ?_
    refine g_callVi (pc := 16) (As := [.int _]) C q424 mw_X4_isLost (fun _ hz => c_X4_isLost C.2.2.2.2.2.2.2.1 hz) ⟨Nat.le_of_ble_eq_true rfl, Nat.le_of_ble_eq_true rfl⟩ rfl rfl 6 rfl rfl rfl (Nat.le_of_ble_eq_true rfl) dX6_lose_16 fun r4 S3 => ?_
    refine g_if_eq (pc := 19) (tgt := 28) C dX6_lose_19 (by decide) ?_ ?_
    · refine g_aload_n (pc := 28) C dX6_lose_28 (i := 0) rfl 0 rfl ?_
      refine gt_X6_sheets (pc := 29) C q252 dX6_lose_29 ?_
      refine g_iload_n (pc := 32) C dX6_lose_32 (i := 1) rfl 1 rfl ?_
      refine g_callVi (pc := 33) (As := [.int _]) C q432 mw_X4_sizeOf (fun _ hz => c_X4_sizeOf C.2.2.2.2.2.2.2.1 hz) ⟨Nat.le_of_ble_eq_true rfl, Nat.le_of_ble_eq_true rfl⟩ rfl rfl 6 rfl rfl rfl (Nat.le_of_ble_eq_true rfl) dX6_lose_33 fun r6 S5 => ?_
      refine g_istore_n (pc := 36) (i := 2) (lv2 := [(2, .int r6), (0, .ref (ad 0)), (1, .int x1)]) C dX6_lose_36 rfl (by decide) rfl ?_
      refine g_aload_n (pc := 37) C dX6_lose_37 (i := 0) rfl 1 rfl ?_
      refine gt_X6_sheets (pc := 38) C q252 dX6_lose_38 ?_
      refine g_iload_n (pc := 41) C dX6_lose_41 (i := 1) rfl 2 rfl ?_
      refine g_callVv (pc := 42) (As := [.int _]) C q764 mw_X4_drop (fun _ hz => c_X4_drop C.2.2.2.2.2.2.2.1 hz) ⟨Nat.le_of_ble_eq_true rfl, Nat.le_of_ble_eq_true rfl⟩ rfl rfl 6 rfl rfl rfl (Nat.le_of_ble_eq_true rfl) dX6_lose_42 fun S7 => ?_
      refine g_iload_n (pc := 45) C dX6_lose_45 (i := 2) rfl 0 rfl ?_
      exact g_iret (pc := 46) C hr dX6_lose_46
    · refine g_aload_n (pc := 22) C dX6_lose_22 (i := 0) rfl 0 rfl ?_
      refine g_iconst (pc := 23) (v := 1) C dX6_lose_23 (by decide) ?_
      refine g_callVi (pc := 24) (As := [.int _]) C q428 mw_X6_found (fun _ hz => c_X6_found C.2.2.2.2.2.2.2.1 hz) ⟨Nat.le_of_ble_eq_true rfl, Nat.le_of_ble_eq_true rfl⟩ rfl rfl 0 rfl rfl rfl (Nat.le_of_ble_eq_true rfl) dX6_lose_24 fun r10 S9 => ?_
      exact g_iret (pc := 27) C hr dX6_lose_27
  · refine g_bipush (pc := 8) (v := -2) C dX6_lose_8 (by decide) ?_
    exact g_iret (pc := 10) C hr dX6_lose_10
noncomputable def m_X4_formOf (x1 : Int32) (S : St) : Option (Int32 × St) :=
chk x1 4 <|
some ((gI S 23 (ix x1)), S)
set_option maxRecDepth 20000 in
theorem c_X4_formOf {l : Launch} {D : va_G} {ad : Nat → Nat} {cI cJ cZ : ClassId} {n : Nat} (hD : ∀ sz S, va_D (Adr ad n sz) (wX ad cI cJ cZ S)) {x1 : Int32} {S : St} {z : Int32 × St} (hf : m_X4_formOf x1 S = some z) : CtI l yX4_formOf cX4_formOf 2 (some .int) ({ frames := 0, cells := 0, slots := 0, locals := 0 } : Room) D (wX ad cI cJ cZ) (tyX cI cJ cZ) ad n [.ref (ad 6), .int x1] S z := by
  refine CtI.of hf (by decide +kernel) (Nat.le_of_ble_eq_true rfl) hD (fun p e s m args below meth c C hr => ?_)
  refine g_sub [0, 1] (lv2 := [(0, .ref (ad 6)), (1, .int x1)]) rfl ?_
  unfold m_X4_formOf
  refine g_aload_n (pc := 0) C dX4_formOf_0 (i := 0) rfl 0 rfl ?_
  refine gt_X4_forms (pc := 1) C q235 dX4_formOf_1 ?_
  refine g_iload_n (pc := 4) C dX4_formOf_4 (i := 1) rfl 1 rfl ?_
  refine al_X4_forms (pc := 5) C dX4_formOf_5 ?_
  exact g_iret (pc := 6) C hr dX4_formOf_6
noncomputable def m_X6_refuseItem (x1 : Int32) (x2 : Int32) (x3 : Int32) (S : St) : Option (Int32 × St) :=
bnd (m_X6_isBelow x1 (4 : Int32) S) fun r2 S1 =>
if r2 = 0 then (
some ((-2 : Int32), S1))
else
bnd (m_X6_isBelow x2 (3 : Int32) S1) fun r4 S3 =>
if r4 = 0 then (
some ((-2 : Int32), S3))
else
bnd (m_X4_isLost x1 S3) fun r6 S5 =>
if r6 = 0 then (
bnd (m_X4_formOf x1 S5) fun r8 S7 =>
if r8 = x2 then (
bnd (m_X4_sizeOf x1 S7) fun r10 S9 =>
bnd (m_X6_isBelow x3 r10 S9) fun r12 S11 =>
if r12 = 0 then (
bnd (m_X6_found (2 : Int32) S11) fun r14 S13 =>
some (r14, S13))
else
some ((0 : Int32), S11))
else
bnd (m_X6_found (3 : Int32) S7) fun r16 S15 =>
some (r16, S15))
else
bnd (m_X6_found (1 : Int32) S5) fun r18 S17 =>
some (r18, S17)
set_option maxRecDepth 20000 in
theorem c_X6_refuseItem {l : Launch} {D : va_G} {ad : Nat → Nat} {cI cJ cZ : ClassId} {n : Nat} (hD : ∀ sz S, va_D (Adr ad n sz) (wX ad cI cJ cZ S)) {x1 : Int32} {x2 : Int32} {x3 : Int32} {S : St} {z : Int32 × St} (hf : m_X6_refuseItem x1 x2 x3 S = some z) : CtI l yX6_refuseItem cX6_refuseItem 4 (some .int) ({ frames := 1, cells := 0, slots := 0, locals := 21 } : Room) D (wX ad cI cJ cZ) (tyX cI cJ cZ) ad n [.ref (ad 0), .int x1, .int x2, .int x3] S z := by
  refine CtI.of hf (by decide +kernel) (Nat.le_of_ble_eq_true rfl) hD (fun p e s m args below meth c C hr => ?_)
  refine g_sub [0, 1, 2, 3] (lv2 := [(0, .ref (ad 0)), (1, .int x1), (2, .int x2), (3, .int x3)]) rfl ?_
  unfold m_X6_refuseItem
  refine g_iload_n (pc := 0) C dX6_refuseItem_0 (i := 1) rfl 1 rfl ?_
  refine g_iconst (pc := 1) (v := 4) C dX6_refuseItem_1 (by decide) ?_
  refine g_callSi (pc := 2) (As := [.int _, .int _]) C q303 mw_X6_isBelow (fun _ hz => c_X6_isBelow C.2.2.2.2.2.2.2.1 hz) ⟨Nat.le_of_ble_eq_true rfl, Nat.le_of_ble_eq_true rfl⟩ rfl rfl rfl (Nat.le_of_ble_eq_true rfl) dX6_refuseItem_2 fun r2 S1 => ?_
  refine g_if_eq (pc := 5) (tgt := 16) C dX6_refuseItem_5 (by decide) ?_ ?_
  · refine g_bipush (pc := 16) (v := -2) C dX6_refuseItem_16 (by decide) ?_
    exact g_iret (pc := 18) C hr dX6_refuseItem_18
  · refine g_iload_n (pc := 8) C dX6_refuseItem_8 (i := 2) rfl 2 rfl ?_
    refine g_iconst (pc := 9) (v := 3) C dX6_refuseItem_9 (by decide) ?_
    refine g_callSi (pc := 10) (As := [.int _, .int _]) C q303 mw_X6_isBelow (fun _ hz => c_X6_isBelow C.2.2.2.2.2.2.2.1 hz) ⟨Nat.le_of_ble_eq_true rfl, Nat.le_of_ble_eq_true rfl⟩ rfl rfl rfl (Nat.le_of_ble_eq_true rfl) dX6_refuseItem_10 fun r4 S3 => ?_
    refine g_if_ne (pc := 13) (tgt := 19) C dX6_refuseItem_13 (by decide) ?_ ?_
    · refine g_aload_n (pc := 19) C dX6_refuseItem_19 (i := 0) rfl 0 rfl ?_
      refine gt_X6_sheets (pc := 20) C q252 dX6_refuseItem_20 ?_
      refine g_iload_n (pc := 23) C dX6_refuseItem_23 (i := 1) rfl 1 rfl ?_
      refine g_callVi (pc := 24) (As := [.int _]) C q424 mw_X4_isLost (fun _ hz => c_X4_isLost C.2.2.2.2.2.2.2.1 hz) ⟨Nat.le_of_ble_eq_true rfl, Nat.le_of_ble_eq_true rfl⟩ rfl rfl 6 rfl rfl rfl (Nat.le_of_ble_eq_true rfl) dX6_refuseItem_24 fun r6 S5 => ?_
      refine g_if_eq (pc := 27) (tgt := 36) C dX6_refuseItem_27 (by decide) ?_ ?_
      · refine g_aload_n (pc := 36) C dX6_refuseItem_36 (i := 0) rfl 0 rfl ?_
        refine gt_X6_sheets (pc := 37) C q252 dX6_refuseItem_37 ?_
        refine g_iload_n (pc := 40) C dX6_refuseItem_40 (i := 1) rfl 1 rfl ?_
        refine g_callVi (pc := 41) (As := [.int _]) C q776 mw_X4_formOf (fun _ hz => c_X4_formOf C.2.2.2.2.2.2.2.1 hz) ⟨Nat.le_of_ble_eq_true rfl, Nat.le_of_ble_eq_true rfl⟩ rfl rfl 6 rfl rfl rfl (Nat.le_of_ble_eq_true rfl) dX6_refuseItem_41 fun r8 S7 => ?_
        refine g_iload_n (pc := 44) C dX6_refuseItem_44 (i := 2) rfl 2 rfl ?_
        refine g_icmp_eq (pc := 45) (tgt := 54) C dX6_refuseItem_45 (by decide) ?_ ?_
        · refine g_iload_n (pc := 54) C dX6_refuseItem_54 (i := 3) rfl 3 rfl ?_
          refine g_aload_n (pc := 55) C dX6_refuseItem_55 (i := 0) rfl 0 rfl ?_
          refine gt_X6_sheets (pc := 56) C q252 dX6_refuseItem_56 ?_
          refine g_iload_n (pc := 59) C dX6_refuseItem_59 (i := 1) rfl 1 rfl ?_
          refine g_callVi (pc := 60) (As := [.int _]) C q432 mw_X4_sizeOf (fun _ hz => c_X4_sizeOf C.2.2.2.2.2.2.2.1 hz) ⟨Nat.le_of_ble_eq_true rfl, Nat.le_of_ble_eq_true rfl⟩ rfl rfl 6 rfl rfl rfl (Nat.le_of_ble_eq_true rfl) dX6_refuseItem_60 fun r10 S9 => ?_
          refine g_callSi (pc := 63) (As := [.int _, .int _]) C q303 mw_X6_isBelow (fun _ hz => c_X6_isBelow C.2.2.2.2.2.2.2.1 hz) ⟨Nat.le_of_ble_eq_true rfl, Nat.le_of_ble_eq_true rfl⟩ rfl rfl rfl (Nat.le_of_ble_eq_true rfl) dX6_refuseItem_63 fun r12 S11 => ?_
          refine g_if_eq (pc := 66) (tgt := 73) C dX6_refuseItem_66 (by decide) ?_ ?_
          · refine g_aload_n (pc := 73) C dX6_refuseItem_73 (i := 0) rfl 0 rfl ?_
            refine g_iconst (pc := 74) (v := 2) C dX6_refuseItem_74 (by decide) ?_
            refine g_callVi (pc := 75) (As := [.int _]) C q428 mw_X6_found (fun _ hz => c_X6_found C.2.2.2.2.2.2.2.1 hz) ⟨Nat.le_of_ble_eq_true rfl, Nat.le_of_ble_eq_true rfl⟩ rfl rfl 0 rfl rfl rfl (Nat.le_of_ble_eq_true rfl) dX6_refuseItem_75 fun r14 S13 => ?_
            exact g_iret (pc := 78) C hr dX6_refuseItem_78
          · refine g_iconst (pc := 69) (v := 0) C dX6_refuseItem_69 (by decide) ?_
            refine g_goto (pc := 70) (tgt := 78) C dX6_refuseItem_70 (by decide) ?_
            exact g_iret (pc := 78) C hr dX6_refuseItem_78
        · refine g_aload_n (pc := 48) C dX6_refuseItem_48 (i := 0) rfl 0 rfl ?_
          refine g_iconst (pc := 49) (v := 3) C dX6_refuseItem_49 (by decide) ?_
          refine g_callVi (pc := 50) (As := [.int _]) C q428 mw_X6_found (fun _ hz => c_X6_found C.2.2.2.2.2.2.2.1 hz) ⟨Nat.le_of_ble_eq_true rfl, Nat.le_of_ble_eq_true rfl⟩ rfl rfl 0 rfl rfl rfl (Nat.le_of_ble_eq_true rfl) dX6_refuseItem_50 fun r16 S15 => ?_
          exact g_iret (pc := 53) C hr dX6_refuseItem_53
      · refine g_aload_n (pc := 30) C dX6_refuseItem_30 (i := 0) rfl 0 rfl ?_
        refine g_iconst (pc := 31) (v := 1) C dX6_refuseItem_31 (by decide) ?_
        refine g_callVi (pc := 32) (As := [.int _]) C q428 mw_X6_found (fun _ hz => c_X6_found C.2.2.2.2.2.2.2.1 hz) ⟨Nat.le_of_ble_eq_true rfl, Nat.le_of_ble_eq_true rfl⟩ rfl rfl 0 rfl rfl rfl (Nat.le_of_ble_eq_true rfl) dX6_refuseItem_32 fun r18 S17 => ?_
        exact g_iret (pc := 35) C hr dX6_refuseItem_35
    · refine g_bipush (pc := 16) (v := -2) C dX6_refuseItem_16 (by decide) ?_
      exact g_iret (pc := 18) C hr dX6_refuseItem_18
noncomputable def m_X4_narrow (x0 : Int32) (x1 : Int32) (S : St) : Option (Int32 × St) :=
if x0 = 0 then (
some ((x1).toInt8.toInt32, S))
else
if x0 = (1 : Int32) then (
some ((x1).toInt16.toInt32, S))
else
some (x1, S)
set_option maxRecDepth 20000 in
theorem c_X4_narrow {l : Launch} {D : va_G} {ad : Nat → Nat} {cI cJ cZ : ClassId} {n : Nat} (hD : ∀ sz S, va_D (Adr ad n sz) (wX ad cI cJ cZ S)) {x0 : Int32} {x1 : Int32} {S : St} {z : Int32 × St} (hf : m_X4_narrow x0 x1 S = some z) : CtI l yX4_narrow cX4_narrow 2 (some .int) ({ frames := 0, cells := 0, slots := 0, locals := 0 } : Room) D (wX ad cI cJ cZ) (tyX cI cJ cZ) ad n [.int x0, .int x1] S z := by
  refine CtI.of hf (by decide +kernel) (Nat.le_of_ble_eq_true rfl) hD (fun p e s m args below meth c C hr => ?_)
  refine g_sub [0, 1] (lv2 := [(0, .int x0), (1, .int x1)]) rfl ?_
  unfold m_X4_narrow
  refine g_iload_n (pc := 0) C dX4_narrow_0 (i := 0) rfl 0 rfl ?_
  refine g_if_ne (pc := 1) (tgt := 7) C dX4_narrow_1 (by decide) ?_ ?_
  · refine g_iload_n (pc := 7) C dX4_narrow_7 (i := 0) rfl 0 rfl ?_
    refine g_iconst (pc := 8) (v := 1) C dX4_narrow_8 (by decide) ?_
    refine g_icmp_ne (pc := 9) (tgt := 17) C dX4_narrow_9 (by decide) ?_ ?_
    · refine g_iload_n (pc := 17) C dX4_narrow_17 (i := 1) rfl 1 rfl ?_
      exact g_iret (pc := 18) C hr dX4_narrow_18
    · refine g_iload_n (pc := 12) C dX4_narrow_12 (i := 1) rfl 1 rfl ?_
      refine g_i2s (pc := 13) C dX4_narrow_13 ?_
      refine g_goto (pc := 14) (tgt := 18) C dX4_narrow_14 (by decide) ?_
      exact g_iret (pc := 18) C hr dX4_narrow_18
  · refine g_iload_n (pc := 4) C dX4_narrow_4 (i := 1) rfl 1 rfl ?_
    refine g_i2b (pc := 5) C dX4_narrow_5 ?_
    exact g_iret (pc := 6) C hr dX4_narrow_6
noncomputable def m_X4_store (x1 : Int32) (x2 : Int32) (x3 : Int32) (S : St) : Option (St) :=
chk x1 4 <|
bnd (m_X4_narrow (gI S 23 (ix x1)) x3 S) fun r2 S1 =>
chk ((x1 * (48 : Int32)) + x2) 192 <|
nm (sI S1 22 (ix ((x1 * (48 : Int32)) + x2)) r2) fun S3 =>
some S3
set_option maxRecDepth 20000 in
theorem c_X4_store {l : Launch} {D : va_G} {ad : Nat → Nat} {cI cJ cZ : ClassId} {n : Nat} (hD : ∀ sz S, va_D (Adr ad n sz) (wX ad cI cJ cZ S)) {x1 : Int32} {x2 : Int32} {x3 : Int32} {S : St} {z : St} (hf : m_X4_store x1 x2 x3 S = some z) : CtV l yX4_store cX4_store 4 none ({ frames := 1, cells := 0, slots := 0, locals := 21 } : Room) D (wX ad cI cJ cZ) (tyX cI cJ cZ) ad n [.ref (ad 6), .int x1, .int x2, .int x3] S z := by
  refine CtV.of hf (by decide +kernel) (Nat.le_of_ble_eq_true rfl) hD (fun p e s m args below meth c C hr => ?_)
  refine g_sub [0, 1, 2, 3] (lv2 := [(0, .ref (ad 6)), (1, .int x1), (2, .int x2), (3, .int x3)]) rfl ?_
  unfold m_X4_store
  refine g_aload_n (pc := 0) C dX4_store_0 (i := 0) rfl 0 rfl ?_
  refine gt_X4_items (pc := 1) C q234 dX4_store_1 ?_
  refine g_iload_n (pc := 4) C dX4_store_4 (i := 1) rfl 1 rfl ?_
  refine g_bipush (pc := 5) (v := 48) C dX4_store_5 (by decide) ?_
  refine g_imul (pc := 7) C dX4_store_7 ?_
  refine g_iload_n (pc := 8) C dX4_store_8 (i := 2) rfl 2 rfl ?_
  refine g_iadd (pc := 9) C dX4_store_9 ?_
  refine g_aload_n (pc := 10) C dX4_store_10 (i := 0) rfl 0 rfl ?_
  refine gt_X4_forms (pc := 11) C q235 dX4_store_11 ?_
  refine g_iload_n (pc := 14) C dX4_store_14 (i := 1) rfl 1 rfl ?_
  refine al_X4_forms (pc := 15) C dX4_store_15 ?_
  refine g_iload_n (pc := 16) C dX4_store_16 (i := 3) rfl 3 rfl ?_
  refine g_callSi (pc := 17) (As := [.int _, .int _]) C q784 mw_X4_narrow (fun _ hz => c_X4_narrow C.2.2.2.2.2.2.2.1 hz) ⟨Nat.le_of_ble_eq_true rfl, Nat.le_of_ble_eq_true rfl⟩ rfl rfl rfl (Nat.le_of_ble_eq_true rfl) dX4_store_17 fun r2 S1 => ?_
  refine as_X4_items (pc := 20) C dX4_store_20 fun S3 => ?_
  exact g_vret (pc := 21) C hr dX4_store_21
noncomputable def m_X6_put (x1 : Int32) (x2 : Int32) (x3 : Int32) (x4 : Int32) (S : St) : Option (Int32 × St) :=
bnd (m_X6_refuseItem x1 x2 x3 S) fun r2 S1 =>
if r2 = 0 then (
bndV (m_X4_store x1 x3 x4 S1) fun S3 =>
some ((1 : Int32), S3))
else
some (r2, S1)
set_option maxRecDepth 20000 in
theorem c_X6_put {l : Launch} {D : va_G} {ad : Nat → Nat} {cI cJ cZ : ClassId} {n : Nat} (hD : ∀ sz S, va_D (Adr ad n sz) (wX ad cI cJ cZ S)) {x1 : Int32} {x2 : Int32} {x3 : Int32} {x4 : Int32} {S : St} {z : Int32 × St} (hf : m_X6_put x1 x2 x3 x4 S = some z) : CtI l yX6_put cX6_put 6 (some .int) ({ frames := 2, cells := 0, slots := 0, locals := 44 } : Room) D (wX ad cI cJ cZ) (tyX cI cJ cZ) ad n [.ref (ad 0), .int x1, .int x2, .int x3, .int x4] S z := by
  refine CtI.of hf (by decide +kernel) (Nat.le_of_ble_eq_true rfl) hD (fun p e s m args below meth c C hr => ?_)
  refine g_sub [0, 1, 2, 3, 4] (lv2 := [(0, .ref (ad 0)), (1, .int x1), (2, .int x2), (3, .int x3), (4, .int x4)]) rfl ?_
  unfold m_X6_put
  refine g_aload_n (pc := 0) C dX6_put_0 (i := 0) rfl 0 rfl ?_
  refine g_iload_n (pc := 1) C dX6_put_1 (i := 1) rfl 1 rfl ?_
  refine g_iload_n (pc := 2) C dX6_put_2 (i := 2) rfl 2 rfl ?_
  refine g_iload_n (pc := 3) C dX6_put_3 (i := 3) rfl 3 rfl ?_
  refine g_callVi (pc := 4) (As := [.int _, .int _, .int _]) C q772 mw_X6_refuseItem (fun _ hz => c_X6_refuseItem C.2.2.2.2.2.2.2.1 hz) ⟨Nat.le_of_ble_eq_true rfl, Nat.le_of_ble_eq_true rfl⟩ rfl rfl 0 rfl rfl rfl (Nat.le_of_ble_eq_true rfl) dX6_put_4 fun r2 S1 => ?_
  refine g_istore (pc := 7) (i := 5) (j := 0) (lv2 := [(5, .int r2), (0, .ref (ad 0)), (1, .int x1), (2, .int x2), (3, .int x3), (4, .int x4)]) C dX6_put_7 (by decide) rfl ?_
  refine g_iload (pc := 9) C dX6_put_9 0 rfl ?_
  refine g_if_eq (pc := 11) (tgt := 17) C dX6_put_11 (by decide) ?_ ?_
  · refine g_aload_n (pc := 17) C dX6_put_17 (i := 0) rfl 1 rfl ?_
    refine gt_X6_sheets (pc := 18) C q252 dX6_put_18 ?_
    refine g_iload_n (pc := 21) C dX6_put_21 (i := 1) rfl 2 rfl ?_
    refine g_iload_n (pc := 22) C dX6_put_22 (i := 3) rfl 4 rfl ?_
    refine g_iload (pc := 23) C dX6_put_23 5 rfl ?_
    refine g_callVv (pc := 25) (As := [.int _, .int _, .int _]) C q780 mw_X4_store (fun _ hz => c_X4_store C.2.2.2.2.2.2.2.1 hz) ⟨Nat.le_of_ble_eq_true rfl, Nat.le_of_ble_eq_true rfl⟩ rfl rfl 6 rfl rfl rfl (Nat.le_of_ble_eq_true rfl) dX6_put_25 fun S3 => ?_
    refine g_iconst (pc := 28) (v := 1) C dX6_put_28 (by decide) ?_
    exact g_iret (pc := 29) C hr dX6_put_29
  · refine g_iload (pc := 14) C dX6_put_14 0 rfl ?_
    exact g_iret (pc := 16) C hr dX6_put_16
noncomputable def m_X6_get (x1 : Int32) (x2 : Int32) (x3 : Int32) (S : St) : Option (Int32 × St) :=
bnd (m_X6_refuseItem x1 x2 x3 S) fun r2 S1 =>
if r2 = 0 then (
bnd (m_X4_itemAt x1 x3 S1) fun r4 S3 =>
some (r4, S3))
else
some ((-2147483648 : Int32), S1)
set_option maxRecDepth 20000 in
theorem c_X6_get {l : Launch} {D : va_G} {ad : Nat → Nat} {cI cJ cZ : ClassId} {n : Nat} (hD : ∀ sz S, va_D (Adr ad n sz) (wX ad cI cJ cZ S)) {x1 : Int32} {x2 : Int32} {x3 : Int32} {S : St} {z : Int32 × St} (hf : m_X6_get x1 x2 x3 S = some z) : CtI l yX6_get cX6_get 4 (some .int) ({ frames := 2, cells := 0, slots := 0, locals := 44 } : Room) D (wX ad cI cJ cZ) (tyX cI cJ cZ) ad n [.ref (ad 0), .int x1, .int x2, .int x3] S z := by
  refine CtI.of hf (by decide +kernel) (Nat.le_of_ble_eq_true rfl) hD (fun p e s m args below meth c C hr => ?_)
  refine g_sub [0, 1, 2, 3] (lv2 := [(0, .ref (ad 0)), (1, .int x1), (2, .int x2), (3, .int x3)]) rfl ?_
  unfold m_X6_get
  refine g_aload_n (pc := 0) C dX6_get_0 (i := 0) rfl 0 rfl ?_
  refine g_iload_n (pc := 1) C dX6_get_1 (i := 1) rfl 1 rfl ?_
  refine g_iload_n (pc := 2) C dX6_get_2 (i := 2) rfl 2 rfl ?_
  refine g_iload_n (pc := 3) C dX6_get_3 (i := 3) rfl 3 rfl ?_
  refine g_callVi (pc := 4) (As := [.int _, .int _, .int _]) C q772 mw_X6_refuseItem (fun _ hz => c_X6_refuseItem C.2.2.2.2.2.2.2.1 hz) ⟨Nat.le_of_ble_eq_true rfl, Nat.le_of_ble_eq_true rfl⟩ rfl rfl 0 rfl rfl rfl (Nat.le_of_ble_eq_true rfl) dX6_get_4 fun r2 S1 => ?_
  refine g_if_eq (pc := 7) (tgt := 16) C dX6_get_7 (by decide) ?_ ?_
  · refine g_aload_n (pc := 16) C dX6_get_16 (i := 0) rfl 0 rfl ?_
    refine gt_X6_sheets (pc := 17) C q252 dX6_get_17 ?_
    refine g_iload_n (pc := 20) C dX6_get_20 (i := 1) rfl 1 rfl ?_
    refine g_iload_n (pc := 21) C dX6_get_21 (i := 3) rfl 3 rfl ?_
    refine g_callVi (pc := 22) (As := [.int _, .int _]) C q439 mw_X4_itemAt (fun _ hz => c_X4_itemAt C.2.2.2.2.2.2.2.1 hz) ⟨Nat.le_of_ble_eq_true rfl, Nat.le_of_ble_eq_true rfl⟩ rfl rfl 6 rfl rfl rfl (Nat.le_of_ble_eq_true rfl) dX6_get_22 fun r4 S3 => ?_
    exact g_iret (pc := 25) C hr dX6_get_25
  · refine g_ldcw (pc := 10) C q791 dX6_get_10 ?_
    refine g_goto (pc := 13) (tgt := 25) C dX6_get_13 (by decide) ?_
    exact g_iret (pc := 25) C hr dX6_get_25
noncomputable def m_X4_holds (x1 : Int32) (x2 : Int32) (x3 : Int32) (S : St) : Option (Int32 × St) :=
if x2 < 0 then (
some ((0 : Int32), S))
else
if x3 < 0 then (
some ((0 : Int32), S))
else
chk x1 4 <|
if (gI S 24 (ix x1)) < x2 then (
some ((0 : Int32), S))
else
chk x1 4 <|
if ((gI S 24 (ix x1)) - x2) < x3 then (
some ((0 : Int32), S))
else
some ((1 : Int32), S)
set_option maxRecDepth 20000 in
theorem c_X4_holds {l : Launch} {D : va_G} {ad : Nat → Nat} {cI cJ cZ : ClassId} {n : Nat} (hD : ∀ sz S, va_D (Adr ad n sz) (wX ad cI cJ cZ S)) {x1 : Int32} {x2 : Int32} {x3 : Int32} {S : St} {z : Int32 × St} (hf : m_X4_holds x1 x2 x3 S = some z) : CtI l yX4_holds cX4_holds 4 (some .boolean) ({ frames := 0, cells := 0, slots := 0, locals := 0 } : Room) D (wX ad cI cJ cZ) (tyX cI cJ cZ) ad n [.ref (ad 6), .int x1, .int x2, .int x3] S z := by
  refine CtI.of hf (by decide +kernel) (Nat.le_of_ble_eq_true rfl) hD (fun p e s m args below meth c C hr => ?_)
  refine g_sub [0, 1, 2, 3] (lv2 := [(0, .ref (ad 6)), (1, .int x1), (2, .int x2), (3, .int x3)]) rfl ?_
  unfold m_X4_holds
  refine g_iload_n (pc := 0) C dX4_holds_0 (i := 2) rfl 2 rfl ?_
  refine g_if_lt (pc := 1) (tgt := 34) C dX4_holds_1 (by decide) ?_ ?_
  · refine g_iconst (pc := 34) (v := 0) C dX4_holds_34 (by decide) ?_
    exact g_zretq (pc := 35) C hr (Or.inl rfl) dX4_holds_35
  · refine g_iload_n (pc := 4) C dX4_holds_4 (i := 3) rfl 3 rfl ?_
    refine g_if_lt (pc := 5) (tgt := 34) C dX4_holds_5 (by decide) ?_ ?_
    · refine g_iconst (pc := 34) (v := 0) C dX4_holds_34 (by decide) ?_
      exact g_zretq (pc := 35) C hr (Or.inl rfl) dX4_holds_35
    · refine g_iload_n (pc := 8) C dX4_holds_8 (i := 2) rfl 2 rfl ?_
      refine g_aload_n (pc := 9) C dX4_holds_9 (i := 0) rfl 0 rfl ?_
      refine gt_X4_sizes (pc := 10) C q236 dX4_holds_10 ?_
      refine g_iload_n (pc := 13) C dX4_holds_13 (i := 1) rfl 1 rfl ?_
      refine al_X4_sizes (pc := 14) C dX4_holds_14 ?_
      refine g_icmp_gt (pc := 15) (tgt := 34) C dX4_holds_15 (by decide) ?_ ?_
      · refine g_iconst (pc := 34) (v := 0) C dX4_holds_34 (by decide) ?_
        exact g_zretq (pc := 35) C hr (Or.inl rfl) dX4_holds_35
      · refine g_iload_n (pc := 18) C dX4_holds_18 (i := 3) rfl 3 rfl ?_
        refine g_aload_n (pc := 19) C dX4_holds_19 (i := 0) rfl 0 rfl ?_
        refine gt_X4_sizes (pc := 20) C q236 dX4_holds_20 ?_
        refine g_iload_n (pc := 23) C dX4_holds_23 (i := 1) rfl 1 rfl ?_
        refine al_X4_sizes (pc := 24) C dX4_holds_24 ?_
        refine g_iload_n (pc := 25) C dX4_holds_25 (i := 2) rfl 2 rfl ?_
        refine g_isub (pc := 26) C dX4_holds_26 ?_
        refine g_icmp_gt (pc := 27) (tgt := 34) C dX4_holds_27 (by decide) ?_ ?_
        · refine g_iconst (pc := 34) (v := 0) C dX4_holds_34 (by decide) ?_
          exact g_zretq (pc := 35) C hr (Or.inl rfl) dX4_holds_35
        · refine g_iconst (pc := 30) (v := 1) C dX4_holds_30 (by decide) ?_
          refine g_goto (pc := 31) (tgt := 35) C dX4_holds_31 (by decide) ?_
          exact g_zretq (pc := 35) C hr (Or.inr rfl) dX4_holds_35
noncomputable def m_X4_carry (x1 : Int32) (x2 : Int32) (x3 : Int32) (x4 : Int32) (x5 : Int32) (S : St) : Option (St) :=
cchk ((x1 * (48 : Int32)) + x2) ((x3 * (48 : Int32)) + x4) x5 192 192 <|
nm (sC S 22 (va_cpy (S.1 22) (S.1 22) (ix ((x1 * (48 : Int32)) + x2)) (ix ((x3 * (48 : Int32)) + x4)) (ix x5))) fun S1 =>
some S1
set_option maxRecDepth 20000 in
theorem c_X4_carry {l : Launch} {D : va_G} {ad : Nat → Nat} {cI cJ cZ : ClassId} {n : Nat} (hD : ∀ sz S, va_D (Adr ad n sz) (wX ad cI cJ cZ S)) {x1 : Int32} {x2 : Int32} {x3 : Int32} {x4 : Int32} {x5 : Int32} {S : St} {z : St} (hf : m_X4_carry x1 x2 x3 x4 x5 S = some z) : CtV l yX4_carry cX4_carry 6 none ({ frames := 1, cells := 0, slots := 0, locals := 40 } : Room) D (wX ad cI cJ cZ) (tyX cI cJ cZ) ad n [.ref (ad 6), .int x1, .int x2, .int x3, .int x4, .int x5] S z := by
  refine CtV.of hf (by decide +kernel) (Nat.le_of_ble_eq_true rfl) hD (fun p e s m args below meth c C hr => ?_)
  refine g_sub [0, 1, 2, 3, 4, 5] (lv2 := [(0, .ref (ad 6)), (1, .int x1), (2, .int x2), (3, .int x3), (4, .int x4), (5, .int x5)]) rfl ?_
  unfold m_X4_carry
  refine g_aload_n (pc := 0) C dX4_carry_0 (i := 0) rfl 0 rfl ?_
  refine gt_X4_items (pc := 1) C q234 dX4_carry_1 ?_
  refine g_iload_n (pc := 4) C dX4_carry_4 (i := 1) rfl 1 rfl ?_
  refine g_bipush (pc := 5) (v := 48) C dX4_carry_5 (by decide) ?_
  refine g_imul (pc := 7) C dX4_carry_7 ?_
  refine g_iload_n (pc := 8) C dX4_carry_8 (i := 2) rfl 2 rfl ?_
  refine g_iadd (pc := 9) C dX4_carry_9 ?_
  refine g_aload_n (pc := 10) C dX4_carry_10 (i := 0) rfl 0 rfl ?_
  refine gt_X4_items (pc := 11) C q234 dX4_carry_11 ?_
  refine g_iload_n (pc := 14) C dX4_carry_14 (i := 3) rfl 3 rfl ?_
  refine g_bipush (pc := 15) (v := 48) C dX4_carry_15 (by decide) ?_
  refine g_imul (pc := 17) C dX4_carry_17 ?_
  refine g_iload (pc := 18) C dX4_carry_18 4 rfl ?_
  refine g_iadd (pc := 20) C dX4_carry_20 ?_
  refine g_iload (pc := 21) C dX4_carry_21 5 rfl ?_
  refine g_copy_items (pc := 23) C (Nat.le_of_ble_eq_true rfl) (Nat.le_of_ble_eq_true rfl) q804 dX4_carry_23 fun S1 => ?_
  exact g_vret (pc := 26) C hr dX4_carry_26
noncomputable def m_X6_copy (x1 : Int32) (x2 : Int32) (x3 : Int32) (x4 : Int32) (x5 : Int32) (S : St) : Option (Int32 × St) :=
bnd (m_X6_isBelow x1 (4 : Int32) S) fun r2 S1 =>
if r2 = 0 then (
some ((-2 : Int32), S1))
else
bnd (m_X6_isBelow x3 (4 : Int32) S1) fun r4 S3 =>
if r4 = 0 then (
some ((-2 : Int32), S3))
else
bnd (m_X4_isLost x1 S3) fun r6 S5 =>
if r6 = 0 then (
bnd (m_X4_isLost x3 S5) fun r10 S9 =>
if r10 = 0 then (
bnd (m_X4_formOf x1 S9) fun r12 S11 =>
bnd (m_X4_formOf x3 S11) fun r14 S13 =>
if r12 = r14 then (
bnd (m_X4_holds x1 x2 x5 S13) fun r16 S15 =>
if r16 = 0 then (
bnd (m_X6_found (2 : Int32) S15) fun r18 S17 =>
some (r18, S17))
else
bnd (m_X4_holds x3 x4 x5 S15) fun r20 S19 =>
if r20 = 0 then (
bnd (m_X6_found (2 : Int32) S19) fun r24 S23 =>
some (r24, S23))
else
bndV (m_X4_carry x1 x2 x3 x4 x5 S19) fun S21 =>
some ((1 : Int32), S21))
else
bnd (m_X6_found (4 : Int32) S13) fun r26 S25 =>
some (r26, S25))
else
bnd (m_X6_found (1 : Int32) S9) fun r28 S27 =>
some (r28, S27))
else
bnd (m_X6_found (1 : Int32) S5) fun r8 S7 =>
some (r8, S7)
set_option maxRecDepth 20000 in
theorem c_X6_copy {l : Launch} {D : va_G} {ad : Nat → Nat} {cI cJ cZ : ClassId} {n : Nat} (hD : ∀ sz S, va_D (Adr ad n sz) (wX ad cI cJ cZ S)) {x1 : Int32} {x2 : Int32} {x3 : Int32} {x4 : Int32} {x5 : Int32} {S : St} {z : Int32 × St} (hf : m_X6_copy x1 x2 x3 x4 x5 S = some z) : CtI l yX6_copy cX6_copy 6 (some .int) ({ frames := 2, cells := 0, slots := 0, locals := 65 } : Room) D (wX ad cI cJ cZ) (tyX cI cJ cZ) ad n [.ref (ad 0), .int x1, .int x2, .int x3, .int x4, .int x5] S z := by
  refine CtI.of hf (by decide +kernel) (Nat.le_of_ble_eq_true rfl) hD (fun p e s m args below meth c C hr => ?_)
  refine g_sub [0, 1, 2, 3, 4, 5] (lv2 := [(0, .ref (ad 0)), (1, .int x1), (2, .int x2), (3, .int x3), (4, .int x4), (5, .int x5)]) rfl ?_
  unfold m_X6_copy
  refine g_iload_n (pc := 0) C dX6_copy_0 (i := 1) rfl 1 rfl ?_
  refine g_iconst (pc := 1) (v := 4) C dX6_copy_1 (by decide) ?_
  refine g_callSi (pc := 2) (As := [.int _, .int _]) C q303 mw_X6_isBelow (fun _ hz => c_X6_isBelow C.2.2.2.2.2.2.2.1 hz) ⟨Nat.le_of_ble_eq_true rfl, Nat.le_of_ble_eq_true rfl⟩ rfl rfl rfl (Nat.le_of_ble_eq_true rfl) dX6_copy_2 fun r2 S1 => ?_
  refine g_if_eq (pc := 5) (tgt := 16) C dX6_copy_5 (by decide) ?_ ?_
  · refine g_bipush (pc := 16) (v := -2) C dX6_copy_16 (by decide) ?_
    exact g_iret (pc := 18) C hr dX6_copy_18
  · refine g_iload_n (pc := 8) C dX6_copy_8 (i := 3) rfl 3 rfl ?_
    refine g_iconst (pc := 9) (v := 4) C dX6_copy_9 (by decide) ?_
    refine g_callSi (pc := 10) (As := [.int _, .int _]) C q303 mw_X6_isBelow (fun _ hz => c_X6_isBelow C.2.2.2.2.2.2.2.1 hz) ⟨Nat.le_of_ble_eq_true rfl, Nat.le_of_ble_eq_true rfl⟩ rfl rfl rfl (Nat.le_of_ble_eq_true rfl) dX6_copy_10 fun r4 S3 => ?_
    refine g_if_ne (pc := 13) (tgt := 19) C dX6_copy_13 (by decide) ?_ ?_
    · refine g_aload_n (pc := 19) C dX6_copy_19 (i := 0) rfl 0 rfl ?_
      refine gt_X6_sheets (pc := 20) C q252 dX6_copy_20 ?_
      refine g_iload_n (pc := 23) C dX6_copy_23 (i := 1) rfl 1 rfl ?_
      refine g_callVi (pc := 24) (As := [.int _]) C q424 mw_X4_isLost (fun _ hz => c_X4_isLost C.2.2.2.2.2.2.2.1 hz) ⟨Nat.le_of_ble_eq_true rfl, Nat.le_of_ble_eq_true rfl⟩ rfl rfl 6 rfl rfl rfl (Nat.le_of_ble_eq_true rfl) dX6_copy_24 fun r6 S5 => ?_
      refine g_if_ne (pc := 27) (tgt := 41) C dX6_copy_27 (by decide) ?_ ?_
      · refine g_aload_n (pc := 41) C dX6_copy_41 (i := 0) rfl 0 rfl ?_
        refine g_iconst (pc := 42) (v := 1) C dX6_copy_42 (by decide) ?_
        refine g_callVi (pc := 43) (As := [.int _]) C q428 mw_X6_found (fun _ hz => c_X6_found C.2.2.2.2.2.2.2.1 hz) ⟨Nat.le_of_ble_eq_true rfl, Nat.le_of_ble_eq_true rfl⟩ rfl rfl 0 rfl rfl rfl (Nat.le_of_ble_eq_true rfl) dX6_copy_43 fun r8 S7 => ?_
        exact g_iret (pc := 46) C hr dX6_copy_46
      · refine g_aload_n (pc := 30) C dX6_copy_30 (i := 0) rfl 0 rfl ?_
        refine gt_X6_sheets (pc := 31) C q252 dX6_copy_31 ?_
        refine g_iload_n (pc := 34) C dX6_copy_34 (i := 3) rfl 3 rfl ?_
        refine g_callVi (pc := 35) (As := [.int _]) C q424 mw_X4_isLost (fun _ hz => c_X4_isLost C.2.2.2.2.2.2.2.1 hz) ⟨Nat.le_of_ble_eq_true rfl, Nat.le_of_ble_eq_true rfl⟩ rfl rfl 6 rfl rfl rfl (Nat.le_of_ble_eq_true rfl) dX6_copy_35 fun r10 S9 => ?_
        refine g_if_eq (pc := 38) (tgt := 47) C dX6_copy_38 (by decide) ?_ ?_
        · refine g_aload_n (pc := 47) C dX6_copy_47 (i := 0) rfl 0 rfl ?_
          refine gt_X6_sheets (pc := 48) C q252 dX6_copy_48 ?_
          refine g_iload_n (pc := 51) C dX6_copy_51 (i := 1) rfl 1 rfl ?_
          refine g_callVi (pc := 52) (As := [.int _]) C q776 mw_X4_formOf (fun _ hz => c_X4_formOf C.2.2.2.2.2.2.2.1 hz) ⟨Nat.le_of_ble_eq_true rfl, Nat.le_of_ble_eq_true rfl⟩ rfl rfl 6 rfl rfl rfl (Nat.le_of_ble_eq_true rfl) dX6_copy_52 fun r12 S11 => ?_
          refine g_aload_n (pc := 55) C dX6_copy_55 (i := 0) rfl 0 rfl ?_
          refine gt_X6_sheets (pc := 56) C q252 dX6_copy_56 ?_
          refine g_iload_n (pc := 59) C dX6_copy_59 (i := 3) rfl 3 rfl ?_
          refine g_callVi (pc := 60) (As := [.int _]) C q776 mw_X4_formOf (fun _ hz => c_X4_formOf C.2.2.2.2.2.2.2.1 hz) ⟨Nat.le_of_ble_eq_true rfl, Nat.le_of_ble_eq_true rfl⟩ rfl rfl 6 rfl rfl rfl (Nat.le_of_ble_eq_true rfl) dX6_copy_60 fun r14 S13 => ?_
          refine g_icmp_eq (pc := 63) (tgt := 72) C dX6_copy_63 (by decide) ?_ ?_
          · refine g_aload_n (pc := 72) C dX6_copy_72 (i := 0) rfl 0 rfl ?_
            refine gt_X6_sheets (pc := 73) C q252 dX6_copy_73 ?_
            refine g_iload_n (pc := 76) C dX6_copy_76 (i := 1) rfl 1 rfl ?_
            refine g_iload_n (pc := 77) C dX6_copy_77 (i := 2) rfl 2 rfl ?_
            refine g_iload (pc := 78) C dX6_copy_78 5 rfl ?_
            refine g_callVi (pc := 80) (As := [.int _, .int _, .int _]) C q796 mw_X4_holds (fun _ hz => c_X4_holds C.2.2.2.2.2.2.2.1 hz) ⟨Nat.le_of_ble_eq_true rfl, Nat.le_of_ble_eq_true rfl⟩ rfl rfl 6 rfl rfl rfl (Nat.le_of_ble_eq_true rfl) dX6_copy_80 fun r16 S15 => ?_
            refine g_if_eq (pc := 83) (tgt := 101) C dX6_copy_83 (by decide) ?_ ?_
            · refine g_aload_n (pc := 101) C dX6_copy_101 (i := 0) rfl 0 rfl ?_
              refine g_iconst (pc := 102) (v := 2) C dX6_copy_102 (by decide) ?_
              refine g_callVi (pc := 103) (As := [.int _]) C q428 mw_X6_found (fun _ hz => c_X6_found C.2.2.2.2.2.2.2.1 hz) ⟨Nat.le_of_ble_eq_true rfl, Nat.le_of_ble_eq_true rfl⟩ rfl rfl 0 rfl rfl rfl (Nat.le_of_ble_eq_true rfl) dX6_copy_103 fun r18 S17 => ?_
              exact g_iret (pc := 106) C hr dX6_copy_106
            · refine g_aload_n (pc := 86) C dX6_copy_86 (i := 0) rfl 0 rfl ?_
              refine gt_X6_sheets (pc := 87) C q252 dX6_copy_87 ?_
              refine g_iload_n (pc := 90) C dX6_copy_90 (i := 3) rfl 3 rfl ?_
              refine g_iload (pc := 91) C dX6_copy_91 4 rfl ?_
              refine g_iload (pc := 93) C dX6_copy_93 5 rfl ?_
              refine g_callVi (pc := 95) (As := [.int _, .int _, .int _]) C q796 mw_X4_holds (fun _ hz => c_X4_holds C.2.2.2.2.2.2.2.1 hz) ⟨Nat.le_of_ble_eq_true rfl, Nat.le_of_ble_eq_true rfl⟩ rfl rfl 6 rfl rfl rfl (Nat.le_of_ble_eq_true rfl) dX6_copy_95 fun r20 S19 => ?_
              refine g_if_ne (pc := 98) (tgt := 107) C dX6_copy_98 (by decide) ?_ ?_
              · refine g_aload_n (pc := 107) C dX6_copy_107 (i := 0) rfl 0 rfl ?_
                refine gt_X6_sheets (pc := 108) C q252 dX6_copy_108 ?_
                refine g_iload_n (pc := 111) C dX6_copy_111 (i := 1) rfl 1 rfl ?_
                refine g_iload_n (pc := 112) C dX6_copy_112 (i := 2) rfl 2 rfl ?_
                refine g_iload_n (pc := 113) C dX6_copy_113 (i := 3) rfl 3 rfl ?_
                refine g_iload (pc := 114) C dX6_copy_114 4 rfl ?_
                refine g_iload (pc := 116) C dX6_copy_116 5 rfl ?_
                refine g_callVv (pc := 118) (As := [.int _, .int _, .int _, .int _, .int _]) C q800 mw_X4_carry (fun _ hz => c_X4_carry C.2.2.2.2.2.2.2.1 hz) ⟨Nat.le_of_ble_eq_true rfl, Nat.le_of_ble_eq_true rfl⟩ rfl rfl 6 rfl rfl rfl (Nat.le_of_ble_eq_true rfl) dX6_copy_118 fun S21 => ?_
                refine g_iconst (pc := 121) (v := 1) C dX6_copy_121 (by decide) ?_
                exact g_iret (pc := 122) C hr dX6_copy_122
              · refine g_aload_n (pc := 101) C dX6_copy_101 (i := 0) rfl 0 rfl ?_
                refine g_iconst (pc := 102) (v := 2) C dX6_copy_102 (by decide) ?_
                refine g_callVi (pc := 103) (As := [.int _]) C q428 mw_X6_found (fun _ hz => c_X6_found C.2.2.2.2.2.2.2.1 hz) ⟨Nat.le_of_ble_eq_true rfl, Nat.le_of_ble_eq_true rfl⟩ rfl rfl 0 rfl rfl rfl (Nat.le_of_ble_eq_true rfl) dX6_copy_103 fun r24 S23 => ?_
                exact g_iret (pc := 106) C hr dX6_copy_106
          · refine g_aload_n (pc := 66) C dX6_copy_66 (i := 0) rfl 0 rfl ?_
            refine g_iconst (pc := 67) (v := 4) C dX6_copy_67 (by decide) ?_
            refine g_callVi (pc := 68) (As := [.int _]) C q428 mw_X6_found (fun _ hz => c_X6_found C.2.2.2.2.2.2.2.1 hz) ⟨Nat.le_of_ble_eq_true rfl, Nat.le_of_ble_eq_true rfl⟩ rfl rfl 0 rfl rfl rfl (Nat.le_of_ble_eq_true rfl) dX6_copy_68 fun r26 S25 => ?_
            exact g_iret (pc := 71) C hr dX6_copy_71
        · refine g_aload_n (pc := 41) C dX6_copy_41 (i := 0) rfl 0 rfl ?_
          refine g_iconst (pc := 42) (v := 1) C dX6_copy_42 (by decide) ?_
          refine g_callVi (pc := 43) (As := [.int _]) C q428 mw_X6_found (fun _ hz => c_X6_found C.2.2.2.2.2.2.2.1 hz) ⟨Nat.le_of_ble_eq_true rfl, Nat.le_of_ble_eq_true rfl⟩ rfl rfl 0 rfl rfl rfl (Nat.le_of_ble_eq_true rfl) dX6_copy_43 fun r28 S27 => ?_
          exact g_iret (pc := 46) C hr dX6_copy_46
    · refine g_bipush (pc := 16) (v := -2) C dX6_copy_16 (by decide) ?_
      exact g_iret (pc := 18) C hr dX6_copy_18
noncomputable def b_X6_write_58 (x1 : Int32) (x2 : Int32) (x3 : Int32) (k : St → Option (Int32 × St)) (rec : Int32 → St → Option (Int32 × St)) (x4 : Int32) (S : St) : Option (Int32 × St) :=
if x4 < x3 then (
bnd (m_X5_hoursOf x4 x1 S) fun r13 S12 =>
bndV (m_X4_store x2 x4 r13 S12) fun S14 =>
rec (x4 + 1) S14)
else
k S
noncomputable def m_X6_write (x1 : Int32) (x2 : Int32) (S : St) : Option (Int32 × St) :=
bnd (m_X6_isBelow x1 (4 : Int32) S) fun r2 S1 =>
if r2 = 0 then (
some ((-2 : Int32), S1))
else
bnd (m_X6_isBelow x2 (4 : Int32) S1) fun r4 S3 =>
if r4 = 0 then (
some ((-2 : Int32), S3))
else
bnd (m_X4_isLost x2 S3) fun r6 S5 =>
if r6 = 0 then (
bnd (m_X4_sizeOf x2 S5) fun r8 S7 =>
bnd (m_X1_cells S7) fun r10 S9 =>
nm ((if r10 < r8 then r10 else r8)) fun y11 =>
it1 (b_X6_write_58 x1 x2 y11 (fun S16 =>
some (y11, S16))) 5000 (0 : Int32) S9)
else
bnd (m_X6_found (1 : Int32) S5) fun r18 S17 =>
some (r18, S17)
set_option maxRecDepth 20000 in
theorem u_X6_write_58 (C : Cx p s m args meth c cX6_write 5 RX6 D (tyX cI cJ cZ) ad n (wX ad cI cJ cZ)) (hr : meth.sig.returnType = (some .int)) (x1 : Int32) (x2 : Int32) (x3 : Int32) (k : St → Option (Int32 × St)) (hk : ∀ (S : St), GM p l e ({ frames := 2, cells := 0, slots := 0, locals := 44 } : Room) s m args below meth c D ad n (wX ad cI cJ cZ) 5 (QI D (wX ad cI cJ cZ) ad n args s below) (k S) S 90 [(3, .int x3)] []) (rec : Int32 → St → Option (Int32 × St)) (hrec : ∀ (x4 : Int32) (S : St), GM p l e ({ frames := 2, cells := 0, slots := 0, locals := 44 } : Room) s m args below meth c D ad n (wX ad cI cJ cZ) 5 (QI D (wX ad cI cJ cZ) ad n args s below) (rec x4 S) S 58 [(0, .ref (ad 0)), (1, .int x1), (2, .int x2), (3, .int x3), (4, .int x4)] []) (x4 : Int32) (S : St) : GM p l e ({ frames := 2, cells := 0, slots := 0, locals := 44 } : Room) s m args below meth c D ad n (wX ad cI cJ cZ) 5 (QI D (wX ad cI cJ cZ) ad n args s below) (b_X6_write_58 x1 x2 x3 k rec x4 S) S 58 [(0, .ref (ad 0)), (1, .int x1), (2, .int x2), (3, .int x3), (4, .int x4)] [] := by
  unfold b_X6_write_58
  refine g_iload (pc := 58) C dX6_write_58 4 rfl ?_
  refine g_iload_n (pc := 60) C dX6_write_60 (i := 3) rfl 3 rfl ?_
  refine g_icmp_ge (pc := 61) (tgt := 90) C dX6_write_61 (by decide) ?_ ?_
  · refine g_sub [3] rfl (hk _)
  · refine g_aload_n (pc := 64) C dX6_write_64 (i := 0) rfl 0 rfl ?_
    refine gt_X6_sheets (pc := 65) C q252 dX6_write_65 ?_
    refine g_iload_n (pc := 68) C dX6_write_68 (i := 2) rfl 2 rfl ?_
    refine g_iload (pc := 69) C dX6_write_69 4 rfl ?_
    refine g_aload_n (pc := 71) C dX6_write_71 (i := 0) rfl 0 rfl ?_
    refine gt_X6_sun (pc := 72) C q247 dX6_write_72 ?_
    refine g_iload (pc := 75) C dX6_write_75 4 rfl ?_
    refine g_iload_n (pc := 77) C dX6_write_77 (i := 1) rfl 1 rfl ?_
    refine g_callVi (pc := 78) (As := [.int _, .int _]) C q483 mw_X5_hoursOf (fun _ hz => c_X5_hoursOf C.2.2.2.2.2.2.2.1 hz) ⟨Nat.le_of_ble_eq_true rfl, Nat.le_of_ble_eq_true rfl⟩ rfl rfl 1 rfl rfl rfl (Nat.le_of_ble_eq_true rfl) dX6_write_78 fun r13 S12 => ?_
    refine g_callVv (pc := 81) (As := [.int _, .int _, .int _]) C q780 mw_X4_store (fun _ hz => c_X4_store C.2.2.2.2.2.2.2.1 hz) ⟨Nat.le_of_ble_eq_true rfl, Nat.le_of_ble_eq_true rfl⟩ rfl rfl 6 rfl rfl rfl (Nat.le_of_ble_eq_true rfl) dX6_write_81 fun S14 => ?_
    refine g_iinc (pc := 84) (v := (x4 + 1)) (lv2 := [(4, .int (x4 + 1)), (0, .ref (ad 0)), (1, .int x1), (2, .int x2), (3, .int x3)]) C dX6_write_84 4 rfl rfl (by decide) rfl ?_
    refine g_goto (pc := 87) (tgt := 58) C dX6_write_87 (by decide) ?_
    refine g_sub [1, 2, 3, 4, 0] rfl (hrec _ _)
set_option maxRecDepth 20000 in
theorem c_X6_write {l : Launch} {D : va_G} {ad : Nat → Nat} {cI cJ cZ : ClassId} {n : Nat} (hD : ∀ sz S, va_D (Adr ad n sz) (wX ad cI cJ cZ S)) {x1 : Int32} {x2 : Int32} {S : St} {z : Int32 × St} (hf : m_X6_write x1 x2 S = some z) : CtI l yX6_write cX6_write 5 (some .int) ({ frames := 2, cells := 0, slots := 0, locals := 44 } : Room) D (wX ad cI cJ cZ) (tyX cI cJ cZ) ad n [.ref (ad 0), .int x1, .int x2] S z := by
  refine CtI.of hf (by decide +kernel) (Nat.le_of_ble_eq_true rfl) hD (fun p e s m args below meth c C hr => ?_)
  refine g_sub [0, 1, 2] (lv2 := [(0, .ref (ad 0)), (1, .int x1), (2, .int x2)]) rfl ?_
  unfold m_X6_write
  refine g_iload_n (pc := 0) C dX6_write_0 (i := 1) rfl 1 rfl ?_
  refine g_iconst (pc := 1) (v := 4) C dX6_write_1 (by decide) ?_
  refine g_callSi (pc := 2) (As := [.int _, .int _]) C q303 mw_X6_isBelow (fun _ hz => c_X6_isBelow C.2.2.2.2.2.2.2.1 hz) ⟨Nat.le_of_ble_eq_true rfl, Nat.le_of_ble_eq_true rfl⟩ rfl rfl rfl (Nat.le_of_ble_eq_true rfl) dX6_write_2 fun r2 S1 => ?_
  refine g_if_eq (pc := 5) (tgt := 16) C dX6_write_5 (by decide) ?_ ?_
  · refine g_bipush (pc := 16) (v := -2) C dX6_write_16 (by decide) ?_
    exact g_iret (pc := 18) C hr dX6_write_18
  · refine g_iload_n (pc := 8) C dX6_write_8 (i := 2) rfl 2 rfl ?_
    refine g_iconst (pc := 9) (v := 4) C dX6_write_9 (by decide) ?_
    refine g_callSi (pc := 10) (As := [.int _, .int _]) C q303 mw_X6_isBelow (fun _ hz => c_X6_isBelow C.2.2.2.2.2.2.2.1 hz) ⟨Nat.le_of_ble_eq_true rfl, Nat.le_of_ble_eq_true rfl⟩ rfl rfl rfl (Nat.le_of_ble_eq_true rfl) dX6_write_10 fun r4 S3 => ?_
    refine g_if_ne (pc := 13) (tgt := 19) C dX6_write_13 (by decide) ?_ ?_
    · refine g_aload_n (pc := 19) C dX6_write_19 (i := 0) rfl 0 rfl ?_
      refine gt_X6_sheets (pc := 20) C q252 dX6_write_20 ?_
      refine g_iload_n (pc := 23) C dX6_write_23 (i := 2) rfl 2 rfl ?_
      refine g_callVi (pc := 24) (As := [.int _]) C q424 mw_X4_isLost (fun _ hz => c_X4_isLost C.2.2.2.2.2.2.2.1 hz) ⟨Nat.le_of_ble_eq_true rfl, Nat.le_of_ble_eq_true rfl⟩ rfl rfl 6 rfl rfl rfl (Nat.le_of_ble_eq_true rfl) dX6_write_24 fun r6 S5 => ?_
      refine g_if_eq (pc := 27) (tgt := 36) C dX6_write_27 (by decide) ?_ ?_
      · refine g_aload_n (pc := 36) C dX6_write_36 (i := 0) rfl 0 rfl ?_
        refine gt_X6_sheets (pc := 37) C q252 dX6_write_37 ?_
        refine g_iload_n (pc := 40) C dX6_write_40 (i := 2) rfl 2 rfl ?_
        refine g_callVi (pc := 41) (As := [.int _]) C q432 mw_X4_sizeOf (fun _ hz => c_X4_sizeOf C.2.2.2.2.2.2.2.1 hz) ⟨Nat.le_of_ble_eq_true rfl, Nat.le_of_ble_eq_true rfl⟩ rfl rfl 6 rfl rfl rfl (Nat.le_of_ble_eq_true rfl) dX6_write_41 fun r8 S7 => ?_
        refine g_aload_n (pc := 44) C dX6_write_44 (i := 0) rfl 0 rfl ?_
        refine gt_X6_ground (pc := 45) C q248 dX6_write_45 ?_
        refine g_callVi (pc := 48) (As := []) C q399 mw_X1_cells (fun _ hz => c_X1_cells C.2.2.2.2.2.2.2.1 hz) ⟨Nat.le_of_ble_eq_true rfl, Nat.le_of_ble_eq_true rfl⟩ rfl rfl 2 rfl rfl rfl (Nat.le_of_ble_eq_true rfl) dX6_write_48 fun r10 S9 => ?_
        refine g_mmin (pc := 51) C q436 q437 q81 qm_min (Nat.le_of_ble_eq_true rfl) (Nat.le_of_ble_eq_true rfl) dX6_write_51 ?_
        refine g_nmi fun y11 => ?_
        refine g_istore_n (pc := 54) (i := 3) (lv2 := [(3, .int y11), (0, .ref (ad 0)), (1, .int x1), (2, .int x2)]) C dX6_write_54 rfl (by decide) rfl ?_
        refine g_iconst (pc := 55) (v := 0) C dX6_write_55 (by decide) ?_
        refine g_istore (pc := 56) (i := 4) (j := 0) (lv2 := [(4, .int (0 : Int32)), (3, .int y11), (0, .ref (ad 0)), (1, .int x1), (2, .int x2)]) C dX6_write_56 (by decide) rfl ?_
        refine g_sub [2, 3, 4, 1, 0] (lv2 := [(0, .ref (ad 0)), (1, .int x1), (2, .int x2), (3, .int y11), (4, .int (0 : Int32))]) rfl ?_
        refine g_it1 (pc := 58) (u_X6_write_58 C hr _ _ _ _ fun S16 => ?_) _ _ _
        refine g_iload_n (pc := 90) C dX6_write_90 (i := 3) rfl 0 rfl ?_
        exact g_iret (pc := 91) C hr dX6_write_91
      · refine g_aload_n (pc := 30) C dX6_write_30 (i := 0) rfl 0 rfl ?_
        refine g_iconst (pc := 31) (v := 1) C dX6_write_31 (by decide) ?_
        refine g_callVi (pc := 32) (As := [.int _]) C q428 mw_X6_found (fun _ hz => c_X6_found C.2.2.2.2.2.2.2.1 hz) ⟨Nat.le_of_ble_eq_true rfl, Nat.le_of_ble_eq_true rfl⟩ rfl rfl 0 rfl rfl rfl (Nat.le_of_ble_eq_true rfl) dX6_write_32 fun r18 S17 => ?_
        exact g_iret (pc := 35) C hr dX6_write_35
    · refine g_bipush (pc := 16) (v := -2) C dX6_write_16 (by decide) ?_
      exact g_iret (pc := 18) C hr dX6_write_18
noncomputable def m_X1_rows (S : St) : Option (Int32 × St) :=
some ((gI S 41 0), S)
set_option maxRecDepth 20000 in
theorem c_X1_rows {l : Launch} {D : va_G} {ad : Nat → Nat} {cI cJ cZ : ClassId} {n : Nat} (hD : ∀ sz S, va_D (Adr ad n sz) (wX ad cI cJ cZ S)) {S : St} {z : Int32 × St} (hf : m_X1_rows S = some z) : CtI l yX1_rows cX1_rows 1 (some .int) ({ frames := 0, cells := 0, slots := 0, locals := 0 } : Room) D (wX ad cI cJ cZ) (tyX cI cJ cZ) ad n [.ref (ad 2)] S z := by
  refine CtI.of hf (by decide +kernel) (Nat.le_of_ble_eq_true rfl) hD (fun p e s m args below meth c C hr => ?_)
  refine g_sub [0] (lv2 := [(0, .ref (ad 2))]) rfl ?_
  unfold m_X1_rows
  refine g_aload_n (pc := 0) C dX1_rows_0 (i := 0) rfl 0 rfl ?_
  refine gt_X1_rowCount (pc := 1) C q109 dX1_rows_1 ?_
  exact g_iret (pc := 4) C hr dX1_rows_4
noncomputable def b_X6_countStanding_4 (k : Int32 → St → Option (Int32 × St)) (rec : Int32 → Int32 → St → Option (Int32 × St)) (x1 : Int32) (x2 : Int32) (S : St) : Option (Int32 × St) :=
bnd (m_X1_cells S) fun r2 S1 =>
if x2 < r2 then (
bnd (m_X5_standingOn x2 S1) fun r4 S3 =>
if 0 < r4 then (
rec (x1 + 1) (x2 + 1) S3)
else
rec x1 (x2 + 1) S3)
else
k x1 S1
noncomputable def m_X6_countStanding (S : St) : Option (Int32 × St) :=
it2 (b_X6_countStanding_4 (fun x1_S5 S5 =>
some (x1_S5, S5))) 5000 (0 : Int32) (0 : Int32) S
set_option maxRecDepth 20000 in
theorem u_X6_countStanding_4 (C : Cx p s m args meth c cX6_countStanding 3 RX6 D (tyX cI cJ cZ) ad n (wX ad cI cJ cZ)) (hr : meth.sig.returnType = (some .int)) (k : Int32 → St → Option (Int32 × St)) (hk : ∀ (x1 : Int32) (S : St), GM p l e ({ frames := 1, cells := 0, slots := 0, locals := 21 } : Room) s m args below meth c D ad n (wX ad cI cJ cZ) 3 (QI D (wX ad cI cJ cZ) ad n args s below) (k x1 S) S 35 [(1, .int x1)] []) (rec : Int32 → Int32 → St → Option (Int32 × St)) (hrec : ∀ (x1 : Int32) (x2 : Int32) (S : St), GM p l e ({ frames := 1, cells := 0, slots := 0, locals := 21 } : Room) s m args below meth c D ad n (wX ad cI cJ cZ) 3 (QI D (wX ad cI cJ cZ) ad n args s below) (rec x1 x2 S) S 4 [(0, .ref (ad 0)), (1, .int x1), (2, .int x2)] []) (x1 : Int32) (x2 : Int32) (S : St) : GM p l e ({ frames := 1, cells := 0, slots := 0, locals := 21 } : Room) s m args below meth c D ad n (wX ad cI cJ cZ) 3 (QI D (wX ad cI cJ cZ) ad n args s below) (b_X6_countStanding_4 k rec x1 x2 S) S 4 [(0, .ref (ad 0)), (1, .int x1), (2, .int x2)] [] := by
  unfold b_X6_countStanding_4
  refine g_iload_n (pc := 4) C dX6_countStanding_4 (i := 2) rfl 2 rfl ?_
  refine g_aload_n (pc := 5) C dX6_countStanding_5 (i := 0) rfl 0 rfl ?_
  refine gt_X6_ground (pc := 6) C q248 dX6_countStanding_6 ?_
  refine g_callVi (pc := 9) (As := []) C q399 mw_X1_cells (fun _ hz => c_X1_cells C.2.2.2.2.2.2.2.1 hz) ⟨Nat.le_of_ble_eq_true rfl, Nat.le_of_ble_eq_true rfl⟩ rfl rfl 2 rfl rfl rfl (Nat.le_of_ble_eq_true rfl) dX6_countStanding_9 fun r2 S1 => ?_
  refine g_icmp_ge (pc := 12) (tgt := 35) C dX6_countStanding_12 (by decide) ?_ ?_
  · refine g_sub [1] rfl (hk _ _)
  · refine g_aload_n (pc := 15) C dX6_countStanding_15 (i := 0) rfl 0 rfl ?_
    refine gt_X6_sun (pc := 16) C q247 dX6_countStanding_16 ?_
    refine g_iload_n (pc := 19) C dX6_countStanding_19 (i := 2) rfl 2 rfl ?_
    refine g_callVi (pc := 20) (As := [.int _]) C q404 mw_X5_standingOn (fun _ hz => c_X5_standingOn C.2.2.2.2.2.2.2.1 hz) ⟨Nat.le_of_ble_eq_true rfl, Nat.le_of_ble_eq_true rfl⟩ rfl rfl 1 rfl rfl rfl (Nat.le_of_ble_eq_true rfl) dX6_countStanding_20 fun r4 S3 => ?_
    refine g_if_le (pc := 23) (tgt := 29) C dX6_countStanding_23 (by decide) ?_ ?_
    · refine g_iinc (pc := 29) (v := (x2 + 1)) (lv2 := [(2, .int (x2 + 1)), (0, .ref (ad 0)), (1, .int x1)]) C dX6_countStanding_29 2 rfl rfl (by decide) rfl ?_
      refine g_goto (pc := 32) (tgt := 4) C dX6_countStanding_32 (by decide) ?_
      refine g_sub [1, 2, 0] rfl (hrec _ _ _)
    · refine g_iinc (pc := 26) (v := (x1 + 1)) (lv2 := [(1, .int (x1 + 1)), (0, .ref (ad 0)), (2, .int x2)]) C dX6_countStanding_26 1 rfl rfl (by decide) rfl ?_
      refine g_iinc (pc := 29) (v := (x2 + 1)) (lv2 := [(2, .int (x2 + 1)), (1, .int (x1 + 1)), (0, .ref (ad 0))]) C dX6_countStanding_29 2 rfl rfl (by decide) rfl ?_
      refine g_goto (pc := 32) (tgt := 4) C dX6_countStanding_32 (by decide) ?_
      refine g_sub [2, 1, 0] rfl (hrec _ _ _)
set_option maxRecDepth 20000 in
theorem c_X6_countStanding {l : Launch} {D : va_G} {ad : Nat → Nat} {cI cJ cZ : ClassId} {n : Nat} (hD : ∀ sz S, va_D (Adr ad n sz) (wX ad cI cJ cZ S)) {S : St} {z : Int32 × St} (hf : m_X6_countStanding S = some z) : CtI l yX6_countStanding cX6_countStanding 3 (some .int) ({ frames := 1, cells := 0, slots := 0, locals := 21 } : Room) D (wX ad cI cJ cZ) (tyX cI cJ cZ) ad n [.ref (ad 0)] S z := by
  refine CtI.of hf (by decide +kernel) (Nat.le_of_ble_eq_true rfl) hD (fun p e s m args below meth c C hr => ?_)
  refine g_sub [0] (lv2 := [(0, .ref (ad 0))]) rfl ?_
  unfold m_X6_countStanding
  refine g_iconst (pc := 0) (v := 0) C dX6_countStanding_0 (by decide) ?_
  refine g_istore_n (pc := 1) (i := 1) (lv2 := [(1, .int (0 : Int32)), (0, .ref (ad 0))]) C dX6_countStanding_1 rfl (by decide) rfl ?_
  refine g_iconst (pc := 2) (v := 0) C dX6_countStanding_2 (by decide) ?_
  refine g_istore_n (pc := 3) (i := 2) (lv2 := [(2, .int (0 : Int32)), (1, .int (0 : Int32)), (0, .ref (ad 0))]) C dX6_countStanding_3 rfl (by decide) rfl ?_
  refine g_sub [2, 1, 0] (lv2 := [(0, .ref (ad 0)), (1, .int (0 : Int32)), (2, .int (0 : Int32))]) rfl ?_
  refine g_it2 (pc := 4) (u_X6_countStanding_4 C hr _ fun x1_S5 S5 => ?_) _ _ _ _
  refine g_iload_n (pc := 35) C dX6_countStanding_35 (i := 1) rfl 0 rfl ?_
  exact g_iret (pc := 36) C hr dX6_countStanding_36
noncomputable def b_X6_countOwners_4 (k : Int32 → St → Option (Int32 × St)) (rec : Int32 → Int32 → St → Option (Int32 × St)) (x1 : Int32) (x2 : Int32) (S : St) : Option (Int32 × St) :=
bnd (m_X1_cells S) fun r2 S1 =>
if x2 < r2 then (
chk x2 12 <|
nm ((x1 ||| ((1 : Int32) <<< ((gI S1 25 (ix x2)) &&& 31)))) fun y3 =>
rec y3 (x2 + 1) S1)
else
k x1 S1
noncomputable def m_X6_countOwners (S : St) : Option (Int32 × St) :=
it2 (b_X6_countOwners_4 (fun x1_S4 S4 =>
bnd (m_J6_bitCount_0f7a4 x1_S4 S4) fun r6 S5 =>
some (r6, S5))) 5000 (0 : Int32) (0 : Int32) S
set_option maxRecDepth 20000 in
theorem u_X6_countOwners_4 (C : Cx p s m args meth c cX6_countOwners 3 RX6 D (tyX cI cJ cZ) ad n (wX ad cI cJ cZ)) (hr : meth.sig.returnType = (some .int)) (k : Int32 → St → Option (Int32 × St)) (hk : ∀ (x1 : Int32) (S : St), GM p l e ({ frames := 1, cells := 0, slots := 0, locals := 20 } : Room) s m args below meth c D ad n (wX ad cI cJ cZ) 3 (QI D (wX ad cI cJ cZ) ad n args s below) (k x1 S) S 32 [(1, .int x1)] []) (rec : Int32 → Int32 → St → Option (Int32 × St)) (hrec : ∀ (x1 : Int32) (x2 : Int32) (S : St), GM p l e ({ frames := 1, cells := 0, slots := 0, locals := 20 } : Room) s m args below meth c D ad n (wX ad cI cJ cZ) 3 (QI D (wX ad cI cJ cZ) ad n args s below) (rec x1 x2 S) S 4 [(0, .ref (ad 0)), (1, .int x1), (2, .int x2)] []) (x1 : Int32) (x2 : Int32) (S : St) : GM p l e ({ frames := 1, cells := 0, slots := 0, locals := 20 } : Room) s m args below meth c D ad n (wX ad cI cJ cZ) 3 (QI D (wX ad cI cJ cZ) ad n args s below) (b_X6_countOwners_4 k rec x1 x2 S) S 4 [(0, .ref (ad 0)), (1, .int x1), (2, .int x2)] [] := by
  unfold b_X6_countOwners_4
  refine g_iload_n (pc := 4) C dX6_countOwners_4 (i := 2) rfl 2 rfl ?_
  refine g_aload_n (pc := 5) C dX6_countOwners_5 (i := 0) rfl 0 rfl ?_
  refine gt_X6_ground (pc := 6) C q248 dX6_countOwners_6 ?_
  refine g_callVi (pc := 9) (As := []) C q399 mw_X1_cells (fun _ hz => c_X1_cells C.2.2.2.2.2.2.2.1 hz) ⟨Nat.le_of_ble_eq_true rfl, Nat.le_of_ble_eq_true rfl⟩ rfl rfl 2 rfl rfl rfl (Nat.le_of_ble_eq_true rfl) dX6_countOwners_9 fun r2 S1 => ?_
  refine g_icmp_ge (pc := 12) (tgt := 32) C dX6_countOwners_12 (by decide) ?_ ?_
  · refine g_sub [1] rfl (hk _ _)
  · refine g_iload_n (pc := 15) C dX6_countOwners_15 (i := 1) rfl 1 rfl ?_
    refine g_iconst (pc := 16) (v := 1) C dX6_countOwners_16 (by decide) ?_
    refine g_aload_n (pc := 17) C dX6_countOwners_17 (i := 0) rfl 0 rfl ?_
    refine gt_X6_owners (pc := 18) C q253 dX6_countOwners_18 ?_
    refine g_iload_n (pc := 21) C dX6_countOwners_21 (i := 2) rfl 2 rfl ?_
    refine al_X6_owners (pc := 22) C dX6_countOwners_22 ?_
    refine g_ishl (pc := 23) C dX6_countOwners_23 ?_
    refine g_ior (pc := 24) C dX6_countOwners_24 ?_
    refine g_nmi fun y3 => ?_
    refine g_istore_n (pc := 25) (i := 1) (lv2 := [(1, .int y3), (0, .ref (ad 0)), (2, .int x2)]) C dX6_countOwners_25 rfl (by decide) rfl ?_
    refine g_iinc (pc := 26) (v := (x2 + 1)) (lv2 := [(2, .int (x2 + 1)), (1, .int y3), (0, .ref (ad 0))]) C dX6_countOwners_26 2 rfl rfl (by decide) rfl ?_
    refine g_goto (pc := 29) (tgt := 4) C dX6_countOwners_29 (by decide) ?_
    refine g_sub [2, 1, 0] rfl (hrec _ _ _)
set_option maxRecDepth 20000 in
theorem c_X6_countOwners {l : Launch} {D : va_G} {ad : Nat → Nat} {cI cJ cZ : ClassId} {n : Nat} (hD : ∀ sz S, va_D (Adr ad n sz) (wX ad cI cJ cZ S)) {S : St} {z : Int32 × St} (hf : m_X6_countOwners S = some z) : CtI l yX6_countOwners cX6_countOwners 3 (some .int) ({ frames := 1, cells := 0, slots := 0, locals := 20 } : Room) D (wX ad cI cJ cZ) (tyX cI cJ cZ) ad n [.ref (ad 0)] S z := by
  refine CtI.of hf (by decide +kernel) (Nat.le_of_ble_eq_true rfl) hD (fun p e s m args below meth c C hr => ?_)
  refine g_sub [0] (lv2 := [(0, .ref (ad 0))]) rfl ?_
  unfold m_X6_countOwners
  refine g_iconst (pc := 0) (v := 0) C dX6_countOwners_0 (by decide) ?_
  refine g_istore_n (pc := 1) (i := 1) (lv2 := [(1, .int (0 : Int32)), (0, .ref (ad 0))]) C dX6_countOwners_1 rfl (by decide) rfl ?_
  refine g_iconst (pc := 2) (v := 0) C dX6_countOwners_2 (by decide) ?_
  refine g_istore_n (pc := 3) (i := 2) (lv2 := [(2, .int (0 : Int32)), (1, .int (0 : Int32)), (0, .ref (ad 0))]) C dX6_countOwners_3 rfl (by decide) rfl ?_
  refine g_sub [2, 1, 0] (lv2 := [(0, .ref (ad 0)), (1, .int (0 : Int32)), (2, .int (0 : Int32))]) rfl ?_
  refine g_it2 (pc := 4) (u_X6_countOwners_4 C hr _ fun x1_S4 S4 => ?_) _ _ _ _
  refine g_iload_n (pc := 32) C dX6_countOwners_32 (i := 1) rfl 0 rfl ?_
  refine g_callSi (pc := 33) (As := [.int _]) C q714 mw_J6_bitCount_0f7a4 (fun _ hz => c_J6_bitCount_0f7a4 C.2.2.2.2.2.2.2.1 hz) ⟨Nat.le_of_ble_eq_true rfl, Nat.le_of_ble_eq_true rfl⟩ rfl rfl rfl (Nat.le_of_ble_eq_true rfl) dX6_countOwners_33 fun r6 S5 => ?_
  exact g_iret (pc := 36) C hr dX6_countOwners_36
end MM
