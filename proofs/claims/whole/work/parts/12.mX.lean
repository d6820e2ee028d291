section MM
variable {p : Program} {l : Launch} {e : Env} {s : State} {m : MethodId} {args : Array Value} {below : List Frame} {meth : Method} {c : Code} {D : va_G} {ad : Nat → Nat} {n : Nat} {cI cJ cZ : ClassId}
noncomputable def b_X2_fillSums_16_14_42 (x3 : Int32) (x4 : Int32) (x6 : Int32) (k : St → Option (St)) (rec : Int32 → St → Option (St)) (x7 : Int32) (S : St) : Option (St) :=
if x7 < ((1 : Int32) <<< (x4 &&& 31)) then (
chk x7 64 <|
chk (x7 ||| ((1 : Int32) <<< (x4 &&& 31))) 64 <|
nm (sI S 16 (ix (x7 ||| ((1 : Int32) <<< (x4 &&& 31)))) ((gI S 16 (ix x7)) + x6)) fun S3 =>
rec (x7 + 1) S3)
else
k S
noncomputable def b_X2_fillSums_16_14_7 (x3 : Int32) (k : St → Option (St)) (rec : Int32 → St → Option (St)) (x4 : Int32) (S : St) : Option (St) :=
if x4 < (6 : Int32) then (
nm ((x3 + x4)) fun y2 =>
if y2 < (gI S 45 0) then (
chk y2 12 <|
nm ((gI S 14 (ix y2))) fun y5 =>
it1 (b_X2_fillSums_16_14_42 x3 x4 y5 (fun S6 =>
rec (x4 + 1) S6)) 5000 (0 : Int32) S)
else
it1 (b_X2_fillSums_16_14_42 x3 x4 (0 : Int32) (fun S4 =>
rec (x4 + 1) S4)) 5000 (0 : Int32) S)
else
k S
noncomputable def m_X2_fillSums_16_14 (x3 : Int32) (S : St) : Option (St) :=
chk (0 : Int32) 64 <|
nm (sI S 16 (ix (0 : Int32)) (0 : Int32)) fun S1 =>
it1 (b_X2_fillSums_16_14_7 x3 (fun S7 =>
some S7)) 5000 (0 : Int32) S1
set_option maxRecDepth 20000 in
theorem u_X2_fillSums_16_14_42 (C : Cx p s m args meth c cX2_fillSums 8 RX2 D (tyX cI cJ cZ) ad n (wX ad cI cJ cZ)) (hr : meth.sig.returnType = none) (x3 : Int32) (x4 : Int32) (x6 : Int32) (k : St → Option (St)) (hk : ∀ (S : St), GM p l e ({ frames := 0, cells := 0, slots := 0, locals := 0 } : Room) s m args below meth c D ad n (wX ad cI cJ cZ) 8 (QV D (wX ad cI cJ cZ) ad n args s below) (k S) S 73 [(0, .ref (ad 3)), (1, .ref (ad 16)), (2, .ref (ad 14)), (3, .int x3), (4, .int x4)] []) (rec : Int32 → St → Option (St)) (hrec : ∀ (x7 : Int32) (S : St), GM p l e ({ frames := 0, cells := 0, slots := 0, locals := 0 } : Room) s m args below meth c D ad n (wX ad cI cJ cZ) 8 (QV D (wX ad cI cJ cZ) ad n args s below) (rec x7 S) S 42 [(0, .ref (ad 3)), (1, .ref (ad 16)), (2, .ref (ad 14)), (3, .int x3), (4, .int x4), (6, .int x6), (7, .int x7)] []) (x7 : Int32) (S : St) : GM p l e ({ frames := 0, cells := 0, slots := 0, locals := 0 } : Room) s m args below meth c D ad n (wX ad cI cJ cZ) 8 (QV D (wX ad cI cJ cZ) ad n args s below) (b_X2_fillSums_16_14_42 x3 x4 x6 k rec x7 S) S 42 [(0, .ref (ad 3)), (1, .ref (ad 16)), (2, .ref (ad 14)), (3, .int x3), (4, .int x4), (6, .int x6), (7, .int x7)] [] := by
  unfold b_X2_fillSums_16_14_42
  refine g_iload (pc := 42) C dX2_fillSums_42 6 rfl ?_
  refine g_iconst (pc := 44) (v := 1) C dX2_fillSums_44 (by decide) ?_
  refine g_iload (pc := 45) C dX2_fillSums_45 4 rfl ?_
  refine g_ishl (pc := 47) C dX2_fillSums_47 ?_
  refine g_icmp_ge (pc := 48) (tgt := 73) C dX2_fillSums_48 (by decide) ?_ ?_
  · refine g_sub [0, 1, 2, 3, 4] rfl (hk _)
  · refine g_aload_n (pc := 51) C dX2_fillSums_51 (i := 1) rfl 1 rfl ?_
    refine g_iload (pc := 52) C dX2_fillSums_52 6 rfl ?_
    refine g_iconst (pc := 54) (v := 1) C dX2_fillSums_54 (by decide) ?_
    refine g_iload (pc := 55) C dX2_fillSums_55 4 rfl ?_
    refine g_ishl (pc := 57) C dX2_fillSums_57 ?_
    refine g_ior (pc := 58) C dX2_fillSums_58 ?_
    refine g_aload_n (pc := 59) C dX2_fillSums_59 (i := 1) rfl 1 rfl ?_
    refine g_iload (pc := 60) C dX2_fillSums_60 6 rfl ?_
    refine al_X2_highSums (pc := 62) C dX2_fillSums_62 ?_
    refine g_iload (pc := 63) C dX2_fillSums_63 5 rfl ?_
    refine g_iadd (pc := 65) C dX2_fillSums_65 ?_
    refine as_X2_highSums (pc := 66) C dX2_fillSums_66 fun S3 => ?_
    refine g_iinc (pc := 67) (v := (x7 + 1)) (lv2 := [(7, .int (x7 + 1)), (0, .ref (ad 3)), (1, .ref (ad 16)), (2, .ref (ad 14)), (3, .int x3), (4, .int x4), (6, .int x6)]) C dX2_fillSums_67 6 rfl rfl (by decide) rfl ?_
    refine g_goto (pc := 70) (tgt := 42) C dX2_fillSums_70 (by decide) ?_
    refine g_sub [1, 2, 3, 4, 5, 6, 0] rfl (hrec _ _)
set_option maxRecDepth 20000 in
theorem u_X2_fillSums_16_14_7 (C : Cx p s m args meth c cX2_fillSums 8 RX2 D (tyX cI cJ cZ) ad n (wX ad cI cJ cZ)) (hr : meth.sig.returnType = none) (x3 : Int32) (k : St → Option (St)) (hk : ∀ (S : St), GM p l e ({ frames := 0, cells := 0, slots := 0, locals := 0 } : Room) s m args below meth c D ad n (wX ad cI cJ cZ) 8 (QV D (wX ad cI cJ cZ) ad n args s below) (k S) S 79 [] []) (rec : Int32 → St → Option (St)) (hrec : ∀ (x4 : Int32) (S : St), GM p l e ({ frames := 0, cells := 0, slots := 0, locals := 0 } : Room) s m args below meth c D ad n (wX ad cI cJ cZ) 8 (QV D (wX ad cI cJ cZ) ad n args s below) (rec x4 S) S 7 [(0, .ref (ad 3)), (1, .ref (ad 16)), (2, .ref (ad 14)), (3, .int x3), (4, .int x4)] []) (x4 : Int32) (S : St) : GM p l e ({ frames := 0, cells := 0, slots := 0, locals := 0 } : Room) s m args below meth c D ad n (wX ad cI cJ cZ) 8 (QV D (wX ad cI cJ cZ) ad n args s below) (b_X2_fillSums_16_14_7 x3 k rec x4 S) S 7 [(0, .ref (ad 3)), (1, .ref (ad 16)), (2, .ref (ad 14)), (3, .int x3), (4, .int x4)] [] := by
  unfold b_X2_fillSums_16_14_7
  refine g_iload (pc := 7) C dX2_fillSums_7 4 rfl ?_
  refine g_bipush (pc := 9) (v := 6) C dX2_fillSums_9 (by decide) ?_
  refine g_icmp_ge (pc := 11) (tgt := 79) C dX2_fillSums_11 (by decide) ?_ ?_
  · refine g_sub [] rfl (hk _)
  · refine g_iload_n (pc := 14) C dX2_fillSums_14 (i := 3) rfl 3 rfl ?_
    refine g_iload (pc := 15) C dX2_fillSums_15 4 rfl ?_
    refine g_iadd (pc := 17) C dX2_fillSums_17 ?_
    refine g_nmi fun y2 => ?_
    refine g_istore (pc := 18) (i := 5) (j := 0) (lv2 := [(5, .int y2), (0, .ref (ad 3)), (1, .ref (ad 16)), (2, .ref (ad 14)), (3, .int x3), (4, .int x4)]) C dX2_fillSums_18 (by decide) rfl ?_
    refine g_iload (pc := 20) C dX2_fillSums_20 0 rfl ?_
    refine g_aload_n (pc := 22) C dX2_fillSums_22 (i := 0) rfl 1 rfl ?_
    refine gt_X2_cells (pc := 23) C q160 dX2_fillSums_23 ?_
    refine g_icmp_ge (pc := 26) (tgt := 36) C dX2_fillSums_26 (by decide) ?_ ?_
    · refine g_iconst (pc := 36) (v := 0) C dX2_fillSums_36 (by decide) ?_
      refine g_istore (pc := 37) (i := 6) (j := 0) (lv2 := [(6, .int (0 : Int32)), (5, .int y2), (0, .ref (ad 3)), (1, .ref (ad 16)), (2, .ref (ad 14)), (3, .int x3), (4, .int x4)]) C dX2_fillSums_37 (by decide) rfl ?_
      refine g_iconst (pc := 39) (v := 0) C dX2_fillSums_39 (by decide) ?_
      refine g_istore (pc := 40) (i := 7) (j := 0) (lv2 := [(7, .int (0 : Int32)), (6, .int (0 : Int32)), (5, .int y2), (0, .ref (ad 3)), (1, .ref (ad 16)), (2, .ref (ad 14)), (3, .int x3), (4, .int x4)]) C dX2_fillSums_40 (by decide) rfl ?_
      refine g_sub [3, 4, 5, 6, 7, 1, 0] (lv2 := [(0, .ref (ad 3)), (1, .ref (ad 16)), (2, .ref (ad 14)), (3, .int x3), (4, .int x4), (6, .int (0 : Int32)), (7, .int (0 : Int32))]) rfl ?_
      refine g_it1 (pc := 42) (u_X2_fillSums_16_14_42 C hr _ _ _ _ fun S4 => ?_) _ _ _
      refine g_iinc (pc := 73) (v := (x4 + 1)) (lv2 := [(4, .int (x4 + 1)), (0, .ref (ad 3)), (1, .ref (ad 16)), (2, .ref (ad 14)), (3, .int x3)]) C dX2_fillSums_73 4 rfl rfl (by decide) rfl ?_
      refine g_goto (pc := 76) (tgt := 7) C dX2_fillSums_76 (by decide) ?_
      refine g_sub [1, 2, 3, 4, 0] rfl (hrec _ _)
    · refine g_aload_n (pc := 29) C dX2_fillSums_29 (i := 2) rfl 3 rfl ?_
      refine g_iload (pc := 30) C dX2_fillSums_30 0 rfl ?_
      refine al_X5_cellYears (pc := 32) C dX2_fillSums_32 ?_
      refine g_goto (pc := 33) (tgt := 37) C dX2_fillSums_33 (by decide) ?_
      refine g_nmi fun y5 => ?_
      refine g_istore (pc := 37) (i := 6) (j := 0) (lv2 := [(6, .int y5), (5, .int y2), (0, .ref (ad 3)), (1, .ref (ad 16)), (2, .ref (ad 14)), (3, .int x3), (4, .int x4)]) C dX2_fillSums_37 (by decide) rfl ?_
      refine g_iconst (pc := 39) (v := 0) C dX2_fillSums_39 (by decide) ?_
      refine g_istore (pc := 40) (i := 7) (j := 0) (lv2 := [(7, .int (0 : Int32)), (6, .int y5), (5, .int y2), (0, .ref (ad 3)), (1, .ref (ad 16)), (2, .ref (ad 14)), (3, .int x3), (4, .int x4)]) C dX2_fillSums_40 (by decide) rfl ?_
      refine g_sub [3, 4, 5, 6, 7, 1, 0] (lv2 := [(0, .ref (ad 3)), (1, .ref (ad 16)), (2, .ref (ad 14)), (3, .int x3), (4, .int x4), (6, .int y5), (7, .int (0 : Int32))]) rfl ?_
      refine g_it1 (pc := 42) (u_X2_fillSums_16_14_42 C hr _ _ _ _ fun S6 => ?_) _ _ _
      refine g_iinc (pc := 73) (v := (x4 + 1)) (lv2 := [(4, .int (x4 + 1)), (0, .ref (ad 3)), (1, .ref (ad 16)), (2, .ref (ad 14)), (3, .int x3)]) C dX2_fillSums_73 4 rfl rfl (by decide) rfl ?_
      refine g_goto (pc := 76) (tgt := 7) C dX2_fillSums_76 (by decide) ?_
      refine g_sub [1, 2, 3, 4, 0] rfl (hrec _ _)
set_option maxRecDepth 20000 in
theorem c_X2_fillSums_16_14 {l : Launch} {D : va_G} {ad : Nat → Nat} {cI cJ cZ : ClassId} {n : Nat} (hD : ∀ sz S, va_D (Adr ad n sz) (wX ad cI cJ cZ S)) {x3 : Int32} {S : St} {z : St} (hf : m_X2_fillSums_16_14 x3 S = some z) : CtV l yX2_fillSums cX2_fillSums 8 none ({ frames := 0, cells := 0, slots := 0, locals := 0 } : Room) D (wX ad cI cJ cZ) (tyX cI cJ cZ) ad n [.ref (ad 3), .ref (ad 16), .ref (ad 14), .int x3] S z := by
  refine CtV.of hf (by decide +kernel) (Nat.le_of_ble_eq_true rfl) hD (fun p e s m args below meth c C hr => ?_)
  refine g_sub [0, 1, 2, 3] (lv2 := [(0, .ref (ad 3)), (1, .ref (ad 16)), (2, .ref (ad 14)), (3, .int x3)]) rfl ?_
  unfold m_X2_fillSums_16_14
  refine g_aload_n (pc := 0) C dX2_fillSums_0 (i := 1) rfl 1 rfl ?_
  refine g_iconst (pc := 1) (v := 0) C dX2_fillSums_1 (by decide) ?_
  refine g_iconst (pc := 2) (v := 0) C dX2_fillSums_2 (by decide) ?_
  refine as_X2_highSums (pc := 3) C dX2_fillSums_3 fun S1 => ?_
  refine g_iconst (pc := 4) (v := 0) C dX2_fillSums_4 (by decide) ?_
  refine g_istore (pc := 5) (i := 4) (j := 0) (lv2 := [(4, .int (0 : Int32)), (0, .ref (ad 3)), (1, .ref (ad 16)), (2, .ref (ad 14)), (3, .int x3)]) C dX2_fillSums_5 (by decide) rfl ?_
  refine g_sub [1, 2, 3, 4, 0] (lv2 := [(0, .ref (ad 3)), (1, .ref (ad 16)), (2, .ref (ad 14)), (3, .int x3), (4, .int (0 : Int32))]) rfl ?_
  refine g_it1 (pc := 7) (u_X2_fillSums_16_14_7 C hr _ _ fun S7 => ?_) _ _ _
  exact g_vret (pc := 79) C hr dX2_fillSums_79
noncomputable def b_X2_prepare_2_14_40 (k : St → Option (St)) (rec : Int32 → St → Option (St)) (x3 : Int32) (S : St) : Option (St) :=
if x3 < (gI S 45 0) then (
bnd (m_X1_columnOf x3 S) fun r11 S10 =>
if r11 = 0 then (
nm (sI S10 48 0 ((gI S10 48 0) ||| ((1 : Int32) <<< (x3 &&& 31)))) fun S15 =>
if r11 = ((gI S15 46 0) - (1 : Int32)) then (
nm (sI S15 49 0 ((gI S15 49 0) ||| ((1 : Int32) <<< (x3 &&& 31)))) fun S17 =>
rec (x3 + 1) S17)
else
nm (sI S15 49 0 ((gI S15 49 0) ||| (0 : Int32))) fun S16 =>
rec (x3 + 1) S16)
else
nm (sI S10 48 0 ((gI S10 48 0) ||| (0 : Int32))) fun S12 =>
if r11 = ((gI S12 46 0) - (1 : Int32)) then (
nm (sI S12 49 0 ((gI S12 49 0) ||| ((1 : Int32) <<< (x3 &&& 31)))) fun S14 =>
rec (x3 + 1) S14)
else
nm (sI S12 49 0 ((gI S12 49 0) ||| (0 : Int32))) fun S13 =>
rec (x3 + 1) S13)
else
k S
noncomputable def m_X2_prepare_2_14 (S : St) : Option (St) :=
bnd (m_X1_cells S) fun r2 S1 =>
nm (sI S1 45 0 r2) fun S3 =>
bnd (m_X1_columns S3) fun r5 S4 =>
nm (sI S4 46 0 r5) fun S6 =>
nm (sI S6 47 0 (((1 : Int32) <<< ((gI S6 45 0) &&& 31)) - (1 : Int32))) fun S7 =>
nm (sI S7 48 0 (0 : Int32)) fun S8 =>
nm (sI S8 49 0 (0 : Int32)) fun S9 =>
it1 (b_X2_prepare_2_14_40 (fun S18 =>
bndV (m_X2_fillSums_15_14 (0 : Int32) S18) fun S19 =>
bndV (m_X2_fillSums_16_14 (6 : Int32) S19) fun S21 =>
some S21)) 5000 (0 : Int32) S9
set_option maxRecDepth 20000 in
theorem u_X2_prepare_2_14_40 (C : Cx p s m args meth c cX2_prepare 5 RX2 D (tyX cI cJ cZ) ad n (wX ad cI cJ cZ)) (hr : meth.sig.returnType = none) (k : St → Option (St)) (hk : ∀ (S : St), GM p l e ({ frames := 1, cells := 0, slots := 0, locals := 27 } : Room) s m args below meth c D ad n (wX ad cI cJ cZ) 5 (QV D (wX ad cI cJ cZ) ad n args s below) (k S) S 109 [(0, .ref (ad 3)), (2, .ref (ad 14))] []) (rec : Int32 → St → Option (St)) (hrec : ∀ (x3 : Int32) (S : St), GM p l e ({ frames := 1, cells := 0, slots := 0, locals := 27 } : Room) s m args below meth c D ad n (wX ad cI cJ cZ) 5 (QV D (wX ad cI cJ cZ) ad n args s below) (rec x3 S) S 40 [(0, .ref (ad 3)), (1, .ref (ad 2)), (2, .ref (ad 14)), (3, .int x3)] []) (x3 : Int32) (S : St) : GM p l e ({ frames := 1, cells := 0, slots := 0, locals := 27 } : Room) s m args below meth c D ad n (wX ad cI cJ cZ) 5 (QV D (wX ad cI cJ cZ) ad n args s below) (b_X2_prepare_2_14_40 k rec x3 S) S 40 [(0, .ref (ad 3)), (1, .ref (ad 2)), (2, .ref (ad 14)), (3, .int x3)] [] := by
  unfold b_X2_prepare_2_14_40
  refine g_iload_n (pc := 40) C dX2_prepare_40 (i := 3) rfl 3 rfl ?_
  refine g_aload_n (pc := 41) C dX2_prepare_41 (i := 0) rfl 0 rfl ?_
  refine gt_X2_cells (pc := 42) C q160 dX2_prepare_42 ?_
  refine g_icmp_ge (pc := 45) (tgt := 109) C dX2_prepare_45 (by decide) ?_ ?_
  · refine g_sub [0, 2] rfl (hk _)
  · refine g_aload_n (pc := 48) C dX2_prepare_48 (i := 1) rfl 1 rfl ?_
    refine g_iload_n (pc := 49) C dX2_prepare_49 (i := 3) rfl 3 rfl ?_
    refine g_callVi (pc := 50) (As := [.int _]) C q516 mw_X1_columnOf (fun _ hz => c_X1_columnOf C.2.2.2.2.2.2.2.1 hz) ⟨Nat.le_of_ble_eq_true rfl, Nat.le_of_ble_eq_true rfl⟩ rfl rfl 2 rfl rfl rfl (Nat.le_of_ble_eq_true rfl) dX2_prepare_50 fun r11 S10 => ?_
    refine g_istore (pc := 53) (i := 4) (j := 0) (lv2 := [(4, .int r11), (0, .ref (ad 3)), (1, .ref (ad 2)), (2, .ref (ad 14)), (3, .int x3)]) C dX2_prepare_53 (by decide) rfl ?_
    refine g_aload_n (pc := 55) C dX2_prepare_55 (i := 0) rfl 1 rfl ?_
    refine g_dup (pc := 56) C dX2_prepare_56 rfl ?_
    refine gt_X2_eastColumn (pc := 57) C q163 dX2_prepare_57 ?_
    refine g_iload (pc := 60) C dX2_prepare_60 0 rfl ?_
    refine g_if_ne (pc := 62) (tgt := 71) C dX2_prepare_62 (by decide) ?_ ?_
    · refine g_iconst (pc := 71) (v := 0) C dX2_prepare_71 (by decide) ?_
      refine g_ior (pc := 72) C dX2_prepare_72 ?_
      refine pt_X2_eastColumn (pc := 73) C q163 dX2_prepare_73 fun S12 => ?_
      refine g_aload_n (pc := 76) C dX2_prepare_76 (i := 0) rfl 1 rfl ?_
      refine g_dup (pc := 77) C dX2_prepare_77 rfl ?_
      refine gt_X2_westColumn (pc := 78) C q164 dX2_prepare_78 ?_
      refine g_iload (pc := 81) C dX2_prepare_81 0 rfl ?_
      refine g_aload_n (pc := 83) C dX2_prepare_83 (i := 0) rfl 1 rfl ?_
      refine gt_X2_columns (pc := 84) C q161 dX2_prepare_84 ?_
      refine g_iconst (pc := 87) (v := 1) C dX2_prepare_87 (by decide) ?_
      refine g_isub (pc := 88) C dX2_prepare_88 ?_
      refine g_icmp_ne (pc := 89) (tgt := 98) C dX2_prepare_89 (by decide) ?_ ?_
      · refine g_iconst (pc := 98) (v := 0) C dX2_prepare_98 (by decide) ?_
        refine g_ior (pc := 99) C dX2_prepare_99 ?_
        refine pt_X2_westColumn (pc := 100) C q164 dX2_prepare_100 fun S13 => ?_
        refine g_iinc (pc := 103) (v := (x3 + 1)) (lv2 := [(3, .int (x3 + 1)), (4, .int r11), (0, .ref (ad 3)), (1, .ref (ad 2)), (2, .ref (ad 14))]) C dX2_prepare_103 4 rfl rfl (by decide) rfl ?_
        refine g_goto (pc := 106) (tgt := 40) C dX2_prepare_106 (by decide) ?_
        refine g_sub [2, 3, 4, 0] rfl (hrec _ _)
      · refine g_iconst (pc := 92) (v := 1) C dX2_prepare_92 (by decide) ?_
        refine g_iload_n (pc := 93) C dX2_prepare_93 (i := 3) rfl 4 rfl ?_
        refine g_ishl (pc := 94) C dX2_prepare_94 ?_
        refine g_goto (pc := 95) (tgt := 99) C dX2_prepare_95 (by decide) ?_
        refine g_ior (pc := 99) C dX2_prepare_99 ?_
        refine pt_X2_westColumn (pc := 100) C q164 dX2_prepare_100 fun S14 => ?_
        refine g_iinc (pc := 103) (v := (x3 + 1)) (lv2 := [(3, .int (x3 + 1)), (4, .int r11), (0, .ref (ad 3)), (1, .ref (ad 2)), (2, .ref (ad 14))]) C dX2_prepare_103 4 rfl rfl (by decide) rfl ?_
        refine g_goto (pc := 106) (tgt := 40) C dX2_prepare_106 (by decide) ?_
        refine g_sub [2, 3, 4, 0] rfl (hrec _ _)
    · refine g_iconst (pc := 65) (v := 1) C dX2_prepare_65 (by decide) ?_
      refine g_iload_n (pc := 66) C dX2_prepare_66 (i := 3) rfl 4 rfl ?_
      refine g_ishl (pc := 67) C dX2_prepare_67 ?_
      refine g_goto (pc := 68) (tgt := 72) C dX2_prepare_68 (by decide) ?_
      refine g_ior (pc := 72) C dX2_prepare_72 ?_
      refine pt_X2_eastColumn (pc := 73) C q163 dX2_prepare_73 fun S15 => ?_
      refine g_aload_n (pc := 76) C dX2_prepare_76 (i := 0) rfl 1 rfl ?_
      refine g_dup (pc := 77) C dX2_prepare_77 rfl ?_
      refine gt_X2_westColumn (pc := 78) C q164 dX2_prepare_78 ?_
      refine g_iload (pc := 81) C dX2_prepare_81 0 rfl ?_
      refine g_aload_n (pc := 83) C dX2_prepare_83 (i := 0) rfl 1 rfl ?_
      refine gt_X2_columns (pc := 84) C q161 dX2_prepare_84 ?_
      refine g_iconst (pc := 87) (v := 1) C dX2_prepare_87 (by decide) ?_
      refine g_isub (pc := 88) C dX2_prepare_88 ?_
      refine g_icmp_ne (pc := 89) (tgt := 98) C dX2_prepare_89 (by decide) ?_ ?_
      · refine g_iconst (pc := 98) (v := 0) C dX2_prepare_98 (by decide) ?_
        refine g_ior (pc := 99) C dX2_prepare_99 ?_
        refine pt_X2_westColumn (pc := 100) C q164 dX2_prepare_100 fun S16 => ?_
        refine g_iinc (pc := 103) (v := (x3 + 1)) (lv2 := [(3, .int (x3 + 1)), (4, .int r11), (0, .ref (ad 3)), (1, .ref (ad 2)), (2, .ref (ad 14))]) C dX2_prepare_103 4 rfl rfl (by decide) rfl ?_
        refine g_goto (pc := 106) (tgt := 40) C dX2_prepare_106 (by decide) ?_
        refine g_sub [2, 3, 4, 0] rfl (hrec _ _)
      · refine g_iconst (pc := 92) (v := 1) C dX2_prepare_92 (by decide) ?_
        refine g_iload_n (pc := 93) C dX2_prepare_93 (i := 3) rfl 4 rfl ?_
        refine g_ishl (pc := 94) C dX2_prepare_94 ?_
        refine g_goto (pc := 95) (tgt := 99) C dX2_prepare_95 (by decide) ?_
        refine g_ior (pc := 99) C dX2_prepare_99 ?_
        refine pt_X2_westColumn (pc := 100) C q164 dX2_prepare_100 fun S17 => ?_
        refine g_iinc (pc := 103) (v := (x3 + 1)) (lv2 := [(3, .int (x3 + 1)), (4, .int r11), (0, .ref (ad 3)), (1, .ref (ad 2)), (2, .ref (ad 14))]) C dX2_prepare_103 4 rfl rfl (by decide) rfl ?_
        refine g_goto (pc := 106) (tgt := 40) C dX2_prepare_106 (by decide) ?_
        refine g_sub [2, 3, 4, 0] rfl (hrec _ _)
set_option maxRecDepth 20000 in
theorem c_X2_prepare_2_14 {l : Launch} {D : va_G} {ad : Nat → Nat} {cI cJ cZ : ClassId} {n : Nat} (hD : ∀ sz S, va_D (Adr ad n sz) (wX ad cI cJ cZ S)) {S : St} {z : St} (hf : m_X2_prepare_2_14 S = some z) : CtV l yX2_prepare cX2_prepare 5 none ({ frames := 1, cells := 0, slots := 0, locals := 27 } : Room) D (wX ad cI cJ cZ) (tyX cI cJ cZ) ad n [.ref (ad 3), .ref (ad 2), .ref (ad 14)] S z := by
  refine CtV.of hf (by decide +kernel) (Nat.le_of_ble_eq_true rfl) hD (fun p e s m args below meth c C hr => ?_)
  refine g_sub [0, 1, 2] (lv2 := [(0, .ref (ad 3)), (1, .ref (ad 2)), (2, .ref (ad 14))]) rfl ?_
  unfold m_X2_prepare_2_14
  refine g_aload_n (pc := 0) C dX2_prepare_0 (i := 0) rfl 0 rfl ?_
  refine g_aload_n (pc := 1) C dX2_prepare_1 (i := 1) rfl 1 rfl ?_
  refine g_callVi (pc := 2) (As := []) C q511 mw_X1_cells (fun _ hz => c_X1_cells C.2.2.2.2.2.2.2.1 hz) ⟨Nat.le_of_ble_eq_true rfl, Nat.le_of_ble_eq_true rfl⟩ rfl rfl 2 rfl rfl rfl (Nat.le_of_ble_eq_true rfl) dX2_prepare_2 fun r2 S1 => ?_
  refine pt_X2_cells (pc := 5) C q160 dX2_prepare_5 fun S3 => ?_
  refine g_aload_n (pc := 8) C dX2_prepare_8 (i := 0) rfl 0 rfl ?_
  refine g_aload_n (pc := 9) C dX2_prepare_9 (i := 1) rfl 1 rfl ?_
  refine g_callVi (pc := 10) (As := []) C q512 mw_X1_columns (fun _ hz => c_X1_columns C.2.2.2.2.2.2.2.1 hz) ⟨Nat.le_of_ble_eq_true rfl, Nat.le_of_ble_eq_true rfl⟩ rfl rfl 2 rfl rfl rfl (Nat.le_of_ble_eq_true rfl) dX2_prepare_10 fun r5 S4 => ?_
  refine pt_X2_columns (pc := 13) C q161 dX2_prepare_13 fun S6 => ?_
  refine g_aload_n (pc := 16) C dX2_prepare_16 (i := 0) rfl 0 rfl ?_
  refine g_iconst (pc := 17) (v := 1) C dX2_prepare_17 (by decide) ?_
  refine g_aload_n (pc := 18) C dX2_prepare_18 (i := 0) rfl 0 rfl ?_
  refine gt_X2_cells (pc := 19) C q160 dX2_prepare_19 ?_
  refine g_ishl (pc := 22) C dX2_prepare_22 ?_
  refine g_iconst (pc := 23) (v := 1) C dX2_prepare_23 (by decide) ?_
  refine g_isub (pc := 24) C dX2_prepare_24 ?_
  refine pt_X2_all (pc := 25) C q162 dX2_prepare_25 fun S7 => ?_
  refine g_aload_n (pc := 28) C dX2_prepare_28 (i := 0) rfl 0 rfl ?_
  refine g_iconst (pc := 29) (v := 0) C dX2_prepare_29 (by decide) ?_
  refine pt_X2_eastColumn (pc := 30) C q163 dX2_prepare_30 fun S8 => ?_
  refine g_aload_n (pc := 33) C dX2_prepare_33 (i := 0) rfl 0 rfl ?_
  refine g_iconst (pc := 34) (v := 0) C dX2_prepare_34 (by decide) ?_
  refine pt_X2_westColumn (pc := 35) C q164 dX2_prepare_35 fun S9 => ?_
  refine g_iconst (pc := 38) (v := 0) C dX2_prepare_38 (by decide) ?_
  refine g_istore_n (pc := 39) (i := 3) (lv2 := [(3, .int (0 : Int32)), (0, .ref (ad 3)), (1, .ref (ad 2)), (2, .ref (ad 14))]) C dX2_prepare_39 rfl (by decide) rfl ?_
  refine g_sub [1, 2, 3, 0] (lv2 := [(0, .ref (ad 3)), (1, .ref (ad 2)), (2, .ref (ad 14)), (3, .int (0 : Int32))]) rfl ?_
  refine g_it1 (pc := 40) (u_X2_prepare_2_14_40 C hr _ fun S18 => ?_) _ _ _
  refine g_aload_n (pc := 109) C dX2_prepare_109 (i := 0) rfl 0 rfl ?_
  refine g_aload_n (pc := 110) C dX2_prepare_110 (i := 0) rfl 0 rfl ?_
  refine gt_X2_lowSums (pc := 111) C q158 dX2_prepare_111 ?_
  refine g_aload_n (pc := 114) C dX2_prepare_114 (i := 2) rfl 1 rfl ?_
  refine g_iconst (pc := 115) (v := 0) C dX2_prepare_115 (by decide) ?_
  refine g_callVv (pc := 116) (As := [.ref _, .ref _, .int _]) C q520 mw_X2_fillSums (fun _ hz => c_X2_fillSums_15_14 C.2.2.2.2.2.2.2.1 hz) ⟨Nat.le_of_ble_eq_true rfl, Nat.le_of_ble_eq_true rfl⟩ rfl rfl 3 rfl rfl rfl (Nat.le_of_ble_eq_true rfl) dX2_prepare_116 fun S19 => ?_
  refine g_aload_n (pc := 119) C dX2_prepare_119 (i := 0) rfl 0 rfl ?_
  refine g_aload_n (pc := 120) C dX2_prepare_120 (i := 0) rfl 0 rfl ?_
  refine gt_X2_highSums (pc := 121) C q159 dX2_prepare_121 ?_
  refine g_aload_n (pc := 124) C dX2_prepare_124 (i := 2) rfl 1 rfl ?_
  refine g_bipush (pc := 125) (v := 6) C dX2_prepare_125 (by decide) ?_
  refine g_callVv (pc := 127) (As := [.ref _, .ref _, .int _]) C q520 mw_X2_fillSums (fun _ hz => c_X2_fillSums_16_14 C.2.2.2.2.2.2.2.1 hz) ⟨Nat.le_of_ble_eq_true rfl, Nat.le_of_ble_eq_true rfl⟩ rfl rfl 3 rfl rfl rfl (Nat.le_of_ble_eq_true rfl) dX2_prepare_127 fun S21 => ?_
  exact g_vret (pc := 130) C hr dX2_prepare_130
noncomputable def m_X2_sumOf (x1 : Int32) (S : St) : Option (Int32 × St) :=
chk (x1 &&& (63 : Int32)) 64 <|
chk ((x1 >>> ((6 : Int32) &&& 31)) &&& (63 : Int32)) 64 <|
some (((gI S 15 (ix (x1 &&& (63 : Int32)))) + (gI S 16 (ix ((x1 >>> ((6 : Int32) &&& 31)) &&& (63 : Int32))))), S)
set_option maxRecDepth 20000 in
theorem c_X2_sumOf {l : Launch} {D : va_G} {ad : Nat → Nat} {cI cJ cZ : ClassId} {n : Nat} (hD : ∀ sz S, va_D (Adr ad n sz) (wX ad cI cJ cZ S)) {x1 : Int32} {S : St} {z : Int32 × St} (hf : m_X2_sumOf x1 S = some z) : CtI l yX2_sumOf cX2_sumOf 2 (some .int) ({ frames := 0, cells := 0, slots := 0, locals := 0 } : Room) D (wX ad cI cJ cZ) (tyX cI cJ cZ) ad n [.ref (ad 3), .int x1] S z := by
  refine CtI.of hf (by decide +kernel) (Nat.le_of_ble_eq_true rfl) hD (fun p e s m args below meth c C hr => ?_)
  refine g_sub [0, 1] (lv2 := [(0, .ref (ad 3)), (1, .int x1)]) rfl ?_
  unfold m_X2_sumOf
  refine g_aload_n (pc := 0) C dX2_sumOf_0 (i := 0) rfl 0 rfl ?_
  refine gt_X2_lowSums (pc := 1) C q158 dX2_sumOf_1 ?_
  refine g_iload_n (pc := 4) C dX2_sumOf_4 (i := 1) rfl 1 rfl ?_
  refine g_bipush (pc := 5) (v := 63) C dX2_sumOf_5 (by decide) ?_
  refine g_iand (pc := 7) C dX2_sumOf_7 ?_
  refine al_X2_lowSums (pc := 8) C dX2_sumOf_8 ?_
  refine g_aload_n (pc := 9) C dX2_sumOf_9 (i := 0) rfl 0 rfl ?_
  refine gt_X2_highSums (pc := 10) C q159 dX2_sumOf_10 ?_
  refine g_iload_n (pc := 13) C dX2_sumOf_13 (i := 1) rfl 1 rfl ?_
  refine g_bipush (pc := 14) (v := 6) C dX2_sumOf_14 (by decide) ?_
  refine g_ishr (pc := 16) C dX2_sumOf_16 ?_
  refine g_bipush (pc := 17) (v := 63) C dX2_sumOf_17 (by decide) ?_
  refine g_iand (pc := 19) C dX2_sumOf_19 ?_
  refine al_X2_highSums (pc := 20) C dX2_sumOf_20 ?_
  refine g_iadd (pc := 21) C dX2_sumOf_21 ?_
  exact g_iret (pc := 22) C hr dX2_sumOf_22
noncomputable def m_X2_differenceOf (x1 : Int32) (S : St) : Option (Int32 × St) :=
bnd (m_X2_sumOf x1 S) fun r2 S1 =>
bnd (m_X2_sumOf ((gI S1 47 0) &&& (x1 ^^^ (-1 : Int32))) S1) fun r4 S3 =>
some ((if 0 ≤ (r2 - r4) then (r2 - r4) else 0 - (r2 - r4)), S3)
set_option maxRecDepth 20000 in
theorem c_X2_differenceOf {l : Launch} {D : va_G} {ad : Nat → Nat} {cI cJ cZ : ClassId} {n : Nat} (hD : ∀ sz S, va_D (Adr ad n sz) (wX ad cI cJ cZ S)) {x1 : Int32} {S : St} {z : Int32 × St} (hf : m_X2_differenceOf x1 S = some z) : CtI l yX2_differenceOf cX2_differenceOf 2 (some .int) ({ frames := 1, cells := 0, slots := 0, locals := 21 } : Room) D (wX ad cI cJ cZ) (tyX cI cJ cZ) ad n [.ref (ad 3), .int x1] S z := by
  refine CtI.of hf (by decide +kernel) (Nat.le_of_ble_eq_true rfl) hD (fun p e s m args below meth c C hr => ?_)
  refine g_sub [0, 1] (lv2 := [(0, .ref (ad 3)), (1, .int x1)]) rfl ?_
  unfold m_X2_differenceOf
  refine g_aload_n (pc := 0) C dX2_differenceOf_0 (i := 0) rfl 0 rfl ?_
  refine g_iload_n (pc := 1) C dX2_differenceOf_1 (i := 1) rfl 1 rfl ?_
  refine g_callVi (pc := 2) (As := [.int _]) C q528 mw_X2_sumOf (fun _ hz => c_X2_sumOf C.2.2.2.2.2.2.2.1 hz) ⟨Nat.le_of_ble_eq_true rfl, Nat.le_of_ble_eq_true rfl⟩ rfl rfl 3 rfl rfl rfl (Nat.le_of_ble_eq_true rfl) dX2_differenceOf_2 fun r2 S1 => ?_
  refine g_aload_n (pc := 5) C dX2_differenceOf_5 (i := 0) rfl 0 rfl ?_
  refine g_aload_n (pc := 6) C dX2_differenceOf_6 (i := 0) rfl 0 rfl ?_
  refine gt_X2_all (pc := 7) C q162 dX2_differenceOf_7 ?_
  refine g_iload_n (pc := 10) C dX2_differenceOf_10 (i := 1) rfl 1 rfl ?_
  refine g_iconst (pc := 11) (v := -1) C dX2_differenceOf_11 (by decide) ?_
  refine g_ixor (pc := 12) C dX2_differenceOf_12 ?_
  refine g_iand (pc := 13) C dX2_differenceOf_13 ?_
  refine g_callVi (pc := 14) (As := [.int _]) C q528 mw_X2_sumOf (fun _ hz => c_X2_sumOf C.2.2.2.2.2.2.2.1 hz) ⟨Nat.le_of_ble_eq_true rfl, Nat.le_of_ble_eq_true rfl⟩ rfl rfl 3 rfl rfl rfl (Nat.le_of_ble_eq_true rfl) dX2_differenceOf_14 fun r4 S3 => ?_
  refine g_isub (pc := 17) C dX2_differenceOf_17 ?_
  refine g_mabs (pc := 18) C q532 q533 q81 qm_abs (Nat.le_of_ble_eq_true rfl) (Nat.le_of_ble_eq_true rfl) dX2_differenceOf_18 ?_
  exact g_iret (pc := 21) C hr dX2_differenceOf_21
noncomputable def m_X2_nextTo (x1 : Int32) (S : St) : Option (Int32 × St) :=
nm (((x1 &&& ((gI S 49 0) ^^^ (-1 : Int32))) <<< ((1 : Int32) &&& 31))) fun y1 =>
nm (((x1 &&& ((gI S 48 0) ^^^ (-1 : Int32))) >>> ((1 : Int32) &&& 31))) fun y2 =>
some ((((y1 ||| y2) ||| (x1 <<< ((gI S 46 0) &&& 31))) ||| (x1 >>> ((gI S 46 0) &&& 31))), S)
set_option maxRecDepth 20000 in
theorem c_X2_nextTo {l : Launch} {D : va_G} {ad : Nat → Nat} {cI cJ cZ : ClassId} {n : Nat} (hD : ∀ sz S, va_D (Adr ad n sz) (wX ad cI cJ cZ S)) {x1 : Int32} {S : St} {z : Int32 × St} (hf : m_X2_nextTo x1 S = some z) : CtI l yX2_nextTo cX2_nextTo 4 (some .int) ({ frames := 0, cells := 0, slots := 0, locals := 0 } : Room) D (wX ad cI cJ cZ) (tyX cI cJ cZ) ad n [.ref (ad 3), .int x1] S z := by
  refine CtI.of hf (by decide +kernel) (Nat.le_of_ble_eq_true rfl) hD (fun p e s m args below meth c C hr => ?_)
  refine g_sub [0, 1] (lv2 := [(0, .ref (ad 3)), (1, .int x1)]) rfl ?_
  unfold m_X2_nextTo
  refine g_iload_n (pc := 0) C dX2_nextTo_0 (i := 1) rfl 1 rfl ?_
  refine g_aload_n (pc := 1) C dX2_nextTo_1 (i := 0) rfl 0 rfl ?_
  refine gt_X2_westColumn (pc := 2) C q164 dX2_nextTo_2 ?_
  refine g_iconst (pc := 5) (v := -1) C dX2_nextTo_5 (by decide) ?_
  refine g_ixor (pc := 6) C dX2_nextTo_6 ?_
  refine g_iand (pc := 7) C dX2_nextTo_7 ?_
  refine g_iconst (pc := 8) (v := 1) C dX2_nextTo_8 (by decide) ?_
  refine g_ishl (pc := 9) C dX2_nextTo_9 ?_
  refine g_nmi fun y1 => ?_
  refine g_istore_n (pc := 10) (i := 2) (lv2 := [(2, .int y1), (0, .ref (ad 3)), (1, .int x1)]) C dX2_nextTo_10 rfl (by decide) rfl ?_
  refine g_iload_n (pc := 11) C dX2_nextTo_11 (i := 1) rfl 2 rfl ?_
  refine g_aload_n (pc := 12) C dX2_nextTo_12 (i := 0) rfl 1 rfl ?_
  refine gt_X2_eastColumn (pc := 13) C q163 dX2_nextTo_13 ?_
  refine g_iconst (pc := 16) (v := -1) C dX2_nextTo_16 (by decide) ?_
  refine g_ixor (pc := 17) C dX2_nextTo_17 ?_
  refine g_iand (pc := 18) C dX2_nextTo_18 ?_
  refine g_iconst (pc := 19) (v := 1) C dX2_nextTo_19 (by decide) ?_
  refine g_ishr (pc := 20) C dX2_nextTo_20 ?_
  refine g_nmi fun y2 => ?_
  refine g_istore_n (pc := 21) (i := 3) (lv2 := [(3, .int y2), (2, .int y1), (0, .ref (ad 3)), (1, .int x1)]) C dX2_nextTo_21 rfl (by decide) rfl ?_
  refine g_iload_n (pc := 22) C dX2_nextTo_22 (i := 2) rfl 1 rfl ?_
  refine g_iload_n (pc := 23) C dX2_nextTo_23 (i := 3) rfl 0 rfl ?_
  refine g_ior (pc := 24) C dX2_nextTo_24 ?_
  refine g_iload_n (pc := 25) C dX2_nextTo_25 (i := 1) rfl 3 rfl ?_
  refine g_aload_n (pc := 26) C dX2_nextTo_26 (i := 0) rfl 2 rfl ?_
  refine gt_X2_columns (pc := 27) C q161 dX2_nextTo_27 ?_
  refine g_ishl (pc := 30) C dX2_nextTo_30 ?_
  refine g_ior (pc := 31) C dX2_nextTo_31 ?_
  refine g_iload_n (pc := 32) C dX2_nextTo_32 (i := 1) rfl 3 rfl ?_
  refine g_aload_n (pc := 33) C dX2_nextTo_33 (i := 0) rfl 2 rfl ?_
  refine gt_X2_columns (pc := 34) C q161 dX2_nextTo_34 ?_
  refine g_ishr (pc := 37) C dX2_nextTo_37 ?_
  refine g_ior (pc := 38) C dX2_nextTo_38 ?_
  exact g_iret (pc := 39) C hr dX2_nextTo_39
noncomputable def b_X2_hangs_7 (x1 : Int32) (k : Int32 → St → Option (Int32 × St)) (rec : Int32 → Int32 → St → Option (Int32 × St)) (x2 : Int32) (x3 : Int32) (S : St) : Option (Int32 × St) :=
if x3 < (12 : Int32) then (
bnd (m_X2_nextTo x2 S) fun r3 S2 =>
nm ((x2 ||| (r3 &&& x1))) fun y4 =>
if y4 = x2 then (
k x2 S2)
else
rec y4 (x3 + 1) S2)
else
k x2 S
noncomputable def m_X2_hangs (x1 : Int32) (S : St) : Option (Int32 × St) :=
nm ((x1 &&& (-x1))) fun y1 =>
it2 (b_X2_hangs_7 x1 (fun x2_S5 S5 =>
if x2_S5 = x1 then (
some ((1 : Int32), S5))
else
some ((0 : Int32), S5))) 5000 y1 (0 : Int32) S
set_option maxRecDepth 20000 in
theorem u_X2_hangs_7 (C : Cx p s m args meth c cX2_hangs 5 RX2 D (tyX cI cJ cZ) ad n (wX ad cI cJ cZ)) (hr : meth.sig.returnType = (some .boolean)) (x1 : Int32) (k : Int32 → St → Option (Int32 × St)) (hk : ∀ (x2 : Int32) (S : St), GM p l e ({ frames := 1, cells := 0, slots := 0, locals := 23 } : Room) s m args below meth c D ad n (wX ad cI cJ cZ) 5 (QI D (wX ad cI cJ cZ) ad n args s below) (k x2 S) S 42 [(1, .int x1), (2, .int x2)] []) (rec : Int32 → Int32 → St → Option (Int32 × St)) (hrec : ∀ (x2 : Int32) (x3 : Int32) (S : St), GM p l e ({ frames := 1, cells := 0, slots := 0, locals := 23 } : Room) s m args below meth c D ad n (wX ad cI cJ cZ) 5 (QI D (wX ad cI cJ cZ) ad n args s below) (rec x2 x3 S) S 7 [(0, .ref (ad 3)), (1, .int x1), (2, .int x2), (3, .int x3)] []) (x2 : Int32) (x3 : Int32) (S : St) : GM p l e ({ frames := 1, cells := 0, slots := 0, locals := 23 } : Room) s m args below meth c D ad n (wX ad cI cJ cZ) 5 (QI D (wX ad cI cJ cZ) ad n args s below) (b_X2_hangs_7 x1 k rec x2 x3 S) S 7 [(0, .ref (ad 3)), (1, .int x1), (2, .int x2), (3, .int x3)] [] := by
  unfold b_X2_hangs_7
  refine g_iload_n (pc := 7) C dX2_hangs_7 (i := 3) rfl 3 rfl ?_
  refine g_bipush (pc := 8) (v := 12) C dX2_hangs_8 (by decide) ?_
  refine g_icmp_ge (pc := 10) (tgt := 42) C dX2_hangs_10 (by decide) ?_ ?_
  · refine g_sub [1, 2] rfl (hk _ _)
  · refine g_iload_n (pc := 13) C dX2_hangs_13 (i := 2) rfl 2 rfl ?_
    refine g_aload_n (pc := 14) C dX2_hangs_14 (i := 0) rfl 0 rfl ?_
    refine g_iload_n (pc := 15) C dX2_hangs_15 (i := 2) rfl 2 rfl ?_
    refine g_callVi (pc := 16) (As := [.int _]) C q543 mw_X2_nextTo (fun _ hz => c_X2_nextTo C.2.2.2.2.2.2.2.1 hz) ⟨Nat.le_of_ble_eq_true rfl, Nat.le_of_ble_eq_true rfl⟩ rfl rfl 3 rfl rfl rfl (Nat.le_of_ble_eq_true rfl) dX2_hangs_16 fun r3 S2 => ?_
    refine g_iload_n (pc := 19) C dX2_hangs_19 (i := 1) rfl 1 rfl ?_
    refine g_iand (pc := 20) C dX2_hangs_20 ?_
    refine g_ior (pc := 21) C dX2_hangs_21 ?_
    refine g_nmi fun y4 => ?_
    refine g_istore (pc := 22) (i := 4) (j := 0) (lv2 := [(4, .int y4), (0, .ref (ad 3)), (1, .int x1), (2, .int x2), (3, .int x3)]) C dX2_hangs_22 (by decide) rfl ?_
    refine g_iload (pc := 24) C dX2_hangs_24 0 rfl ?_
    refine g_iload_n (pc := 26) C dX2_hangs_26 (i := 2) rfl 3 rfl ?_
    refine g_icmp_ne (pc := 27) (tgt := 33) C dX2_hangs_27 (by decide) ?_ ?_
    · refine g_iload (pc := 33) C dX2_hangs_33 0 rfl ?_
      refine g_istore_n (pc := 35) (i := 2) (lv2 := [(2, .int y4), (4, .int y4), (0, .ref (ad 3)), (1, .int x1), (3, .int x3)]) C dX2_hangs_35 rfl (by decide) rfl ?_
      refine g_iinc (pc := 36) (v := (x3 + 1)) (lv2 := [(3, .int (x3 + 1)), (2, .int y4), (4, .int y4), (0, .ref (ad 3)), (1, .int x1)]) C dX2_hangs_36 4 rfl rfl (by decide) rfl ?_
      refine g_goto (pc := 39) (tgt := 7) C dX2_hangs_39 (by decide) ?_
      refine g_sub [3, 4, 1, 0] rfl (hrec _ _ _)
    · refine g_goto (pc := 30) (tgt := 42) C dX2_hangs_30 (by decide) ?_
      refine g_sub [2, 3] rfl (hk _ _)
set_option maxRecDepth 20000 in
theorem c_X2_hangs {l : Launch} {D : va_G} {ad : Nat → Nat} {cI cJ cZ : ClassId} {n : Nat} (hD : ∀ sz S, va_D (Adr ad n sz) (wX ad cI cJ cZ S)) {x1 : Int32} {S : St} {z : Int32 × St} (hf : m_X2_hangs x1 S = some z) : CtI l yX2_hangs cX2_hangs 5 (some .boolean) ({ frames := 1, cells := 0, slots := 0, locals := 23 } : Room) D (wX ad cI cJ cZ) (tyX cI cJ cZ) ad n [.ref (ad 3), .int x1] S z := by
  refine CtI.of hf (by decide +kernel) (Nat.le_of_ble_eq_true rfl) hD (fun p e s m args below meth c C hr => ?_)
  refine g_sub [0, 1] (lv2 := [(0, .ref (ad 3)), (1, .int x1)]) rfl ?_
  unfold m_X2_hangs
  refine g_iload_n (pc := 0) C dX2_hangs_0 (i := 1) rfl 1 rfl ?_
  refine g_iload_n (pc := 1) C dX2_hangs_1 (i := 1) rfl 1 rfl ?_
  refine g_ineg (pc := 2) C dX2_hangs_2 ?_
  refine g_iand (pc := 3) C dX2_hangs_3 ?_
  refine g_nmi fun y1 => ?_
  refine g_istore_n (pc := 4) (i := 2) (lv2 := [(2, .int y1), (0, .ref (ad 3)), (1, .int x1)]) C dX2_hangs_4 rfl (by decide) rfl ?_
  refine g_iconst (pc := 5) (v := 0) C dX2_hangs_5 (by decide) ?_
  refine g_istore_n (pc := 6) (i := 3) (lv2 := [(3, .int (0 : Int32)), (2, .int y1), (0, .ref (ad 3)), (1, .int x1)]) C dX2_hangs_6 rfl (by decide) rfl ?_
  refine g_sub [2, 3, 1, 0] (lv2 := [(0, .ref (ad 3)), (1, .int x1), (2, .int y1), (3, .int (0 : Int32))]) rfl ?_
  refine g_it2 (pc := 7) (u_X2_hangs_7 C hr _ _ fun x2_S5 S5 => ?_) _ _ _ _
  refine g_iload_n (pc := 42) C dX2_hangs_42 (i := 2) rfl 1 rfl ?_
  refine g_iload_n (pc := 43) C dX2_hangs_43 (i := 1) rfl 0 rfl ?_
  refine g_icmp_ne (pc := 44) (tgt := 51) C dX2_hangs_44 (by decide) ?_ ?_
  · refine g_iconst (pc := 51) (v := 0) C dX2_hangs_51 (by decide) ?_
    exact g_zretq (pc := 52) C hr (Or.inl rfl) dX2_hangs_52
  · refine g_iconst (pc := 47) (v := 1) C dX2_hangs_47 (by decide) ?_
    refine g_goto (pc := 48) (tgt := 52) C dX2_hangs_48 (by decide) ?_
    exact g_zretq (pc := 52) C hr (Or.inr rfl) dX2_hangs_52
noncomputable def m_X2_bothHang (x1 : Int32) (S : St) : Option (Int32 × St) :=
bnd (m_X2_hangs x1 S) fun r2 S1 =>
if r2 = 0 then (
some ((0 : Int32), S1))
else
bnd (m_X2_hangs ((gI S1 47 0) &&& (x1 ^^^ (-1 : Int32))) S1) fun r4 S3 =>
if r4 = 0 then (
some ((0 : Int32), S3))
else
some ((1 : Int32), S3)
set_option maxRecDepth 20000 in
theorem c_X2_bothHang {l : Launch} {D : va_G} {ad : Nat → Nat} {cI cJ cZ : ClassId} {n : Nat} (hD : ∀ sz S, va_D (Adr ad n sz) (wX ad cI cJ cZ S)) {x1 : Int32} {S : St} {z : Int32 × St} (hf : m_X2_bothHang x1 S = some z) : CtI l yX2_bothHang cX2_bothHang 2 (some .boolean) ({ frames := 2, cells := 0, slots := 0, locals := 47 } : Room) D (wX ad cI cJ cZ) (tyX cI cJ cZ) ad n [.ref (ad 3), .int x1] S z := by
  refine CtI.of hf (by decide +kernel) (Nat.le_of_ble_eq_true rfl) hD (fun p e s m args below meth c C hr => ?_)
  refine g_sub [0, 1] (lv2 := [(0, .ref (ad 3)), (1, .int x1)]) rfl ?_
  unfold m_X2_bothHang
  refine g_aload_n (pc := 0) C dX2_bothHang_0 (i := 0) rfl 0 rfl ?_
  refine g_iload_n (pc := 1) C dX2_bothHang_1 (i := 1) rfl 1 rfl ?_
  refine g_callVi (pc := 2) (As := [.int _]) C q539 mw_X2_hangs (fun _ hz => c_X2_hangs C.2.2.2.2.2.2.2.1 hz) ⟨Nat.le_of_ble_eq_true rfl, Nat.le_of_ble_eq_true rfl⟩ rfl rfl 3 rfl rfl rfl (Nat.le_of_ble_eq_true rfl) dX2_bothHang_2 fun r2 S1 => ?_
  refine g_if_eq (pc := 5) (tgt := 27) C dX2_bothHang_5 (by decide) ?_ ?_
  · refine g_iconst (pc := 27) (v := 0) C dX2_bothHang_27 (by decide) ?_
    exact g_zretq (pc := 28) C hr (Or.inl rfl) dX2_bothHang_28
  · refine g_aload_n (pc := 8) C dX2_bothHang_8 (i := 0) rfl 0 rfl ?_
    refine g_aload_n (pc := 9) C dX2_bothHang_9 (i := 0) rfl 0 rfl ?_
    refine gt_X2_all (pc := 10) C q162 dX2_bothHang_10 ?_
    refine g_iload_n (pc := 13) C dX2_bothHang_13 (i := 1) rfl 1 rfl ?_
    refine g_iconst (pc := 14) (v := -1) C dX2_bothHang_14 (by decide) ?_
    refine g_ixor (pc := 15) C dX2_bothHang_15 ?_
    refine g_iand (pc := 16) C dX2_bothHang_16 ?_
    refine g_callVi (pc := 17) (As := [.int _]) C q539 mw_X2_hangs (fun _ hz => c_X2_hangs C.2.2.2.2.2.2.2.1 hz) ⟨Nat.le_of_ble_eq_true rfl, Nat.le_of_ble_eq_true rfl⟩ rfl rfl 3 rfl rfl rfl (Nat.le_of_ble_eq_true rfl) dX2_bothHang_17 fun r4 S3 => ?_
    refine g_if_eq (pc := 20) (tgt := 27) C dX2_bothHang_20 (by decide) ?_ ?_
    · refine g_iconst (pc := 27) (v := 0) C dX2_bothHang_27 (by decide) ?_
      exact g_zretq (pc := 28) C hr (Or.inl rfl) dX2_bothHang_28
    · refine g_iconst (pc := 23) (v := 1) C dX2_bothHang_23 (by decide) ?_
      refine g_goto (pc := 24) (tgt := 28) C dX2_bothHang_24 (by decide) ?_
      exact g_zretq (pc := 28) C hr (Or.inr rfl) dX2_bothHang_28
noncomputable def b_X2_part_2_14_18 (k : St → Option (St)) (rec : Int32 → St → Option (St)) (x3 : Int32) (S : St) : Option (St) :=
if x3 < (gI S 47 0) then (
bnd (m_X2_differenceOf x3 S) fun r6 S5 =>
if (gI S5 51 0) = (-1 : Int32) then (
bnd (m_X2_bothHang x3 S5) fun r8 S7 =>
if r8 = 0 then (
rec (x3 + 2) S7)
else
nm (sI S7 51 0 r6) fun S9 =>
nm (sI S9 50 0 x3) fun S10 =>
rec (x3 + 2) S10)
else
if r6 < (gI S5 51 0) then (
bnd (m_X2_bothHang x3 S5) fun r12 S11 =>
if r12 = 0 then (
rec (x3 + 2) S11)
else
nm (sI S11 51 0 r6) fun S13 =>
nm (sI S13 50 0 x3) fun S14 =>
rec (x3 + 2) S14)
else
rec (x3 + 2) S5)
else
k S
noncomputable def m_X2_part_2_14 (S : St) : Option (St) :=
bndV (m_X2_prepare_2_14 S) fun S1 =>
nm (sI S1 50 0 (-1 : Int32)) fun S3 =>
nm (sI S3 51 0 (-1 : Int32)) fun S4 =>
it1 (b_X2_part_2_14_18 (fun S15 =>
some S15)) 5000 (1 : Int32) S4
set_option maxRecDepth 20000 in
theorem u_X2_part_2_14_18 (C : Cx p s m args meth c cX2_part 5 RX2 D (tyX cI cJ cZ) ad n (wX ad cI cJ cZ)) (hr : meth.sig.returnType = none) (k : St → Option (St)) (hk : ∀ (S : St), GM p l e ({ frames := 3, cells := 0, slots := 0, locals := 68 } : Room) s m args below meth c D ad n (wX ad cI cJ cZ) 5 (QV D (wX ad cI cJ cZ) ad n args s below) (k S) S 75 [] []) (rec : Int32 → St → Option (St)) (hrec : ∀ (x3 : Int32) (S : St), GM p l e ({ frames := 3, cells := 0, slots := 0, locals := 68 } : Room) s m args below meth c D ad n (wX ad cI cJ cZ) 5 (QV D (wX ad cI cJ cZ) ad n args s below) (rec x3 S) S 18 [(0, .ref (ad 3)), (3, .int x3)] []) (x3 : Int32) (S : St) : GM p l e ({ frames := 3, cells := 0, slots := 0, locals := 68 } : Room) s m args below meth c D ad n (wX ad cI cJ cZ) 5 (QV D (wX ad cI cJ cZ) ad n args s below) (b_X2_part_2_14_18 k rec x3 S) S 18 [(0, .ref (ad 3)), (3, .int x3)] [] := by
  unfold b_X2_part_2_14_18
  refine g_iload_n (pc := 18) C dX2_part_18 (i := 3) rfl 1 rfl ?_
  refine g_aload_n (pc := 19) C dX2_part_19 (i := 0) rfl 0 rfl ?_
  refine gt_X2_all (pc := 20) C q162 dX2_part_20 ?_
  refine g_icmp_ge (pc := 23) (tgt := 75) C dX2_part_23 (by decide) ?_ ?_
  · refine g_sub [] rfl (hk _)
  · refine g_aload_n (pc := 26) C dX2_part_26 (i := 0) rfl 0 rfl ?_
    refine g_iload_n (pc := 27) C dX2_part_27 (i := 3) rfl 1 rfl ?_
    refine g_callVi (pc := 28) (As := [.int _]) C q524 mw_X2_differenceOf (fun _ hz => c_X2_differenceOf C.2.2.2.2.2.2.2.1 hz) ⟨Nat.le_of_ble_eq_true rfl, Nat.le_of_ble_eq_true rfl⟩ rfl rfl 3 rfl rfl rfl (Nat.le_of_ble_eq_true rfl) dX2_part_28 fun r6 S5 => ?_
    refine g_istore (pc := 31) (i := 4) (j := 0) (lv2 := [(4, .int r6), (0, .ref (ad 3)), (3, .int x3)]) C dX2_part_31 (by decide) rfl ?_
    refine g_aload_n (pc := 33) C dX2_part_33 (i := 0) rfl 1 rfl ?_
    refine gt_X2_difference (pc := 34) C q166 dX2_part_34 ?_
    refine g_iconst (pc := 37) (v := -1) C dX2_part_37 (by decide) ?_
    refine g_icmp_eq (pc := 38) (tgt := 50) C dX2_part_38 (by decide) ?_ ?_
    · refine g_aload_n (pc := 50) C dX2_part_50 (i := 0) rfl 1 rfl ?_
      refine g_iload_n (pc := 51) C dX2_part_51 (i := 3) rfl 2 rfl ?_
      refine g_callVi (pc := 52) (As := [.int _]) C q535 mw_X2_bothHang (fun _ hz => c_X2_bothHang C.2.2.2.2.2.2.2.1 hz) ⟨Nat.le_of_ble_eq_true rfl, Nat.le_of_ble_eq_true rfl⟩ rfl rfl 3 rfl rfl rfl (Nat.le_of_ble_eq_true rfl) dX2_part_52 fun r8 S7 => ?_
      refine g_if_eq (pc := 55) (tgt := 69) C dX2_part_55 (by decide) ?_ ?_
      · refine g_iinc (pc := 69) (v := (x3 + 2)) (lv2 := [(3, .int (x3 + 2)), (4, .int r6), (0, .ref (ad 3))]) C dX2_part_69 2 rfl rfl (by decide) rfl ?_
        refine g_goto (pc := 72) (tgt := 18) C dX2_part_72 (by decide) ?_
        refine g_sub [2, 0] rfl (hrec _ _)
      · refine g_aload_n (pc := 58) C dX2_part_58 (i := 0) rfl 1 rfl ?_
        refine g_iload (pc := 59) C dX2_part_59 0 rfl ?_
        refine pt_X2_difference (pc := 61) C q166 dX2_part_61 fun S9 => ?_
        refine g_aload_n (pc := 64) C dX2_part_64 (i := 0) rfl 1 rfl ?_
        refine g_iload_n (pc := 65) C dX2_part_65 (i := 3) rfl 2 rfl ?_
        refine pt_X2_first (pc := 66) C q165 dX2_part_66 fun S10 => ?_
        refine g_iinc (pc := 69) (v := (x3 + 2)) (lv2 := [(3, .int (x3 + 2)), (4, .int r6), (0, .ref (ad 3))]) C dX2_part_69 2 rfl rfl (by decide) rfl ?_
        refine g_goto (pc := 72) (tgt := 18) C dX2_part_72 (by decide) ?_
        refine g_sub [2, 0] rfl (hrec _ _)
    · refine g_iload (pc := 41) C dX2_part_41 0 rfl ?_
      refine g_aload_n (pc := 43) C dX2_part_43 (i := 0) rfl 1 rfl ?_
      refine gt_X2_difference (pc := 44) C q166 dX2_part_44 ?_
      refine g_icmp_ge (pc := 47) (tgt := 69) C dX2_part_47 (by decide) ?_ ?_
      · refine g_iinc (pc := 69) (v := (x3 + 2)) (lv2 := [(3, .int (x3 + 2)), (4, .int r6), (0, .ref (ad 3))]) C dX2_part_69 2 rfl rfl (by decide) rfl ?_
        refine g_goto (pc := 72) (tgt := 18) C dX2_part_72 (by decide) ?_
        refine g_sub [2, 0] rfl (hrec _ _)
      · refine g_aload_n (pc := 50) C dX2_part_50 (i := 0) rfl 1 rfl ?_
        refine g_iload_n (pc := 51) C dX2_part_51 (i := 3) rfl 2 rfl ?_
        refine g_callVi (pc := 52) (As := [.int _]) C q535 mw_X2_bothHang (fun _ hz => c_X2_bothHang C.2.2.2.2.2.2.2.1 hz) ⟨Nat.le_of_ble_eq_true rfl, Nat.le_of_ble_eq_true rfl⟩ rfl rfl 3 rfl rfl rfl (Nat.le_of_ble_eq_true rfl) dX2_part_52 fun r12 S11 => ?_
        refine g_if_eq (pc := 55) (tgt := 69) C dX2_part_55 (by decide) ?_ ?_
        · refine g_iinc (pc := 69) (v := (x3 + 2)) (lv2 := [(3, .int (x3 + 2)), (4, .int r6), (0, .ref (ad 3))]) C dX2_part_69 2 rfl rfl (by decide) rfl ?_
          refine g_goto (pc := 72) (tgt := 18) C dX2_part_72 (by decide) ?_
          refine g_sub [2, 0] rfl (hrec _ _)
        · refine g_aload_n (pc := 58) C dX2_part_58 (i := 0) rfl 1 rfl ?_
          refine g_iload (pc := 59) C dX2_part_59 0 rfl ?_
          refine pt_X2_difference (pc := 61) C q166 dX2_part_61 fun S13 => ?_
          refine g_aload_n (pc := 64) C dX2_part_64 (i := 0) rfl 1 rfl ?_
          refine g_iload_n (pc := 65) C dX2_part_65 (i := 3) rfl 2 rfl ?_
          refine pt_X2_first (pc := 66) C q165 dX2_part_66 fun S14 => ?_
          refine g_iinc (pc := 69) (v := (x3 + 2)) (lv2 := [(3, .int (x3 + 2)), (4, .int r6), (0, .ref (ad 3))]) C dX2_part_69 2 rfl rfl (by decide) rfl ?_
          refine g_goto (pc := 72) (tgt := 18) C dX2_part_72 (by decide) ?_
          refine g_sub [2, 0] rfl (hrec _ _)
set_option maxRecDepth 20000 in
theorem c_X2_part_2_14 {l : Launch} {D : va_G} {ad : Nat → Nat} {cI cJ cZ : ClassId} {n : Nat} (hD : ∀ sz S, va_D (Adr ad n sz) (wX ad cI cJ cZ S)) {S : St} {z : St} (hf : m_X2_part_2_14 S = some z) : CtV l yX2_part cX2_part 5 none ({ frames := 3, cells := 0, slots := 0, locals := 68 } : Room) D (wX ad cI cJ cZ) (tyX cI cJ cZ) ad n [.ref (ad 3), .ref (ad 2), .ref (ad 14)] S z := by
  refine CtV.of hf (by decide +kernel) (Nat.le_of_ble_eq_true rfl) hD (fun p e s m args below meth c C hr => ?_)
  refine g_sub [0, 1, 2] (lv2 := [(0, .ref (ad 3)), (1, .ref (ad 2)), (2, .ref (ad 14))]) rfl ?_
  unfold m_X2_part_2_14
  refine g_aload_n (pc := 0) C dX2_part_0 (i := 0) rfl 0 rfl ?_
  refine g_aload_n (pc := 1) C dX2_part_1 (i := 1) rfl 1 rfl ?_
  refine g_aload_n (pc := 2) C dX2_part_2 (i := 2) rfl 2 rfl ?_
  refine g_callVv (pc := 3) (As := [.ref _, .ref _]) C q507 mw_X2_prepare (fun _ hz => c_X2_prepare_2_14 C.2.2.2.2.2.2.2.1 hz) ⟨Nat.le_of_ble_eq_true rfl, Nat.le_of_ble_eq_true rfl⟩ rfl rfl 3 rfl rfl rfl (Nat.le_of_ble_eq_true rfl) dX2_part_3 fun S1 => ?_
  refine g_aload_n (pc := 6) C dX2_part_6 (i := 0) rfl 0 rfl ?_
  refine g_iconst (pc := 7) (v := -1) C dX2_part_7 (by decide) ?_
  refine pt_X2_first (pc := 8) C q165 dX2_part_8 fun S3 => ?_
  refine g_aload_n (pc := 11) C dX2_part_11 (i := 0) rfl 0 rfl ?_
  refine g_iconst (pc := 12) (v := -1) C dX2_part_12 (by decide) ?_
  refine pt_X2_difference (pc := 13) C q166 dX2_part_13 fun S4 => ?_
  refine g_iconst (pc := 16) (v := 1) C dX2_part_16 (by decide) ?_
  refine g_istore_n (pc := 17) (i := 3) (lv2 := [(3, .int (1 : Int32)), (0, .ref (ad 3)), (1, .ref (ad 2)), (2, .ref (ad 14))]) C dX2_part_17 rfl (by decide) rfl ?_
  refine g_sub [1, 0] (lv2 := [(0, .ref (ad 3)), (3, .int (1 : Int32))]) rfl ?_
  refine g_it1 (pc := 18) (u_X2_part_2_14_18 C hr _ fun S15 => ?_) _ _ _
  exact g_vret (pc := 75) C hr dX2_part_75
noncomputable def m_X6_knowParts (S : St) : Option (St) :=
if (gI S 56 0) = 0 then (
bndV (m_X5_years S) fun S1 =>
bndV (m_X2_part_2_14 S1) fun S3 =>
nm (sI S3 56 0 (1 : Int32)) fun S5 =>
some S5)
else
some S
set_option maxRecDepth 20000 in
theorem c_X6_knowParts {l : Launch} {D : va_G} {ad : Nat → Nat} {cI cJ cZ : ClassId} {n : Nat} (hD : ∀ sz S, va_D (Adr ad n sz) (wX ad cI cJ cZ S)) {S : St} {z : St} (hf : m_X6_knowParts S = some z) : CtV l yX6_knowParts cX6_knowParts 1 none ({ frames := 4, cells := 0, slots := 0, locals := 92 } : Room) D (wX ad cI cJ cZ) (tyX cI cJ cZ) ad n [.ref (ad 0)] S z := by
  refine CtV.of hf (by decide +kernel) (Nat.le_of_ble_eq_true rfl) hD (fun p e s m args below meth c C hr => ?_)
  refine g_sub [0] (lv2 := [(0, .ref (ad 0))]) rfl ?_
  unfold m_X6_knowParts
  refine g_aload_n (pc := 0) C dX6_knowParts_0 (i := 0) rfl 0 rfl ?_
  refine gt_X6_partsKnown (pc := 1) C q262 dX6_knowParts_1 ?_
  refine g_if_ne (pc := 4) (tgt := 30) C dX6_knowParts_4 (by decide) ?_ ?_
  · exact g_vret (pc := 30) C hr dX6_knowParts_30
  · refine g_aload_n (pc := 7) C dX6_knowParts_7 (i := 0) rfl 0 rfl ?_
    refine gt_X6_parting (pc := 8) C q249 dX6_knowParts_8 ?_
    refine g_aload_n (pc := 11) C dX6_knowParts_11 (i := 0) rfl 0 rfl ?_
    refine gt_X6_ground (pc := 12) C q248 dX6_knowParts_12 ?_
    refine g_aload_n (pc := 15) C dX6_knowParts_15 (i := 0) rfl 0 rfl ?_
    refine gt_X6_sun (pc := 16) C q247 dX6_knowParts_16 ?_
    refine g_callVr (pc := 19) (As := []) C q499 mw_X5_years (fun _ hz => c_X5_years C.2.2.2.2.2.2.2.1 hz) ⟨Nat.le_of_ble_eq_true rfl, Nat.le_of_ble_eq_true rfl⟩ rfl rfl 1 rfl rfl rfl (Nat.le_of_ble_eq_true rfl) dX6_knowParts_19 fun S1 => ?_
    refine g_callVv (pc := 22) (As := [.ref _, .ref _]) C q503 mw_X2_part (fun _ hz => c_X2_part_2_14 C.2.2.2.2.2.2.2.1 hz) ⟨Nat.le_of_ble_eq_true rfl, Nat.le_of_ble_eq_true rfl⟩ rfl rfl 3 rfl rfl rfl (Nat.le_of_ble_eq_true rfl) dX6_knowParts_22 fun S3 => ?_
    refine g_aload_n (pc := 25) C dX6_knowParts_25 (i := 0) rfl 0 rfl ?_
    refine g_iconst (pc := 26) (v := 1) C dX6_knowParts_26 (by decide) ?_
    refine pt_X6_partsKnown (pc := 27) C (Or.inr rfl) q262 dX6_knowParts_27 fun S5 => ?_
    exact g_vret (pc := 30) C hr dX6_knowParts_30
noncomputable def m_X2_firstPart (S : St) : Option (Int32 × St) :=
some ((gI S 50 0), S)
set_option maxRecDepth 20000 in
theorem c_X2_firstPart {l : Launch} {D : va_G} {ad : Nat → Nat} {cI cJ cZ : ClassId} {n : Nat} (hD : ∀ sz S, va_D (Adr ad n sz) (wX ad cI cJ cZ S)) {S : St} {z : Int32 × St} (hf : m_X2_firstPart S = some z) : CtI l yX2_firstPart cX2_firstPart 1 (some .int) ({ frames := 0, cells := 0, slots := 0, locals := 0 } : Room) D (wX ad cI cJ cZ) (tyX cI cJ cZ) ad n [.ref (ad 3)] S z := by
  refine CtI.of hf (by decide +kernel) (Nat.le_of_ble_eq_true rfl) hD (fun p e s m args below meth c C hr => ?_)
  refine g_sub [0] (lv2 := [(0, .ref (ad 3))]) rfl ?_
  unfold m_X2_firstPart
  refine g_aload_n (pc := 0) C dX2_firstPart_0 (i := 0) rfl 0 rfl ?_
  refine gt_X2_first (pc := 1) C q165 dX2_firstPart_1 ?_
  exact g_iret (pc := 4) C hr dX2_firstPart_4
noncomputable def m_X2_leastDifference (S : St) : Option (Int32 × St) :=
some ((gI S 51 0), S)
set_option maxRecDepth 20000 in
theorem c_X2_leastDifference {l : Launch} {D : va_G} {ad : Nat → Nat} {cI cJ cZ : ClassId} {n : Nat} (hD : ∀ sz S, va_D (Adr ad n sz) (wX ad cI cJ cZ S)) {S : St} {z : Int32 × St} (hf : m_X2_leastDifference S = some z) : CtI l yX2_leastDifference cX2_leastDifference 1 (some .int) ({ frames := 0, cells := 0, slots := 0, locals := 0 } : Room) D (wX ad cI cJ cZ) (tyX cI cJ cZ) ad n [.ref (ad 3)] S z := by
  refine CtI.of hf (by decide +kernel) (Nat.le_of_ble_eq_true rfl) hD (fun p e s m args below meth c C hr => ?_)
  refine g_sub [0] (lv2 := [(0, .ref (ad 3))]) rfl ?_
  unfold m_X2_leastDifference
  refine g_aload_n (pc := 0) C dX2_leastDifference_0 (i := 0) rfl 0 rfl ?_
  refine gt_X2_difference (pc := 1) C q166 dX2_leastDifference_1 ?_
  exact g_iret (pc := 4) C hr dX2_leastDifference_4
noncomputable def m_X6_parts (x1 : Int32) (S : St) : Option (Int32 × St) :=
bnd (m_X6_isBelow x1 (2 : Int32) S) fun r2 S1 =>
if r2 = 0 then (
some ((-2 : Int32), S1))
else
bndV (m_X6_knowParts S1) fun S3 =>
if x1 = 0 then (
bnd (m_X2_leastDifference S3) fun r8 S7 =>
some (r8, S7))
else
bnd (m_X2_firstPart S3) fun r6 S5 =>
some (r6, S5)
set_option maxRecDepth 20000 in
theorem c_X6_parts {l : Launch} {D : va_G} {ad : Nat → Nat} {cI cJ cZ : ClassId} {n : Nat} (hD : ∀ sz S, va_D (Adr ad n sz) (wX ad cI cJ cZ S)) {x1 : Int32} {S : St} {z : Int32 × St} (hf : m_X6_parts x1 S = some z) : CtI l yX6_parts cX6_parts 2 (some .int) ({ frames := 5, cells := 0, slots := 0, locals := 112 } : Room) D (wX ad cI cJ cZ) (tyX cI cJ cZ) ad n [.ref (ad 0), .int x1] S z := by
  refine CtI.of hf (by decide +kernel) (Nat.le_of_ble_eq_true rfl) hD (fun p e s m args below meth c C hr => ?_)
  refine g_sub [0, 1] (lv2 := [(0, .ref (ad 0)), (1, .int x1)]) rfl ?_
  unfold m_X6_parts
  refine g_iload_n (pc := 0) C dX6_parts_0 (i := 1) rfl 1 rfl ?_
  refine g_iconst (pc := 1) (v := 2) C dX6_parts_1 (by decide) ?_
  refine g_callSi (pc := 2) (As := [.int _, .int _]) C q303 mw_X6_isBelow (fun _ hz => c_X6_isBelow C.2.2.2.2.2.2.2.1 hz) ⟨Nat.le_of_ble_eq_true rfl, Nat.le_of_ble_eq_true rfl⟩ rfl rfl rfl (Nat.le_of_ble_eq_true rfl) dX6_parts_2 fun r2 S1 => ?_
  refine g_if_ne (pc := 5) (tgt := 11) C dX6_parts_5 (by decide) ?_ ?_
  · refine g_aload_n (pc := 11) C dX6_parts_11 (i := 0) rfl 0 rfl ?_
    refine g_callVv (pc := 12) (As := []) C q495 mw_X6_knowParts (fun _ hz => c_X6_knowParts C.2.2.2.2.2.2.2.1 hz) ⟨Nat.le_of_ble_eq_true rfl, Nat.le_of_ble_eq_true rfl⟩ rfl rfl 0 rfl rfl rfl (Nat.le_of_ble_eq_true rfl) dX6_parts_12 fun S3 => ?_
    refine g_iload_n (pc := 15) C dX6_parts_15 (i := 1) rfl 1 rfl ?_
    refine g_if_ne (pc := 16) (tgt := 29) C dX6_parts_16 (by decide) ?_ ?_
    · refine g_aload_n (pc := 29) C dX6_parts_29 (i := 0) rfl 0 rfl ?_
      refine gt_X6_parting (pc := 30) C q249 dX6_parts_30 ?_
      refine g_callVi (pc := 33) (As := []) C q551 mw_X2_firstPart (fun _ hz => c_X2_firstPart C.2.2.2.2.2.2.2.1 hz) ⟨Nat.le_of_ble_eq_true rfl, Nat.le_of_ble_eq_true rfl⟩ rfl rfl 3 rfl rfl rfl (Nat.le_of_ble_eq_true rfl) dX6_parts_33 fun r6 S5 => ?_
      exact g_iret (pc := 36) C hr dX6_parts_36
    · refine g_aload_n (pc := 19) C dX6_parts_19 (i := 0) rfl 0 rfl ?_
      refine gt_X6_parting (pc := 20) C q249 dX6_parts_20 ?_
      refine g_callVi (pc := 23) (As := []) C q547 mw_X2_leastDifference (fun _ hz => c_X2_leastDifference C.2.2.2.2.2.2.2.1 hz) ⟨Nat.le_of_ble_eq_true rfl, Nat.le_of_ble_eq_true rfl⟩ rfl rfl 3 rfl rfl rfl (Nat.le_of_ble_eq_true rfl) dX6_parts_23 fun r8 S7 => ?_
      refine g_goto (pc := 26) (tgt := 36) C dX6_parts_26 (by decide) ?_
      exact g_iret (pc := 36) C hr dX6_parts_36
  · refine g_bipush (pc := 8) (v := -2) C dX6_parts_8 (by decide) ?_
    exact g_iret (pc := 10) C hr dX6_parts_10
noncomputable def b_J7_fill_53178_27_5 (x1 : Int32) (x3 : Int32) (k : St → Option (St)) (rec : Int32 → St → Option (St)) (x2 : Int32) (S : St) : Option (St) :=
if x2 < x3 then (
chk x2 4 <|
nm (sI S 27 (ix x2) x1) fun S1 =>
rec (x2 + 1) S1)
else
k S
noncomputable def m_J7_fill_53178_27 (x1 : Int32) (S : St) : Option (St) :=
it1 (b_J7_fill_53178_27_5 x1 (4 : Int32) (fun S2 =>
some S2)) 5000 (0 : Int32) S
set_option maxRecDepth 20000 in
theorem u_J7_fill_53178_27_5 (C : Cx p s m args meth c cJ7_fill_53178 4 RJ7 D (tyX cI cJ cZ) ad n (wX ad cI cJ cZ)) (hr : meth.sig.returnType = none) (x1 : Int32) (x3 : Int32) (k : St → Option (St)) (hk : ∀ (S : St), GM p l e ({ frames := 0, cells := 0, slots := 0, locals := 0 } : Room) s m args below meth c D ad n (wX ad cI cJ cZ) 4 (QV D (wX ad cI cJ cZ) ad n args s below) (k S) S 20 [] []) (rec : Int32 → St → Option (St)) (hrec : ∀ (x2 : Int32) (S : St), GM p l e ({ frames := 0, cells := 0, slots := 0, locals := 0 } : Room) s m args below meth c D ad n (wX ad cI cJ cZ) 4 (QV D (wX ad cI cJ cZ) ad n args s below) (rec x2 S) S 5 [(0, .ref (ad 27)), (1, .int x1), (2, .int x2), (3, .int x3)] []) (x2 : Int32) (S : St) : GM p l e ({ frames := 0, cells := 0, slots := 0, locals := 0 } : Room) s m args below meth c D ad n (wX ad cI cJ cZ) 4 (QV D (wX ad cI cJ cZ) ad n args s below) (b_J7_fill_53178_27_5 x1 x3 k rec x2 S) S 5 [(0, .ref (ad 27)), (1, .int x1), (2, .int x2), (3, .int x3)] [] := by
  unfold b_J7_fill_53178_27_5
  refine g_iload_n (pc := 5) C dJ7_fill_53178_5 (i := 2) rfl 2 rfl ?_
  refine g_iload_n (pc := 6) C dJ7_fill_53178_6 (i := 3) rfl 3 rfl ?_
  refine g_icmp_ge (pc := 7) (tgt := 20) C dJ7_fill_53178_7 (by decide) ?_ ?_
  · refine g_sub [] rfl (hk _)
  · refine g_aload_n (pc := 10) C dJ7_fill_53178_10 (i := 0) rfl 0 rfl ?_
    refine g_iload_n (pc := 11) C dJ7_fill_53178_11 (i := 2) rfl 2 rfl ?_
    refine g_iload_n (pc := 12) C dJ7_fill_53178_12 (i := 1) rfl 1 rfl ?_
    refine as_X6_losses (pc := 13) C dJ7_fill_53178_13 fun S1 => ?_
    refine g_iinc (pc := 14) (v := (x2 + 1)) (lv2 := [(2, .int (x2 + 1)), (0, .ref (ad 27)), (1, .int x1), (3, .int x3)]) C dJ7_fill_53178_14 2 rfl rfl (by decide) rfl ?_
    refine g_goto (pc := 17) (tgt := 5) C dJ7_fill_53178_17 (by decide) ?_
    refine g_sub [1, 2, 0, 3] rfl (hrec _ _)
set_option maxRecDepth 20000 in
theorem c_J7_fill_53178_27 {l : Launch} {D : va_G} {ad : Nat → Nat} {cI cJ cZ : ClassId} {n : Nat} (hD : ∀ sz S, va_D (Adr ad n sz) (wX ad cI cJ cZ S)) {x1 : Int32} {S : St} {z : St} (hf : m_J7_fill_53178_27 x1 S = some z) : CtV l yJ7_fill_53178 cJ7_fill_53178 4 none ({ frames := 0, cells := 0, slots := 0, locals := 0 } : Room) D (wX ad cI cJ cZ) (tyX cI cJ cZ) ad n [.ref (ad 27), .int x1] S z := by
  refine CtV.of hf (by decide +kernel) (Nat.le_of_ble_eq_true rfl) hD (fun p e s m args below meth c C hr => ?_)
  refine g_sub [0, 1] (lv2 := [(0, .ref (ad 27)), (1, .int x1)]) rfl ?_
  unfold m_J7_fill_53178_27
  refine g_iconst (pc := 0) (v := 0) C dJ7_fill_53178_0 (by decide) ?_
  refine g_istore_n (pc := 1) (i := 2) (lv2 := [(2, .int (0 : Int32)), (0, .ref (ad 27)), (1, .int x1)]) C dJ7_fill_53178_1 rfl (by decide) rfl ?_
  refine g_aload_n (pc := 2) C dJ7_fill_53178_2 (i := 0) rfl 1 rfl ?_
  refine ln_X6_losses (pc := 3) C dJ7_fill_53178_3 ?_
  refine g_istore_n (pc := 4) (i := 3) (lv2 := [(3, .int (4 : Int32)), (2, .int (0 : Int32)), (0, .ref (ad 27)), (1, .int x1)]) C dJ7_fill_53178_4 rfl (by decide) rfl ?_
  refine g_sub [2, 3, 1, 0] (lv2 := [(0, .ref (ad 27)), (1, .int x1), (2, .int (0 : Int32)), (3, .int (4 : Int32))]) rfl ?_
  refine g_it1 (pc := 5) (u_J7_fill_53178_27_5 C hr _ _ _ fun S2 => ?_) _ _ _
  exact g_vret (pc := 20) C hr dJ7_fill_53178_20
noncomputable def m_X1_rowStart (x1 : Int32) (S : St) : Option (Int32 × St) :=
chk x1 12 <|
some ((x1 - (gI S 9 (ix x1))), S)
set_option maxRecDepth 20000 in
theorem c_X1_rowStart {l : Launch} {D : va_G} {ad : Nat → Nat} {cI cJ cZ : ClassId} {n : Nat} (hD : ∀ sz S, va_D (Adr ad n sz) (wX ad cI cJ cZ S)) {x1 : Int32} {S : St} {z : Int32 × St} (hf : m_X1_rowStart x1 S = some z) : CtI l yX1_rowStart cX1_rowStart 2 (some .int) ({ frames := 0, cells := 0, slots := 0, locals := 0 } : Room) D (wX ad cI cJ cZ) (tyX cI cJ cZ) ad n [.ref (ad 2), .int x1] S z := by
  refine CtI.of hf (by decide +kernel) (Nat.le_of_ble_eq_true rfl) hD (fun p e s m args below meth c C hr => ?_)
  refine g_sub [0, 1] (lv2 := [(0, .ref (ad 2)), (1, .int x1)]) rfl ?_
  unfold m_X1_rowStart
  refine g_iload_n (pc := 0) C dX1_rowStart_0 (i := 1) rfl 1 rfl ?_
  refine g_aload_n (pc := 1) C dX1_rowStart_1 (i := 0) rfl 0 rfl ?_
  refine gt_X1_columnsOfCells (pc := 2) C q106 dX1_rowStart_2 ?_
  refine g_iload_n (pc := 5) C dX1_rowStart_5 (i := 1) rfl 1 rfl ?_
  refine al_X1_columnsOfCells (pc := 6) C dX1_rowStart_6 ?_
  refine g_isub (pc := 7) C dX1_rowStart_7 ?_
  exact g_iret (pc := 8) C hr dX1_rowStart_8
noncomputable def b_X6_weighLosses_31 (x1 : Int32) (x3 : Int32) (x4 : Int32) (k : St → Option (St)) (rec : Int32 → St → Option (St)) (x5 : Int32) (S : St) : Option (St) :=
bnd (m_X1_columns S) fun r8 S7 =>
if x5 < (x3 + r8) then (
chk x5 12 <|
chk (gI S7 25 (ix x5)) 4 <|
bnd (m_X5_yearOf x5 S7) fun r10 S9 =>
bnd (m_X5_yearAsBuilt x5 S9) fun r12 S11 =>
chk (gI S7 25 (ix x5)) 4 <|
nm (sI S11 27 (ix (gI S7 25 (ix x5))) ((gI S7 27 (ix (gI S7 25 (ix x5)))) + (r10 - r12))) fun S13 =>
rec (x5 + 1) S13)
else
k S7
noncomputable def m_X6_weighLosses (x1 : Int32) (x2 : Int32) (S : St) : Option (St) :=
bndV (m_J7_fill_53178_27 (0 : Int32) S) fun S1 =>
bnd (m_X1_rowStart x1 S1) fun r4 S3 =>
bnd (m_X5_build x1 x2 S3) fun r6 S5 =>
it1 (b_X6_weighLosses_31 x1 r4 r6 (fun S14 =>
bnd (m_X5_build x1 r6 S14) fun r16 S15 =>
some S15)) 5000 r4 S5
set_option maxRecDepth 20000 in
theorem u_X6_weighLosses_31 (C : Cx p s m args meth c cX6_weighLosses 6 RX6 D (tyX cI cJ cZ) ad n (wX ad cI cJ cZ)) (hr : meth.sig.returnType = none) (x1 : Int32) (x3 : Int32) (x4 : Int32) (k : St → Option (St)) (hk : ∀ (S : St), GM p l e ({ frames := 3, cells := 0, slots := 0, locals := 75 } : Room) s m args below meth c D ad n (wX ad cI cJ cZ) 6 (QV D (wX ad cI cJ cZ) ad n args s below) (k S) S 85 [(0, .ref (ad 0)), (1, .int x1), (4, .int x4)] []) (rec : Int32 → St → Option (St)) (hrec : ∀ (x5 : Int32) (S : St), GM p l e ({ frames := 3, cells := 0, slots := 0, locals := 75 } : Room) s m args below meth c D ad n (wX ad cI cJ cZ) 6 (QV D (wX ad cI cJ cZ) ad n args s below) (rec x5 S) S 31 [(0, .ref (ad 0)), (1, .int x1), (3, .int x3), (4, .int x4), (5, .int x5)] []) (x5 : Int32) (S : St) : GM p l e ({ frames := 3, cells := 0, slots := 0, locals := 75 } : Room) s m args below meth c D ad n (wX ad cI cJ cZ) 6 (QV D (wX ad cI cJ cZ) ad n args s below) (b_X6_weighLosses_31 x1 x3 x4 k rec x5 S) S 31 [(0, .ref (ad 0)), (1, .int x1), (3, .int x3), (4, .int x4), (5, .int x5)] [] := by
  unfold b_X6_weighLosses_31
  refine g_iload (pc := 31) C dX6_weighLosses_31 4 rfl ?_
  refine g_iload_n (pc := 33) C dX6_weighLosses_33 (i := 3) rfl 2 rfl ?_
  refine g_aload_n (pc := 34) C dX6_weighLosses_34 (i := 0) rfl 0 rfl ?_
  refine gt_X6_ground (pc := 35) C q248 dX6_weighLosses_35 ?_
  refine g_callVi (pc := 38) (As := []) C q568 mw_X1_columns (fun _ hz => c_X1_columns C.2.2.2.2.2.2.2.1 hz) ⟨Nat.le_of_ble_eq_true rfl, Nat.le_of_ble_eq_true rfl⟩ rfl rfl 2 rfl rfl rfl (Nat.le_of_ble_eq_true rfl) dX6_weighLosses_38 fun r8 S7 => ?_
  refine g_iadd (pc := 41) C dX6_weighLosses_41 ?_
  refine g_icmp_ge (pc := 42) (tgt := 85) C dX6_weighLosses_42 (by decide) ?_ ?_
  · refine g_sub [0, 1, 3] rfl (hk _)
  · refine g_aload_n (pc := 45) C dX6_weighLosses_45 (i := 0) rfl 0 rfl ?_
    refine gt_X6_losses (pc := 46) C q255 dX6_weighLosses_46 ?_
    refine g_aload_n (pc := 49) C dX6_weighLosses_49 (i := 0) rfl 0 rfl ?_
    refine gt_X6_owners (pc := 50) C q253 dX6_weighLosses_50 ?_
    refine g_iload (pc := 53) C dX6_weighLosses_53 4 rfl ?_
    refine al_X6_owners (pc := 55) C dX6_weighLosses_55 ?_
    refine g_dup2 (pc := 56) C dX6_weighLosses_56 rfl rfl ?_
    refine al_X6_losses (pc := 57) C dX6_weighLosses_57 ?_
    refine g_aload_n (pc := 58) C dX6_weighLosses_58 (i := 0) rfl 0 rfl ?_
    refine gt_X6_sun (pc := 59) C q247 dX6_weighLosses_59 ?_
    refine g_iload (pc := 62) C dX6_weighLosses_62 4 rfl ?_
    refine g_callVi (pc := 64) (As := [.int _]) C q479 mw_X5_yearOf (fun _ hz => c_X5_yearOf C.2.2.2.2.2.2.2.1 hz) ⟨Nat.le_of_ble_eq_true rfl, Nat.le_of_ble_eq_true rfl⟩ rfl rfl 1 rfl rfl rfl (Nat.le_of_ble_eq_true rfl) dX6_weighLosses_64 fun r10 S9 => ?_
    refine g_aload_n (pc := 67) C dX6_weighLosses_67 (i := 0) rfl 0 rfl ?_
    refine gt_X6_sun (pc := 68) C q247 dX6_weighLosses_68 ?_
    refine g_iload (pc := 71) C dX6_weighLosses_71 4 rfl ?_
    refine g_callVi (pc := 73) (As := [.int _]) C q569 mw_X5_yearAsBuilt (fun _ hz => c_X5_yearAsBuilt C.2.2.2.2.2.2.2.1 hz) ⟨Nat.le_of_ble_eq_true rfl, Nat.le_of_ble_eq_true rfl⟩ rfl rfl 1 rfl rfl rfl (Nat.le_of_ble_eq_true rfl) dX6_weighLosses_73 fun r12 S11 => ?_
    refine g_isub (pc := 76) C dX6_weighLosses_76 ?_
    refine g_iadd (pc := 77) C dX6_weighLosses_77 ?_
    refine as_X6_losses (pc := 78) C dX6_weighLosses_78 fun S13 => ?_
    refine g_iinc (pc := 79) (v := (x5 + 1)) (lv2 := [(5, .int (x5 + 1)), (0, .ref (ad 0)), (1, .int x1), (3, .int x3), (4, .int x4)]) C dX6_weighLosses_79 4 rfl rfl (by decide) rfl ?_
    refine g_goto (pc := 82) (tgt := 31) C dX6_weighLosses_82 (by decide) ?_
    refine g_sub [1, 2, 3, 4, 0] rfl (hrec _ _)
set_option maxRecDepth 20000 in
theorem c_X6_weighLosses {l : Launch} {D : va_G} {ad : Nat → Nat} {cI cJ cZ : ClassId} {n : Nat} (hD : ∀ sz S, va_D (Adr ad n sz) (wX ad cI cJ cZ S)) {x1 : Int32} {x2 : Int32} {S : St} {z : St} (hf : m_X6_weighLosses x1 x2 S = some z) : CtV l yX6_weighLosses cX6_weighLosses 6 none ({ frames := 3, cells := 0, slots := 0, locals := 75 } : Room) D (wX ad cI cJ cZ) (tyX cI cJ cZ) ad n [.ref (ad 0), .int x1, .int x2] S z := by
  refine CtV.of hf (by decide +kernel) (Nat.le_of_ble_eq_true rfl) hD (fun p e s m args below meth c C hr => ?_)
  refine g_sub [0, 1, 2] (lv2 := [(0, .ref (ad 0)), (1, .int x1), (2, .int x2)]) rfl ?_
  unfold m_X6_weighLosses
  refine g_aload_n (pc := 0) C dX6_weighLosses_0 (i := 0) rfl 0 rfl ?_
  refine gt_X6_losses (pc := 1) C q255 dX6_weighLosses_1 ?_
  refine g_iconst (pc := 4) (v := 0) C dX6_weighLosses_4 (by decide) ?_
  refine g_callSv (pc := 5) (As := [.ref _, .int _]) C q244 mw_J7_fill_53178 (fun _ hz => c_J7_fill_53178_27 C.2.2.2.2.2.2.2.1 hz) ⟨Nat.le_of_ble_eq_true rfl, Nat.le_of_ble_eq_true rfl⟩ rfl rfl rfl (Nat.le_of_ble_eq_true rfl) dX6_weighLosses_5 fun S1 => ?_
  refine g_aload_n (pc := 8) C dX6_weighLosses_8 (i := 0) rfl 0 rfl ?_
  refine gt_X6_ground (pc := 9) C q248 dX6_weighLosses_9 ?_
  refine g_iload_n (pc := 12) C dX6_weighLosses_12 (i := 1) rfl 1 rfl ?_
  refine g_callVi (pc := 13) (As := [.int _]) C q564 mw_X1_rowStart (fun _ hz => c_X1_rowStart C.2.2.2.2.2.2.2.1 hz) ⟨Nat.le_of_ble_eq_true rfl, Nat.le_of_ble_eq_true rfl⟩ rfl rfl 2 rfl rfl rfl (Nat.le_of_ble_eq_true rfl) dX6_weighLosses_13 fun r4 S3 => ?_
  refine g_istore_n (pc := 16) (i := 3) (lv2 := [(3, .int r4), (0, .ref (ad 0)), (1, .int x1), (2, .int x2)]) C dX6_weighLosses_16 rfl (by decide) rfl ?_
  refine g_aload_n (pc := 17) C dX6_weighLosses_17 (i := 0) rfl 1 rfl ?_
  refine gt_X6_sun (pc := 18) C q247 dX6_weighLosses_18 ?_
  refine g_iload_n (pc := 21) C dX6_weighLosses_21 (i := 1) rfl 2 rfl ?_
  refine g_iload_n (pc := 22) C dX6_weighLosses_22 (i := 2) rfl 3 rfl ?_
  refine g_callVi (pc := 23) (As := [.int _, .int _]) C q412 mw_X5_build (fun _ hz => c_X5_build C.2.2.2.2.2.2.2.1 hz) ⟨Nat.le_of_ble_eq_true rfl, Nat.le_of_ble_eq_true rfl⟩ rfl rfl 1 rfl rfl rfl (Nat.le_of_ble_eq_true rfl) dX6_weighLosses_23 fun r6 S5 => ?_
  refine g_istore (pc := 26) (i := 4) (j := 0) (lv2 := [(4, .int r6), (3, .int r4), (0, .ref (ad 0)), (1, .int x1), (2, .int x2)]) C dX6_weighLosses_26 (by decide) rfl ?_
  refine g_iload_n (pc := 28) C dX6_weighLosses_28 (i := 3) rfl 1 rfl ?_
  refine g_istore (pc := 29) (i := 5) (j := 0) (lv2 := [(5, .int r4), (4, .int r6), (3, .int r4), (0, .ref (ad 0)), (1, .int x1), (2, .int x2)]) C dX6_weighLosses_29 (by decide) rfl ?_
  refine g_sub [3, 4, 2, 1, 0] (lv2 := [(0, .ref (ad 0)), (1, .int x1), (3, .int r4), (4, .int r6), (5, .int r4)]) rfl ?_
  refine g_it1 (pc := 31) (u_X6_weighLosses_31 C hr _ _ _ _ fun S14 => ?_) _ _ _
  refine g_aload_n (pc := 85) C dX6_weighLosses_85 (i := 0) rfl 0 rfl ?_
  refine gt_X6_sun (pc := 86) C q247 dX6_weighLosses_86 ?_
  refine g_iload_n (pc := 89) C dX6_weighLosses_89 (i := 1) rfl 1 rfl ?_
  refine g_iload (pc := 90) C dX6_weighLosses_90 2 rfl ?_
  refine g_callVi (pc := 92) (As := [.int _, .int _]) C q412 mw_X5_build (fun _ hz => c_X5_build C.2.2.2.2.2.2.2.1 hz) ⟨Nat.le_of_ble_eq_true rfl, Nat.le_of_ble_eq_true rfl⟩ rfl rfl 1 rfl rfl rfl (Nat.le_of_ble_eq_true rfl) dX6_weighLosses_92 fun r16 S15 => ?_
  refine g_pop (pc := 95) C dX6_weighLosses_95 rfl ?_
  exact g_vret (pc := 96) C hr dX6_weighLosses_96
noncomputable def m_X6_taken (x1 : Int32) (x2 : Int32) (x3 : Int32) (S : St) : Option (Int32 × St) :=
bnd (m_X6_isCell x1 S) fun r2 S1 =>
if r2 = 0 then (
some ((-1000002 : Int32), S1))
else
bnd (m_X6_isBelow x2 (21 : Int32) S1) fun r4 S3 =>
if r4 = 0 then (
some ((-1000002 : Int32), S3))
else
bnd (m_X6_isBelow x3 (4 : Int32) S3) fun r6 S5 =>
if r6 = 0 then (
some ((-1000002 : Int32), S5))
else
bndV (m_X6_weighLosses x1 x2 S5) fun S7 =>
chk x3 4 <|
some ((gI S7 27 (ix x3)), S7)
set_option maxRecDepth 20000 in
theorem c_X6_taken {l : Launch} {D : va_G} {ad : Nat → Nat} {cI cJ cZ : ClassId} {n : Nat} (hD : ∀ sz S, va_D (Adr ad n sz) (wX ad cI cJ cZ S)) {x1 : Int32} {x2 : Int32} {x3 : Int32} {S : St} {z : Int32 × St} (hf : m_X6_taken x1 x2 x3 S = some z) : CtI l yX6_taken cX6_taken 4 (some .int) ({ frames := 4, cells := 0, slots := 0, locals := 100 } : Room) D (wX ad cI cJ cZ) (tyX cI cJ cZ) ad n [.ref (ad 0), .int x1, .int x2, .int x3] S z := by
  refine CtI.of hf (by decide +kernel) (Nat.le_of_ble_eq_true rfl) hD (fun p e s m args below meth c C hr => ?_)
  refine g_sub [0, 1, 2, 3] (lv2 := [(0, .ref (ad 0)), (1, .int x1), (2, .int x2), (3, .int x3)]) rfl ?_
  unfold m_X6_taken
  refine g_aload_n (pc := 0) C dX6_taken_0 (i := 0) rfl 0 rfl ?_
  refine g_iload_n (pc := 1) C dX6_taken_1 (i := 1) rfl 1 rfl ?_
  refine g_callVi (pc := 2) (As := [.int _]) C q395 mw_X6_isCell (fun _ hz => c_X6_isCell C.2.2.2.2.2.2.2.1 hz) ⟨Nat.le_of_ble_eq_true rfl, Nat.le_of_ble_eq_true rfl⟩ rfl rfl 0 rfl rfl rfl (Nat.le_of_ble_eq_true rfl) dX6_taken_2 fun r2 S1 => ?_
  refine g_if_eq (pc := 5) (tgt := 25) C dX6_taken_5 (by decide) ?_ ?_
  · refine g_ldc (pc := 25) C q559 dX6_taken_25 ?_
    exact g_iret (pc := 27) C hr dX6_taken_27
  · refine g_iload_n (pc := 8) C dX6_taken_8 (i := 2) rfl 2 rfl ?_
    refine g_bipush (pc := 9) (v := 21) C dX6_taken_9 (by decide) ?_
    refine g_callSi (pc := 11) (As := [.int _, .int _]) C q303 mw_X6_isBelow (fun _ hz => c_X6_isBelow C.2.2.2.2.2.2.2.1 hz) ⟨Nat.le_of_ble_eq_true rfl, Nat.le_of_ble_eq_true rfl⟩ rfl rfl rfl (Nat.le_of_ble_eq_true rfl) dX6_taken_11 fun r4 S3 => ?_
    refine g_if_eq (pc := 14) (tgt := 25) C dX6_taken_14 (by decide) ?_ ?_
    · refine g_ldc (pc := 25) C q559 dX6_taken_25 ?_
      exact g_iret (pc := 27) C hr dX6_taken_27
    · refine g_iload_n (pc := 17) C dX6_taken_17 (i := 3) rfl 3 rfl ?_
      refine g_iconst (pc := 18) (v := 4) C dX6_taken_18 (by decide) ?_
      refine g_callSi (pc := 19) (As := [.int _, .int _]) C q303 mw_X6_isBelow (fun _ hz => c_X6_isBelow C.2.2.2.2.2.2.2.1 hz) ⟨Nat.le_of_ble_eq_true rfl, Nat.le_of_ble_eq_true rfl⟩ rfl rfl rfl (Nat.le_of_ble_eq_true rfl) dX6_taken_19 fun r6 S5 => ?_
      refine g_if_ne (pc := 22) (tgt := 28) C dX6_taken_22 (by decide) ?_ ?_
      · refine g_aload_n (pc := 28) C dX6_taken_28 (i := 0) rfl 0 rfl ?_
        refine g_iload_n (pc := 29) C dX6_taken_29 (i := 1) rfl 1 rfl ?_
        refine g_iload_n (pc := 30) C dX6_taken_30 (i := 2) rfl 2 rfl ?_
        refine g_callVv (pc := 31) (As := [.int _, .int _]) C q560 mw_X6_weighLosses (fun _ hz => c_X6_weighLosses C.2.2.2.2.2.2.2.1 hz) ⟨Nat.le_of_ble_eq_true rfl, Nat.le_of_ble_eq_true rfl⟩ rfl rfl 0 rfl rfl rfl (Nat.le_of_ble_eq_true rfl) dX6_taken_31 fun S7 => ?_
        refine g_aload_n (pc := 34) C dX6_taken_34 (i := 0) rfl 0 rfl ?_
        refine gt_X6_losses (pc := 35) C q255 dX6_taken_35 ?_
        refine g_iload_n (pc := 38) C dX6_taken_38 (i := 3) rfl 3 rfl ?_
        refine al_X6_losses (pc := 39) C dX6_taken_39 ?_
        exact g_iret (pc := 40) C hr dX6_taken_40
      · refine g_ldc (pc := 25) C q559 dX6_taken_25 ?_
        exact g_iret (pc := 27) C hr dX6_taken_27
noncomputable def b_X6_mostLost_9 (k : Int32 → St → Option (Int32 × St)) (rec : Int32 → Int32 → St → Option (Int32 × St)) (x1 : Int32) (x2 : Int32) (S : St) : Option (Int32 × St) :=
if x2 < (4 : Int32) then (
chk x2 4 <|
nm ((if x1 < (gI S 27 (ix x2)) then (gI S 27 (ix x2)) else x1)) fun y2 =>
rec y2 (x2 + 1) S)
else
k x1 S
noncomputable def m_X6_mostLost (S : St) : Option (Int32 × St) :=
chk (0 : Int32) 4 <|
nm ((gI S 27 (ix (0 : Int32)))) fun y1 =>
it2 (b_X6_mostLost_9 (fun x1_S3 S3 =>
some (x1_S3, S3))) 5000 y1 (1 : Int32) S
set_option maxRecDepth 20000 in
theorem u_X6_mostLost_9 (C : Cx p s m args meth c cX6_mostLost 3 RX6 D (tyX cI cJ cZ) ad n (wX ad cI cJ cZ)) (hr : meth.sig.returnType = (some .int)) (k : Int32 → St → Option (Int32 × St)) (hk : ∀ (x1 : Int32) (S : St), GM p l e ({ frames := 1, cells := 0, slots := 0, locals := 13 } : Room) s m args below meth c D ad n (wX ad cI cJ cZ) 3 (QI D (wX ad cI cJ cZ) ad n args s below) (k x1 S) S 31 [(1, .int x1)] []) (rec : Int32 → Int32 → St → Option (Int32 × St)) (hrec : ∀ (x1 : Int32) (x2 : Int32) (S : St), GM p l e ({ frames := 1, cells := 0, slots := 0, locals := 13 } : Room) s m args below meth c D ad n (wX ad cI cJ cZ) 3 (QI D (wX ad cI cJ cZ) ad n args s below) (rec x1 x2 S) S 9 [(0, .ref (ad 0)), (1, .int x1), (2, .int x2)] []) (x1 : Int32) (x2 : Int32) (S : St) : GM p l e ({ frames := 1, cells := 0, slots := 0, locals := 13 } : Room) s m args below meth c D ad n (wX ad cI cJ cZ) 3 (QI D (wX ad cI cJ cZ) ad n args s below) (b_X6_mostLost_9 k rec x1 x2 S) S 9 [(0, .ref (ad 0)), (1, .int x1), (2, .int x2)] [] := by
  unfold b_X6_mostLost_9
  refine g_iload_n (pc := 9) C dX6_mostLost_9 (i := 2) rfl 2 rfl ?_
  refine g_iconst (pc := 10) (v := 4) C dX6_mostLost_10 (by decide) ?_
  refine g_icmp_ge (pc := 11) (tgt := 31) C dX6_mostLost_11 (by decide) ?_ ?_
  · refine g_sub [1] rfl (hk _ _)
  · refine g_iload_n (pc := 14) C dX6_mostLost_14 (i := 1) rfl 1 rfl ?_
    refine g_aload_n (pc := 15) C dX6_mostLost_15 (i := 0) rfl 0 rfl ?_
    refine gt_X6_losses (pc := 16) C q255 dX6_mostLost_16 ?_
    refine g_iload_n (pc := 19) C dX6_mostLost_19 (i := 2) rfl 2 rfl ?_
    refine al_X6_losses (pc := 20) C dX6_mostLost_20 ?_
    refine g_mmax (pc := 21) C q579 q580 q81 qm_max (Nat.le_of_ble_eq_true rfl) (Nat.le_of_ble_eq_true rfl) dX6_mostLost_21 ?_
    refine g_nmi fun y2 => ?_
    refine g_istore_n (pc := 24) (i := 1) (lv2 := [(1, .int y2), (0, .ref (ad 0)), (2, .int x2)]) C dX6_mostLost_24 rfl (by decide) rfl ?_
    refine g_iinc (pc := 25) (v := (x2 + 1)) (lv2 := [(2, .int (x2 + 1)), (1, .int y2), (0, .ref (ad 0))]) C dX6_mostLost_25 2 rfl rfl (by decide) rfl ?_
    refine g_goto (pc := 28) (tgt := 9) C dX6_mostLost_28 (by decide) ?_
    refine g_sub [2, 1, 0] rfl (hrec _ _ _)
set_option maxRecDepth 20000 in
theorem c_X6_mostLost {l : Launch} {D : va_G} {ad : Nat → Nat} {cI cJ cZ : ClassId} {n : Nat} (hD : ∀ sz S, va_D (Adr ad n sz) (wX ad cI cJ cZ S)) {S : St} {z : Int32 × St} (hf : m_X6_mostLost S = some z) : CtI l yX6_mostLost cX6_mostLost 3 (some .int) ({ frames := 1, cells := 0, slots := 0, locals := 13 } : Room) D (wX ad cI cJ cZ) (tyX cI cJ cZ) ad n [.ref (ad 0)] S z := by
  refine CtI.of hf (by decide +kernel) (Nat.le_of_ble_eq_true rfl) hD (fun p e s m args below meth c C hr => ?_)
  refine g_sub [0] (lv2 := [(0, .ref (ad 0))]) rfl ?_
  unfold m_X6_mostLost
  refine g_aload_n (pc := 0) C dX6_mostLost_0 (i := 0) rfl 0 rfl ?_
  refine gt_X6_losses (pc := 1) C q255 dX6_mostLost_1 ?_
  refine g_iconst (pc := 4) (v := 0) C dX6_mostLost_4 (by decide) ?_
  refine al_X6_losses (pc := 5) C dX6_mostLost_5 ?_
  refine g_nmi fun y1 => ?_
  refine g_istore_n (pc := 6) (i := 1) (lv2 := [(1, .int y1), (0, .ref (ad 0))]) C dX6_mostLost_6 rfl (by decide) rfl ?_
  refine g_iconst (pc := 7) (v := 1) C dX6_mostLost_7 (by decide) ?_
  refine g_istore_n (pc := 8) (i := 2) (lv2 := [(2, .int (1 : Int32)), (1, .int y1), (0, .ref (ad 0))]) C dX6_mostLost_8 rfl (by decide) rfl ?_
  refine g_sub [2, 1, 0] (lv2 := [(0, .ref (ad 0)), (1, .int y1), (2, .int (1 : Int32))]) rfl ?_
  refine g_it2 (pc := 9) (u_X6_mostLost_9 C hr _ fun x1_S3 S3 => ?_) _ _ _ _
  refine g_iload_n (pc := 31) C dX6_mostLost_31 (i := 1) rfl 0 rfl ?_
  exact g_iret (pc := 32) C hr dX6_mostLost_32
noncomputable def b_X6_highest_26 (x1 : Int32) (x2 : Int32) (k : Int32 → St → Option (Int32 × St)) (rec : Int32 → Int32 → St → Option (Int32 × St)) (x3 : Int32) (x4 : Int32) (S : St) : Option (Int32 × St) :=
if 0 < x4 then (
if (20 : Int32) < (x3 + x4) then (
nm ((x4 >>> ((1 : Int32) &&& 31))) fun y5 =>
rec x3 y5 S)
else
bndV (m_X6_weighLosses x1 (x3 + x4) S) fun S6 =>
bnd (m_X6_mostLost S6) fun r9 S8 =>
if x2 < r9 then (
nm ((x3 + (0 : Int32))) fun y10 =>
nm ((x4 >>> ((1 : Int32) &&& 31))) fun y11 =>
rec y10 y11 S8)
else
nm ((x3 + x4)) fun y12 =>
nm ((x4 >>> ((1 : Int32) &&& 31))) fun y13 =>
rec y12 y13 S8)
else
k x3 S
noncomputable def m_X6_highest (x1 : Int32) (x2 : Int32) (S : St) : Option (Int32 × St) :=
bnd (m_X6_isCell x1 S) fun r2 S1 =>
if r2 = 0 then (
some ((-2 : Int32), S1))
else
bnd (m_X6_isBelow x2 (100000 : Int32) S1) fun r4 S3 =>
if r4 = 0 then (
some ((-2 : Int32), S3))
else
it2 (b_X6_highest_26 x1 x2 (fun x3_S14 S14 =>
some (x3_S14, S14))) 5000 (0 : Int32) (16 : Int32) S3
set_option maxRecDepth 20000 in
theorem u_X6_highest_26 (C : Cx p s m args meth c cX6_highest 5 RX6 D (tyX cI cJ cZ) ad n (wX ad cI cJ cZ)) (hr : meth.sig.returnType = (some .int)) (x1 : Int32) (x2 : Int32) (k : Int32 → St → Option (Int32 × St)) (hk : ∀ (x3 : Int32) (S : St), GM p l e ({ frames := 4, cells := 0, slots := 0, locals := 100 } : Room) s m args below meth c D ad n (wX ad cI cJ cZ) 5 (QI D (wX ad cI cJ cZ) ad n args s below) (k x3 S) S 75 [(3, .int x3)] []) (rec : Int32 → Int32 → St → Option (Int32 × St)) (hrec : ∀ (x3 : Int32) (x4 : Int32) (S : St), GM p l e ({ frames := 4, cells := 0, slots := 0, locals := 100 } : Room) s m args below meth c D ad n (wX ad cI cJ cZ) 5 (QI D (wX ad cI cJ cZ) ad n args s below) (rec x3 x4 S) S 26 [(0, .ref (ad 0)), (1, .int x1), (2, .int x2), (3, .int x3), (4, .int x4)] []) (x3 : Int32) (x4 : Int32) (S : St) : GM p l e ({ frames := 4, cells := 0, slots := 0, locals := 100 } : Room) s m args below meth c D ad n (wX ad cI cJ cZ) 5 (QI D (wX ad cI cJ cZ) ad n args s below) (b_X6_highest_26 x1 x2 k rec x3 x4 S) S 26 [(0, .ref (ad 0)), (1, .int x1), (2, .int x2), (3, .int x3), (4, .int x4)] [] := by
  unfold b_X6_highest_26
  refine g_iload (pc := 26) C dX6_highest_26 4 rfl ?_
  refine g_if_le (pc := 28) (tgt := 75) C dX6_highest_28 (by decide) ?_ ?_
  · refine g_sub [3] rfl (hk _ _)
  · refine g_iload_n (pc := 31) C dX6_highest_31 (i := 3) rfl 3 rfl ?_
    refine g_iload (pc := 32) C dX6_highest_32 4 rfl ?_
    refine g_iadd (pc := 34) C dX6_highest_34 ?_
    refine g_bipush (pc := 35) (v := 20) C dX6_highest_35 (by decide) ?_
    refine g_icmp_gt (pc := 37) (tgt := 66) C dX6_highest_37 (by decide) ?_ ?_
    · refine g_iload (pc := 66) C dX6_highest_66 4 rfl ?_
      refine g_iconst (pc := 68) (v := 1) C dX6_highest_68 (by decide) ?_
      refine g_ishr (pc := 69) C dX6_highest_69 ?_
      refine g_nmi fun y5 => ?_
      refine g_istore (pc := 70) (i := 4) (j := 0) (lv2 := [(4, .int y5), (0, .ref (ad 0)), (1, .int x1), (2, .int x2), (3, .int x3)]) C dX6_highest_70 (by decide) rfl ?_
      refine g_goto (pc := 72) (tgt := 26) C dX6_highest_72 (by decide) ?_
      refine g_sub [1, 2, 3, 4, 0] rfl (hrec _ _ _)
    · refine g_aload_n (pc := 40) C dX6_highest_40 (i := 0) rfl 0 rfl ?_
      refine g_iload_n (pc := 41) C dX6_highest_41 (i := 1) rfl 1 rfl ?_
      refine g_iload_n (pc := 42) C dX6_highest_42 (i := 3) rfl 3 rfl ?_
      refine g_iload (pc := 43) C dX6_highest_43 4 rfl ?_
      refine g_iadd (pc := 45) C dX6_highest_45 ?_
      refine g_callVv (pc := 46) (As := [.int _, .int _]) C q560 mw_X6_weighLosses (fun _ hz => c_X6_weighLosses C.2.2.2.2.2.2.2.1 hz) ⟨Nat.le_of_ble_eq_true rfl, Nat.le_of_ble_eq_true rfl⟩ rfl rfl 0 rfl rfl rfl (Nat.le_of_ble_eq_true rfl) dX6_highest_46 fun S6 => ?_
      refine g_iload_n (pc := 49) C dX6_highest_49 (i := 3) rfl 3 rfl ?_
      refine g_aload_n (pc := 50) C dX6_highest_50 (i := 0) rfl 0 rfl ?_
      refine g_callVi (pc := 51) (As := []) C q575 mw_X6_mostLost (fun _ hz => c_X6_mostLost C.2.2.2.2.2.2.2.1 hz) ⟨Nat.le_of_ble_eq_true rfl, Nat.le_of_ble_eq_true rfl⟩ rfl rfl 0 rfl rfl rfl (Nat.le_of_ble_eq_true rfl) dX6_highest_51 fun r9 S8 => ?_
      refine g_iload_n (pc := 54) C dX6_highest_54 (i := 2) rfl 2 rfl ?_
      refine g_icmp_gt (pc := 55) (tgt := 63) C dX6_highest_55 (by decide) ?_ ?_
      · refine g_iconst (pc := 63) (v := 0) C dX6_highest_63 (by decide) ?_
        refine g_iadd (pc := 64) C dX6_highest_64 ?_
        refine g_nmi fun y10 => ?_
        refine g_istore_n (pc := 65) (i := 3) (lv2 := [(3, .int y10), (0, .ref (ad 0)), (1, .int x1), (2, .int x2), (4, .int x4)]) C dX6_highest_65 rfl (by decide) rfl ?_
        refine g_iload (pc := 66) C dX6_highest_66 4 rfl ?_
        refine g_iconst (pc := 68) (v := 1) C dX6_highest_68 (by decide) ?_
        refine g_ishr (pc := 69) C dX6_highest_69 ?_
        refine g_nmi fun y11 => ?_
        refine g_istore (pc := 70) (i := 4) (j := 0) (lv2 := [(4, .int y11), (3, .int y10), (0, .ref (ad 0)), (1, .int x1), (2, .int x2)]) C dX6_highest_70 (by decide) rfl ?_
        refine g_goto (pc := 72) (tgt := 26) C dX6_highest_72 (by decide) ?_
        refine g_sub [2, 3, 4, 1, 0] rfl (hrec _ _ _)
      · refine g_iload (pc := 58) C dX6_highest_58 4 rfl ?_
        refine g_goto (pc := 60) (tgt := 64) C dX6_highest_60 (by decide) ?_
        refine g_iadd (pc := 64) C dX6_highest_64 ?_
        refine g_nmi fun y12 => ?_
        refine g_istore_n (pc := 65) (i := 3) (lv2 := [(3, .int y12), (0, .ref (ad 0)), (1, .int x1), (2, .int x2), (4, .int x4)]) C dX6_highest_65 rfl (by decide) rfl ?_
        refine g_iload (pc := 66) C dX6_highest_66 4 rfl ?_
        refine g_iconst (pc := 68) (v := 1) C dX6_highest_68 (by decide) ?_
        refine g_ishr (pc := 69) C dX6_highest_69 ?_
        refine g_nmi fun y13 => ?_
        refine g_istore (pc := 70) (i := 4) (j := 0) (lv2 := [(4, .int y13), (3, .int y12), (0, .ref (ad 0)), (1, .int x1), (2, .int x2)]) C dX6_highest_70 (by decide) rfl ?_
        refine g_goto (pc := 72) (tgt := 26) C dX6_highest_72 (by decide) ?_
        refine g_sub [2, 3, 4, 1, 0] rfl (hrec _ _ _)
set_option maxRecDepth 20000 in
theorem c_X6_highest {l : Launch} {D : va_G} {ad : Nat → Nat} {cI cJ cZ : ClassId} {n : Nat} (hD : ∀ sz S, va_D (Adr ad n sz) (wX ad cI cJ cZ S)) {x1 : Int32} {x2 : Int32} {S : St} {z : Int32 × St} (hf : m_X6_highest x1 x2 S = some z) : CtI l yX6_highest cX6_highest 5 (some .int) ({ frames := 4, cells := 0, slots := 0, locals := 100 } : Room) D (wX ad cI cJ cZ) (tyX cI cJ cZ) ad n [.ref (ad 0), .int x1, .int x2] S z := by
  refine CtI.of hf (by decide +kernel) (Nat.le_of_ble_eq_true rfl) hD (fun p e s m args below meth c C hr => ?_)
  refine g_sub [0, 1, 2] (lv2 := [(0, .ref (ad 0)), (1, .int x1), (2, .int x2)]) rfl ?_
  unfold m_X6_highest
  refine g_aload_n (pc := 0) C dX6_highest_0 (i := 0) rfl 0 rfl ?_
  refine g_iload_n (pc := 1) C dX6_highest_1 (i := 1) rfl 1 rfl ?_
  refine g_callVi (pc := 2) (As := [.int _]) C q395 mw_X6_isCell (fun _ hz => c_X6_isCell C.2.2.2.2.2.2.2.1 hz) ⟨Nat.le_of_ble_eq_true rfl, Nat.le_of_ble_eq_true rfl⟩ rfl rfl 0 rfl rfl rfl (Nat.le_of_ble_eq_true rfl) dX6_highest_2 fun r2 S1 => ?_
  refine g_if_eq (pc := 5) (tgt := 17) C dX6_highest_5 (by decide) ?_ ?_
  · refine g_bipush (pc := 17) (v := -2) C dX6_highest_17 (by decide) ?_
    exact g_iret (pc := 19) C hr dX6_highest_19
  · refine g_iload_n (pc := 8) C dX6_highest_8 (i := 2) rfl 2 rfl ?_
    refine g_ldc (pc := 9) C q574 dX6_highest_9 ?_
    refine g_callSi (pc := 11) (As := [.int _, .int _]) C q303 mw_X6_isBelow (fun _ hz => c_X6_isBelow C.2.2.2.2.2.2.2.1 hz) ⟨Nat.le_of_ble_eq_true rfl, Nat.le_of_ble_eq_true rfl⟩ rfl rfl rfl (Nat.le_of_ble_eq_true rfl) dX6_highest_11 fun r4 S3 => ?_
    refine g_if_ne (pc := 14) (tgt := 20) C dX6_highest_14 (by decide) ?_ ?_
    · refine g_iconst (pc := 20) (v := 0) C dX6_highest_20 (by decide) ?_
      refine g_istore_n (pc := 21) (i := 3) (lv2 := [(3, .int (0 : Int32)), (0, .ref (ad 0)), (1, .int x1), (2, .int x2)]) C dX6_highest_21 rfl (by decide) rfl ?_
      refine g_bipush (pc := 22) (v := 16) C dX6_highest_22 (by decide) ?_
      refine g_istore (pc := 24) (i := 4) (j := 0) (lv2 := [(4, .int (16 : Int32)), (3, .int (0 : Int32)), (0, .ref (ad 0)), (1, .int x1), (2, .int x2)]) C dX6_highest_24 (by decide) rfl ?_
      refine g_sub [2, 3, 4, 1, 0] (lv2 := [(0, .ref (ad 0)), (1, .int x1), (2, .int x2), (3, .int (0 : Int32)), (4, .int (16 : Int32))]) rfl ?_
      refine g_it2 (pc := 26) (u_X6_highest_26 C hr _ _ _ fun x3_S14 S14 => ?_) _ _ _ _
      refine g_iload_n (pc := 75) C dX6_highest_75 (i := 3) rfl 0 rfl ?_
      exact g_iret (pc := 76) C hr dX6_highest_76
    · refine g_bipush (pc := 17) (v := -2) C dX6_highest_17 (by decide) ?_
      exact g_iret (pc := 19) C hr dX6_highest_19
end MM
