section MM
variable {p : Program} {l : Launch} {e : Env} {s : State} {m : MethodId} {args : Array Value} {below : List Frame} {meth : Method} {c : Code} {D : va_G} {ad : Nat → Nat} {n : Nat} {cI cJ cZ : ClassId}
noncomputable def b_X7_sumOf_13 (x1 : Int32) (k : Int32 → Int32 → St → Option (Int32 × St)) (rec : Int32 → Int32 → Int32 → St → Option (Int32 × St)) (x3 : Int32) (x4 : Int32) (x5 : Int32) (S : St) : Option (Int32 × St) :=
if x5 < (gI S 41 0) then (
if x1 = (3 : Int32) then (
chk x5 12 <|
if 0 < (gI S 3 (ix x5)) then (
nm ((x3 + (1 : Int32))) fun y11 =>
chk x5 12 <|
nm ((x4 ||| ((1 : Int32) <<< ((gI S 4 (ix x5)) &&& 31)))) fun y12 =>
rec y11 y12 (x5 + 1) S)
else
nm ((x3 + (0 : Int32))) fun y9 =>
chk x5 12 <|
nm ((x4 ||| ((1 : Int32) <<< ((gI S 4 (ix x5)) &&& 31)))) fun y10 =>
rec y9 y10 (x5 + 1) S)
else
if x1 = (6 : Int32) then (
bnd (m_X7_yearOf x5 S) fun r6 S5 =>
nm ((x3 + r6)) fun y7 =>
chk x5 12 <|
nm ((x4 ||| ((1 : Int32) <<< ((gI S5 4 (ix x5)) &&& 31)))) fun y8 =>
rec y7 y8 (x5 + 1) S5)
else
nm ((x3 + (0 : Int32))) fun y3 =>
chk x5 12 <|
nm ((x4 ||| ((1 : Int32) <<< ((gI S 4 (ix x5)) &&& 31)))) fun y4 =>
rec y3 y4 (x5 + 1) S)
else
k x3 x4 S
noncomputable def b_X7_sumOf_87 (x1 : Int32) (x4 : Int32) (k : Int32 → St → Option (Int32 × St)) (rec : Int32 → Int32 → St → Option (Int32 × St)) (x3 : Int32) (x5 : Int32) (S : St) : Option (Int32 × St) :=
if x5 < (4 : Int32) then (
if x1 = (7 : Int32) then (
chk x5 4 <|
nm ((x3 + (gI S 5 (ix x5)))) fun y14 =>
rec y14 (x5 + 1) S)
else
k x3 S)
else
k x3 S
noncomputable def m_X7_sumOf (x1 : Int32) (S : St) : Option (Int32 × St) :=
bnd (m_X7_faultNow S) fun r2 S1 =>
it3 (b_X7_sumOf_13 x1 (fun x3_S13 x4_S13 S13 =>
it2 (b_X7_sumOf_87 x1 x4_S13 (fun x3_S15 S15 =>
if x1 = 0 then (
some ((gI S15 41 0), S15))
else
if x1 = (2 : Int32) then (
some ((gI S15 43 0), S15))
else
if x1 = (4 : Int32) then (
bnd (m_X7_ones x4_S13 S15) fun r17 S16 =>
some (r17, S16))
else
some (x3_S15, S15))) 5000 x3_S13 (0 : Int32) S13)) 5000 (0 : Int32) (0 : Int32) (0 : Int32) S1
set_option maxRecDepth 20000 in
theorem u_X7_sumOf_13 (C : Cx p s m args meth c cX7_sumOf 6 RX7 D (tyX cI cJ cZ) ad n (wM ad cI cJ cZ)) (hr : meth.sig.returnType = (some .int)) (x1 : Int32) (k : Int32 → Int32 → St → Option (Int32 × St)) (hk : ∀ (x3 : Int32) (x4 : Int32) (S : St), GM p l e ({ frames := 4, cells := 0, slots := 0, locals := 95 } : Room) s m args below meth c D ad n (wM ad cI cJ cZ) 6 (QI D (wM ad cI cJ cZ) ad n args s below) (k x3 x4 S) S 84 [(0, .ref (ad 0)), (1, .int x1), (3, .int x3), (4, .int x4)] []) (rec : Int32 → Int32 → Int32 → St → Option (Int32 × St)) (hrec : ∀ (x3 : Int32) (x4 : Int32) (x5 : Int32) (S : St), GM p l e ({ frames := 4, cells := 0, slots := 0, locals := 95 } : Room) s m args below meth c D ad n (wM ad cI cJ cZ) 6 (QI D (wM ad cI cJ cZ) ad n args s below) (rec x3 x4 x5 S) S 13 [(0, .ref (ad 0)), (1, .int x1), (3, .int x3), (4, .int x4), (5, .int x5)] []) (x3 : Int32) (x4 : Int32) (x5 : Int32) (S : St) : GM p l e ({ frames := 4, cells := 0, slots := 0, locals := 95 } : Room) s m args below meth c D ad n (wM ad cI cJ cZ) 6 (QI D (wM ad cI cJ cZ) ad n args s below) (b_X7_sumOf_13 x1 k rec x3 x4 x5 S) S 13 [(0, .ref (ad 0)), (1, .int x1), (3, .int x3), (4, .int x4), (5, .int x5)] [] := by
  unfold b_X7_sumOf_13
  refine g_iload (pc := 13) C dX7_sumOf_13 4 rfl ?_
  refine g_aload_n (pc := 15) C dX7_sumOf_15 (i := 0) rfl 0 rfl ?_
  refine gt_X7_cells (pc := 16) C q875 dX7_sumOf_16 ?_
  refine g_icmp_ge (pc := 19) (tgt := 84) C dX7_sumOf_19 (by decide) ?_ ?_
  · refine g_sub [0, 1, 2, 3] rfl (hk _ _ _)
  · refine g_iload_n (pc := 22) C dX7_sumOf_22 (i := 3) rfl 2 rfl ?_
    refine g_iload_n (pc := 23) C dX7_sumOf_23 (i := 1) rfl 1 rfl ?_
    refine g_iconst (pc := 24) (v := 3) C dX7_sumOf_24 (by decide) ?_
    refine g_icmp_ne (pc := 25) (tgt := 46) C dX7_sumOf_25 (by decide) ?_ ?_
    · refine g_iload_n (pc := 46) C dX7_sumOf_46 (i := 1) rfl 1 rfl ?_
      refine g_bipush (pc := 47) (v := 6) C dX7_sumOf_47 (by decide) ?_
      refine g_icmp_ne (pc := 49) (tgt := 61) C dX7_sumOf_49 (by decide) ?_ ?_
      · refine g_iconst (pc := 61) (v := 0) C dX7_sumOf_61 (by decide) ?_
        refine g_iadd (pc := 62) C dX7_sumOf_62 ?_
        refine g_nmi fun y3 => ?_
        refine g_istore_n (pc := 63) (i := 3) (lv2 := [(3, .int y3), (0, .ref (ad 0)), (1, .int x1), (4, .int x4), (5, .int x5)]) C dX7_sumOf_63 rfl (by decide) rfl ?_
        refine g_iload (pc := 64) C dX7_sumOf_64 3 rfl ?_
        refine g_iconst (pc := 66) (v := 1) C dX7_sumOf_66 (by decide) ?_
        refine g_aload_n (pc := 67) C dX7_sumOf_67 (i := 0) rfl 1 rfl ?_
        refine gt_X7_owners (pc := 68) C q880 dX7_sumOf_68 ?_
        refine g_iload (pc := 71) C dX7_sumOf_71 4 rfl ?_
        refine al_X7_owners (pc := 73) C dX7_sumOf_73 ?_
        refine g_ishl (pc := 74) C dX7_sumOf_74 ?_
        refine g_ior (pc := 75) C dX7_sumOf_75 ?_
        refine g_nmi fun y4 => ?_
        refine g_istore (pc := 76) (i := 4) (j := 0) (lv2 := [(4, .int y4), (3, .int y3), (0, .ref (ad 0)), (1, .int x1), (5, .int x5)]) C dX7_sumOf_76 (by decide) rfl ?_
        refine g_iinc (pc := 78) (v := (x5 + 1)) (lv2 := [(5, .int (x5 + 1)), (4, .int y4), (3, .int y3), (0, .ref (ad 0)), (1, .int x1)]) C dX7_sumOf_78 4 rfl rfl (by decide) rfl ?_
        refine g_goto (pc := 81) (tgt := 13) C dX7_sumOf_81 (by decide) ?_
        refine g_sub [3, 4, 2, 1, 0] rfl (hrec _ _ _ _)
      · refine g_aload_n (pc := 52) C dX7_sumOf_52 (i := 0) rfl 0 rfl ?_
        refine g_iload (pc := 53) C dX7_sumOf_53 4 rfl ?_
        refine g_callVi (pc := 55) (As := [.int _]) C q1051 mw_X7_yearOf (fun _ hz => c_X7_yearOf C.2.2.2.2.2.2.2.1 hz) ⟨Nat.le_of_ble_eq_true rfl, Nat.le_of_ble_eq_true rfl⟩ rfl rfl 0 rfl rfl rfl (Nat.le_of_ble_eq_true rfl) dX7_sumOf_55 fun r6 S5 => ?_
        refine g_goto (pc := 58) (tgt := 62) C dX7_sumOf_58 (by decide) ?_
        refine g_iadd (pc := 62) C dX7_sumOf_62 ?_
        refine g_nmi fun y7 => ?_
        refine g_istore_n (pc := 63) (i := 3) (lv2 := [(3, .int y7), (0, .ref (ad 0)), (1, .int x1), (4, .int x4), (5, .int x5)]) C dX7_sumOf_63 rfl (by decide) rfl ?_
        refine g_iload (pc := 64) C dX7_sumOf_64 3 rfl ?_
        refine g_iconst (pc := 66) (v := 1) C dX7_sumOf_66 (by decide) ?_
        refine g_aload_n (pc := 67) C dX7_sumOf_67 (i := 0) rfl 1 rfl ?_
        refine gt_X7_owners (pc := 68) C q880 dX7_sumOf_68 ?_
        refine g_iload (pc := 71) C dX7_sumOf_71 4 rfl ?_
        refine al_X7_owners (pc := 73) C dX7_sumOf_73 ?_
        refine g_ishl (pc := 74) C dX7_sumOf_74 ?_
        refine g_ior (pc := 75) C dX7_sumOf_75 ?_
        refine g_nmi fun y8 => ?_
        refine g_istore (pc := 76) (i := 4) (j := 0) (lv2 := [(4, .int y8), (3, .int y7), (0, .ref (ad 0)), (1, .int x1), (5, .int x5)]) C dX7_sumOf_76 (by decide) rfl ?_
        refine g_iinc (pc := 78) (v := (x5 + 1)) (lv2 := [(5, .int (x5 + 1)), (4, .int y8), (3, .int y7), (0, .ref (ad 0)), (1, .int x1)]) C dX7_sumOf_78 4 rfl rfl (by decide) rfl ?_
        refine g_goto (pc := 81) (tgt := 13) C dX7_sumOf_81 (by decide) ?_
        refine g_sub [3, 4, 2, 1, 0] rfl (hrec _ _ _ _)
    · refine g_aload_n (pc := 28) C dX7_sumOf_28 (i := 0) rfl 0 rfl ?_
      refine gt_X7_stands (pc := 29) C q879 dX7_sumOf_29 ?_
      refine g_iload (pc := 32) C dX7_sumOf_32 4 rfl ?_
      refine al_X7_stands (pc := 34) C dX7_sumOf_34 ?_
      refine g_if_le (pc := 35) (tgt := 42) C dX7_sumOf_35 (by decide) ?_ ?_
      · refine g_iconst (pc := 42) (v := 0) C dX7_sumOf_42 (by decide) ?_
        refine g_goto (pc := 43) (tgt := 62) C dX7_sumOf_43 (by decide) ?_
        refine g_iadd (pc := 62) C dX7_sumOf_62 ?_
        refine g_nmi fun y9 => ?_
        refine g_istore_n (pc := 63) (i := 3) (lv2 := [(3, .int y9), (0, .ref (ad 0)), (1, .int x1), (4, .int x4), (5, .int x5)]) C dX7_sumOf_63 rfl (by decide) rfl ?_
        refine g_iload (pc := 64) C dX7_sumOf_64 3 rfl ?_
        refine g_iconst (pc := 66) (v := 1) C dX7_sumOf_66 (by decide) ?_
        refine g_aload_n (pc := 67) C dX7_sumOf_67 (i := 0) rfl 1 rfl ?_
        refine gt_X7_owners (pc := 68) C q880 dX7_sumOf_68 ?_
        refine g_iload (pc := 71) C dX7_sumOf_71 4 rfl ?_
        refine al_X7_owners (pc := 73) C dX7_sumOf_73 ?_
        refine g_ishl (pc := 74) C dX7_sumOf_74 ?_
        refine g_ior (pc := 75) C dX7_sumOf_75 ?_
        refine g_nmi fun y10 => ?_
        refine g_istore (pc := 76) (i := 4) (j := 0) (lv2 := [(4, .int y10), (3, .int y9), (0, .ref (ad 0)), (1, .int x1), (5, .int x5)]) C dX7_sumOf_76 (by decide) rfl ?_
        refine g_iinc (pc := 78) (v := (x5 + 1)) (lv2 := [(5, .int (x5 + 1)), (4, .int y10), (3, .int y9), (0, .ref (ad 0)), (1, .int x1)]) C dX7_sumOf_78 4 rfl rfl (by decide) rfl ?_
        refine g_goto (pc := 81) (tgt := 13) C dX7_sumOf_81 (by decide) ?_
        refine g_sub [3, 4, 2, 1, 0] rfl (hrec _ _ _ _)
      · refine g_iconst (pc := 38) (v := 1) C dX7_sumOf_38 (by decide) ?_
        refine g_goto (pc := 39) (tgt := 62) C dX7_sumOf_39 (by decide) ?_
        refine g_iadd (pc := 62) C dX7_sumOf_62 ?_
        refine g_nmi fun y11 => ?_
        refine g_istore_n (pc := 63) (i := 3) (lv2 := [(3, .int y11), (0, .ref (ad 0)), (1, .int x1), (4, .int x4), (5, .int x5)]) C dX7_sumOf_63 rfl (by decide) rfl ?_
        refine g_iload (pc := 64) C dX7_sumOf_64 3 rfl ?_
        refine g_iconst (pc := 66) (v := 1) C dX7_sumOf_66 (by decide) ?_
        refine g_aload_n (pc := 67) C dX7_sumOf_67 (i := 0) rfl 1 rfl ?_
        refine gt_X7_owners (pc := 68) C q880 dX7_sumOf_68 ?_
        refine g_iload (pc := 71) C dX7_sumOf_71 4 rfl ?_
        refine al_X7_owners (pc := 73) C dX7_sumOf_73 ?_
        refine g_ishl (pc := 74) C dX7_sumOf_74 ?_
        refine g_ior (pc := 75) C dX7_sumOf_75 ?_
        refine g_nmi fun y12 => ?_
        refine g_istore (pc := 76) (i := 4) (j := 0) (lv2 := [(4, .int y12), (3, .int y11), (0, .ref (ad 0)), (1, .int x1), (5, .int x5)]) C dX7_sumOf_76 (by decide) rfl ?_
        refine g_iinc (pc := 78) (v := (x5 + 1)) (lv2 := [(5, .int (x5 + 1)), (4, .int y12), (3, .int y11), (0, .ref (ad 0)), (1, .int x1)]) C dX7_sumOf_78 4 rfl rfl (by decide) rfl ?_
        refine g_goto (pc := 81) (tgt := 13) C dX7_sumOf_81 (by decide) ?_
        refine g_sub [3, 4, 2, 1, 0] rfl (hrec _ _ _ _)
set_option maxRecDepth 20000 in
theorem u_X7_sumOf_87 (C : Cx p s m args meth c cX7_sumOf 6 RX7 D (tyX cI cJ cZ) ad n (wM ad cI cJ cZ)) (hr : meth.sig.returnType = (some .int)) (x1 : Int32) (x4 : Int32) (k : Int32 → St → Option (Int32 × St)) (hk : ∀ (x3 : Int32) (S : St), GM p l e ({ frames := 4, cells := 0, slots := 0, locals := 95 } : Room) s m args below meth c D ad n (wM ad cI cJ cZ) 6 (QI D (wM ad cI cJ cZ) ad n args s below) (k x3 S) S 115 [(0, .ref (ad 0)), (1, .int x1), (3, .int x3), (4, .int x4)] []) (rec : Int32 → Int32 → St → Option (Int32 × St)) (hrec : ∀ (x3 : Int32) (x5 : Int32) (S : St), GM p l e ({ frames := 4, cells := 0, slots := 0, locals := 95 } : Room) s m args below meth c D ad n (wM ad cI cJ cZ) 6 (QI D (wM ad cI cJ cZ) ad n args s below) (rec x3 x5 S) S 87 [(0, .ref (ad 0)), (1, .int x1), (3, .int x3), (4, .int x4), (5, .int x5)] []) (x3 : Int32) (x5 : Int32) (S : St) : GM p l e ({ frames := 4, cells := 0, slots := 0, locals := 95 } : Room) s m args below meth c D ad n (wM ad cI cJ cZ) 6 (QI D (wM ad cI cJ cZ) ad n args s below) (b_X7_sumOf_87 x1 x4 k rec x3 x5 S) S 87 [(0, .ref (ad 0)), (1, .int x1), (3, .int x3), (4, .int x4), (5, .int x5)] [] := by
  unfold b_X7_sumOf_87
  refine g_iload (pc := 87) C dX7_sumOf_87 4 rfl ?_
  refine g_iconst (pc := 89) (v := 4) C dX7_sumOf_89 (by decide) ?_
  refine g_icmp_ge (pc := 90) (tgt := 115) C dX7_sumOf_90 (by decide) ?_ ?_
  · refine g_sub [0, 1, 2, 3] rfl (hk _ _)
  · refine g_iload_n (pc := 93) C dX7_sumOf_93 (i := 1) rfl 1 rfl ?_
    refine g_bipush (pc := 94) (v := 7) C dX7_sumOf_94 (by decide) ?_
    refine g_icmp_ne (pc := 96) (tgt := 115) C dX7_sumOf_96 (by decide) ?_ ?_
    · refine g_sub [0, 1, 2, 3] rfl (hk _ _)
    · refine g_iload_n (pc := 99) C dX7_sumOf_99 (i := 3) rfl 2 rfl ?_
      refine g_aload_n (pc := 100) C dX7_sumOf_100 (i := 0) rfl 0 rfl ?_
      refine gt_X7_dayOf (pc := 101) C q881 dX7_sumOf_101 ?_
      refine g_iload (pc := 104) C dX7_sumOf_104 4 rfl ?_
      refine al_X7_dayOf (pc := 106) C dX7_sumOf_106 ?_
      refine g_iadd (pc := 107) C dX7_sumOf_107 ?_
      refine g_nmi fun y14 => ?_
      refine g_istore_n (pc := 108) (i := 3) (lv2 := [(3, .int y14), (0, .ref (ad 0)), (1, .int x1), (4, .int x4), (5, .int x5)]) C dX7_sumOf_108 rfl (by decide) rfl ?_
      refine g_iinc (pc := 109) (v := (x5 + 1)) (lv2 := [(5, .int (x5 + 1)), (3, .int y14), (0, .ref (ad 0)), (1, .int x1), (4, .int x4)]) C dX7_sumOf_109 4 rfl rfl (by decide) rfl ?_
      refine g_goto (pc := 112) (tgt := 87) C dX7_sumOf_112 (by decide) ?_
      refine g_sub [2, 3, 1, 4, 0] rfl (hrec _ _ _)
set_option maxRecDepth 20000 in
theorem c_X7_sumOf {l : Launch} {D : va_G} {ad : Nat → Nat} {cI cJ cZ : ClassId} {n : Nat} (hD : ∀ sz S, va_D (Adr ad n sz) (wM ad cI cJ cZ S)) {x1 : Int32} {S : St} {z : Int32 × St} (hf : m_X7_sumOf x1 S = some z) : CtI l yX7_sumOf cX7_sumOf 6 (some .int) ({ frames := 4, cells := 0, slots := 0, locals := 95 } : Room) D (wM ad cI cJ cZ) (tyX cI cJ cZ) ad n [.ref (ad 0), .int x1] S z := by
  refine CtI.of hf (by decide +kernel) (Nat.le_of_ble_eq_true rfl) hD (fun p e s m args below meth c C hr => ?_)
  refine g_sub [0, 1] (lv2 := [(0, .ref (ad 0)), (1, .int x1)]) rfl ?_
  unfold m_X7_sumOf
  refine g_aload_n (pc := 0) C dX7_sumOf_0 (i := 0) rfl 0 rfl ?_
  refine g_callVi (pc := 1) (As := []) C q971 mw_X7_faultNow (fun _ hz => c_X7_faultNow C.2.2.2.2.2.2.2.1 hz) ⟨Nat.le_of_ble_eq_true rfl, Nat.le_of_ble_eq_true rfl⟩ rfl rfl 0 rfl rfl rfl (Nat.le_of_ble_eq_true rfl) dX7_sumOf_1 fun r2 S1 => ?_
  refine g_istore_n (pc := 4) (i := 2) (lv2 := [(2, .int r2), (0, .ref (ad 0)), (1, .int x1)]) C dX7_sumOf_4 rfl (by decide) rfl ?_
  refine g_iconst (pc := 5) (v := 0) C dX7_sumOf_5 (by decide) ?_
  refine g_istore_n (pc := 6) (i := 3) (lv2 := [(3, .int (0 : Int32)), (2, .int r2), (0, .ref (ad 0)), (1, .int x1)]) C dX7_sumOf_6 rfl (by decide) rfl ?_
  refine g_iconst (pc := 7) (v := 0) C dX7_sumOf_7 (by decide) ?_
  refine g_istore (pc := 8) (i := 4) (j := 0) (lv2 := [(4, .int (0 : Int32)), (3, .int (0 : Int32)), (2, .int r2), (0, .ref (ad 0)), (1, .int x1)]) C dX7_sumOf_8 (by decide) rfl ?_
  refine g_iconst (pc := 10) (v := 0) C dX7_sumOf_10 (by decide) ?_
  refine g_istore (pc := 11) (i := 5) (j := 0) (lv2 := [(5, .int (0 : Int32)), (4, .int (0 : Int32)), (3, .int (0 : Int32)), (2, .int r2), (0, .ref (ad 0)), (1, .int x1)]) C dX7_sumOf_11 (by decide) rfl ?_
  refine g_sub [4, 5, 2, 1, 0] (lv2 := [(0, .ref (ad 0)), (1, .int x1), (3, .int (0 : Int32)), (4, .int (0 : Int32)), (5, .int (0 : Int32))]) rfl ?_
  refine g_it3 (pc := 13) (u_X7_sumOf_13 C hr _ _ fun x3_S13 x4_S13 S13 => ?_) _ _ _ _ _
  refine g_iconst (pc := 84) (v := 0) C dX7_sumOf_84 (by decide) ?_
  refine g_istore (pc := 85) (i := 5) (j := 0) (lv2 := [(5, .int (0 : Int32)), (0, .ref (ad 0)), (1, .int x1), (3, .int x3_S13), (4, .int x4_S13)]) C dX7_sumOf_85 (by decide) rfl ?_
  refine g_sub [1, 2, 3, 4, 0] (lv2 := [(0, .ref (ad 0)), (1, .int x1), (3, .int x3_S13), (4, .int x4_S13), (5, .int (0 : Int32))]) rfl ?_
  refine g_it2 (pc := 87) (u_X7_sumOf_87 C hr _ _ _ fun x3_S15 S15 => ?_) _ _ _ _
  refine g_iload_n (pc := 115) C dX7_sumOf_115 (i := 1) rfl 1 rfl ?_
  refine g_if_ne (pc := 116) (tgt := 126) C dX7_sumOf_116 (by decide) ?_ ?_
  · refine g_iload_n (pc := 126) C dX7_sumOf_126 (i := 1) rfl 1 rfl ?_
    refine g_iconst (pc := 127) (v := 2) C dX7_sumOf_127 (by decide) ?_
    refine g_icmp_ne (pc := 128) (tgt := 138) C dX7_sumOf_128 (by decide) ?_ ?_
    · refine g_iload_n (pc := 138) C dX7_sumOf_138 (i := 1) rfl 1 rfl ?_
      refine g_iconst (pc := 139) (v := 4) C dX7_sumOf_139 (by decide) ?_
      refine g_icmp_ne (pc := 140) (tgt := 151) C dX7_sumOf_140 (by decide) ?_ ?_
      · refine g_iload_n (pc := 151) C dX7_sumOf_151 (i := 3) rfl 2 rfl ?_
        exact g_iret (pc := 152) C hr dX7_sumOf_152
      · refine g_iload (pc := 143) C dX7_sumOf_143 3 rfl ?_
        refine g_callSi (pc := 145) (As := [.int _]) C q1055 mw_X7_ones (fun _ hz => c_X7_ones C.2.2.2.2.2.2.2.1 hz) ⟨Nat.le_of_ble_eq_true rfl, Nat.le_of_ble_eq_true rfl⟩ rfl rfl rfl (Nat.le_of_ble_eq_true rfl) dX7_sumOf_145 fun r17 S16 => ?_
        refine g_goto (pc := 148) (tgt := 152) C dX7_sumOf_148 (by decide) ?_
        exact g_iret (pc := 152) C hr dX7_sumOf_152
    · refine g_aload_n (pc := 131) C dX7_sumOf_131 (i := 0) rfl 0 rfl ?_
      refine gt_X7_rowsMany (pc := 132) C q877 dX7_sumOf_132 ?_
      refine g_goto (pc := 135) (tgt := 152) C dX7_sumOf_135 (by decide) ?_
      exact g_iret (pc := 152) C hr dX7_sumOf_152
  · refine g_aload_n (pc := 119) C dX7_sumOf_119 (i := 0) rfl 0 rfl ?_
    refine gt_X7_cells (pc := 120) C q875 dX7_sumOf_120 ?_
    refine g_goto (pc := 123) (tgt := 152) C dX7_sumOf_123 (by decide) ?_
    exact g_iret (pc := 152) C hr dX7_sumOf_152
noncomputable def m_X7_count (x1 : Int32) (S : St) : Option (Int32 × St) :=
tsw x1 (0) (8) [(bnd (m_X7_sumOf x1 S) fun r2 S1 =>
some (r2, S1)),
(some ((gI S 40 0), S)),
(bnd (m_X7_sumOf x1 S) fun r4 S3 =>
some (r4, S3)),
(bnd (m_X7_sumOf x1 S) fun r6 S5 =>
some (r6, S5)),
(bnd (m_X7_sumOf x1 S) fun r8 S7 =>
some (r8, S7)),
(some ((gI S 44 0), S)),
(bnd (m_X7_sumOf x1 S) fun r10 S9 =>
some (r10, S9)),
(bnd (m_X7_sumOf x1 S) fun r12 S11 =>
some (r12, S11)),
(some ((gI S 45 0), S))] (some ((-2 : Int32), S))
set_option maxRecDepth 20000 in
theorem c_X7_count {l : Launch} {D : va_G} {ad : Nat → Nat} {cI cJ cZ : ClassId} {n : Nat} (hD : ∀ sz S, va_D (Adr ad n sz) (wM ad cI cJ cZ S)) {x1 : Int32} {S : St} {z : Int32 × St} (hf : m_X7_count x1 S = some z) : CtI l yX7_count cX7_count 2 (some .int) ({ frames := 5, cells := 0, slots := 0, locals := 120 } : Room) D (wM ad cI cJ cZ) (tyX cI cJ cZ) ad n [.ref (ad 0), .int x1] S z := by
  refine CtI.of hf (by decide +kernel) (Nat.le_of_ble_eq_true rfl) hD (fun p e s m args below meth c C hr => ?_)
  refine g_sub [0, 1] (lv2 := [(0, .ref (ad 0)), (1, .int x1)]) rfl ?_
  unfold m_X7_count
  refine g_iload_n (pc := 0) C dX7_count_0 (i := 1) rfl 1 rfl ?_
  refine g_tsw (pc := 1) (tgt := 73) C dX7_count_1 (by decide) rfl [52, 58, 52, 52, 52, 63, 52, 52, 68] ?_ ?_ ⟨?_, ?_, ?_, ?_, ?_, ?_, ?_, ?_, ?_, trivial⟩
  · intro j hj
    rcases (show j = 0 ∨ j = 1 ∨ j = 2 ∨ j = 3 ∨ j = 4 ∨ j = 5 ∨ j = 6 ∨ j = 7 ∨ j = 8 by simp only [List.length_cons, List.length_nil] at hj; omega) with rfl | rfl | rfl | rfl | rfl | rfl | rfl | rfl | rfl <;> exact ⟨_, rfl, by decide⟩
  · refine g_bipush (pc := 73) (v := -2) C dX7_count_73 (by decide) ?_
    exact g_iret (pc := 75) C hr dX7_count_75
  · dsimp only
    refine g_aload_n (pc := 52) C dX7_count_52 (i := 0) rfl 0 rfl ?_
    refine g_iload_n (pc := 53) C dX7_count_53 (i := 1) rfl 1 rfl ?_
    refine g_callVi (pc := 54) (As := [.int _]) C q1251 mw_X7_sumOf (fun _ hz => c_X7_sumOf C.2.2.2.2.2.2.2.1 hz) ⟨Nat.le_of_ble_eq_true rfl, Nat.le_of_ble_eq_true rfl⟩ rfl rfl 0 rfl rfl rfl (Nat.le_of_ble_eq_true rfl) dX7_count_54 fun r2 S1 => ?_
    exact g_iret (pc := 57) C hr dX7_count_57
  · dsimp only
    refine g_aload_n (pc := 58) C dX7_count_58 (i := 0) rfl 0 rfl ?_
    refine gt_X7_typed (pc := 59) C q874 dX7_count_59 ?_
    exact g_iret (pc := 62) C hr dX7_count_62
  · dsimp only
    refine g_aload_n (pc := 52) C dX7_count_52 (i := 0) rfl 0 rfl ?_
    refine g_iload_n (pc := 53) C dX7_count_53 (i := 1) rfl 1 rfl ?_
    refine g_callVi (pc := 54) (As := [.int _]) C q1251 mw_X7_sumOf (fun _ hz => c_X7_sumOf C.2.2.2.2.2.2.2.1 hz) ⟨Nat.le_of_ble_eq_true rfl, Nat.le_of_ble_eq_true rfl⟩ rfl rfl 0 rfl rfl rfl (Nat.le_of_ble_eq_true rfl) dX7_count_54 fun r4 S3 => ?_
    exact g_iret (pc := 57) C hr dX7_count_57
  · dsimp only
    refine g_aload_n (pc := 52) C dX7_count_52 (i := 0) rfl 0 rfl ?_
    refine g_iload_n (pc := 53) C dX7_count_53 (i := 1) rfl 1 rfl ?_
    refine g_callVi (pc := 54) (As := [.int _]) C q1251 mw_X7_sumOf (fun _ hz => c_X7_sumOf C.2.2.2.2.2.2.2.1 hz) ⟨Nat.le_of_ble_eq_true rfl, Nat.le_of_ble_eq_true rfl⟩ rfl rfl 0 rfl rfl rfl (Nat.le_of_ble_eq_true rfl) dX7_count_54 fun r6 S5 => ?_
    exact g_iret (pc := 57) C hr dX7_count_57
  · dsimp only
    refine g_aload_n (pc := 52) C dX7_count_52 (i := 0) rfl 0 rfl ?_
    refine g_iload_n (pc := 53) C dX7_count_53 (i := 1) rfl 1 rfl ?_
    refine g_callVi (pc := 54) (As := [.int _]) C q1251 mw_X7_sumOf (fun _ hz => c_X7_sumOf C.2.2.2.2.2.2.2.1 hz) ⟨Nat.le_of_ble_eq_true rfl, Nat.le_of_ble_eq_true rfl⟩ rfl rfl 0 rfl rfl rfl (Nat.le_of_ble_eq_true rfl) dX7_count_54 fun r8 S7 => ?_
    exact g_iret (pc := 57) C hr dX7_count_57
  · dsimp only
    refine g_aload_n (pc := 63) C dX7_count_63 (i := 0) rfl 0 rfl ?_
    refine gt_X7_sights (pc := 64) C q890 dX7_count_64 ?_
    exact g_iret (pc := 67) C hr dX7_count_67
  · dsimp only
    refine g_aload_n (pc := 52) C dX7_count_52 (i := 0) rfl 0 rfl ?_
    refine g_iload_n (pc := 53) C dX7_count_53 (i := 1) rfl 1 rfl ?_
    refine g_callVi (pc := 54) (As := [.int _]) C q1251 mw_X7_sumOf (fun _ hz => c_X7_sumOf C.2.2.2.2.2.2.2.1 hz) ⟨Nat.le_of_ble_eq_true rfl, Nat.le_of_ble_eq_true rfl⟩ rfl rfl 0 rfl rfl rfl (Nat.le_of_ble_eq_true rfl) dX7_count_54 fun r10 S9 => ?_
    exact g_iret (pc := 57) C hr dX7_count_57
  · dsimp only
    refine g_aload_n (pc := 52) C dX7_count_52 (i := 0) rfl 0 rfl ?_
    refine g_iload_n (pc := 53) C dX7_count_53 (i := 1) rfl 1 rfl ?_
    refine g_callVi (pc := 54) (As := [.int _]) C q1251 mw_X7_sumOf (fun _ hz => c_X7_sumOf C.2.2.2.2.2.2.2.1 hz) ⟨Nat.le_of_ble_eq_true rfl, Nat.le_of_ble_eq_true rfl⟩ rfl rfl 0 rfl rfl rfl (Nat.le_of_ble_eq_true rfl) dX7_count_54 fun r12 S11 => ?_
    exact g_iret (pc := 57) C hr dX7_count_57
  · dsimp only
    refine g_aload_n (pc := 68) C dX7_count_68 (i := 0) rfl 0 rfl ?_
    refine gt_X7_finding (pc := 69) C q899 dX7_count_69 ?_
    exact g_iret (pc := 72) C hr dX7_count_72
noncomputable def b_X7_digest_6 (k : Int64 → St → Option (Int64 × St)) (rec : Int64 → Int32 → St → Option (Int64 × St)) (x1 : Int64) (x3 : Int32) (S : St) : Option (Int64 × St) :=
if x3 < (8 : Int32) then (
bnd (m_X7_count x3 S) fun r2 S1 =>
nm ((((31 : Int64) * x1) + (r2).toInt64)) fun y3 =>
rec y3 (x3 + 1) S1)
else
k x1 S
noncomputable def b_X7_digest_56 (x3 : Int32) (k : Int64 → St → Option (Int64 × St)) (rec : Int64 → Int32 → St → Option (Int64 × St)) (x1 : Int64) (x4 : Int32) (S : St) : Option (Int64 × St) :=
if x4 < (3 : Int32) then (
bnd (m_X7_cellOf x3 x4 S) fun r9 S8 =>
nm ((((31 : Int64) * x1) + (r9).toInt64)) fun y10 =>
rec y10 (x4 + 1) S8)
else
k x1 S
noncomputable def b_X7_digest_86 (x3 : Int32) (k : Int64 → St → Option (Int64 × St)) (rec : Int64 → Int32 → St → Option (Int64 × St)) (x1 : Int64) (x4 : Int32) (S : St) : Option (Int64 × St) :=
if x4 < (4 : Int32) then (
bnd (m_X7_lightOf x3 x4 S) fun r13 S12 =>
nm ((((31 : Int64) * x1) + (r13).toInt64)) fun y14 =>
rec y14 (x4 + 1) S12)
else
k x1 S
noncomputable def b_X7_digest_45 (k : Int64 → St → Option (Int64 × St)) (rec : Int64 → Int32 → St → Option (Int64 × St)) (x1 : Int64) (x3 : Int32) (S : St) : Option (Int64 × St) :=
if x3 < (gI S 41 0) then (
it2 (b_X7_digest_56 x3 (fun x1_S11 S11 =>
it2 (b_X7_digest_86 x3 (fun x1_S15 S15 =>
bnd (m_X7_yearOf x3 S15) fun r17 S16 =>
nm ((((31 : Int64) * x1_S15) + (r17).toInt64)) fun y18 =>
bnd (m_X7_shadeOf x3 (0 : Int32) (3 : Int32) S16) fun r20 S19 =>
nm ((((31 : Int64) * y18) + (r20).toInt64)) fun y21 =>
bnd (m_X7_valueOf x3 (1 : Int32) S19) fun r23 S22 =>
nm ((((31 : Int64) * y21) + (r23).toInt64)) fun y24 =>
bnd (m_X7_highestOf x3 (500 : Int32) S22) fun r26 S25 =>
nm ((((31 : Int64) * y24) + (r26).toInt64)) fun y27 =>
bnd (m_X7_setOf x3 S25) fun r29 S28 =>
nm ((((31 : Int64) * y27) + (r29).toInt64)) fun y30 =>
bnd (m_X7_clearOf x3 (2 : Int32) (-1 : Int32) (0 : Int32) S28) fun r32 S31 =>
nm ((((31 : Int64) * y30) + r32)) fun y33 =>
bnd (m_X7_clearOf x3 (2 : Int32) (-1 : Int32) (1 : Int32) S31) fun r35 S34 =>
nm ((((31 : Int64) * y33) + r35)) fun y36 =>
bnd (m_X7_clearOf x3 (2 : Int32) (3 : Int32) (0 : Int32) S34) fun r38 S37 =>
nm ((((31 : Int64) * y36) + r38)) fun y39 =>
bnd (m_X7_clearOf x3 (2 : Int32) (3 : Int32) (1 : Int32) S37) fun r41 S40 =>
nm ((((31 : Int64) * y39) + r41)) fun y42 =>
rec y42 (x3 + 1) S40)) 5000 x1_S11 (0 : Int32) S11)) 5000 x1 (0 : Int32) S)
else
k x1 S
noncomputable def b_X7_digest_252 (k : Int64 → St → Option (Int64 × St)) (rec : Int64 → Int32 → St → Option (Int64 × St)) (x1 : Int64) (x3 : Int32) (S : St) : Option (Int64 × St) :=
if x3 < (4 : Int32) then (
bnd (m_X7_hasOf x3 (0 : Int32) S) fun r45 S44 =>
nm ((((31 : Int64) * x1) + (r45).toInt64)) fun y46 =>
bnd (m_X7_hasOf x3 (1 : Int32) S44) fun r48 S47 =>
nm ((((31 : Int64) * y46) + (r48).toInt64)) fun y49 =>
rec y49 (x3 + 1) S47)
else
k x1 S
noncomputable def m_X7_digest (S : St) : Option (Int64 × St) :=
it2 (b_X7_digest_6 (fun x1_S4 S4 =>
bnd (m_X7_faultNow S4) fun r6 S5 =>
nm ((((31 : Int64) * x1_S4) + (r6).toInt64)) fun y7 =>
it2 (b_X7_digest_45 (fun x1_S43 S43 =>
it2 (b_X7_digest_252 (fun x1_S50 S50 =>
bnd (m_X7_partsOf (0 : Int32) S50) fun r52 S51 =>
nm ((((31 : Int64) * x1_S50) + (r52).toInt64)) fun y53 =>
bnd (m_X7_partsOf (1 : Int32) S51) fun r55 S54 =>
nm ((((31 : Int64) * y53) + (r55).toInt64)) fun y56 =>
bnd (m_X7_again (0 : Int32) (900 : Int32) (0 : Int32) S54) fun r58 S57 =>
nm ((((31 : Int64) * y56) + (r58).toInt64)) fun y59 =>
bnd (m_X7_changesOf (0 : Int32) S57) fun r61 S60 =>
nm ((((31 : Int64) * y59) + (r61).toInt64)) fun y62 =>
bnd (m_X7_changesOf (1 : Int32) S60) fun r64 S63 =>
nm ((((31 : Int64) * y62) + (r64).toInt64)) fun y65 =>
bnd (m_X7_setOf (-1 : Int32) S63) fun r67 S66 =>
nm ((((31 : Int64) * y65) + (r67).toInt64)) fun y68 =>
bnd (m_X7_whoseOf (0 : Int32) S66) fun r70 S69 =>
nm ((((31 : Int64) * y68) + (r70).toInt64)) fun y71 =>
bnd (m_X7_whoseOf (1 : Int32) S69) fun r73 S72 =>
some ((((31 : Int64) * y71) + (r73).toInt64), S72))) 5000 x1_S43 (0 : Int32) S43)) 5000 y7 (0 : Int32) S5)) 5000 (17 : Int64) (0 : Int32) S
set_option maxRecDepth 20000 in
theorem u_X7_digest_6 (C : Cx p s m args meth c cX7_digest 5 RX7 D (tyX cI cJ cZ) ad n (wM ad cI cJ cZ)) (hr : meth.sig.returnType = (some .long)) (k : Int64 → St → Option (Int64 × St)) (hk : ∀ (x1 : Int64) (S : St), GM p l e ({ frames := 8, cells := 0, slots := 0, locals := 191 } : Room) s m args below meth c D ad n (wM ad cI cJ cZ) 5 (QL D (wM ad cI cJ cZ) ad n args s below) (k x1 S) S 31 [(0, .ref (ad 0)), (1, .long x1)] []) (rec : Int64 → Int32 → St → Option (Int64 × St)) (hrec : ∀ (x1 : Int64) (x3 : Int32) (S : St), GM p l e ({ frames := 8, cells := 0, slots := 0, locals := 191 } : Room) s m args below meth c D ad n (wM ad cI cJ cZ) 5 (QL D (wM ad cI cJ cZ) ad n args s below) (rec x1 x3 S) S 6 [(0, .ref (ad 0)), (1, .long x1), (3, .int x3)] []) (x1 : Int64) (x3 : Int32) (S : St) : GM p l e ({ frames := 8, cells := 0, slots := 0, locals := 191 } : Room) s m args below meth c D ad n (wM ad cI cJ cZ) 5 (QL D (wM ad cI cJ cZ) ad n args s below) (b_X7_digest_6 k rec x1 x3 S) S 6 [(0, .ref (ad 0)), (1, .long x1), (3, .int x3)] [] := by
  unfold b_X7_digest_6
  refine g_iload_n (pc := 6) C dX7_digest_6 (i := 3) rfl 2 rfl ?_
  refine g_bipush (pc := 7) (v := 8) C dX7_digest_7 (by decide) ?_
  refine g_icmp_ge (pc := 9) (tgt := 31) C dX7_digest_9 (by decide) ?_ ?_
  · refine g_sub [0, 1] rfl (hk _ _)
  · refine g_ldc2 (pc := 12) C q1260 dX7_digest_12 ?_
    refine g_lload_n (pc := 15) C dX7_digest_15 (i := 1) rfl 1 rfl ?_
    refine g_lmul (pc := 16) C dX7_digest_16 ?_
    refine g_aload_n (pc := 17) C dX7_digest_17 (i := 0) rfl 0 rfl ?_
    refine g_iload_n (pc := 18) C dX7_digest_18 (i := 3) rfl 2 rfl ?_
    refine g_callVi (pc := 19) (As := [.int _]) C q1261 mw_X7_count (fun _ hz => c_X7_count C.2.2.2.2.2.2.2.1 hz) ⟨Nat.le_of_ble_eq_true rfl, Nat.le_of_ble_eq_true rfl⟩ rfl rfl 0 rfl rfl rfl (Nat.le_of_ble_eq_true rfl) dX7_digest_19 fun r2 S1 => ?_
    refine g_i2l (pc := 22) C dX7_digest_22 ?_
    refine g_ladd (pc := 23) C dX7_digest_23 ?_
    refine g_nml fun y3 => ?_
    refine g_lstore_n (pc := 24) (i := 1) (lv2 := [(1, .long y3), (0, .ref (ad 0)), (3, .int x3)]) C dX7_digest_24 rfl (by decide) rfl ?_
    refine g_iinc (pc := 25) (v := (x3 + 1)) (lv2 := [(3, .int (x3 + 1)), (1, .long y3), (0, .ref (ad 0))]) C dX7_digest_25 2 rfl rfl (by decide) rfl ?_
    refine g_goto (pc := 28) (tgt := 6) C dX7_digest_28 (by decide) ?_
    refine g_sub [2, 1, 0] rfl (hrec _ _ _)
set_option maxRecDepth 20000 in
theorem u_X7_digest_56 (C : Cx p s m args meth c cX7_digest 5 RX7 D (tyX cI cJ cZ) ad n (wM ad cI cJ cZ)) (hr : meth.sig.returnType = (some .long)) (x3 : Int32) (k : Int64 → St → Option (Int64 × St)) (hk : ∀ (x1 : Int64) (S : St), GM p l e ({ frames := 8, cells := 0, slots := 0, locals := 191 } : Room) s m args below meth c D ad n (wM ad cI cJ cZ) 5 (QL D (wM ad cI cJ cZ) ad n args s below) (k x1 S) S 83 [(0, .ref (ad 0)), (1, .long x1), (3, .int x3)] []) (rec : Int64 → Int32 → St → Option (Int64 × St)) (hrec : ∀ (x1 : Int64) (x4 : Int32) (S : St), GM p l e ({ frames := 8, cells := 0, slots := 0, locals := 191 } : Room) s m args below meth c D ad n (wM ad cI cJ cZ) 5 (QL D (wM ad cI cJ cZ) ad n args s below) (rec x1 x4 S) S 56 [(0, .ref (ad 0)), (1, .long x1), (3, .int x3), (4, .int x4)] []) (x1 : Int64) (x4 : Int32) (S : St) : GM p l e ({ frames := 8, cells := 0, slots := 0, locals := 191 } : Room) s m args below meth c D ad n (wM ad cI cJ cZ) 5 (QL D (wM ad cI cJ cZ) ad n args s below) (b_X7_digest_56 x3 k rec x1 x4 S) S 56 [(0, .ref (ad 0)), (1, .long x1), (3, .int x3), (4, .int x4)] [] := by
  unfold b_X7_digest_56
  refine g_iload (pc := 56) C dX7_digest_56 3 rfl ?_
  refine g_iconst (pc := 58) (v := 3) C dX7_digest_58 (by decide) ?_
  refine g_icmp_ge (pc := 59) (tgt := 83) C dX7_digest_59 (by decide) ?_ ?_
  · refine g_sub [0, 1, 2] rfl (hk _ _)
  · refine g_ldc2 (pc := 62) C q1260 dX7_digest_62 ?_
    refine g_lload_n (pc := 65) C dX7_digest_65 (i := 1) rfl 1 rfl ?_
    refine g_lmul (pc := 66) C dX7_digest_66 ?_
    refine g_aload_n (pc := 67) C dX7_digest_67 (i := 0) rfl 0 rfl ?_
    refine g_iload_n (pc := 68) C dX7_digest_68 (i := 3) rfl 2 rfl ?_
    refine g_iload (pc := 69) C dX7_digest_69 3 rfl ?_
    refine g_callVi (pc := 71) (As := [.int _, .int _]) C q987 mw_X7_cellOf (fun _ hz => c_X7_cellOf C.2.2.2.2.2.2.2.1 hz) ⟨Nat.le_of_ble_eq_true rfl, Nat.le_of_ble_eq_true rfl⟩ rfl rfl 0 rfl rfl rfl (Nat.le_of_ble_eq_true rfl) dX7_digest_71 fun r9 S8 => ?_
    refine g_i2l (pc := 74) C dX7_digest_74 ?_
    refine g_ladd (pc := 75) C dX7_digest_75 ?_
    refine g_nml fun y10 => ?_
    refine g_lstore_n (pc := 76) (i := 1) (lv2 := [(1, .long y10), (0, .ref (ad 0)), (3, .int x3), (4, .int x4)]) C dX7_digest_76 rfl (by decide) rfl ?_
    refine g_iinc (pc := 77) (v := (x4 + 1)) (lv2 := [(4, .int (x4 + 1)), (1, .long y10), (0, .ref (ad 0)), (3, .int x3)]) C dX7_digest_77 3 rfl rfl (by decide) rfl ?_
    refine g_goto (pc := 80) (tgt := 56) C dX7_digest_80 (by decide) ?_
    refine g_sub [2, 1, 3, 0] rfl (hrec _ _ _)
set_option maxRecDepth 20000 in
theorem u_X7_digest_86 (C : Cx p s m args meth c cX7_digest 5 RX7 D (tyX cI cJ cZ) ad n (wM ad cI cJ cZ)) (hr : meth.sig.returnType = (some .long)) (x3 : Int32) (k : Int64 → St → Option (Int64 × St)) (hk : ∀ (x1 : Int64) (S : St), GM p l e ({ frames := 8, cells := 0, slots := 0, locals := 191 } : Room) s m args below meth c D ad n (wM ad cI cJ cZ) 5 (QL D (wM ad cI cJ cZ) ad n args s below) (k x1 S) S 113 [(0, .ref (ad 0)), (1, .long x1), (3, .int x3)] []) (rec : Int64 → Int32 → St → Option (Int64 × St)) (hrec : ∀ (x1 : Int64) (x4 : Int32) (S : St), GM p l e ({ frames := 8, cells := 0, slots := 0, locals := 191 } : Room) s m args below meth c D ad n (wM ad cI cJ cZ) 5 (QL D (wM ad cI cJ cZ) ad n args s below) (rec x1 x4 S) S 86 [(0, .ref (ad 0)), (1, .long x1), (3, .int x3), (4, .int x4)] []) (x1 : Int64) (x4 : Int32) (S : St) : GM p l e ({ frames := 8, cells := 0, slots := 0, locals := 191 } : Room) s m args below meth c D ad n (wM ad cI cJ cZ) 5 (QL D (wM ad cI cJ cZ) ad n args s below) (b_X7_digest_86 x3 k rec x1 x4 S) S 86 [(0, .ref (ad 0)), (1, .long x1), (3, .int x3), (4, .int x4)] [] := by
  unfold b_X7_digest_86
  refine g_iload (pc := 86) C dX7_digest_86 3 rfl ?_
  refine g_iconst (pc := 88) (v := 4) C dX7_digest_88 (by decide) ?_
  refine g_icmp_ge (pc := 89) (tgt := 113) C dX7_digest_89 (by decide) ?_ ?_
  · refine g_sub [0, 1, 2] rfl (hk _ _)
  · refine g_ldc2 (pc := 92) C q1260 dX7_digest_92 ?_
    refine g_lload_n (pc := 95) C dX7_digest_95 (i := 1) rfl 1 rfl ?_
    refine g_lmul (pc := 96) C dX7_digest_96 ?_
    refine g_aload_n (pc := 97) C dX7_digest_97 (i := 0) rfl 0 rfl ?_
    refine g_iload_n (pc := 98) C dX7_digest_98 (i := 3) rfl 2 rfl ?_
    refine g_iload (pc := 99) C dX7_digest_99 3 rfl ?_
    refine g_callVi (pc := 101) (As := [.int _, .int _]) C q1039 mw_X7_lightOf (fun _ hz => c_X7_lightOf C.2.2.2.2.2.2.2.1 hz) ⟨Nat.le_of_ble_eq_true rfl, Nat.le_of_ble_eq_true rfl⟩ rfl rfl 0 rfl rfl rfl (Nat.le_of_ble_eq_true rfl) dX7_digest_101 fun r13 S12 => ?_
    refine g_i2l (pc := 104) C dX7_digest_104 ?_
    refine g_ladd (pc := 105) C dX7_digest_105 ?_
    refine g_nml fun y14 => ?_
    refine g_lstore_n (pc := 106) (i := 1) (lv2 := [(1, .long y14), (0, .ref (ad 0)), (3, .int x3), (4, .int x4)]) C dX7_digest_106 rfl (by decide) rfl ?_
    refine g_iinc (pc := 107) (v := (x4 + 1)) (lv2 := [(4, .int (x4 + 1)), (1, .long y14), (0, .ref (ad 0)), (3, .int x3)]) C dX7_digest_107 3 rfl rfl (by decide) rfl ?_
    refine g_goto (pc := 110) (tgt := 86) C dX7_digest_110 (by decide) ?_
    refine g_sub [2, 1, 3, 0] rfl (hrec _ _ _)
set_option maxRecDepth 20000 in
theorem u_X7_digest_45 (C : Cx p s m args meth c cX7_digest 5 RX7 D (tyX cI cJ cZ) ad n (wM ad cI cJ cZ)) (hr : meth.sig.returnType = (some .long)) (k : Int64 → St → Option (Int64 × St)) (hk : ∀ (x1 : Int64) (S : St), GM p l e ({ frames := 8, cells := 0, slots := 0, locals := 191 } : Room) s m args below meth c D ad n (wM ad cI cJ cZ) 5 (QL D (wM ad cI cJ cZ) ad n args s below) (k x1 S) S 250 [(0, .ref (ad 0)), (1, .long x1)] []) (rec : Int64 → Int32 → St → Option (Int64 × St)) (hrec : ∀ (x1 : Int64) (x3 : Int32) (S : St), GM p l e ({ frames := 8, cells := 0, slots := 0, locals := 191 } : Room) s m args below meth c D ad n (wM ad cI cJ cZ) 5 (QL D (wM ad cI cJ cZ) ad n args s below) (rec x1 x3 S) S 45 [(0, .ref (ad 0)), (1, .long x1), (3, .int x3)] []) (x1 : Int64) (x3 : Int32) (S : St) : GM p l e ({ frames := 8, cells := 0, slots := 0, locals := 191 } : Room) s m args below meth c D ad n (wM ad cI cJ cZ) 5 (QL D (wM ad cI cJ cZ) ad n args s below) (b_X7_digest_45 k rec x1 x3 S) S 45 [(0, .ref (ad 0)), (1, .long x1), (3, .int x3)] [] := by
  unfold b_X7_digest_45
  refine g_iload_n (pc := 45) C dX7_digest_45 (i := 3) rfl 2 rfl ?_
  refine g_aload_n (pc := 46) C dX7_digest_46 (i := 0) rfl 0 rfl ?_
  refine gt_X7_cells (pc := 47) C q875 dX7_digest_47 ?_
  refine g_icmp_ge (pc := 50) (tgt := 250) C dX7_digest_50 (by decide) ?_ ?_
  · refine g_sub [0, 1] rfl (hk _ _)
  · refine g_iconst (pc := 53) (v := 0) C dX7_digest_53 (by decide) ?_
    refine g_istore (pc := 54) (i := 4) (j := 0) (lv2 := [(4, .int (0 : Int32)), (0, .ref (ad 0)), (1, .long x1), (3, .int x3)]) C dX7_digest_54 (by decide) rfl ?_
    refine g_sub [1, 2, 3, 0] (lv2 := [(0, .ref (ad 0)), (1, .long x1), (3, .int x3), (4, .int (0 : Int32))]) rfl ?_
    refine g_it2 (pc := 56) (u_X7_digest_56 C hr _ _ fun x1_S11 S11 => ?_) _ _ _ _
    refine g_iconst (pc := 83) (v := 0) C dX7_digest_83 (by decide) ?_
    refine g_istore (pc := 84) (i := 4) (j := 0) (lv2 := [(4, .int (0 : Int32)), (0, .ref (ad 0)), (1, .long x1_S11), (3, .int x3)]) C dX7_digest_84 (by decide) rfl ?_
    refine g_sub [1, 2, 3, 0] (lv2 := [(0, .ref (ad 0)), (1, .long x1_S11), (3, .int x3), (4, .int (0 : Int32))]) rfl ?_
    refine g_it2 (pc := 86) (u_X7_digest_86 C hr _ _ fun x1_S15 S15 => ?_) _ _ _ _
    refine g_ldc2 (pc := 113) C q1260 dX7_digest_113 ?_
    refine g_lload_n (pc := 116) C dX7_digest_116 (i := 1) rfl 1 rfl ?_
    refine g_lmul (pc := 117) C dX7_digest_117 ?_
    refine g_aload_n (pc := 118) C dX7_digest_118 (i := 0) rfl 0 rfl ?_
    refine g_iload_n (pc := 119) C dX7_digest_119 (i := 3) rfl 2 rfl ?_
    refine g_callVi (pc := 120) (As := [.int _]) C q1051 mw_X7_yearOf (fun _ hz => c_X7_yearOf C.2.2.2.2.2.2.2.1 hz) ⟨Nat.le_of_ble_eq_true rfl, Nat.le_of_ble_eq_true rfl⟩ rfl rfl 0 rfl rfl rfl (Nat.le_of_ble_eq_true rfl) dX7_digest_120 fun r17 S16 => ?_
    refine g_i2l (pc := 123) C dX7_digest_123 ?_
    refine g_ladd (pc := 124) C dX7_digest_124 ?_
    refine g_nml fun y18 => ?_
    refine g_lstore_n (pc := 125) (i := 1) (lv2 := [(1, .long y18), (0, .ref (ad 0)), (3, .int x3)]) C dX7_digest_125 rfl (by decide) rfl ?_
    refine g_ldc2 (pc := 126) C q1260 dX7_digest_126 ?_
    refine g_lload_n (pc := 129) C dX7_digest_129 (i := 1) rfl 0 rfl ?_
    refine g_lmul (pc := 130) C dX7_digest_130 ?_
    refine g_aload_n (pc := 131) C dX7_digest_131 (i := 0) rfl 1 rfl ?_
    refine g_iload_n (pc := 132) C dX7_digest_132 (i := 3) rfl 2 rfl ?_
    refine g_iconst (pc := 133) (v := 0) C dX7_digest_133 (by decide) ?_
    refine g_iconst (pc := 134) (v := 3) C dX7_digest_134 (by decide) ?_
    refine g_callVi (pc := 135) (As := [.int _, .int _, .int _]) C q1031 mw_X7_shadeOf (fun _ hz => c_X7_shadeOf C.2.2.2.2.2.2.2.1 hz) ⟨Nat.le_of_ble_eq_true rfl, Nat.le_of_ble_eq_true rfl⟩ rfl rfl 0 rfl rfl rfl (Nat.le_of_ble_eq_true rfl) dX7_digest_135 fun r20 S19 => ?_
    refine g_i2l (pc := 138) C dX7_digest_138 ?_
    refine g_ladd (pc := 139) C dX7_digest_139 ?_
    refine g_nml fun y21 => ?_
    refine g_lstore_n (pc := 140) (i := 1) (lv2 := [(1, .long y21), (0, .ref (ad 0)), (3, .int x3)]) C dX7_digest_140 rfl (by decide) rfl ?_
    refine g_ldc2 (pc := 141) C q1260 dX7_digest_141 ?_
    refine g_lload_n (pc := 144) C dX7_digest_144 (i := 1) rfl 0 rfl ?_
    refine g_lmul (pc := 145) C dX7_digest_145 ?_
    refine g_aload_n (pc := 146) C dX7_digest_146 (i := 0) rfl 1 rfl ?_
    refine g_iload_n (pc := 147) C dX7_digest_147 (i := 3) rfl 2 rfl ?_
    refine g_iconst (pc := 148) (v := 1) C dX7_digest_148 (by decide) ?_
    refine g_callVi (pc := 149) (As := [.int _, .int _]) C q1139 mw_X7_valueOf (fun _ hz => c_X7_valueOf C.2.2.2.2.2.2.2.1 hz) ⟨Nat.le_of_ble_eq_true rfl, Nat.le_of_ble_eq_true rfl⟩ rfl rfl 0 rfl rfl rfl (Nat.le_of_ble_eq_true rfl) dX7_digest_149 fun r23 S22 => ?_
    refine g_i2l (pc := 152) C dX7_digest_152 ?_
    refine g_ladd (pc := 153) C dX7_digest_153 ?_
    refine g_nml fun y24 => ?_
    refine g_lstore_n (pc := 154) (i := 1) (lv2 := [(1, .long y24), (0, .ref (ad 0)), (3, .int x3)]) C dX7_digest_154 rfl (by decide) rfl ?_
    refine g_ldc2 (pc := 155) C q1260 dX7_digest_155 ?_
    refine g_lload_n (pc := 158) C dX7_digest_158 (i := 1) rfl 0 rfl ?_
    refine g_lmul (pc := 159) C dX7_digest_159 ?_
    refine g_aload_n (pc := 160) C dX7_digest_160 (i := 0) rfl 1 rfl ?_
    refine g_iload_n (pc := 161) C dX7_digest_161 (i := 3) rfl 2 rfl ?_
    refine g_sipush (pc := 162) (v := 500) C dX7_digest_162 (by decide) ?_
    refine g_callVi (pc := 165) (As := [.int _, .int _]) C q1119 mw_X7_highestOf (fun _ hz => c_X7_highestOf C.2.2.2.2.2.2.2.1 hz) ⟨Nat.le_of_ble_eq_true rfl, Nat.le_of_ble_eq_true rfl⟩ rfl rfl 0 rfl rfl rfl (Nat.le_of_ble_eq_true rfl) dX7_digest_165 fun r26 S25 => ?_
    refine g_i2l (pc := 168) C dX7_digest_168 ?_
    refine g_ladd (pc := 169) C dX7_digest_169 ?_
    refine g_nml fun y27 => ?_
    refine g_lstore_n (pc := 170) (i := 1) (lv2 := [(1, .long y27), (0, .ref (ad 0)), (3, .int x3)]) C dX7_digest_170 rfl (by decide) rfl ?_
    refine g_ldc2 (pc := 171) C q1260 dX7_digest_171 ?_
    refine g_lload_n (pc := 174) C dX7_digest_174 (i := 1) rfl 0 rfl ?_
    refine g_lmul (pc := 175) C dX7_digest_175 ?_
    refine g_aload_n (pc := 176) C dX7_digest_176 (i := 0) rfl 1 rfl ?_
    refine g_iload_n (pc := 177) C dX7_digest_177 (i := 3) rfl 2 rfl ?_
    refine g_callVi (pc := 178) (As := [.int _]) C q1171 mw_X7_setOf (fun _ hz => c_X7_setOf C.2.2.2.2.2.2.2.1 hz) ⟨Nat.le_of_ble_eq_true rfl, Nat.le_of_ble_eq_true rfl⟩ rfl rfl 0 rfl rfl rfl (Nat.le_of_ble_eq_true rfl) dX7_digest_178 fun r29 S28 => ?_
    refine g_i2l (pc := 181) C dX7_digest_181 ?_
    refine g_ladd (pc := 182) C dX7_digest_182 ?_
    refine g_nml fun y30 => ?_
    refine g_lstore_n (pc := 183) (i := 1) (lv2 := [(1, .long y30), (0, .ref (ad 0)), (3, .int x3)]) C dX7_digest_183 rfl (by decide) rfl ?_
    refine g_ldc2 (pc := 184) C q1260 dX7_digest_184 ?_
    refine g_lload_n (pc := 187) C dX7_digest_187 (i := 1) rfl 0 rfl ?_
    refine g_lmul (pc := 188) C dX7_digest_188 ?_
    refine g_aload_n (pc := 189) C dX7_digest_189 (i := 0) rfl 1 rfl ?_
    refine g_iload_n (pc := 190) C dX7_digest_190 (i := 3) rfl 2 rfl ?_
    refine g_iconst (pc := 191) (v := 2) C dX7_digest_191 (by decide) ?_
    refine g_iconst (pc := 192) (v := -1) C dX7_digest_192 (by decide) ?_
    refine g_iconst (pc := 193) (v := 0) C dX7_digest_193 (by decide) ?_
    refine g_callVl (pc := 194) (As := [.int _, .int _, .int _, .int _]) C q1202 mw_X7_clearOf (fun _ hz => c_X7_clearOf C.2.2.2.2.2.2.2.1 hz) ⟨Nat.le_of_ble_eq_true rfl, Nat.le_of_ble_eq_true rfl⟩ rfl rfl 0 rfl rfl rfl (Nat.le_of_ble_eq_true rfl) dX7_digest_194 fun r32 S31 => ?_
    refine g_ladd (pc := 197) C dX7_digest_197 ?_
    refine g_nml fun y33 => ?_
    refine g_lstore_n (pc := 198) (i := 1) (lv2 := [(1, .long y33), (0, .ref (ad 0)), (3, .int x3)]) C dX7_digest_198 rfl (by decide) rfl ?_
    refine g_ldc2 (pc := 199) C q1260 dX7_digest_199 ?_
    refine g_lload_n (pc := 202) C dX7_digest_202 (i := 1) rfl 0 rfl ?_
    refine g_lmul (pc := 203) C dX7_digest_203 ?_
    refine g_aload_n (pc := 204) C dX7_digest_204 (i := 0) rfl 1 rfl ?_
    refine g_iload_n (pc := 205) C dX7_digest_205 (i := 3) rfl 2 rfl ?_
    refine g_iconst (pc := 206) (v := 2) C dX7_digest_206 (by decide) ?_
    refine g_iconst (pc := 207) (v := -1) C dX7_digest_207 (by decide) ?_
    refine g_iconst (pc := 208) (v := 1) C dX7_digest_208 (by decide) ?_
    refine g_callVl (pc := 209) (As := [.int _, .int _, .int _, .int _]) C q1202 mw_X7_clearOf (fun _ hz => c_X7_clearOf C.2.2.2.2.2.2.2.1 hz) ⟨Nat.le_of_ble_eq_true rfl, Nat.le_of_ble_eq_true rfl⟩ rfl rfl 0 rfl rfl rfl (Nat.le_of_ble_eq_true rfl) dX7_digest_209 fun r35 S34 => ?_
    refine g_ladd (pc := 212) C dX7_digest_212 ?_
    refine g_nml fun y36 => ?_
    refine g_lstore_n (pc := 213) (i := 1) (lv2 := [(1, .long y36), (0, .ref (ad 0)), (3, .int x3)]) C dX7_digest_213 rfl (by decide) rfl ?_
    refine g_ldc2 (pc := 214) C q1260 dX7_digest_214 ?_
    refine g_lload_n (pc := 217) C dX7_digest_217 (i := 1) rfl 0 rfl ?_
    refine g_lmul (pc := 218) C dX7_digest_218 ?_
    refine g_aload_n (pc := 219) C dX7_digest_219 (i := 0) rfl 1 rfl ?_
    refine g_iload_n (pc := 220) C dX7_digest_220 (i := 3) rfl 2 rfl ?_
    refine g_iconst (pc := 221) (v := 2) C dX7_digest_221 (by decide) ?_
    refine g_iconst (pc := 222) (v := 3) C dX7_digest_222 (by decide) ?_
    refine g_iconst (pc := 223) (v := 0) C dX7_digest_223 (by decide) ?_
    refine g_callVl (pc := 224) (As := [.int _, .int _, .int _, .int _]) C q1202 mw_X7_clearOf (fun _ hz => c_X7_clearOf C.2.2.2.2.2.2.2.1 hz) ⟨Nat.le_of_ble_eq_true rfl, Nat.le_of_ble_eq_true rfl⟩ rfl rfl 0 rfl rfl rfl (Nat.le_of_ble_eq_true rfl) dX7_digest_224 fun r38 S37 => ?_
    refine g_ladd (pc := 227) C dX7_digest_227 ?_
    refine g_nml fun y39 => ?_
    refine g_lstore_n (pc := 228) (i := 1) (lv2 := [(1, .long y39), (0, .ref (ad 0)), (3, .int x3)]) C dX7_digest_228 rfl (by decide) rfl ?_
    refine g_ldc2 (pc := 229) C q1260 dX7_digest_229 ?_
    refine g_lload_n (pc := 232) C dX7_digest_232 (i := 1) rfl 0 rfl ?_
    refine g_lmul (pc := 233) C dX7_digest_233 ?_
    refine g_aload_n (pc := 234) C dX7_digest_234 (i := 0) rfl 1 rfl ?_
    refine g_iload_n (pc := 235) C dX7_digest_235 (i := 3) rfl 2 rfl ?_
    refine g_iconst (pc := 236) (v := 2) C dX7_digest_236 (by decide) ?_
    refine g_iconst (pc := 237) (v := 3) C dX7_digest_237 (by decide) ?_
    refine g_iconst (pc := 238) (v := 1) C dX7_digest_238 (by decide) ?_
    refine g_callVl (pc := 239) (As := [.int _, .int _, .int _, .int _]) C q1202 mw_X7_clearOf (fun _ hz => c_X7_clearOf C.2.2.2.2.2.2.2.1 hz) ⟨Nat.le_of_ble_eq_true rfl, Nat.le_of_ble_eq_true rfl⟩ rfl rfl 0 rfl rfl rfl (Nat.le_of_ble_eq_true rfl) dX7_digest_239 fun r41 S40 => ?_
    refine g_ladd (pc := 242) C dX7_digest_242 ?_
    refine g_nml fun y42 => ?_
    refine g_lstore_n (pc := 243) (i := 1) (lv2 := [(1, .long y42), (0, .ref (ad 0)), (3, .int x3)]) C dX7_digest_243 rfl (by decide) rfl ?_
    refine g_iinc (pc := 244) (v := (x3 + 1)) (lv2 := [(3, .int (x3 + 1)), (1, .long y42), (0, .ref (ad 0))]) C dX7_digest_244 2 rfl rfl (by decide) rfl ?_
    refine g_goto (pc := 247) (tgt := 45) C dX7_digest_247 (by decide) ?_
    refine g_sub [2, 1, 0] rfl (hrec _ _ _)
set_option maxRecDepth 20000 in
theorem u_X7_digest_252 (C : Cx p s m args meth c cX7_digest 5 RX7 D (tyX cI cJ cZ) ad n (wM ad cI cJ cZ)) (hr : meth.sig.returnType = (some .long)) (k : Int64 → St → Option (Int64 × St)) (hk : ∀ (x1 : Int64) (S : St), GM p l e ({ frames := 8, cells := 0, slots := 0, locals := 191 } : Room) s m args below meth c D ad n (wM ad cI cJ cZ) 5 (QL D (wM ad cI cJ cZ) ad n args s below) (k x1 S) S 291 [(0, .ref (ad 0)), (1, .long x1)] []) (rec : Int64 → Int32 → St → Option (Int64 × St)) (hrec : ∀ (x1 : Int64) (x3 : Int32) (S : St), GM p l e ({ frames := 8, cells := 0, slots := 0, locals := 191 } : Room) s m args below meth c D ad n (wM ad cI cJ cZ) 5 (QL D (wM ad cI cJ cZ) ad n args s below) (rec x1 x3 S) S 252 [(0, .ref (ad 0)), (1, .long x1), (3, .int x3)] []) (x1 : Int64) (x3 : Int32) (S : St) : GM p l e ({ frames := 8, cells := 0, slots := 0, locals := 191 } : Room) s m args below meth c D ad n (wM ad cI cJ cZ) 5 (QL D (wM ad cI cJ cZ) ad n args s below) (b_X7_digest_252 k rec x1 x3 S) S 252 [(0, .ref (ad 0)), (1, .long x1), (3, .int x3)] [] := by
  unfold b_X7_digest_252
  refine g_iload_n (pc := 252) C dX7_digest_252 (i := 3) rfl 2 rfl ?_
  refine g_iconst (pc := 253) (v := 4) C dX7_digest_253 (by decide) ?_
  refine g_icmp_ge (pc := 254) (tgt := 291) C dX7_digest_254 (by decide) ?_ ?_
  · refine g_sub [0, 1] rfl (hk _ _)
  · refine g_ldc2 (pc := 257) C q1260 dX7_digest_257 ?_
    refine g_lload_n (pc := 260) C dX7_digest_260 (i := 1) rfl 1 rfl ?_
    refine g_lmul (pc := 261) C dX7_digest_261 ?_
    refine g_aload_n (pc := 262) C dX7_digest_262 (i := 0) rfl 0 rfl ?_
    refine g_iload_n (pc := 263) C dX7_digest_263 (i := 3) rfl 2 rfl ?_
    refine g_iconst (pc := 264) (v := 0) C dX7_digest_264 (by decide) ?_
    refine g_callVi (pc := 265) (As := [.int _, .int _]) C q1062 mw_X7_hasOf (fun _ hz => c_X7_hasOf C.2.2.2.2.2.2.2.1 hz) ⟨Nat.le_of_ble_eq_true rfl, Nat.le_of_ble_eq_true rfl⟩ rfl rfl 0 rfl rfl rfl (Nat.le_of_ble_eq_true rfl) dX7_digest_265 fun r45 S44 => ?_
    refine g_i2l (pc := 268) C dX7_digest_268 ?_
    refine g_ladd (pc := 269) C dX7_digest_269 ?_
    refine g_nml fun y46 => ?_
    refine g_lstore_n (pc := 270) (i := 1) (lv2 := [(1, .long y46), (0, .ref (ad 0)), (3, .int x3)]) C dX7_digest_270 rfl (by decide) rfl ?_
    refine g_ldc2 (pc := 271) C q1260 dX7_digest_271 ?_
    refine g_lload_n (pc := 274) C dX7_digest_274 (i := 1) rfl 0 rfl ?_
    refine g_lmul (pc := 275) C dX7_digest_275 ?_
    refine g_aload_n (pc := 276) C dX7_digest_276 (i := 0) rfl 1 rfl ?_
    refine g_iload_n (pc := 277) C dX7_digest_277 (i := 3) rfl 2 rfl ?_
    refine g_iconst (pc := 278) (v := 1) C dX7_digest_278 (by decide) ?_
    refine g_callVi (pc := 279) (As := [.int _, .int _]) C q1062 mw_X7_hasOf (fun _ hz => c_X7_hasOf C.2.2.2.2.2.2.2.1 hz) ⟨Nat.le_of_ble_eq_true rfl, Nat.le_of_ble_eq_true rfl⟩ rfl rfl 0 rfl rfl rfl (Nat.le_of_ble_eq_true rfl) dX7_digest_279 fun r48 S47 => ?_
    refine g_i2l (pc := 282) C dX7_digest_282 ?_
    refine g_ladd (pc := 283) C dX7_digest_283 ?_
    refine g_nml fun y49 => ?_
    refine g_lstore_n (pc := 284) (i := 1) (lv2 := [(1, .long y49), (0, .ref (ad 0)), (3, .int x3)]) C dX7_digest_284 rfl (by decide) rfl ?_
    refine g_iinc (pc := 285) (v := (x3 + 1)) (lv2 := [(3, .int (x3 + 1)), (1, .long y49), (0, .ref (ad 0))]) C dX7_digest_285 2 rfl rfl (by decide) rfl ?_
    refine g_goto (pc := 288) (tgt := 252) C dX7_digest_288 (by decide) ?_
    refine g_sub [2, 1, 0] rfl (hrec _ _ _)
set_option maxRecDepth 20000 in
theorem c_X7_digest {l : Launch} {D : va_G} {ad : Nat → Nat} {cI cJ cZ : ClassId} {n : Nat} (hD : ∀ sz S, va_D (Adr ad n sz) (wM ad cI cJ cZ S)) {S : St} {z : Int64 × St} (hf : m_X7_digest S = some z) : CtL l yX7_digest cX7_digest 5 (some .long) ({ frames := 8, cells := 0, slots := 0, locals := 191 } : Room) D (wM ad cI cJ cZ) (tyX cI cJ cZ) ad n [.ref (ad 0)] S z := by
  refine CtL.of hf (by decide +kernel) (Nat.le_of_ble_eq_true rfl) hD (fun p e s m args below meth c C hr => ?_)
  refine g_sub [0] (lv2 := [(0, .ref (ad 0))]) rfl ?_
  unfold m_X7_digest
  refine g_ldc2 (pc := 0) C q1259 dX7_digest_0 ?_
  refine g_lstore_n (pc := 3) (i := 1) (lv2 := [(1, .long (17 : Int64)), (0, .ref (ad 0))]) C dX7_digest_3 rfl (by decide) rfl ?_
  refine g_iconst (pc := 4) (v := 0) C dX7_digest_4 (by decide) ?_
  refine g_istore_n (pc := 5) (i := 3) (lv2 := [(3, .int (0 : Int32)), (1, .long (17 : Int64)), (0, .ref (ad 0))]) C dX7_digest_5 rfl (by decide) rfl ?_
  refine g_sub [2, 1, 0] (lv2 := [(0, .ref (ad 0)), (1, .long (17 : Int64)), (3, .int (0 : Int32))]) rfl ?_
  refine g_it2 (pc := 6) (u_X7_digest_6 C hr _ fun x1_S4 S4 => ?_) _ _ _ _
  refine g_ldc2 (pc := 31) C q1260 dX7_digest_31 ?_
  refine g_lload_n (pc := 34) C dX7_digest_34 (i := 1) rfl 1 rfl ?_
  refine g_lmul (pc := 35) C dX7_digest_35 ?_
  refine g_aload_n (pc := 36) C dX7_digest_36 (i := 0) rfl 0 rfl ?_
  refine g_callVi (pc := 37) (As := []) C q971 mw_X7_faultNow (fun _ hz => c_X7_faultNow C.2.2.2.2.2.2.2.1 hz) ⟨Nat.le_of_ble_eq_true rfl, Nat.le_of_ble_eq_true rfl⟩ rfl rfl 0 rfl rfl rfl (Nat.le_of_ble_eq_true rfl) dX7_digest_37 fun r6 S5 => ?_
  refine g_i2l (pc := 40) C dX7_digest_40 ?_
  refine g_ladd (pc := 41) C dX7_digest_41 ?_
  refine g_nml fun y7 => ?_
  refine g_lstore_n (pc := 42) (i := 1) (lv2 := [(1, .long y7), (0, .ref (ad 0))]) C dX7_digest_42 rfl (by decide) rfl ?_
  refine g_iconst (pc := 43) (v := 0) C dX7_digest_43 (by decide) ?_
  refine g_istore_n (pc := 44) (i := 3) (lv2 := [(3, .int (0 : Int32)), (1, .long y7), (0, .ref (ad 0))]) C dX7_digest_44 rfl (by decide) rfl ?_
  refine g_sub [2, 1, 0] (lv2 := [(0, .ref (ad 0)), (1, .long y7), (3, .int (0 : Int32))]) rfl ?_
  refine g_it2 (pc := 45) (u_X7_digest_45 C hr _ fun x1_S43 S43 => ?_) _ _ _ _
  refine g_iconst (pc := 250) (v := 0) C dX7_digest_250 (by decide) ?_
  refine g_istore_n (pc := 251) (i := 3) (lv2 := [(3, .int (0 : Int32)), (0, .ref (ad 0)), (1, .long x1_S43)]) C dX7_digest_251 rfl (by decide) rfl ?_
  refine g_sub [1, 2, 0] (lv2 := [(0, .ref (ad 0)), (1, .long x1_S43), (3, .int (0 : Int32))]) rfl ?_
  refine g_it2 (pc := 252) (u_X7_digest_252 C hr _ fun x1_S50 S50 => ?_) _ _ _ _
  refine g_ldc2 (pc := 291) C q1260 dX7_digest_291 ?_
  refine g_lload_n (pc := 294) C dX7_digest_294 (i := 1) rfl 1 rfl ?_
  refine g_lmul (pc := 295) C dX7_digest_295 ?_
  refine g_aload_n (pc := 296) C dX7_digest_296 (i := 0) rfl 0 rfl ?_
  refine g_iconst (pc := 297) (v := 0) C dX7_digest_297 (by decide) ?_
  refine g_callVi (pc := 298) (As := [.int _]) C q1070 mw_X7_partsOf (fun _ hz => c_X7_partsOf C.2.2.2.2.2.2.2.1 hz) ⟨Nat.le_of_ble_eq_true rfl, Nat.le_of_ble_eq_true rfl⟩ rfl rfl 0 rfl rfl rfl (Nat.le_of_ble_eq_true rfl) dX7_digest_298 fun r52 S51 => ?_
  refine g_i2l (pc := 301) C dX7_digest_301 ?_
  refine g_ladd (pc := 302) C dX7_digest_302 ?_
  refine g_nml fun y53 => ?_
  refine g_lstore_n (pc := 303) (i := 1) (lv2 := [(1, .long y53), (0, .ref (ad 0))]) C dX7_digest_303 rfl (by decide) rfl ?_
  refine g_ldc2 (pc := 304) C q1260 dX7_digest_304 ?_
  refine g_lload_n (pc := 307) C dX7_digest_307 (i := 1) rfl 0 rfl ?_
  refine g_lmul (pc := 308) C dX7_digest_308 ?_
  refine g_aload_n (pc := 309) C dX7_digest_309 (i := 0) rfl 1 rfl ?_
  refine g_iconst (pc := 310) (v := 1) C dX7_digest_310 (by decide) ?_
  refine g_callVi (pc := 311) (As := [.int _]) C q1070 mw_X7_partsOf (fun _ hz => c_X7_partsOf C.2.2.2.2.2.2.2.1 hz) ⟨Nat.le_of_ble_eq_true rfl, Nat.le_of_ble_eq_true rfl⟩ rfl rfl 0 rfl rfl rfl (Nat.le_of_ble_eq_true rfl) dX7_digest_311 fun r55 S54 => ?_
  refine g_i2l (pc := 314) C dX7_digest_314 ?_
  refine g_ladd (pc := 315) C dX7_digest_315 ?_
  refine g_nml fun y56 => ?_
  refine g_lstore_n (pc := 316) (i := 1) (lv2 := [(1, .long y56), (0, .ref (ad 0))]) C dX7_digest_316 rfl (by decide) rfl ?_
  refine g_ldc2 (pc := 317) C q1260 dX7_digest_317 ?_
  refine g_lload_n (pc := 320) C dX7_digest_320 (i := 1) rfl 0 rfl ?_
  refine g_lmul (pc := 321) C dX7_digest_321 ?_
  refine g_aload_n (pc := 322) C dX7_digest_322 (i := 0) rfl 1 rfl ?_
  refine g_iconst (pc := 323) (v := 0) C dX7_digest_323 (by decide) ?_
  refine g_sipush (pc := 324) (v := 900) C dX7_digest_324 (by decide) ?_
  refine g_iconst (pc := 327) (v := 0) C dX7_digest_327 (by decide) ?_
  refine g_callVi (pc := 328) (As := [.int _, .int _, .int _]) C q1262 mw_X7_again (fun _ hz => c_X7_again C.2.2.2.2.2.2.2.1 hz) ⟨Nat.le_of_ble_eq_true rfl, Nat.le_of_ble_eq_true rfl⟩ rfl rfl 0 rfl rfl rfl (Nat.le_of_ble_eq_true rfl) dX7_digest_328 fun r58 S57 => ?_
  refine g_i2l (pc := 331) C dX7_digest_331 ?_
  refine g_ladd (pc := 332) C dX7_digest_332 ?_
  refine g_nml fun y59 => ?_
  refine g_lstore_n (pc := 333) (i := 1) (lv2 := [(1, .long y59), (0, .ref (ad 0))]) C dX7_digest_333 rfl (by decide) rfl ?_
  refine g_ldc2 (pc := 334) C q1260 dX7_digest_334 ?_
  refine g_lload_n (pc := 337) C dX7_digest_337 (i := 1) rfl 0 rfl ?_
  refine g_lmul (pc := 338) C dX7_digest_338 ?_
  refine g_aload_n (pc := 339) C dX7_digest_339 (i := 0) rfl 1 rfl ?_
  refine g_iconst (pc := 340) (v := 0) C dX7_digest_340 (by decide) ?_
  refine g_callVi (pc := 341) (As := [.int _]) C q1159 mw_X7_changesOf (fun _ hz => c_X7_changesOf C.2.2.2.2.2.2.2.1 hz) ⟨Nat.le_of_ble_eq_true rfl, Nat.le_of_ble_eq_true rfl⟩ rfl rfl 0 rfl rfl rfl (Nat.le_of_ble_eq_true rfl) dX7_digest_341 fun r61 S60 => ?_
  refine g_i2l (pc := 344) C dX7_digest_344 ?_
  refine g_ladd (pc := 345) C dX7_digest_345 ?_
  refine g_nml fun y62 => ?_
  refine g_lstore_n (pc := 346) (i := 1) (lv2 := [(1, .long y62), (0, .ref (ad 0))]) C dX7_digest_346 rfl (by decide) rfl ?_
  refine g_ldc2 (pc := 347) C q1260 dX7_digest_347 ?_
  refine g_lload_n (pc := 350) C dX7_digest_350 (i := 1) rfl 0 rfl ?_
  refine g_lmul (pc := 351) C dX7_digest_351 ?_
  refine g_aload_n (pc := 352) C dX7_digest_352 (i := 0) rfl 1 rfl ?_
  refine g_iconst (pc := 353) (v := 1) C dX7_digest_353 (by decide) ?_
  refine g_callVi (pc := 354) (As := [.int _]) C q1159 mw_X7_changesOf (fun _ hz => c_X7_changesOf C.2.2.2.2.2.2.2.1 hz) ⟨Nat.le_of_ble_eq_true rfl, Nat.le_of_ble_eq_true rfl⟩ rfl rfl 0 rfl rfl rfl (Nat.le_of_ble_eq_true rfl) dX7_digest_354 fun r64 S63 => ?_
  refine g_i2l (pc := 357) C dX7_digest_357 ?_
  refine g_ladd (pc := 358) C dX7_digest_358 ?_
  refine g_nml fun y65 => ?_
  refine g_lstore_n (pc := 359) (i := 1) (lv2 := [(1, .long y65), (0, .ref (ad 0))]) C dX7_digest_359 rfl (by decide) rfl ?_
  refine g_ldc2 (pc := 360) C q1260 dX7_digest_360 ?_
  refine g_lload_n (pc := 363) C dX7_digest_363 (i := 1) rfl 0 rfl ?_
  refine g_lmul (pc := 364) C dX7_digest_364 ?_
  refine g_aload_n (pc := 365) C dX7_digest_365 (i := 0) rfl 1 rfl ?_
  refine g_iconst (pc := 366) (v := -1) C dX7_digest_366 (by decide) ?_
  refine g_callVi (pc := 367) (As := [.int _]) C q1171 mw_X7_setOf (fun _ hz => c_X7_setOf C.2.2.2.2.2.2.2.1 hz) ⟨Nat.le_of_ble_eq_true rfl, Nat.le_of_ble_eq_true rfl⟩ rfl rfl 0 rfl rfl rfl (Nat.le_of_ble_eq_true rfl) dX7_digest_367 fun r67 S66 => ?_
  refine g_i2l (pc := 370) C dX7_digest_370 ?_
  refine g_ladd (pc := 371) C dX7_digest_371 ?_
  refine g_nml fun y68 => ?_
  refine g_lstore_n (pc := 372) (i := 1) (lv2 := [(1, .long y68), (0, .ref (ad 0))]) C dX7_digest_372 rfl (by decide) rfl ?_
  refine g_ldc2 (pc := 373) C q1260 dX7_digest_373 ?_
  refine g_lload_n (pc := 376) C dX7_digest_376 (i := 1) rfl 0 rfl ?_
  refine g_lmul (pc := 377) C dX7_digest_377 ?_
  refine g_aload_n (pc := 378) C dX7_digest_378 (i := 0) rfl 1 rfl ?_
  refine g_iconst (pc := 379) (v := 0) C dX7_digest_379 (by decide) ?_
  refine g_callVi (pc := 380) (As := [.int _]) C q1190 mw_X7_whoseOf (fun _ hz => c_X7_whoseOf C.2.2.2.2.2.2.2.1 hz) ⟨Nat.le_of_ble_eq_true rfl, Nat.le_of_ble_eq_true rfl⟩ rfl rfl 0 rfl rfl rfl (Nat.le_of_ble_eq_true rfl) dX7_digest_380 fun r70 S69 => ?_
  refine g_i2l (pc := 383) C dX7_digest_383 ?_
  refine g_ladd (pc := 384) C dX7_digest_384 ?_
  refine g_nml fun y71 => ?_
  refine g_lstore_n (pc := 385) (i := 1) (lv2 := [(1, .long y71), (0, .ref (ad 0))]) C dX7_digest_385 rfl (by decide) rfl ?_
  refine g_ldc2 (pc := 386) C q1260 dX7_digest_386 ?_
  refine g_lload_n (pc := 389) C dX7_digest_389 (i := 1) rfl 0 rfl ?_
  refine g_lmul (pc := 390) C dX7_digest_390 ?_
  refine g_aload_n (pc := 391) C dX7_digest_391 (i := 0) rfl 1 rfl ?_
  refine g_iconst (pc := 392) (v := 1) C dX7_digest_392 (by decide) ?_
  refine g_callVi (pc := 393) (As := [.int _]) C q1190 mw_X7_whoseOf (fun _ hz => c_X7_whoseOf C.2.2.2.2.2.2.2.1 hz) ⟨Nat.le_of_ble_eq_true rfl, Nat.le_of_ble_eq_true rfl⟩ rfl rfl 0 rfl rfl rfl (Nat.le_of_ble_eq_true rfl) dX7_digest_393 fun r73 S72 => ?_
  refine g_i2l (pc := 396) C dX7_digest_396 ?_
  refine g_ladd (pc := 397) C dX7_digest_397 ?_
  exact g_lret (pc := 398) C hr dX7_digest_398
end MM
