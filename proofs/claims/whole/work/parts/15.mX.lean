section MM
variable {p : Program} {l : Launch} {e : Env} {s : State} {m : MethodId} {args : Array Value} {below : List Frame} {meth : Method} {c : Code} {D : va_G} {ad : Nat → Nat} {n : Nat} {cI cJ cZ : ClassId}
noncomputable def b_X3_plant_14_2 (x2 : Int32) (k : St → Option (St)) (rec : Int32 → St → Option (St)) (x3 : Int32) (S : St) : Option (St) :=
if x3 < (125 : Int32) then (
chk ((x2 * (125 : Int32)) + x3) 1625 <|
nm (sI S 20 (ix ((x2 * (125 : Int32)) + x3)) (0 : Int32)) fun S1 =>
rec (x3 + 1) S1)
else
k S
noncomputable def b_X3_plant_14_37 (x2 : Int32) (x3 : Int32) (k : St → Option (St)) (rec : Int32 → St → Option (St)) (x4 : Int32) (S : St) : Option (St) :=
if x4 < (125 : Int32) then (
chk x3 12 <|
bnd (m_X3_bestFrom x3 x4 (gI S 14 (ix x3)) S) fun r5 S4 =>
chk ((x3 * (125 : Int32)) + x4) 1625 <|
nm (sI S4 20 (ix ((x3 * (125 : Int32)) + x4)) r5) fun S6 =>
rec (x4 + 1) S6)
else
k S
noncomputable def b_X3_plant_14_30 (x2 : Int32) (k : St → Option (St)) (rec : Int32 → St → Option (St)) (x3 : Int32) (S : St) : Option (St) :=
if x3 < 0 then (
k S)
else
it1 (b_X3_plant_14_37 x2 x3 (fun S7 =>
rec (x3 + (-1)) S7)) 5000 (0 : Int32) S
noncomputable def b_X3_plant_14_83 (x2 : Int32) (k : St → Option (St)) (rec : Int32 → Int32 → St → Option (St)) (x3 : Int32) (x4 : Int32) (S : St) : Option (St) :=
if x4 < x2 then (
chk x4 12 <|
bnd (m_X3_leastSort x4 x3 (gI S 14 (ix x4)) S) fun r10 S9 =>
chk x4 12 <|
nm (sI S9 19 (ix x4) r10) fun S11 =>
chk x4 12 <|
bnd (m_X3_weightOf (gI S11 19 (ix x4)) S11) fun r13 S12 =>
nm ((x3 + r13)) fun y14 =>
rec y14 (x4 + 1) S12)
else
k S
noncomputable def m_X3_plant_14 (x2 : Int32) (S : St) : Option (St) :=
it1 (b_X3_plant_14_2 x2 (fun S2 =>
nm ((x2 - (1 : Int32))) fun y3 =>
it1 (b_X3_plant_14_30 x2 (fun S8 =>
it2 (b_X3_plant_14_83 x2 (fun S15 =>
some S15)) 5000 (0 : Int32) (0 : Int32) S8)) 5000 y3 S2)) 5000 (0 : Int32) S
set_option maxRecDepth 20000 in
theorem u_X3_plant_14_2 (C : Cx p s m args meth c cX3_plant 5 RX3 D (tyX cI cJ cZ) ad n (wX ad cI cJ cZ)) (hr : meth.sig.returnType = none) (x2 : Int32) (k : St → Option (St)) (hk : ∀ (S : St), GM p l e ({ frames := 3, cells := 0, slots := 0, locals := 69 } : Room) s m args below meth c D ad n (wX ad cI cJ cZ) 5 (QV D (wX ad cI cJ cZ) ad n args s below) (k S) S 26 [(0, .ref (ad 4)), (1, .ref (ad 14)), (2, .int x2)] []) (rec : Int32 → St → Option (St)) (hrec : ∀ (x3 : Int32) (S : St), GM p l e ({ frames := 3, cells := 0, slots := 0, locals := 69 } : Room) s m args below meth c D ad n (wX ad cI cJ cZ) 5 (QV D (wX ad cI cJ cZ) ad n args s below) (rec x3 S) S 2 [(0, .ref (ad 4)), (1, .ref (ad 14)), (2, .int x2), (3, .int x3)] []) (x3 : Int32) (S : St) : GM p l e ({ frames := 3, cells := 0, slots := 0, locals := 69 } : Room) s m args below meth c D ad n (wX ad cI cJ cZ) 5 (QV D (wX ad cI cJ cZ) ad n args s below) (b_X3_plant_14_2 x2 k rec x3 S) S 2 [(0, .ref (ad 4)), (1, .ref (ad 14)), (2, .int x2), (3, .int x3)] [] := by
  unfold b_X3_plant_14_2
  refine g_iload_n (pc := 2) C dX3_plant_2 (i := 3) rfl 3 rfl ?_
  refine g_bipush (pc := 3) (v := 125) C dX3_plant_3 (by decide) ?_
  refine g_icmp_ge (pc := 5) (tgt := 26) C dX3_plant_5 (by decide) ?_ ?_
  · refine g_sub [0, 1, 2] rfl (hk _)
  · refine g_aload_n (pc := 8) C dX3_plant_8 (i := 0) rfl 0 rfl ?_
    refine gt_X3_most (pc := 9) C q201 dX3_plant_9 ?_
    refine g_iload_n (pc := 12) C dX3_plant_12 (i := 2) rfl 2 rfl ?_
    refine g_bipush (pc := 13) (v := 125) C dX3_plant_13 (by decide) ?_
    refine g_imul (pc := 15) C dX3_plant_15 ?_
    refine g_iload_n (pc := 16) C dX3_plant_16 (i := 3) rfl 3 rfl ?_
    refine g_iadd (pc := 17) C dX3_plant_17 ?_
    refine g_iconst (pc := 18) (v := 0) C dX3_plant_18 (by decide) ?_
    refine as_X3_most (pc := 19) C dX3_plant_19 fun S1 => ?_
    refine g_iinc (pc := 20) (v := (x3 + 1)) (lv2 := [(3, .int (x3 + 1)), (0, .ref (ad 4)), (1, .ref (ad 14)), (2, .int x2)]) C dX3_plant_20 3 rfl rfl (by decide) rfl ?_
    refine g_goto (pc := 23) (tgt := 2) C dX3_plant_23 (by decide) ?_
    refine g_sub [1, 2, 3, 0] rfl (hrec _ _)
set_option maxRecDepth 20000 in
theorem u_X3_plant_14_37 (C : Cx p s m args meth c cX3_plant 5 RX3 D (tyX cI cJ cZ) ad n (wX ad cI cJ cZ)) (hr : meth.sig.returnType = none) (x2 : Int32) (x3 : Int32) (k : St → Option (St)) (hk : ∀ (S : St), GM p l e ({ frames := 3, cells := 0, slots := 0, locals := 69 } : Room) s m args below meth c D ad n (wX ad cI cJ cZ) 5 (QV D (wX ad cI cJ cZ) ad n args s below) (k S) S 72 [(0, .ref (ad 4)), (1, .ref (ad 14)), (2, .int x2), (3, .int x3)] []) (rec : Int32 → St → Option (St)) (hrec : ∀ (x4 : Int32) (S : St), GM p l e ({ frames := 3, cells := 0, slots := 0, locals := 69 } : Room) s m args below meth c D ad n (wX ad cI cJ cZ) 5 (QV D (wX ad cI cJ cZ) ad n args s below) (rec x4 S) S 37 [(0, .ref (ad 4)), (1, .ref (ad 14)), (2, .int x2), (3, .int x3), (4, .int x4)] []) (x4 : Int32) (S : St) : GM p l e ({ frames := 3, cells := 0, slots := 0, locals := 69 } : Room) s m args below meth c D ad n (wX ad cI cJ cZ) 5 (QV D (wX ad cI cJ cZ) ad n args s below) (b_X3_plant_14_37 x2 x3 k rec x4 S) S 37 [(0, .ref (ad 4)), (1, .ref (ad 14)), (2, .int x2), (3, .int x3), (4, .int x4)] [] := by
  unfold b_X3_plant_14_37
  refine g_iload (pc := 37) C dX3_plant_37 4 rfl ?_
  refine g_bipush (pc := 39) (v := 125) C dX3_plant_39 (by decide) ?_
  refine g_icmp_ge (pc := 41) (tgt := 72) C dX3_plant_41 (by decide) ?_ ?_
  · refine g_sub [0, 1, 2, 3] rfl (hk _)
  · refine g_aload_n (pc := 44) C dX3_plant_44 (i := 0) rfl 0 rfl ?_
    refine gt_X3_most (pc := 45) C q201 dX3_plant_45 ?_
    refine g_iload_n (pc := 48) C dX3_plant_48 (i := 3) rfl 3 rfl ?_
    refine g_bipush (pc := 49) (v := 125) C dX3_plant_49 (by decide) ?_
    refine g_imul (pc := 51) C dX3_plant_51 ?_
    refine g_iload (pc := 52) C dX3_plant_52 4 rfl ?_
    refine g_iadd (pc := 54) C dX3_plant_54 ?_
    refine g_aload_n (pc := 55) C dX3_plant_55 (i := 0) rfl 0 rfl ?_
    refine g_iload_n (pc := 56) C dX3_plant_56 (i := 3) rfl 3 rfl ?_
    refine g_iload (pc := 57) C dX3_plant_57 4 rfl ?_
    refine g_aload_n (pc := 59) C dX3_plant_59 (i := 1) rfl 1 rfl ?_
    refine g_iload_n (pc := 60) C dX3_plant_60 (i := 3) rfl 3 rfl ?_
    refine al_X5_cellYears (pc := 61) C dX3_plant_61 ?_
    refine g_callVi (pc := 62) (As := [.int _, .int _, .int _]) C q667 mw_X3_bestFrom (fun _ hz => c_X3_bestFrom C.2.2.2.2.2.2.2.1 hz) ⟨Nat.le_of_ble_eq_true rfl, Nat.le_of_ble_eq_true rfl⟩ rfl rfl 4 rfl rfl rfl (Nat.le_of_ble_eq_true rfl) dX3_plant_62 fun r5 S4 => ?_
    refine as_X3_most (pc := 65) C dX3_plant_65 fun S6 => ?_
    refine g_iinc (pc := 66) (v := (x4 + 1)) (lv2 := [(4, .int (x4 + 1)), (0, .ref (ad 4)), (1, .ref (ad 14)), (2, .int x2), (3, .int x3)]) C dX3_plant_66 4 rfl rfl (by decide) rfl ?_
    refine g_goto (pc := 69) (tgt := 37) C dX3_plant_69 (by decide) ?_
    refine g_sub [1, 2, 3, 4, 0] rfl (hrec _ _)
set_option maxRecDepth 20000 in
theorem u_X3_plant_14_30 (C : Cx p s m args meth c cX3_plant 5 RX3 D (tyX cI cJ cZ) ad n (wX ad cI cJ cZ)) (hr : meth.sig.returnType = none) (x2 : Int32) (k : St → Option (St)) (hk : ∀ (S : St), GM p l e ({ frames := 3, cells := 0, slots := 0, locals := 69 } : Room) s m args below meth c D ad n (wX ad cI cJ cZ) 5 (QV D (wX ad cI cJ cZ) ad n args s below) (k S) S 78 [(0, .ref (ad 4)), (1, .ref (ad 14)), (2, .int x2)] []) (rec : Int32 → St → Option (St)) (hrec : ∀ (x3 : Int32) (S : St), GM p l e ({ frames := 3, cells := 0, slots := 0, locals := 69 } : Room) s m args below meth c D ad n (wX ad cI cJ cZ) 5 (QV D (wX ad cI cJ cZ) ad n args s below) (rec x3 S) S 30 [(0, .ref (ad 4)), (1, .ref (ad 14)), (2, .int x2), (3, .int x3)] []) (x3 : Int32) (S : St) : GM p l e ({ frames := 3, cells := 0, slots := 0, locals := 69 } : Room) s m args below meth c D ad n (wX ad cI cJ cZ) 5 (QV D (wX ad cI cJ cZ) ad n args s below) (b_X3_plant_14_30 x2 k rec x3 S) S 30 [(0, .ref (ad 4)), (1, .ref (ad 14)), (2, .int x2), (3, .int x3)] [] := by
  unfold b_X3_plant_14_30
  refine g_iload_n (pc := 30) C dX3_plant_30 (i := 3) rfl 3 rfl ?_
  refine g_if_lt (pc := 31) (tgt := 78) C dX3_plant_31 (by decide) ?_ ?_
  · refine g_sub [0, 1, 2] rfl (hk _)
  · refine g_iconst (pc := 34) (v := 0) C dX3_plant_34 (by decide) ?_
    refine g_istore (pc := 35) (i := 4) (j := 0) (lv2 := [(4, .int (0 : Int32)), (0, .ref (ad 4)), (1, .ref (ad 14)), (2, .int x2), (3, .int x3)]) C dX3_plant_35 (by decide) rfl ?_
    refine g_sub [1, 2, 3, 4, 0] (lv2 := [(0, .ref (ad 4)), (1, .ref (ad 14)), (2, .int x2), (3, .int x3), (4, .int (0 : Int32))]) rfl ?_
    refine g_it1 (pc := 37) (u_X3_plant_14_37 C hr _ _ _ fun S7 => ?_) _ _ _
    refine g_iinc (pc := 72) (v := (x3 + (-1))) (lv2 := [(3, .int (x3 + (-1))), (0, .ref (ad 4)), (1, .ref (ad 14)), (2, .int x2)]) C dX3_plant_72 3 rfl rfl (by decide) rfl ?_
    refine g_goto (pc := 75) (tgt := 30) C dX3_plant_75 (by decide) ?_
    refine g_sub [1, 2, 3, 0] rfl (hrec _ _)
set_option maxRecDepth 20000 in
theorem u_X3_plant_14_83 (C : Cx p s m args meth c cX3_plant 5 RX3 D (tyX cI cJ cZ) ad n (wX ad cI cJ cZ)) (hr : meth.sig.returnType = none) (x2 : Int32) (k : St → Option (St)) (hk : ∀ (S : St), GM p l e ({ frames := 3, cells := 0, slots := 0, locals := 69 } : Room) s m args below meth c D ad n (wX ad cI cJ cZ) 5 (QV D (wX ad cI cJ cZ) ad n args s below) (k S) S 126 [] []) (rec : Int32 → Int32 → St → Option (St)) (hrec : ∀ (x3 : Int32) (x4 : Int32) (S : St), GM p l e ({ frames := 3, cells := 0, slots := 0, locals := 69 } : Room) s m args below meth c D ad n (wX ad cI cJ cZ) 5 (QV D (wX ad cI cJ cZ) ad n args s below) (rec x3 x4 S) S 83 [(0, .ref (ad 4)), (1, .ref (ad 14)), (2, .int x2), (3, .int x3), (4, .int x4)] []) (x3 : Int32) (x4 : Int32) (S : St) : GM p l e ({ frames := 3, cells := 0, slots := 0, locals := 69 } : Room) s m args below meth c D ad n (wX ad cI cJ cZ) 5 (QV D (wX ad cI cJ cZ) ad n args s below) (b_X3_plant_14_83 x2 k rec x3 x4 S) S 83 [(0, .ref (ad 4)), (1, .ref (ad 14)), (2, .int x2), (3, .int x3), (4, .int x4)] [] := by
  unfold b_X3_plant_14_83
  refine g_iload (pc := 83) C dX3_plant_83 4 rfl ?_
  refine g_iload_n (pc := 85) C dX3_plant_85 (i := 2) rfl 2 rfl ?_
  refine g_icmp_ge (pc := 86) (tgt := 126) C dX3_plant_86 (by decide) ?_ ?_
  · refine g_sub [] rfl (hk _)
  · refine g_aload_n (pc := 89) C dX3_plant_89 (i := 0) rfl 0 rfl ?_
    refine gt_X3_sorts (pc := 90) C q200 dX3_plant_90 ?_
    refine g_iload (pc := 93) C dX3_plant_93 4 rfl ?_
    refine g_aload_n (pc := 95) C dX3_plant_95 (i := 0) rfl 0 rfl ?_
    refine g_iload (pc := 96) C dX3_plant_96 4 rfl ?_
    refine g_iload_n (pc := 98) C dX3_plant_98 (i := 3) rfl 3 rfl ?_
    refine g_aload_n (pc := 99) C dX3_plant_99 (i := 1) rfl 1 rfl ?_
    refine g_iload (pc := 100) C dX3_plant_100 4 rfl ?_
    refine al_X5_cellYears (pc := 102) C dX3_plant_102 ?_
    refine g_callVi (pc := 103) (As := [.int _, .int _, .int _]) C q686 mw_X3_leastSort (fun _ hz => c_X3_leastSort C.2.2.2.2.2.2.2.1 hz) ⟨Nat.le_of_ble_eq_true rfl, Nat.le_of_ble_eq_true rfl⟩ rfl rfl 4 rfl rfl rfl (Nat.le_of_ble_eq_true rfl) dX3_plant_103 fun r10 S9 => ?_
    refine as_X3_sorts (pc := 106) C dX3_plant_106 fun S11 => ?_
    refine g_iload_n (pc := 107) C dX3_plant_107 (i := 3) rfl 3 rfl ?_
    refine g_aload_n (pc := 108) C dX3_plant_108 (i := 0) rfl 0 rfl ?_
    refine gt_X3_sorts (pc := 109) C q200 dX3_plant_109 ?_
    refine g_iload (pc := 112) C dX3_plant_112 4 rfl ?_
    refine al_X3_sorts (pc := 114) C dX3_plant_114 ?_
    refine g_callSi (pc := 115) (As := [.int _]) C q675 mw_X3_weightOf (fun _ hz => c_X3_weightOf C.2.2.2.2.2.2.2.1 hz) ⟨Nat.le_of_ble_eq_true rfl, Nat.le_of_ble_eq_true rfl⟩ rfl rfl rfl (Nat.le_of_ble_eq_true rfl) dX3_plant_115 fun r13 S12 => ?_
    refine g_iadd (pc := 118) C dX3_plant_118 ?_
    refine g_nmi fun y14 => ?_
    refine g_istore_n (pc := 119) (i := 3) (lv2 := [(3, .int y14), (0, .ref (ad 4)), (1, .ref (ad 14)), (2, .int x2), (4, .int x4)]) C dX3_plant_119 rfl (by decide) rfl ?_
    refine g_iinc (pc := 120) (v := (x4 + 1)) (lv2 := [(4, .int (x4 + 1)), (3, .int y14), (0, .ref (ad 4)), (1, .ref (ad 14)), (2, .int x2)]) C dX3_plant_120 4 rfl rfl (by decide) rfl ?_
    refine g_goto (pc := 123) (tgt := 83) C dX3_plant_123 (by decide) ?_
    refine g_sub [2, 3, 4, 1, 0] rfl (hrec _ _ _)
set_option maxRecDepth 20000 in
theorem c_X3_plant_14 {l : Launch} {D : va_G} {ad : Nat → Nat} {cI cJ cZ : ClassId} {n : Nat} (hD : ∀ sz S, va_D (Adr ad n sz) (wX ad cI cJ cZ S)) {x2 : Int32} {S : St} {z : St} (hf : m_X3_plant_14 x2 S = some z) : CtV l yX3_plant cX3_plant 5 none ({ frames := 3, cells := 0, slots := 0, locals := 69 } : Room) D (wX ad cI cJ cZ) (tyX cI cJ cZ) ad n [.ref (ad 4), .ref (ad 14), .int x2] S z := by
  refine CtV.of hf (by decide +kernel) (Nat.le_of_ble_eq_true rfl) hD (fun p e s m args below meth c C hr => ?_)
  refine g_sub [0, 1, 2] (lv2 := [(0, .ref (ad 4)), (1, .ref (ad 14)), (2, .int x2)]) rfl ?_
  unfold m_X3_plant_14
  refine g_iconst (pc := 0) (v := 0) C dX3_plant_0 (by decide) ?_
  refine g_istore_n (pc := 1) (i := 3) (lv2 := [(3, .int (0 : Int32)), (0, .ref (ad 4)), (1, .ref (ad 14)), (2, .int x2)]) C dX3_plant_1 rfl (by decide) rfl ?_
  refine g_sub [1, 2, 3, 0] (lv2 := [(0, .ref (ad 4)), (1, .ref (ad 14)), (2, .int x2), (3, .int (0 : Int32))]) rfl ?_
  refine g_it1 (pc := 2) (u_X3_plant_14_2 C hr _ _ fun S2 => ?_) _ _ _
  refine g_iload_n (pc := 26) C dX3_plant_26 (i := 2) rfl 2 rfl ?_
  refine g_iconst (pc := 27) (v := 1) C dX3_plant_27 (by decide) ?_
  refine g_isub (pc := 28) C dX3_plant_28 ?_
  refine g_nmi fun y3 => ?_
  refine g_istore_n (pc := 29) (i := 3) (lv2 := [(3, .int y3), (0, .ref (ad 4)), (1, .ref (ad 14)), (2, .int x2)]) C dX3_plant_29 rfl (by decide) rfl ?_
  refine g_sub [1, 2, 3, 0] (lv2 := [(0, .ref (ad 4)), (1, .ref (ad 14)), (2, .int x2), (3, .int y3)]) rfl ?_
  refine g_it1 (pc := 30) (u_X3_plant_14_30 C hr _ _ fun S8 => ?_) _ _ _
  refine g_iconst (pc := 78) (v := 0) C dX3_plant_78 (by decide) ?_
  refine g_istore_n (pc := 79) (i := 3) (lv2 := [(3, .int (0 : Int32)), (0, .ref (ad 4)), (1, .ref (ad 14)), (2, .int x2)]) C dX3_plant_79 rfl (by decide) rfl ?_
  refine g_iconst (pc := 80) (v := 0) C dX3_plant_80 (by decide) ?_
  refine g_istore (pc := 81) (i := 4) (j := 0) (lv2 := [(4, .int (0 : Int32)), (3, .int (0 : Int32)), (0, .ref (ad 4)), (1, .ref (ad 14)), (2, .int x2)]) C dX3_plant_81 (by decide) rfl ?_
  refine g_sub [2, 3, 4, 1, 0] (lv2 := [(0, .ref (ad 4)), (1, .ref (ad 14)), (2, .int x2), (3, .int (0 : Int32)), (4, .int (0 : Int32))]) rfl ?_
  refine g_it2 (pc := 83) (u_X3_plant_14_83 C hr _ _ fun S15 => ?_) _ _ _ _
  exact g_vret (pc := 126) C hr dX3_plant_126
noncomputable def m_X6_set (x1 : Int32) (S : St) : Option (Int32 × St) :=
if x1 = (-1 : Int32) then (
if (gI S 57 0) = 0 then (
bndV (m_X5_years S) fun S5 =>
bnd (m_X1_cells S5) fun r8 S7 =>
bndV (m_X3_plant_14 r8 S7) fun S9 =>
nm (sI S9 57 0 (1 : Int32)) fun S11 =>
if x1 = (-1 : Int32) then (
bnd (m_X3_mostPaid S11) fun r15 S14 =>
some (r15, S14))
else
bnd (m_X3_sortOn x1 S11) fun r13 S12 =>
some (r13, S12))
else
if x1 = (-1 : Int32) then (
bnd (m_X3_mostPaid S) fun r4 S3 =>
some (r4, S3))
else
bnd (m_X3_sortOn x1 S) fun r2 S1 =>
some (r2, S1))
else
bnd (m_X6_isCell x1 S) fun r17 S16 =>
if r17 = 0 then (
some ((-2 : Int32), S16))
else
if (gI S16 57 0) = 0 then (
bndV (m_X5_years S16) fun S22 =>
bnd (m_X1_cells S22) fun r25 S24 =>
bndV (m_X3_plant_14 r25 S24) fun S26 =>
nm (sI S26 57 0 (1 : Int32)) fun S28 =>
if x1 = (-1 : Int32) then (
bnd (m_X3_mostPaid S28) fun r32 S31 =>
some (r32, S31))
else
bnd (m_X3_sortOn x1 S28) fun r30 S29 =>
some (r30, S29))
else
if x1 = (-1 : Int32) then (
bnd (m_X3_mostPaid S16) fun r21 S20 =>
some (r21, S20))
else
bnd (m_X3_sortOn x1 S16) fun r19 S18 =>
some (r19, S18)
set_option maxRecDepth 20000 in
theorem c_X6_set {l : Launch} {D : va_G} {ad : Nat → Nat} {cI cJ cZ : ClassId} {n : Nat} (hD : ∀ sz S, va_D (Adr ad n sz) (wX ad cI cJ cZ S)) {x1 : Int32} {S : St} {z : Int32 × St} (hf : m_X6_set x1 S = some z) : CtI l yX6_set cX6_set 2 (some .int) ({ frames := 4, cells := 0, slots := 0, locals := 93 } : Room) D (wX ad cI cJ cZ) (tyX cI cJ cZ) ad n [.ref (ad 0), .int x1] S z := by
  refine CtI.of hf (by decide +kernel) (Nat.le_of_ble_eq_true rfl) hD (fun p e s m args below meth c C hr => ?_)
  refine g_sub [0, 1] (lv2 := [(0, .ref (ad 0)), (1, .int x1)]) rfl ?_
  unfold m_X6_set
  refine g_iload_n (pc := 0) C dX6_set_0 (i := 1) rfl 1 rfl ?_
  refine g_iconst (pc := 1) (v := -1) C dX6_set_1 (by decide) ?_
  refine g_icmp_eq (pc := 2) (tgt := 16) C dX6_set_2 (by decide) ?_ ?_
  · refine g_aload_n (pc := 16) C dX6_set_16 (i := 0) rfl 0 rfl ?_
    refine gt_X6_plantsKnown (pc := 17) C q263 dX6_set_17 ?_
    refine g_if_ne (pc := 20) (tgt := 49) C dX6_set_20 (by decide) ?_ ?_
    · refine g_iload_n (pc := 49) C dX6_set_49 (i := 1) rfl 1 rfl ?_
      refine g_iconst (pc := 50) (v := -1) C dX6_set_50 (by decide) ?_
      refine g_icmp_ne (pc := 51) (tgt := 64) C dX6_set_51 (by decide) ?_ ?_
      · refine g_aload_n (pc := 64) C dX6_set_64 (i := 0) rfl 0 rfl ?_
        refine gt_X6_planting (pc := 65) C q250 dX6_set_65 ?_
        refine g_iload_n (pc := 68) C dX6_set_68 (i := 1) rfl 1 rfl ?_
        refine g_callVi (pc := 69) (As := [.int _]) C q694 mw_X3_sortOn (fun _ hz => c_X3_sortOn C.2.2.2.2.2.2.2.1 hz) ⟨Nat.le_of_ble_eq_true rfl, Nat.le_of_ble_eq_true rfl⟩ rfl rfl 4 rfl rfl rfl (Nat.le_of_ble_eq_true rfl) dX6_set_69 fun r2 S1 => ?_
        exact g_iret (pc := 72) C hr dX6_set_72
      · refine g_aload_n (pc := 54) C dX6_set_54 (i := 0) rfl 0 rfl ?_
        refine gt_X6_planting (pc := 55) C q250 dX6_set_55 ?_
        refine g_callVi (pc := 58) (As := []) C q690 mw_X3_mostPaid (fun _ hz => c_X3_mostPaid C.2.2.2.2.2.2.2.1 hz) ⟨Nat.le_of_ble_eq_true rfl, Nat.le_of_ble_eq_true rfl⟩ rfl rfl 4 rfl rfl rfl (Nat.le_of_ble_eq_true rfl) dX6_set_58 fun r4 S3 => ?_
        refine g_goto (pc := 61) (tgt := 72) C dX6_set_61 (by decide) ?_
        exact g_iret (pc := 72) C hr dX6_set_72
    · refine g_aload_n (pc := 23) C dX6_set_23 (i := 0) rfl 0 rfl ?_
      refine gt_X6_planting (pc := 24) C q250 dX6_set_24 ?_
      refine g_aload_n (pc := 27) C dX6_set_27 (i := 0) rfl 0 rfl ?_
      refine gt_X6_sun (pc := 28) C q247 dX6_set_28 ?_
      refine g_callVr (pc := 31) (As := []) C q499 mw_X5_years (fun _ hz => c_X5_years C.2.2.2.2.2.2.2.1 hz) ⟨Nat.le_of_ble_eq_true rfl, Nat.le_of_ble_eq_true rfl⟩ rfl rfl 1 rfl rfl rfl (Nat.le_of_ble_eq_true rfl) dX6_set_31 fun S5 => ?_
      refine g_aload_n (pc := 34) C dX6_set_34 (i := 0) rfl 0 rfl ?_
      refine gt_X6_ground (pc := 35) C q248 dX6_set_35 ?_
      refine g_callVi (pc := 38) (As := []) C q399 mw_X1_cells (fun _ hz => c_X1_cells C.2.2.2.2.2.2.2.1 hz) ⟨Nat.le_of_ble_eq_true rfl, Nat.le_of_ble_eq_true rfl⟩ rfl rfl 2 rfl rfl rfl (Nat.le_of_ble_eq_true rfl) dX6_set_38 fun r8 S7 => ?_
      refine g_callVv (pc := 41) (As := [.ref _, .int _]) C q663 mw_X3_plant (fun _ hz => c_X3_plant_14 C.2.2.2.2.2.2.2.1 hz) ⟨Nat.le_of_ble_eq_true rfl, Nat.le_of_ble_eq_true rfl⟩ rfl rfl 4 rfl rfl rfl (Nat.le_of_ble_eq_true rfl) dX6_set_41 fun S9 => ?_
      refine g_aload_n (pc := 44) C dX6_set_44 (i := 0) rfl 0 rfl ?_
      refine g_iconst (pc := 45) (v := 1) C dX6_set_45 (by decide) ?_
      refine pt_X6_plantsKnown (pc := 46) C (Or.inr rfl) q263 dX6_set_46 fun S11 => ?_
      refine g_iload_n (pc := 49) C dX6_set_49 (i := 1) rfl 1 rfl ?_
      refine g_iconst (pc := 50) (v := -1) C dX6_set_50 (by decide) ?_
      refine g_icmp_ne (pc := 51) (tgt := 64) C dX6_set_51 (by decide) ?_ ?_
      · refine g_aload_n (pc := 64) C dX6_set_64 (i := 0) rfl 0 rfl ?_
        refine gt_X6_planting (pc := 65) C q250 dX6_set_65 ?_
        refine g_iload_n (pc := 68) C dX6_set_68 (i := 1) rfl 1 rfl ?_
        refine g_callVi (pc := 69) (As := [.int _]) C q694 mw_X3_sortOn (fun _ hz => c_X3_sortOn C.2.2.2.2.2.2.2.1 hz) ⟨Nat.le_of_ble_eq_true rfl, Nat.le_of_ble_eq_true rfl⟩ rfl rfl 4 rfl rfl rfl (Nat.le_of_ble_eq_true rfl) dX6_set_69 fun r13 S12 => ?_
        exact g_iret (pc := 72) C hr dX6_set_72
      · refine g_aload_n (pc := 54) C dX6_set_54 (i := 0) rfl 0 rfl ?_
        refine gt_X6_planting (pc := 55) C q250 dX6_set_55 ?_
        refine g_callVi (pc := 58) (As := []) C q690 mw_X3_mostPaid (fun _ hz => c_X3_mostPaid C.2.2.2.2.2.2.2.1 hz) ⟨Nat.le_of_ble_eq_true rfl, Nat.le_of_ble_eq_true rfl⟩ rfl rfl 4 rfl rfl rfl (Nat.le_of_ble_eq_true rfl) dX6_set_58 fun r15 S14 => ?_
        refine g_goto (pc := 61) (tgt := 72) C dX6_set_61 (by decide) ?_
        exact g_iret (pc := 72) C hr dX6_set_72
  · refine g_aload_n (pc := 5) C dX6_set_5 (i := 0) rfl 0 rfl ?_
    refine g_iload_n (pc := 6) C dX6_set_6 (i := 1) rfl 1 rfl ?_
    refine g_callVi (pc := 7) (As := [.int _]) C q395 mw_X6_isCell (fun _ hz => c_X6_isCell C.2.2.2.2.2.2.2.1 hz) ⟨Nat.le_of_ble_eq_true rfl, Nat.le_of_ble_eq_true rfl⟩ rfl rfl 0 rfl rfl rfl (Nat.le_of_ble_eq_true rfl) dX6_set_7 fun r17 S16 => ?_
    refine g_if_ne (pc := 10) (tgt := 16) C dX6_set_10 (by decide) ?_ ?_
    · refine g_aload_n (pc := 16) C dX6_set_16 (i := 0) rfl 0 rfl ?_
      refine gt_X6_plantsKnown (pc := 17) C q263 dX6_set_17 ?_
      refine g_if_ne (pc := 20) (tgt := 49) C dX6_set_20 (by decide) ?_ ?_
      · refine g_iload_n (pc := 49) C dX6_set_49 (i := 1) rfl 1 rfl ?_
        refine g_iconst (pc := 50) (v := -1) C dX6_set_50 (by decide) ?_
        refine g_icmp_ne (pc := 51) (tgt := 64) C dX6_set_51 (by decide) ?_ ?_
        · refine g_aload_n (pc := 64) C dX6_set_64 (i := 0) rfl 0 rfl ?_
          refine gt_X6_planting (pc := 65) C q250 dX6_set_65 ?_
          refine g_iload_n (pc := 68) C dX6_set_68 (i := 1) rfl 1 rfl ?_
          refine g_callVi (pc := 69) (As := [.int _]) C q694 mw_X3_sortOn (fun _ hz => c_X3_sortOn C.2.2.2.2.2.2.2.1 hz) ⟨Nat.le_of_ble_eq_true rfl, Nat.le_of_ble_eq_true rfl⟩ rfl rfl 4 rfl rfl rfl (Nat.le_of_ble_eq_true rfl) dX6_set_69 fun r19 S18 => ?_
          exact g_iret (pc := 72) C hr dX6_set_72
        · refine g_aload_n (pc := 54) C dX6_set_54 (i := 0) rfl 0 rfl ?_
          refine gt_X6_planting (pc := 55) C q250 dX6_set_55 ?_
          refine g_callVi (pc := 58) (As := []) C q690 mw_X3_mostPaid (fun _ hz => c_X3_mostPaid C.2.2.2.2.2.2.2.1 hz) ⟨Nat.le_of_ble_eq_true rfl, Nat.le_of_ble_eq_true rfl⟩ rfl rfl 4 rfl rfl rfl (Nat.le_of_ble_eq_true rfl) dX6_set_58 fun r21 S20 => ?_
          refine g_goto (pc := 61) (tgt := 72) C dX6_set_61 (by decide) ?_
          exact g_iret (pc := 72) C hr dX6_set_72
      · refine g_aload_n (pc := 23) C dX6_set_23 (i := 0) rfl 0 rfl ?_
        refine gt_X6_planting (pc := 24) C q250 dX6_set_24 ?_
        refine g_aload_n (pc := 27) C dX6_set_27 (i := 0) rfl 0 rfl ?_
        refine gt_X6_sun (pc := 28) C q247 dX6_set_28 ?_
        refine g_callVr (pc := 31) (As := []) C q499 mw_X5_years (fun _ hz => c_X5_years C.2.2.2.2.2.2.2.1 hz) ⟨Nat.le_of_ble_eq_true rfl, Nat.le_of_ble_eq_true rfl⟩ rfl rfl 1 rfl rfl rfl (Nat.le_of_ble_eq_true rfl) dX6_set_31 fun S22 => ?_
        refine g_aload_n (pc := 34) C dX6_set_34 (i := 0) rfl 0 rfl ?_
        refine gt_X6_ground (pc := 35) C q248 dX6_set_35 ?_
        refine g_callVi (pc := 38) (As := []) C q399 mw_X1_cells (fun _ hz => c_X1_cells C.2.2.2.2.2.2.2.1 hz) ⟨Nat.le_of_ble_eq_true rfl, Nat.le_of_ble_eq_true rfl⟩ rfl rfl 2 rfl rfl rfl (Nat.le_of_ble_eq_true rfl) dX6_set_38 fun r25 S24 => ?_
        refine g_callVv (pc := 41) (As := [.ref _, .int _]) C q663 mw_X3_plant (fun _ hz => c_X3_plant_14 C.2.2.2.2.2.2.2.1 hz) ⟨Nat.le_of_ble_eq_true rfl, Nat.le_of_ble_eq_true rfl⟩ rfl rfl 4 rfl rfl rfl (Nat.le_of_ble_eq_true rfl) dX6_set_41 fun S26 => ?_
        refine g_aload_n (pc := 44) C dX6_set_44 (i := 0) rfl 0 rfl ?_
        refine g_iconst (pc := 45) (v := 1) C dX6_set_45 (by decide) ?_
        refine pt_X6_plantsKnown (pc := 46) C (Or.inr rfl) q263 dX6_set_46 fun S28 => ?_
        refine g_iload_n (pc := 49) C dX6_set_49 (i := 1) rfl 1 rfl ?_
        refine g_iconst (pc := 50) (v := -1) C dX6_set_50 (by decide) ?_
        refine g_icmp_ne (pc := 51) (tgt := 64) C dX6_set_51 (by decide) ?_ ?_
        · refine g_aload_n (pc := 64) C dX6_set_64 (i := 0) rfl 0 rfl ?_
          refine gt_X6_planting (pc := 65) C q250 dX6_set_65 ?_
          refine g_iload_n (pc := 68) C dX6_set_68 (i := 1) rfl 1 rfl ?_
          refine g_callVi (pc := 69) (As := [.int _]) C q694 mw_X3_sortOn (fun _ hz => c_X3_sortOn C.2.2.2.2.2.2.2.1 hz) ⟨Nat.le_of_ble_eq_true rfl, Nat.le_of_ble_eq_true rfl⟩ rfl rfl 4 rfl rfl rfl (Nat.le_of_ble_eq_true rfl) dX6_set_69 fun r30 S29 => ?_
          exact g_iret (pc := 72) C hr dX6_set_72
        · refine g_aload_n (pc := 54) C dX6_set_54 (i := 0) rfl 0 rfl ?_
          refine gt_X6_planting (pc := 55) C q250 dX6_set_55 ?_
          refine g_callVi (pc := 58) (As := []) C q690 mw_X3_mostPaid (fun _ hz => c_X3_mostPaid C.2.2.2.2.2.2.2.1 hz) ⟨Nat.le_of_ble_eq_true rfl, Nat.le_of_ble_eq_true rfl⟩ rfl rfl 4 rfl rfl rfl (Nat.le_of_ble_eq_true rfl) dX6_set_58 fun r32 S31 => ?_
          refine g_goto (pc := 61) (tgt := 72) C dX6_set_61 (by decide) ?_
          exact g_iret (pc := 72) C hr dX6_set_72
    · refine g_bipush (pc := 13) (v := -2) C dX6_set_13 (by decide) ?_
      exact g_iret (pc := 15) C hr dX6_set_15
noncomputable def m_X6_seen (x1 : Int32) (x2 : Int32) (S : St) : Option (Int32 × St) :=
bnd (m_X6_isBelow x1 (4 : Int32) S) fun r2 S1 =>
if r2 = 0 then (
some ((-2 : Int32), S1))
else
bnd (m_X6_isBelow x2 (12 : Int32) S1) fun r4 S3 =>
if r4 = 0 then (
some ((-2 : Int32), S3))
else
if (gI S3 54 0) < (8 : Int32) then (
chk (gI S3 54 0) 8 <|
nm (sI S3 29 (ix (gI S3 54 0)) x1) fun S5 =>
chk (gI S5 54 0) 8 <|
nm (sI S5 30 (ix (gI S5 54 0)) x2) fun S6 =>
nm (sI S6 54 0 ((gI S6 54 0) + (1 : Int32))) fun S7 =>
some ((gI S7 54 0), S7))
else
some ((-4 : Int32), S3)
set_option maxRecDepth 20000 in
theorem c_X6_seen {l : Launch} {D : va_G} {ad : Nat → Nat} {cI cJ cZ : ClassId} {n : Nat} (hD : ∀ sz S, va_D (Adr ad n sz) (wX ad cI cJ cZ S)) {x1 : Int32} {x2 : Int32} {S : St} {z : Int32 × St} (hf : m_X6_seen x1 x2 S = some z) : CtI l yX6_seen cX6_seen 3 (some .int) ({ frames := 1, cells := 0, slots := 0, locals := 21 } : Room) D (wX ad cI cJ cZ) (tyX cI cJ cZ) ad n [.ref (ad 0), .int x1, .int x2] S z := by
  refine CtI.of hf (by decide +kernel) (Nat.le_of_ble_eq_true rfl) hD (fun p e s m args below meth c C hr => ?_)
  refine g_sub [0, 1, 2] (lv2 := [(0, .ref (ad 0)), (1, .int x1), (2, .int x2)]) rfl ?_
  unfold m_X6_seen
  refine g_iload_n (pc := 0) C dX6_seen_0 (i := 1) rfl 1 rfl ?_
  refine g_iconst (pc := 1) (v := 4) C dX6_seen_1 (by decide) ?_
  refine g_callSi (pc := 2) (As := [.int _, .int _]) C q303 mw_X6_isBelow (fun _ hz => c_X6_isBelow C.2.2.2.2.2.2.2.1 hz) ⟨Nat.le_of_ble_eq_true rfl, Nat.le_of_ble_eq_true rfl⟩ rfl rfl rfl (Nat.le_of_ble_eq_true rfl) dX6_seen_2 fun r2 S1 => ?_
  refine g_if_eq (pc := 5) (tgt := 17) C dX6_seen_5 (by decide) ?_ ?_
  · refine g_bipush (pc := 17) (v := -2) C dX6_seen_17 (by decide) ?_
    exact g_iret (pc := 19) C hr dX6_seen_19
  · refine g_iload_n (pc := 8) C dX6_seen_8 (i := 2) rfl 2 rfl ?_
    refine g_bipush (pc := 9) (v := 12) C dX6_seen_9 (by decide) ?_
    refine g_callSi (pc := 11) (As := [.int _, .int _]) C q303 mw_X6_isBelow (fun _ hz => c_X6_isBelow C.2.2.2.2.2.2.2.1 hz) ⟨Nat.le_of_ble_eq_true rfl, Nat.le_of_ble_eq_true rfl⟩ rfl rfl rfl (Nat.le_of_ble_eq_true rfl) dX6_seen_11 fun r4 S3 => ?_
    refine g_if_ne (pc := 14) (tgt := 20) C dX6_seen_14 (by decide) ?_ ?_
    · refine g_aload_n (pc := 20) C dX6_seen_20 (i := 0) rfl 0 rfl ?_
      refine gt_X6_seenCount (pc := 21) C q260 dX6_seen_21 ?_
      refine g_bipush (pc := 24) (v := 8) C dX6_seen_24 (by decide) ?_
      refine g_icmp_lt (pc := 26) (tgt := 32) C dX6_seen_26 (by decide) ?_ ?_
      · refine g_aload_n (pc := 32) C dX6_seen_32 (i := 0) rfl 0 rfl ?_
        refine gt_X6_seenSeasons (pc := 33) C q257 dX6_seen_33 ?_
        refine g_aload_n (pc := 36) C dX6_seen_36 (i := 0) rfl 0 rfl ?_
        refine gt_X6_seenCount (pc := 37) C q260 dX6_seen_37 ?_
        refine g_iload_n (pc := 40) C dX6_seen_40 (i := 1) rfl 1 rfl ?_
        refine as_X6_seenSeasons (pc := 41) C dX6_seen_41 fun S5 => ?_
        refine g_aload_n (pc := 42) C dX6_seen_42 (i := 0) rfl 0 rfl ?_
        refine gt_X6_seenHours (pc := 43) C q258 dX6_seen_43 ?_
        refine g_aload_n (pc := 46) C dX6_seen_46 (i := 0) rfl 0 rfl ?_
        refine gt_X6_seenCount (pc := 47) C q260 dX6_seen_47 ?_
        refine g_iload_n (pc := 50) C dX6_seen_50 (i := 2) rfl 2 rfl ?_
        refine as_X6_seenHours (pc := 51) C dX6_seen_51 fun S6 => ?_
        refine g_aload_n (pc := 52) C dX6_seen_52 (i := 0) rfl 0 rfl ?_
        refine g_dup (pc := 53) C dX6_seen_53 rfl ?_
        refine gt_X6_seenCount (pc := 54) C q260 dX6_seen_54 ?_
        refine g_iconst (pc := 57) (v := 1) C dX6_seen_57 (by decide) ?_
        refine g_iadd (pc := 58) C dX6_seen_58 ?_
        refine pt_X6_seenCount (pc := 59) C q260 dX6_seen_59 fun S7 => ?_
        refine g_aload_n (pc := 62) C dX6_seen_62 (i := 0) rfl 0 rfl ?_
        refine gt_X6_seenCount (pc := 63) C q260 dX6_seen_63 ?_
        exact g_iret (pc := 66) C hr dX6_seen_66
      · refine g_bipush (pc := 29) (v := -4) C dX6_seen_29 (by decide) ?_
        exact g_iret (pc := 31) C hr dX6_seen_31
    · refine g_bipush (pc := 17) (v := -2) C dX6_seen_17 (by decide) ?_
      exact g_iret (pc := 19) C hr dX6_seen_19
noncomputable def m_X6_forget (S : St) : Option (Int32 × St) :=
nm ((gI S 54 0)) fun y1 =>
nm (sI S 54 0 (0 : Int32)) fun S2 =>
some (y1, S2)
set_option maxRecDepth 20000 in
theorem c_X6_forget {l : Launch} {D : va_G} {ad : Nat → Nat} {cI cJ cZ : ClassId} {n : Nat} (hD : ∀ sz S, va_D (Adr ad n sz) (wX ad cI cJ cZ S)) {S : St} {z : Int32 × St} (hf : m_X6_forget S = some z) : CtI l yX6_forget cX6_forget 2 (some .int) ({ frames := 0, cells := 0, slots := 0, locals := 0 } : Room) D (wX ad cI cJ cZ) (tyX cI cJ cZ) ad n [.ref (ad 0)] S z := by
  refine CtI.of hf (by decide +kernel) (Nat.le_of_ble_eq_true rfl) hD (fun p e s m args below meth c C hr => ?_)
  refine g_sub [0] (lv2 := [(0, .ref (ad 0))]) rfl ?_
  unfold m_X6_forget
  refine g_aload_n (pc := 0) C dX6_forget_0 (i := 0) rfl 0 rfl ?_
  refine gt_X6_seenCount (pc := 1) C q260 dX6_forget_1 ?_
  refine g_nmi fun y1 => ?_
  refine g_istore_n (pc := 4) (i := 1) (lv2 := [(1, .int y1), (0, .ref (ad 0))]) C dX6_forget_4 rfl (by decide) rfl ?_
  refine g_aload_n (pc := 5) C dX6_forget_5 (i := 0) rfl 1 rfl ?_
  refine g_iconst (pc := 6) (v := 0) C dX6_forget_6 (by decide) ?_
  refine pt_X6_seenCount (pc := 7) C q260 dX6_forget_7 fun S2 => ?_
  refine g_iload_n (pc := 10) C dX6_forget_10 (i := 1) rfl 0 rfl ?_
  exact g_iret (pc := 11) C hr dX6_forget_11
noncomputable def b_X6_fitsAllSeen_2 (x1 : Int32) (k : St → Option (Int32 × St)) (rec : Int32 → St → Option (Int32 × St)) (x2 : Int32) (S : St) : Option (Int32 × St) :=
if x2 < (gI S 54 0) then (
chk x2 8 <|
bnd (m_X5_bitsOf x1 (gI S 29 (ix x2)) S) fun r2 S1 =>
chk x2 8 <|
if ((r2 >>> ((gI S1 30 (ix x2)) &&& 31)) &&& (1 : Int32)) = 0 then (
some ((0 : Int32), S1))
else
rec (x2 + 1) S1)
else
k S
noncomputable def m_X6_fitsAllSeen (x1 : Int32) (S : St) : Option (Int32 × St) :=
it1 (b_X6_fitsAllSeen_2 x1 (fun S3 =>
some ((1 : Int32), S3))) 5000 (0 : Int32) S
set_option maxRecDepth 20000 in
theorem u_X6_fitsAllSeen_2 (C : Cx p s m args meth c cX6_fitsAllSeen 3 RX6 D (tyX cI cJ cZ) ad n (wX ad cI cJ cZ)) (hr : meth.sig.returnType = (some .boolean)) (x1 : Int32) (k : St → Option (Int32 × St)) (hk : ∀ (S : St), GM p l e ({ frames := 1, cells := 0, slots := 0, locals := 22 } : Room) s m args below meth c D ad n (wX ad cI cJ cZ) 3 (QI D (wX ad cI cJ cZ) ad n args s below) (k S) S 44 [] []) (rec : Int32 → St → Option (Int32 × St)) (hrec : ∀ (x2 : Int32) (S : St), GM p l e ({ frames := 1, cells := 0, slots := 0, locals := 22 } : Room) s m args below meth c D ad n (wX ad cI cJ cZ) 3 (QI D (wX ad cI cJ cZ) ad n args s below) (rec x2 S) S 2 [(0, .ref (ad 0)), (1, .int x1), (2, .int x2)] []) (x2 : Int32) (S : St) : GM p l e ({ frames := 1, cells := 0, slots := 0, locals := 22 } : Room) s m args below meth c D ad n (wX ad cI cJ cZ) 3 (QI D (wX ad cI cJ cZ) ad n args s below) (b_X6_fitsAllSeen_2 x1 k rec x2 S) S 2 [(0, .ref (ad 0)), (1, .int x1), (2, .int x2)] [] := by
  unfold b_X6_fitsAllSeen_2
  refine g_iload_n (pc := 2) C dX6_fitsAllSeen_2 (i := 2) rfl 2 rfl ?_
  refine g_aload_n (pc := 3) C dX6_fitsAllSeen_3 (i := 0) rfl 0 rfl ?_
  refine gt_X6_seenCount (pc := 4) C q260 dX6_fitsAllSeen_4 ?_
  refine g_icmp_ge (pc := 7) (tgt := 44) C dX6_fitsAllSeen_7 (by decide) ?_ ?_
  · refine g_sub [] rfl (hk _)
  · refine g_aload_n (pc := 10) C dX6_fitsAllSeen_10 (i := 0) rfl 0 rfl ?_
    refine gt_X6_sun (pc := 11) C q247 dX6_fitsAllSeen_11 ?_
    refine g_iload_n (pc := 14) C dX6_fitsAllSeen_14 (i := 1) rfl 1 rfl ?_
    refine g_aload_n (pc := 15) C dX6_fitsAllSeen_15 (i := 0) rfl 0 rfl ?_
    refine gt_X6_seenSeasons (pc := 16) C q257 dX6_fitsAllSeen_16 ?_
    refine g_iload_n (pc := 19) C dX6_fitsAllSeen_19 (i := 2) rfl 2 rfl ?_
    refine al_X6_seenSeasons (pc := 20) C dX6_fitsAllSeen_20 ?_
    refine g_callVi (pc := 21) (As := [.int _, .int _]) C q471 mw_X5_bitsOf (fun _ hz => c_X5_bitsOf C.2.2.2.2.2.2.2.1 hz) ⟨Nat.le_of_ble_eq_true rfl, Nat.le_of_ble_eq_true rfl⟩ rfl rfl 1 rfl rfl rfl (Nat.le_of_ble_eq_true rfl) dX6_fitsAllSeen_21 fun r2 S1 => ?_
    refine g_aload_n (pc := 24) C dX6_fitsAllSeen_24 (i := 0) rfl 0 rfl ?_
    refine gt_X6_seenHours (pc := 25) C q258 dX6_fitsAllSeen_25 ?_
    refine g_iload_n (pc := 28) C dX6_fitsAllSeen_28 (i := 2) rfl 2 rfl ?_
    refine al_X6_seenHours (pc := 29) C dX6_fitsAllSeen_29 ?_
    refine g_ishr (pc := 30) C dX6_fitsAllSeen_30 ?_
    refine g_iconst (pc := 31) (v := 1) C dX6_fitsAllSeen_31 (by decide) ?_
    refine g_iand (pc := 32) C dX6_fitsAllSeen_32 ?_
    refine g_if_ne (pc := 33) (tgt := 38) C dX6_fitsAllSeen_33 (by decide) ?_ ?_
    · refine g_iinc (pc := 38) (v := (x2 + 1)) (lv2 := [(2, .int (x2 + 1)), (0, .ref (ad 0)), (1, .int x1)]) C dX6_fitsAllSeen_38 2 rfl rfl (by decide) rfl ?_
      refine g_goto (pc := 41) (tgt := 2) C dX6_fitsAllSeen_41 (by decide) ?_
      refine g_sub [1, 2, 0] rfl (hrec _ _)
    · refine g_iconst (pc := 36) (v := 0) C dX6_fitsAllSeen_36 (by decide) ?_
      exact g_zretq (pc := 37) C hr (Or.inl rfl) dX6_fitsAllSeen_37
set_option maxRecDepth 20000 in
theorem c_X6_fitsAllSeen {l : Launch} {D : va_G} {ad : Nat → Nat} {cI cJ cZ : ClassId} {n : Nat} (hD : ∀ sz S, va_D (Adr ad n sz) (wX ad cI cJ cZ S)) {x1 : Int32} {S : St} {z : Int32 × St} (hf : m_X6_fitsAllSeen x1 S = some z) : CtI l yX6_fitsAllSeen cX6_fitsAllSeen 3 (some .boolean) ({ frames := 1, cells := 0, slots := 0, locals := 22 } : Room) D (wX ad cI cJ cZ) (tyX cI cJ cZ) ad n [.ref (ad 0), .int x1] S z := by
  refine CtI.of hf (by decide +kernel) (Nat.le_of_ble_eq_true rfl) hD (fun p e s m args below meth c C hr => ?_)
  refine g_sub [0, 1] (lv2 := [(0, .ref (ad 0)), (1, .int x1)]) rfl ?_
  unfold m_X6_fitsAllSeen
  refine g_iconst (pc := 0) (v := 0) C dX6_fitsAllSeen_0 (by decide) ?_
  refine g_istore_n (pc := 1) (i := 2) (lv2 := [(2, .int (0 : Int32)), (0, .ref (ad 0)), (1, .int x1)]) C dX6_fitsAllSeen_1 rfl (by decide) rfl ?_
  refine g_sub [1, 2, 0] (lv2 := [(0, .ref (ad 0)), (1, .int x1), (2, .int (0 : Int32))]) rfl ?_
  refine g_it1 (pc := 2) (u_X6_fitsAllSeen_2 C hr _ _ fun S3 => ?_) _ _ _
  refine g_iconst (pc := 44) (v := 1) C dX6_fitsAllSeen_44 (by decide) ?_
  exact g_zretq (pc := 45) C hr (Or.inr rfl) dX6_fitsAllSeen_45
noncomputable def b_X6_whose_18 (x1 : Int32) (k : Int32 → Int32 → St → Option (Int32 × St)) (rec : Int32 → Int32 → Int32 → St → Option (Int32 × St)) (x2 : Int32) (x3 : Int32) (x4 : Int32) (S : St) : Option (Int32 × St) :=
bnd (m_X1_cells S) fun r4 S3 =>
if x4 < r4 then (
bnd (m_X6_fitsAllSeen x4 S3) fun r6 S5 =>
if r6 = 0 then (
rec x2 x3 (x4 + 1) S5)
else
nm ((x2 ||| ((1 : Int32) <<< (x4 &&& 31)))) fun y7 =>
chk x4 12 <|
nm ((x3 ||| ((1 : Int32) <<< ((gI S5 25 (ix x4)) &&& 31)))) fun y8 =>
rec y7 y8 (x4 + 1) S5)
else
k x2 x3 S3
noncomputable def m_X6_whose (x1 : Int32) (S : St) : Option (Int32 × St) :=
bnd (m_X6_isBelow x1 (2 : Int32) S) fun r2 S1 =>
if r2 = 0 then (
some ((-2 : Int32), S1))
else
it3 (b_X6_whose_18 x1 (fun x2_S9 x3_S9 S9 =>
if x1 = 0 then (
some (x2_S9, S9))
else
bnd (m_J6_bitCount_0f7a4 x3_S9 S9) fun r11 S10 =>
some (r11, S10))) 5000 (0 : Int32) (0 : Int32) (0 : Int32) S1
set_option maxRecDepth 20000 in
theorem u_X6_whose_18 (C : Cx p s m args meth c cX6_whose 5 RX6 D (tyX cI cJ cZ) ad n (wX ad cI cJ cZ)) (hr : meth.sig.returnType = (some .int)) (x1 : Int32) (k : Int32 → Int32 → St → Option (Int32 × St)) (hk : ∀ (x2 : Int32) (x3 : Int32) (S : St), GM p l e ({ frames := 2, cells := 0, slots := 0, locals := 44 } : Room) s m args below meth c D ad n (wX ad cI cJ cZ) 5 (QI D (wX ad cI cJ cZ) ad n args s below) (k x2 x3 S) S 64 [(1, .int x1), (2, .int x2), (3, .int x3)] []) (rec : Int32 → Int32 → Int32 → St → Option (Int32 × St)) (hrec : ∀ (x2 : Int32) (x3 : Int32) (x4 : Int32) (S : St), GM p l e ({ frames := 2, cells := 0, slots := 0, locals := 44 } : Room) s m args below meth c D ad n (wX ad cI cJ cZ) 5 (QI D (wX ad cI cJ cZ) ad n args s below) (rec x2 x3 x4 S) S 18 [(0, .ref (ad 0)), (1, .int x1), (2, .int x2), (3, .int x3), (4, .int x4)] []) (x2 : Int32) (x3 : Int32) (x4 : Int32) (S : St) : GM p l e ({ frames := 2, cells := 0, slots := 0, locals := 44 } : Room) s m args below meth c D ad n (wX ad cI cJ cZ) 5 (QI D (wX ad cI cJ cZ) ad n args s below) (b_X6_whose_18 x1 k rec x2 x3 x4 S) S 18 [(0, .ref (ad 0)), (1, .int x1), (2, .int x2), (3, .int x3), (4, .int x4)] [] := by
  unfold b_X6_whose_18
  refine g_iload (pc := 18) C dX6_whose_18 4 rfl ?_
  refine g_aload_n (pc := 20) C dX6_whose_20 (i := 0) rfl 0 rfl ?_
  refine gt_X6_ground (pc := 21) C q248 dX6_whose_21 ?_
  refine g_callVi (pc := 24) (As := []) C q399 mw_X1_cells (fun _ hz => c_X1_cells C.2.2.2.2.2.2.2.1 hz) ⟨Nat.le_of_ble_eq_true rfl, Nat.le_of_ble_eq_true rfl⟩ rfl rfl 2 rfl rfl rfl (Nat.le_of_ble_eq_true rfl) dX6_whose_24 fun r4 S3 => ?_
  refine g_icmp_ge (pc := 27) (tgt := 64) C dX6_whose_27 (by decide) ?_ ?_
  · refine g_sub [1, 2, 3] rfl (hk _ _ _)
  · refine g_aload_n (pc := 30) C dX6_whose_30 (i := 0) rfl 0 rfl ?_
    refine g_iload (pc := 31) C dX6_whose_31 4 rfl ?_
    refine g_callVi (pc := 33) (As := [.int _]) C q710 mw_X6_fitsAllSeen (fun _ hz => c_X6_fitsAllSeen C.2.2.2.2.2.2.2.1 hz) ⟨Nat.le_of_ble_eq_true rfl, Nat.le_of_ble_eq_true rfl⟩ rfl rfl 0 rfl rfl rfl (Nat.le_of_ble_eq_true rfl) dX6_whose_33 fun r6 S5 => ?_
    refine g_if_eq (pc := 36) (tgt := 58) C dX6_whose_36 (by decide) ?_ ?_
    · refine g_iinc (pc := 58) (v := (x4 + 1)) (lv2 := [(4, .int (x4 + 1)), (0, .ref (ad 0)), (1, .int x1), (2, .int x2), (3, .int x3)]) C dX6_whose_58 4 rfl rfl (by decide) rfl ?_
      refine g_goto (pc := 61) (tgt := 18) C dX6_whose_61 (by decide) ?_
      refine g_sub [1, 2, 3, 4, 0] rfl (hrec _ _ _ _)
    · refine g_iload_n (pc := 39) C dX6_whose_39 (i := 2) rfl 2 rfl ?_
      refine g_iconst (pc := 40) (v := 1) C dX6_whose_40 (by decide) ?_
      refine g_iload (pc := 41) C dX6_whose_41 4 rfl ?_
      refine g_ishl (pc := 43) C dX6_whose_43 ?_
      refine g_ior (pc := 44) C dX6_whose_44 ?_
      refine g_nmi fun y7 => ?_
      refine g_istore_n (pc := 45) (i := 2) (lv2 := [(2, .int y7), (0, .ref (ad 0)), (1, .int x1), (3, .int x3), (4, .int x4)]) C dX6_whose_45 rfl (by decide) rfl ?_
      refine g_iload_n (pc := 46) C dX6_whose_46 (i := 3) rfl 3 rfl ?_
      refine g_iconst (pc := 47) (v := 1) C dX6_whose_47 (by decide) ?_
      refine g_aload_n (pc := 48) C dX6_whose_48 (i := 0) rfl 1 rfl ?_
      refine gt_X6_owners (pc := 49) C q253 dX6_whose_49 ?_
      refine g_iload (pc := 52) C dX6_whose_52 4 rfl ?_
      refine al_X6_owners (pc := 54) C dX6_whose_54 ?_
      refine g_ishl (pc := 55) C dX6_whose_55 ?_
      refine g_ior (pc := 56) C dX6_whose_56 ?_
      refine g_nmi fun y8 => ?_
      refine g_istore_n (pc := 57) (i := 3) (lv2 := [(3, .int y8), (2, .int y7), (0, .ref (ad 0)), (1, .int x1), (4, .int x4)]) C dX6_whose_57 rfl (by decide) rfl ?_
      refine g_iinc (pc := 58) (v := (x4 + 1)) (lv2 := [(4, .int (x4 + 1)), (3, .int y8), (2, .int y7), (0, .ref (ad 0)), (1, .int x1)]) C dX6_whose_58 4 rfl rfl (by decide) rfl ?_
      refine g_goto (pc := 61) (tgt := 18) C dX6_whose_61 (by decide) ?_
      refine g_sub [3, 4, 2, 1, 0] rfl (hrec _ _ _ _)
set_option maxRecDepth 20000 in
theorem c_X6_whose {l : Launch} {D : va_G} {ad : Nat → Nat} {cI cJ cZ : ClassId} {n : Nat} (hD : ∀ sz S, va_D (Adr ad n sz) (wX ad cI cJ cZ S)) {x1 : Int32} {S : St} {z : Int32 × St} (hf : m_X6_whose x1 S = some z) : CtI l yX6_whose cX6_whose 5 (some .int) ({ frames := 2, cells := 0, slots := 0, locals := 44 } : Room) D (wX ad cI cJ cZ) (tyX cI cJ cZ) ad n [.ref (ad 0), .int x1] S z := by
  refine CtI.of hf (by decide +kernel) (Nat.le_of_ble_eq_true rfl) hD (fun p e s m args below meth c C hr => ?_)
  refine g_sub [0, 1] (lv2 := [(0, .ref (ad 0)), (1, .int x1)]) rfl ?_
  unfold m_X6_whose
  refine g_iload_n (pc := 0) C dX6_whose_0 (i := 1) rfl 1 rfl ?_
  refine g_iconst (pc := 1) (v := 2) C dX6_whose_1 (by decide) ?_
  refine g_callSi (pc := 2) (As := [.int _, .int _]) C q303 mw_X6_isBelow (fun _ hz => c_X6_isBelow C.2.2.2.2.2.2.2.1 hz) ⟨Nat.le_of_ble_eq_true rfl, Nat.le_of_ble_eq_true rfl⟩ rfl rfl rfl (Nat.le_of_ble_eq_true rfl) dX6_whose_2 fun r2 S1 => ?_
  refine g_if_ne (pc := 5) (tgt := 11) C dX6_whose_5 (by decide) ?_ ?_
  · refine g_iconst (pc := 11) (v := 0) C dX6_whose_11 (by decide) ?_
    refine g_istore_n (pc := 12) (i := 2) (lv2 := [(2, .int (0 : Int32)), (0, .ref (ad 0)), (1, .int x1)]) C dX6_whose_12 rfl (by decide) rfl ?_
    refine g_iconst (pc := 13) (v := 0) C dX6_whose_13 (by decide) ?_
    refine g_istore_n (pc := 14) (i := 3) (lv2 := [(3, .int (0 : Int32)), (2, .int (0 : Int32)), (0, .ref (ad 0)), (1, .int x1)]) C dX6_whose_14 rfl (by decide) rfl ?_
    refine g_iconst (pc := 15) (v := 0) C dX6_whose_15 (by decide) ?_
    refine g_istore (pc := 16) (i := 4) (j := 0) (lv2 := [(4, .int (0 : Int32)), (3, .int (0 : Int32)), (2, .int (0 : Int32)), (0, .ref (ad 0)), (1, .int x1)]) C dX6_whose_16 (by decide) rfl ?_
    refine g_sub [3, 4, 2, 1, 0] (lv2 := [(0, .ref (ad 0)), (1, .int x1), (2, .int (0 : Int32)), (3, .int (0 : Int32)), (4, .int (0 : Int32))]) rfl ?_
    refine g_it3 (pc := 18) (u_X6_whose_18 C hr _ _ fun x2_S9 x3_S9 S9 => ?_) _ _ _ _ _
    refine g_iload_n (pc := 64) C dX6_whose_64 (i := 1) rfl 0 rfl ?_
    refine g_if_ne (pc := 65) (tgt := 72) C dX6_whose_65 (by decide) ?_ ?_
    · refine g_iload_n (pc := 72) C dX6_whose_72 (i := 3) rfl 2 rfl ?_
      refine g_callSi (pc := 73) (As := [.int _]) C q714 mw_J6_bitCount_0f7a4 (fun _ hz => c_J6_bitCount_0f7a4 C.2.2.2.2.2.2.2.1 hz) ⟨Nat.le_of_ble_eq_true rfl, Nat.le_of_ble_eq_true rfl⟩ rfl rfl rfl (Nat.le_of_ble_eq_true rfl) dX6_whose_73 fun r11 S10 => ?_
      exact g_iret (pc := 76) C hr dX6_whose_76
    · refine g_iload_n (pc := 68) C dX6_whose_68 (i := 2) rfl 1 rfl ?_
      refine g_goto (pc := 69) (tgt := 76) C dX6_whose_69 (by decide) ?_
      exact g_iret (pc := 76) C hr dX6_whose_76
  · refine g_bipush (pc := 8) (v := -2) C dX6_whose_8 (by decide) ?_
    exact g_iret (pc := 10) C hr dX6_whose_10
noncomputable def m_X6_clouds (x1 : Int32) (x2 : Int32) (S : St) : Option (Int32 × St) :=
bnd (m_X6_isBelow x1 (4 : Int32) S) fun r2 S1 =>
if r2 = 0 then (
some ((-2 : Int32), S1))
else
bnd (m_X6_isBelow x2 (17 : Int32) S1) fun r4 S3 =>
if r4 = 0 then (
some ((-2 : Int32), S3))
else
chk x1 4 <|
nm ((gI S3 31 (ix x1))) fun y5 =>
chk x1 4 <|
nm (sI S3 31 (ix x1) x2) fun S6 =>
some (y5, S6)
set_option maxRecDepth 20000 in
theorem c_X6_clouds {l : Launch} {D : va_G} {ad : Nat → Nat} {cI cJ cZ : ClassId} {n : Nat} (hD : ∀ sz S, va_D (Adr ad n sz) (wX ad cI cJ cZ S)) {x1 : Int32} {x2 : Int32} {S : St} {z : Int32 × St} (hf : m_X6_clouds x1 x2 S = some z) : CtI l yX6_clouds cX6_clouds 4 (some .int) ({ frames := 1, cells := 0, slots := 0, locals := 21 } : Room) D (wX ad cI cJ cZ) (tyX cI cJ cZ) ad n [.ref (ad 0), .int x1, .int x2] S z := by
  refine CtI.of hf (by decide +kernel) (Nat.le_of_ble_eq_true rfl) hD (fun p e s m args below meth c C hr => ?_)
  refine g_sub [0, 1, 2] (lv2 := [(0, .ref (ad 0)), (1, .int x1), (2, .int x2)]) rfl ?_
  unfold m_X6_clouds
  refine g_iload_n (pc := 0) C dX6_clouds_0 (i := 1) rfl 1 rfl ?_
  refine g_iconst (pc := 1) (v := 4) C dX6_clouds_1 (by decide) ?_
  refine g_callSi (pc := 2) (As := [.int _, .int _]) C q303 mw_X6_isBelow (fun _ hz => c_X6_isBelow C.2.2.2.2.2.2.2.1 hz) ⟨Nat.le_of_ble_eq_true rfl, Nat.le_of_ble_eq_true rfl⟩ rfl rfl rfl (Nat.le_of_ble_eq_true rfl) dX6_clouds_2 fun r2 S1 => ?_
  refine g_if_eq (pc := 5) (tgt := 17) C dX6_clouds_5 (by decide) ?_ ?_
  · refine g_bipush (pc := 17) (v := -2) C dX6_clouds_17 (by decide) ?_
    exact g_iret (pc := 19) C hr dX6_clouds_19
  · refine g_iload_n (pc := 8) C dX6_clouds_8 (i := 2) rfl 2 rfl ?_
    refine g_bipush (pc := 9) (v := 17) C dX6_clouds_9 (by decide) ?_
    refine g_callSi (pc := 11) (As := [.int _, .int _]) C q303 mw_X6_isBelow (fun _ hz => c_X6_isBelow C.2.2.2.2.2.2.2.1 hz) ⟨Nat.le_of_ble_eq_true rfl, Nat.le_of_ble_eq_true rfl⟩ rfl rfl rfl (Nat.le_of_ble_eq_true rfl) dX6_clouds_11 fun r4 S3 => ?_
    refine g_if_ne (pc := 14) (tgt := 20) C dX6_clouds_14 (by decide) ?_ ?_
    · refine g_aload_n (pc := 20) C dX6_clouds_20 (i := 0) rfl 0 rfl ?_
      refine gt_X6_cloudSixteenths (pc := 21) C q259 dX6_clouds_21 ?_
      refine g_iload_n (pc := 24) C dX6_clouds_24 (i := 1) rfl 1 rfl ?_
      refine al_X6_cloudSixteenths (pc := 25) C dX6_clouds_25 ?_
      refine g_nmi fun y5 => ?_
      refine g_istore_n (pc := 26) (i := 3) (lv2 := [(3, .int y5), (0, .ref (ad 0)), (1, .int x1), (2, .int x2)]) C dX6_clouds_26 rfl (by decide) rfl ?_
      refine g_aload_n (pc := 27) C dX6_clouds_27 (i := 0) rfl 1 rfl ?_
      refine gt_X6_cloudSixteenths (pc := 28) C q259 dX6_clouds_28 ?_
      refine g_iload_n (pc := 31) C dX6_clouds_31 (i := 1) rfl 2 rfl ?_
      refine g_iload_n (pc := 32) C dX6_clouds_32 (i := 2) rfl 3 rfl ?_
      refine as_X6_cloudSixteenths (pc := 33) C dX6_clouds_33 fun S6 => ?_
      refine g_iload_n (pc := 34) C dX6_clouds_34 (i := 3) rfl 0 rfl ?_
      exact g_iret (pc := 35) C hr dX6_clouds_35
    · refine g_bipush (pc := 17) (v := -2) C dX6_clouds_17 (by decide) ?_
      exact g_iret (pc := 19) C hr dX6_clouds_19
noncomputable def b_J7_fill_d0a16_21_6 (x1 : Int64) (x4 : Int32) (k : St → Option (St)) (rec : Int32 → St → Option (St)) (x3 : Int32) (S : St) : Option (St) :=
if x3 < x4 then (
chk x3 13 <|
nm (sL S 21 (ix x3) x1) fun S1 =>
rec (x3 + 1) S1)
else
k S
noncomputable def m_J7_fill_d0a16_21 (x1 : Int64) (S : St) : Option (St) :=
it1 (b_J7_fill_d0a16_21_6 x1 (13 : Int32) (fun S2 =>
some S2)) 5000 (0 : Int32) S
set_option maxRecDepth 20000 in
theorem u_J7_fill_d0a16_21_6 (C : Cx p s m args meth c cJ7_fill_d0a16 5 RJ7 D (tyX cI cJ cZ) ad n (wX ad cI cJ cZ)) (hr : meth.sig.returnType = none) (x1 : Int64) (x4 : Int32) (k : St → Option (St)) (hk : ∀ (S : St), GM p l e ({ frames := 0, cells := 0, slots := 0, locals := 0 } : Room) s m args below meth c D ad n (wX ad cI cJ cZ) 5 (QV D (wX ad cI cJ cZ) ad n args s below) (k S) S 22 [] []) (rec : Int32 → St → Option (St)) (hrec : ∀ (x3 : Int32) (S : St), GM p l e ({ frames := 0, cells := 0, slots := 0, locals := 0 } : Room) s m args below meth c D ad n (wX ad cI cJ cZ) 5 (QV D (wX ad cI cJ cZ) ad n args s below) (rec x3 S) S 6 [(0, .ref (ad 21)), (1, .long x1), (3, .int x3), (4, .int x4)] []) (x3 : Int32) (S : St) : GM p l e ({ frames := 0, cells := 0, slots := 0, locals := 0 } : Room) s m args below meth c D ad n (wX ad cI cJ cZ) 5 (QV D (wX ad cI cJ cZ) ad n args s below) (b_J7_fill_d0a16_21_6 x1 x4 k rec x3 S) S 6 [(0, .ref (ad 21)), (1, .long x1), (3, .int x3), (4, .int x4)] [] := by
  unfold b_J7_fill_d0a16_21_6
  refine g_iload_n (pc := 6) C dJ7_fill_d0a16_6 (i := 3) rfl 2 rfl ?_
  refine g_iload (pc := 7) C dJ7_fill_d0a16_7 3 rfl ?_
  refine g_icmp_ge (pc := 9) (tgt := 22) C dJ7_fill_d0a16_9 (by decide) ?_ ?_
  · refine g_sub [] rfl (hk _)
  · refine g_aload_n (pc := 12) C dJ7_fill_d0a16_12 (i := 0) rfl 0 rfl ?_
    refine g_iload_n (pc := 13) C dJ7_fill_d0a16_13 (i := 3) rfl 2 rfl ?_
    refine g_lload_n (pc := 14) C dJ7_fill_d0a16_14 (i := 1) rfl 1 rfl ?_
    refine as_X0_ways (pc := 15) C dJ7_fill_d0a16_15 fun S1 => ?_
    refine g_iinc (pc := 16) (v := (x3 + 1)) (lv2 := [(3, .int (x3 + 1)), (0, .ref (ad 21)), (1, .long x1), (4, .int x4)]) C dJ7_fill_d0a16_16 2 rfl rfl (by decide) rfl ?_
    refine g_goto (pc := 19) (tgt := 6) C dJ7_fill_d0a16_19 (by decide) ?_
    refine g_sub [1, 2, 0, 3] rfl (hrec _ _)
set_option maxRecDepth 20000 in
theorem c_J7_fill_d0a16_21 {l : Launch} {D : va_G} {ad : Nat → Nat} {cI cJ cZ : ClassId} {n : Nat} (hD : ∀ sz S, va_D (Adr ad n sz) (wX ad cI cJ cZ S)) {x1 : Int64} {S : St} {z : St} (hf : m_J7_fill_d0a16_21 x1 S = some z) : CtV l yJ7_fill_d0a16 cJ7_fill_d0a16 5 none ({ frames := 0, cells := 0, slots := 0, locals := 0 } : Room) D (wX ad cI cJ cZ) (tyX cI cJ cZ) ad n [.ref (ad 21), .long x1] S z := by
  refine CtV.of hf (by decide +kernel) (Nat.le_of_ble_eq_true rfl) hD (fun p e s m args below meth c C hr => ?_)
  refine g_sub [0, 1] (lv2 := [(0, .ref (ad 21)), (1, .long x1)]) rfl ?_
  unfold m_J7_fill_d0a16_21
  refine g_iconst (pc := 0) (v := 0) C dJ7_fill_d0a16_0 (by decide) ?_
  refine g_istore_n (pc := 1) (i := 3) (lv2 := [(3, .int (0 : Int32)), (0, .ref (ad 21)), (1, .long x1)]) C dJ7_fill_d0a16_1 rfl (by decide) rfl ?_
  refine g_aload_n (pc := 2) C dJ7_fill_d0a16_2 (i := 0) rfl 1 rfl ?_
  refine ln_X0_ways (pc := 3) C dJ7_fill_d0a16_3 ?_
  refine g_istore (pc := 4) (i := 4) (j := 0) (lv2 := [(4, .int (13 : Int32)), (3, .int (0 : Int32)), (0, .ref (ad 21)), (1, .long x1)]) C dJ7_fill_d0a16_4 (by decide) rfl ?_
  refine g_sub [2, 3, 1, 0] (lv2 := [(0, .ref (ad 21)), (1, .long x1), (3, .int (0 : Int32)), (4, .int (13 : Int32))]) rfl ?_
  refine g_it1 (pc := 6) (u_J7_fill_d0a16_21_6 C hr _ _ _ fun S2 => ?_) _ _ _
  exact g_vret (pc := 22) C hr dJ7_fill_d0a16_22
noncomputable def b_X0_countWays_31 (x1 : Int32) (x2 : Int32) (x3 : Int32) (k : St → Option (St)) (rec : Int32 → St → Option (St)) (x4 : Int32) (S : St) : Option (St) :=
if 0 < x4 then (
chk x4 13 <|
chk (x4 - (1 : Int32)) 13 <|
chk x4 13 <|
nm (sL S 21 (ix x4) (((gL S 21 (ix x4)) * (x2).toInt64) + ((gL S 21 (ix (x4 - (1 : Int32)))) * (((16 : Int32) - x2)).toInt64))) fun S5 =>
rec (x4 + (-1)) S5)
else
k S
noncomputable def b_X0_countWays_22 (x1 : Int32) (x2 : Int32) (k : St → Option (St)) (rec : Int32 → St → Option (St)) (x3 : Int32) (S : St) : Option (St) :=
if x3 < x1 then (
it1 (b_X0_countWays_31 x1 x2 x3 (fun S6 =>
chk (0 : Int32) 13 <|
chk (0 : Int32) 13 <|
nm (sL S6 21 (ix (0 : Int32)) ((gL S6 21 (ix (0 : Int32))) * (x2).toInt64)) fun S7 =>
nm (sL S7 1 0 ((gL S7 1 0) * (16 : Int64))) fun S8 =>
rec (x3 + 1) S8)) 5000 (12 : Int32) S)
else
k S
noncomputable def m_X0_countWays (x1 : Int32) (x2 : Int32) (S : St) : Option (St) :=
bndV (m_J7_fill_d0a16_21 (0 : Int64) S) fun S1 =>
chk (0 : Int32) 13 <|
nm (sL S1 21 (ix (0 : Int32)) (1 : Int64)) fun S3 =>
nm (sL S3 1 0 (1 : Int64)) fun S4 =>
it1 (b_X0_countWays_22 x1 x2 (fun S9 =>
some S9)) 5000 (0 : Int32) S4
set_option maxRecDepth 20000 in
theorem u_X0_countWays_31 (C : Cx p s m args meth c cX0_countWays 5 RX0 D (tyX cI cJ cZ) ad n (wX ad cI cJ cZ)) (hr : meth.sig.returnType = none) (x1 : Int32) (x2 : Int32) (x3 : Int32) (k : St → Option (St)) (hk : ∀ (S : St), GM p l e ({ frames := 1, cells := 0, slots := 0, locals := 24 } : Room) s m args below meth c D ad n (wX ad cI cJ cZ) 5 (QV D (wX ad cI cJ cZ) ad n args s below) (k S) S 75 [(0, .ref (ad 5)), (1, .int x1), (2, .int x2), (3, .int x3)] []) (rec : Int32 → St → Option (St)) (hrec : ∀ (x4 : Int32) (S : St), GM p l e ({ frames := 1, cells := 0, slots := 0, locals := 24 } : Room) s m args below meth c D ad n (wX ad cI cJ cZ) 5 (QV D (wX ad cI cJ cZ) ad n args s below) (rec x4 S) S 31 [(0, .ref (ad 5)), (1, .int x1), (2, .int x2), (3, .int x3), (4, .int x4)] []) (x4 : Int32) (S : St) : GM p l e ({ frames := 1, cells := 0, slots := 0, locals := 24 } : Room) s m args below meth c D ad n (wX ad cI cJ cZ) 5 (QV D (wX ad cI cJ cZ) ad n args s below) (b_X0_countWays_31 x1 x2 x3 k rec x4 S) S 31 [(0, .ref (ad 5)), (1, .int x1), (2, .int x2), (3, .int x3), (4, .int x4)] [] := by
  unfold b_X0_countWays_31
  refine g_iload (pc := 31) C dX0_countWays_31 4 rfl ?_
  refine g_if_le (pc := 33) (tgt := 75) C dX0_countWays_33 (by decide) ?_ ?_
  · refine g_sub [0, 1, 2, 3] rfl (hk _)
  · refine g_aload_n (pc := 36) C dX0_countWays_36 (i := 0) rfl 0 rfl ?_
    refine gt_X0_ways (pc := 37) C q217 dX0_countWays_37 ?_
    refine g_iload (pc := 40) C dX0_countWays_40 4 rfl ?_
    refine g_aload_n (pc := 42) C dX0_countWays_42 (i := 0) rfl 0 rfl ?_
    refine gt_X0_ways (pc := 43) C q217 dX0_countWays_43 ?_
    refine g_iload (pc := 46) C dX0_countWays_46 4 rfl ?_
    refine al_X0_ways (pc := 48) C dX0_countWays_48 ?_
    refine g_iload_n (pc := 49) C dX0_countWays_49 (i := 2) rfl 2 rfl ?_
    refine g_i2l (pc := 50) C dX0_countWays_50 ?_
    refine g_lmul (pc := 51) C dX0_countWays_51 ?_
    refine g_aload_n (pc := 52) C dX0_countWays_52 (i := 0) rfl 0 rfl ?_
    refine gt_X0_ways (pc := 53) C q217 dX0_countWays_53 ?_
    refine g_iload (pc := 56) C dX0_countWays_56 4 rfl ?_
    refine g_iconst (pc := 58) (v := 1) C dX0_countWays_58 (by decide) ?_
    refine g_isub (pc := 59) C dX0_countWays_59 ?_
    refine al_X0_ways (pc := 60) C dX0_countWays_60 ?_
    refine g_bipush (pc := 61) (v := 16) C dX0_countWays_61 (by decide) ?_
    refine g_iload_n (pc := 63) C dX0_countWays_63 (i := 2) rfl 2 rfl ?_
    refine g_isub (pc := 64) C dX0_countWays_64 ?_
    refine g_i2l (pc := 65) C dX0_countWays_65 ?_
    refine g_lmul (pc := 66) C dX0_countWays_66 ?_
    refine g_ladd (pc := 67) C dX0_countWays_67 ?_
    refine as_X0_ways (pc := 68) C dX0_countWays_68 fun S5 => ?_
    refine g_iinc (pc := 69) (v := (x4 + (-1))) (lv2 := [(4, .int (x4 + (-1))), (0, .ref (ad 5)), (1, .int x1), (2, .int x2), (3, .int x3)]) C dX0_countWays_69 4 rfl rfl (by decide) rfl ?_
    refine g_goto (pc := 72) (tgt := 31) C dX0_countWays_72 (by decide) ?_
    refine g_sub [1, 2, 3, 4, 0] rfl (hrec _ _)
set_option maxRecDepth 20000 in
theorem u_X0_countWays_22 (C : Cx p s m args meth c cX0_countWays 5 RX0 D (tyX cI cJ cZ) ad n (wX ad cI cJ cZ)) (hr : meth.sig.returnType = none) (x1 : Int32) (x2 : Int32) (k : St → Option (St)) (hk : ∀ (S : St), GM p l e ({ frames := 1, cells := 0, slots := 0, locals := 24 } : Room) s m args below meth c D ad n (wX ad cI cJ cZ) 5 (QV D (wX ad cI cJ cZ) ad n args s below) (k S) S 104 [] []) (rec : Int32 → St → Option (St)) (hrec : ∀ (x3 : Int32) (S : St), GM p l e ({ frames := 1, cells := 0, slots := 0, locals := 24 } : Room) s m args below meth c D ad n (wX ad cI cJ cZ) 5 (QV D (wX ad cI cJ cZ) ad n args s below) (rec x3 S) S 22 [(0, .ref (ad 5)), (1, .int x1), (2, .int x2), (3, .int x3)] []) (x3 : Int32) (S : St) : GM p l e ({ frames := 1, cells := 0, slots := 0, locals := 24 } : Room) s m args below meth c D ad n (wX ad cI cJ cZ) 5 (QV D (wX ad cI cJ cZ) ad n args s below) (b_X0_countWays_22 x1 x2 k rec x3 S) S 22 [(0, .ref (ad 5)), (1, .int x1), (2, .int x2), (3, .int x3)] [] := by
  unfold b_X0_countWays_22
  refine g_iload_n (pc := 22) C dX0_countWays_22 (i := 3) rfl 3 rfl ?_
  refine g_iload_n (pc := 23) C dX0_countWays_23 (i := 1) rfl 1 rfl ?_
  refine g_icmp_ge (pc := 24) (tgt := 104) C dX0_countWays_24 (by decide) ?_ ?_
  · refine g_sub [] rfl (hk _)
  · refine g_bipush (pc := 27) (v := 12) C dX0_countWays_27 (by decide) ?_
    refine g_istore (pc := 29) (i := 4) (j := 0) (lv2 := [(4, .int (12 : Int32)), (0, .ref (ad 5)), (1, .int x1), (2, .int x2), (3, .int x3)]) C dX0_countWays_29 (by decide) rfl ?_
    refine g_sub [1, 2, 3, 4, 0] (lv2 := [(0, .ref (ad 5)), (1, .int x1), (2, .int x2), (3, .int x3), (4, .int (12 : Int32))]) rfl ?_
    refine g_it1 (pc := 31) (u_X0_countWays_31 C hr _ _ _ _ fun S6 => ?_) _ _ _
    refine g_aload_n (pc := 75) C dX0_countWays_75 (i := 0) rfl 0 rfl ?_
    refine gt_X0_ways (pc := 76) C q217 dX0_countWays_76 ?_
    refine g_iconst (pc := 79) (v := 0) C dX0_countWays_79 (by decide) ?_
    refine g_dup2 (pc := 80) C dX0_countWays_80 rfl rfl ?_
    refine al_X0_ways (pc := 81) C dX0_countWays_81 ?_
    refine g_iload_n (pc := 82) C dX0_countWays_82 (i := 2) rfl 2 rfl ?_
    refine g_i2l (pc := 83) C dX0_countWays_83 ?_
    refine g_lmul (pc := 84) C dX0_countWays_84 ?_
    refine as_X0_ways (pc := 85) C dX0_countWays_85 fun S7 => ?_
    refine g_aload_n (pc := 86) C dX0_countWays_86 (i := 0) rfl 0 rfl ?_
    refine g_dup (pc := 87) C dX0_countWays_87 rfl ?_
    refine gt_X0_lower (pc := 88) C q219 dX0_countWays_88 ?_
    refine g_ldc2 (pc := 91) C q728 dX0_countWays_91 ?_
    refine g_lmul (pc := 94) C dX0_countWays_94 ?_
    refine pt_X0_lower (pc := 95) C q219 dX0_countWays_95 fun S8 => ?_
    refine g_iinc (pc := 98) (v := (x3 + 1)) (lv2 := [(3, .int (x3 + 1)), (0, .ref (ad 5)), (1, .int x1), (2, .int x2)]) C dX0_countWays_98 3 rfl rfl (by decide) rfl ?_
    refine g_goto (pc := 101) (tgt := 22) C dX0_countWays_101 (by decide) ?_
    refine g_sub [1, 2, 3, 0] rfl (hrec _ _)
set_option maxRecDepth 20000 in
theorem c_X0_countWays {l : Launch} {D : va_G} {ad : Nat → Nat} {cI cJ cZ : ClassId} {n : Nat} (hD : ∀ sz S, va_D (Adr ad n sz) (wX ad cI cJ cZ S)) {x1 : Int32} {x2 : Int32} {S : St} {z : St} (hf : m_X0_countWays x1 x2 S = some z) : CtV l yX0_countWays cX0_countWays 5 none ({ frames := 1, cells := 0, slots := 0, locals := 24 } : Room) D (wX ad cI cJ cZ) (tyX cI cJ cZ) ad n [.ref (ad 5), .int x1, .int x2] S z := by
  refine CtV.of hf (by decide +kernel) (Nat.le_of_ble_eq_true rfl) hD (fun p e s m args below meth c C hr => ?_)
  refine g_sub [0, 1, 2] (lv2 := [(0, .ref (ad 5)), (1, .int x1), (2, .int x2)]) rfl ?_
  unfold m_X0_countWays
  refine g_aload_n (pc := 0) C dX0_countWays_0 (i := 0) rfl 0 rfl ?_
  refine gt_X0_ways (pc := 1) C q217 dX0_countWays_1 ?_
  refine g_lconst (pc := 4) (v := 0) C dX0_countWays_4 rfl ?_
  refine g_callSv (pc := 5) (As := [.ref _, .long _]) C q741 mw_J7_fill_d0a16 (fun _ hz => c_J7_fill_d0a16_21 C.2.2.2.2.2.2.2.1 hz) ⟨Nat.le_of_ble_eq_true rfl, Nat.le_of_ble_eq_true rfl⟩ rfl rfl rfl (Nat.le_of_ble_eq_true rfl) dX0_countWays_5 fun S1 => ?_
  refine g_aload_n (pc := 8) C dX0_countWays_8 (i := 0) rfl 0 rfl ?_
  refine gt_X0_ways (pc := 9) C q217 dX0_countWays_9 ?_
  refine g_iconst (pc := 12) (v := 0) C dX0_countWays_12 (by decide) ?_
  refine g_lconst (pc := 13) (v := 1) C dX0_countWays_13 rfl ?_
  refine as_X0_ways (pc := 14) C dX0_countWays_14 fun S3 => ?_
  refine g_aload_n (pc := 15) C dX0_countWays_15 (i := 0) rfl 0 rfl ?_
  refine g_lconst (pc := 16) (v := 1) C dX0_countWays_16 rfl ?_
  refine pt_X0_lower (pc := 17) C q219 dX0_countWays_17 fun S4 => ?_
  refine g_iconst (pc := 20) (v := 0) C dX0_countWays_20 (by decide) ?_
  refine g_istore_n (pc := 21) (i := 3) (lv2 := [(3, .int (0 : Int32)), (0, .ref (ad 5)), (1, .int x1), (2, .int x2)]) C dX0_countWays_21 rfl (by decide) rfl ?_
  refine g_sub [1, 2, 3, 0] (lv2 := [(0, .ref (ad 5)), (1, .int x1), (2, .int x2), (3, .int (0 : Int32))]) rfl ?_
  refine g_it1 (pc := 22) (u_X0_countWays_22 C hr _ _ _ fun S9 => ?_) _ _ _
  exact g_vret (pc := 104) C hr dX0_countWays_104
noncomputable def b_X0_reduce_2 (k : St → Option (St)) (rec : Int32 → St → Option (St)) (x1 : Int32) (S : St) : Option (St) :=
if x1 < (48 : Int32) then (
if 0 < (lg_cmp (gL S 1 0) (1 : Int64)) then (
if (lg_cmp ((gL S 0 0) &&& (1 : Int64)) (0 : Int64)) = 0 then (
nm (sL S 0 0 ((gL S 0 0) >>> (((1 : Int32)).toInt64 &&& 63))) fun S1 =>
nm (sL S1 1 0 ((gL S1 1 0) >>> (((1 : Int32)).toInt64 &&& 63))) fun S2 =>
rec (x1 + 1) S2)
else
k S)
else
k S)
else
k S
noncomputable def m_X0_reduce (S : St) : Option (St) :=
it1 (b_X0_reduce_2 (fun S3 =>
some S3)) 5000 (0 : Int32) S
set_option maxRecDepth 20000 in
theorem u_X0_reduce_2 (C : Cx p s m args meth c cX0_reduce 2 RX0 D (tyX cI cJ cZ) ad n (wX ad cI cJ cZ)) (hr : meth.sig.returnType = none) (k : St → Option (St)) (hk : ∀ (S : St), GM p l e ({ frames := 0, cells := 0, slots := 0, locals := 0 } : Room) s m args below meth c D ad n (wX ad cI cJ cZ) 2 (QV D (wX ad cI cJ cZ) ad n args s below) (k S) S 54 [] []) (rec : Int32 → St → Option (St)) (hrec : ∀ (x1 : Int32) (S : St), GM p l e ({ frames := 0, cells := 0, slots := 0, locals := 0 } : Room) s m args below meth c D ad n (wX ad cI cJ cZ) 2 (QV D (wX ad cI cJ cZ) ad n args s below) (rec x1 S) S 2 [(0, .ref (ad 5)), (1, .int x1)] []) (x1 : Int32) (S : St) : GM p l e ({ frames := 0, cells := 0, slots := 0, locals := 0 } : Room) s m args below meth c D ad n (wX ad cI cJ cZ) 2 (QV D (wX ad cI cJ cZ) ad n args s below) (b_X0_reduce_2 k rec x1 S) S 2 [(0, .ref (ad 5)), (1, .int x1)] [] := by
  unfold b_X0_reduce_2
  refine g_iload_n (pc := 2) C dX0_reduce_2 (i := 1) rfl 1 rfl ?_
  refine g_bipush (pc := 3) (v := 48) C dX0_reduce_3 (by decide) ?_
  refine g_icmp_ge (pc := 5) (tgt := 54) C dX0_reduce_5 (by decide) ?_ ?_
  · refine g_sub [] rfl (hk _)
  · refine g_aload_n (pc := 8) C dX0_reduce_8 (i := 0) rfl 0 rfl ?_
    refine gt_X0_lower (pc := 9) C q219 dX0_reduce_9 ?_
    refine g_lconst (pc := 12) (v := 1) C dX0_reduce_12 rfl ?_
    refine g_lcmp (pc := 13) C dX0_reduce_13 ?_
    refine g_if_le (pc := 14) (tgt := 54) C dX0_reduce_14 (by decide) ?_ ?_
    · refine g_sub [] rfl (hk _)
    · refine g_aload_n (pc := 17) C dX0_reduce_17 (i := 0) rfl 0 rfl ?_
      refine gt_X0_upper (pc := 18) C q218 dX0_reduce_18 ?_
      refine g_lconst (pc := 21) (v := 1) C dX0_reduce_21 rfl ?_
      refine g_land (pc := 22) C dX0_reduce_22 ?_
      refine g_lconst (pc := 23) (v := 0) C dX0_reduce_23 rfl ?_
      refine g_lcmp (pc := 24) C dX0_reduce_24 ?_
      refine g_if_ne (pc := 25) (tgt := 54) C dX0_reduce_25 (by decide) ?_ ?_
      · refine g_sub [] rfl (hk _)
      · refine g_aload_n (pc := 28) C dX0_reduce_28 (i := 0) rfl 0 rfl ?_
        refine g_dup (pc := 29) C dX0_reduce_29 rfl ?_
        refine gt_X0_upper (pc := 30) C q218 dX0_reduce_30 ?_
        refine g_iconst (pc := 33) (v := 1) C dX0_reduce_33 (by decide) ?_
        refine g_lshr (pc := 34) C dX0_reduce_34 ?_
        refine pt_X0_upper (pc := 35) C q218 dX0_reduce_35 fun S1 => ?_
        refine g_aload_n (pc := 38) C dX0_reduce_38 (i := 0) rfl 0 rfl ?_
        refine g_dup (pc := 39) C dX0_reduce_39 rfl ?_
        refine gt_X0_lower (pc := 40) C q219 dX0_reduce_40 ?_
        refine g_iconst (pc := 43) (v := 1) C dX0_reduce_43 (by decide) ?_
        refine g_lshr (pc := 44) C dX0_reduce_44 ?_
        refine pt_X0_lower (pc := 45) C q219 dX0_reduce_45 fun S2 => ?_
        refine g_iinc (pc := 48) (v := (x1 + 1)) (lv2 := [(1, .int (x1 + 1)), (0, .ref (ad 5))]) C dX0_reduce_48 1 rfl rfl (by decide) rfl ?_
        refine g_goto (pc := 51) (tgt := 2) C dX0_reduce_51 (by decide) ?_
        refine g_sub [1, 0] rfl (hrec _ _)
set_option maxRecDepth 20000 in
theorem c_X0_reduce {l : Launch} {D : va_G} {ad : Nat → Nat} {cI cJ cZ : ClassId} {n : Nat} (hD : ∀ sz S, va_D (Adr ad n sz) (wX ad cI cJ cZ S)) {S : St} {z : St} (hf : m_X0_reduce S = some z) : CtV l yX0_reduce cX0_reduce 2 none ({ frames := 0, cells := 0, slots := 0, locals := 0 } : Room) D (wX ad cI cJ cZ) (tyX cI cJ cZ) ad n [.ref (ad 5)] S z := by
  refine CtV.of hf (by decide +kernel) (Nat.le_of_ble_eq_true rfl) hD (fun p e s m args below meth c C hr => ?_)
  refine g_sub [0] (lv2 := [(0, .ref (ad 5))]) rfl ?_
  unfold m_X0_reduce
  refine g_iconst (pc := 0) (v := 0) C dX0_reduce_0 (by decide) ?_
  refine g_istore_n (pc := 1) (i := 1) (lv2 := [(1, .int (0 : Int32)), (0, .ref (ad 5))]) C dX0_reduce_1 rfl (by decide) rfl ?_
  refine g_sub [1, 0] (lv2 := [(0, .ref (ad 5)), (1, .int (0 : Int32))]) rfl ?_
  refine g_it1 (pc := 2) (u_X0_reduce_2 C hr _ fun S3 => ?_) _ _ _
  exact g_vret (pc := 54) C hr dX0_reduce_54
noncomputable def b_X0_takeAtLeast_14 (k : St → Option (St)) (rec : Int32 → St → Option (St)) (x4 : Int32) (S : St) : Option (St) :=
if (12 : Int32) < x4 then (
k S)
else
chk x4 13 <|
nm (sL S 0 0 ((gL S 0 0) + (gL S 21 (ix x4)))) fun S4 =>
rec (x4 + 1) S4
noncomputable def m_X0_takeAtLeast (x1 : Int32) (x2 : Int32) (x3 : Int32) (S : St) : Option (St) :=
bndV (m_X0_countWays x1 x2 S) fun S1 =>
nm (sL S1 0 0 (0 : Int64)) fun S3 =>
it1 (b_X0_takeAtLeast_14 (fun S5 =>
bndV (m_X0_reduce S5) fun S6 =>
some S6)) 5000 x3 S3
set_option maxRecDepth 20000 in
theorem u_X0_takeAtLeast_14 (C : Cx p s m args meth c cX0_takeAtLeast 5 RX0 D (tyX cI cJ cZ) ad n (wX ad cI cJ cZ)) (hr : meth.sig.returnType = none) (k : St → Option (St)) (hk : ∀ (S : St), GM p l e ({ frames := 2, cells := 0, slots := 0, locals := 48 } : Room) s m args below meth c D ad n (wX ad cI cJ cZ) 5 (QV D (wX ad cI cJ cZ) ad n args s below) (k S) S 43 [(0, .ref (ad 5))] []) (rec : Int32 → St → Option (St)) (hrec : ∀ (x4 : Int32) (S : St), GM p l e ({ frames := 2, cells := 0, slots := 0, locals := 48 } : Room) s m args below meth c D ad n (wX ad cI cJ cZ) 5 (QV D (wX ad cI cJ cZ) ad n args s below) (rec x4 S) S 14 [(0, .ref (ad 5)), (4, .int x4)] []) (x4 : Int32) (S : St) : GM p l e ({ frames := 2, cells := 0, slots := 0, locals := 48 } : Room) s m args below meth c D ad n (wX ad cI cJ cZ) 5 (QV D (wX ad cI cJ cZ) ad n args s below) (b_X0_takeAtLeast_14 k rec x4 S) S 14 [(0, .ref (ad 5)), (4, .int x4)] [] := by
  unfold b_X0_takeAtLeast_14
  refine g_iload (pc := 14) C dX0_takeAtLeast_14 1 rfl ?_
  refine g_bipush (pc := 16) (v := 12) C dX0_takeAtLeast_16 (by decide) ?_
  refine g_icmp_gt (pc := 18) (tgt := 43) C dX0_takeAtLeast_18 (by decide) ?_ ?_
  · refine g_sub [0] rfl (hk _)
  · refine g_aload_n (pc := 21) C dX0_takeAtLeast_21 (i := 0) rfl 0 rfl ?_
    refine g_dup (pc := 22) C dX0_takeAtLeast_22 rfl ?_
    refine gt_X0_upper (pc := 23) C q218 dX0_takeAtLeast_23 ?_
    refine g_aload_n (pc := 26) C dX0_takeAtLeast_26 (i := 0) rfl 0 rfl ?_
    refine gt_X0_ways (pc := 27) C q217 dX0_takeAtLeast_27 ?_
    refine g_iload (pc := 30) C dX0_takeAtLeast_30 1 rfl ?_
    refine al_X0_ways (pc := 32) C dX0_takeAtLeast_32 ?_
    refine g_ladd (pc := 33) C dX0_takeAtLeast_33 ?_
    refine pt_X0_upper (pc := 34) C q218 dX0_takeAtLeast_34 fun S4 => ?_
    refine g_iinc (pc := 37) (v := (x4 + 1)) (lv2 := [(4, .int (x4 + 1)), (0, .ref (ad 5))]) C dX0_takeAtLeast_37 1 rfl rfl (by decide) rfl ?_
    refine g_goto (pc := 40) (tgt := 14) C dX0_takeAtLeast_40 (by decide) ?_
    refine g_sub [1, 0] rfl (hrec _ _)
set_option maxRecDepth 20000 in
theorem c_X0_takeAtLeast {l : Launch} {D : va_G} {ad : Nat → Nat} {cI cJ cZ : ClassId} {n : Nat} (hD : ∀ sz S, va_D (Adr ad n sz) (wX ad cI cJ cZ S)) {x1 : Int32} {x2 : Int32} {x3 : Int32} {S : St} {z : St} (hf : m_X0_takeAtLeast x1 x2 x3 S = some z) : CtV l yX0_takeAtLeast cX0_takeAtLeast 5 none ({ frames := 2, cells := 0, slots := 0, locals := 48 } : Room) D (wX ad cI cJ cZ) (tyX cI cJ cZ) ad n [.ref (ad 5), .int x1, .int x2, .int x3] S z := by
  refine CtV.of hf (by decide +kernel) (Nat.le_of_ble_eq_true rfl) hD (fun p e s m args below meth c C hr => ?_)
  refine g_sub [0, 1, 2, 3] (lv2 := [(0, .ref (ad 5)), (1, .int x1), (2, .int x2), (3, .int x3)]) rfl ?_
  unfold m_X0_takeAtLeast
  refine g_aload_n (pc := 0) C dX0_takeAtLeast_0 (i := 0) rfl 0 rfl ?_
  refine g_iload_n (pc := 1) C dX0_takeAtLeast_1 (i := 1) rfl 1 rfl ?_
  refine g_iload_n (pc := 2) C dX0_takeAtLeast_2 (i := 2) rfl 2 rfl ?_
  refine g_callVv (pc := 3) (As := [.int _, .int _]) C q737 mw_X0_countWays (fun _ hz => c_X0_countWays C.2.2.2.2.2.2.2.1 hz) ⟨Nat.le_of_ble_eq_true rfl, Nat.le_of_ble_eq_true rfl⟩ rfl rfl 5 rfl rfl rfl (Nat.le_of_ble_eq_true rfl) dX0_takeAtLeast_3 fun S1 => ?_
  refine g_aload_n (pc := 6) C dX0_takeAtLeast_6 (i := 0) rfl 0 rfl ?_
  refine g_lconst (pc := 7) (v := 0) C dX0_takeAtLeast_7 rfl ?_
  refine pt_X0_upper (pc := 8) C q218 dX0_takeAtLeast_8 fun S3 => ?_
  refine g_iload_n (pc := 11) C dX0_takeAtLeast_11 (i := 3) rfl 3 rfl ?_
  refine g_istore (pc := 12) (i := 4) (j := 0) (lv2 := [(4, .int x3), (0, .ref (ad 5)), (1, .int x1), (2, .int x2), (3, .int x3)]) C dX0_takeAtLeast_12 (by decide) rfl ?_
  refine g_sub [1, 0] (lv2 := [(0, .ref (ad 5)), (4, .int x3)]) rfl ?_
  refine g_it1 (pc := 14) (u_X0_takeAtLeast_14 C hr _ fun S5 => ?_) _ _ _
  refine g_aload_n (pc := 43) C dX0_takeAtLeast_43 (i := 0) rfl 0 rfl ?_
  refine g_callVv (pc := 44) (As := []) C q729 mw_X0_reduce (fun _ hz => c_X0_reduce C.2.2.2.2.2.2.2.1 hz) ⟨Nat.le_of_ble_eq_true rfl, Nat.le_of_ble_eq_true rfl⟩ rfl rfl 5 rfl rfl rfl (Nat.le_of_ble_eq_true rfl) dX0_takeAtLeast_44 fun S6 => ?_
  exact g_vret (pc := 47) C hr dX0_takeAtLeast_47
noncomputable def m_X0_below (S : St) : Option (Int64 × St) :=
some ((gL S 1 0), S)
set_option maxRecDepth 20000 in
theorem c_X0_below {l : Launch} {D : va_G} {ad : Nat → Nat} {cI cJ cZ : ClassId} {n : Nat} (hD : ∀ sz S, va_D (Adr ad n sz) (wX ad cI cJ cZ S)) {S : St} {z : Int64 × St} (hf : m_X0_below S = some z) : CtL l yX0_below cX0_below 1 (some .long) ({ frames := 0, cells := 0, slots := 0, locals := 0 } : Room) D (wX ad cI cJ cZ) (tyX cI cJ cZ) ad n [.ref (ad 5)] S z := by
  refine CtL.of hf (by decide +kernel) (Nat.le_of_ble_eq_true rfl) hD (fun p e s m args below meth c C hr => ?_)
  refine g_sub [0] (lv2 := [(0, .ref (ad 5))]) rfl ?_
  unfold m_X0_below
  refine g_aload_n (pc := 0) C dX0_below_0 (i := 0) rfl 0 rfl ?_
  refine gt_X0_lower (pc := 1) C q219 dX0_below_1 ?_
  exact g_lret (pc := 4) C hr dX0_below_4
noncomputable def m_X0_above (S : St) : Option (Int64 × St) :=
some ((gL S 0 0), S)
set_option maxRecDepth 20000 in
theorem c_X0_above {l : Launch} {D : va_G} {ad : Nat → Nat} {cI cJ cZ : ClassId} {n : Nat} (hD : ∀ sz S, va_D (Adr ad n sz) (wX ad cI cJ cZ S)) {S : St} {z : Int64 × St} (hf : m_X0_above S = some z) : CtL l yX0_above cX0_above 1 (some .long) ({ frames := 0, cells := 0, slots := 0, locals := 0 } : Room) D (wX ad cI cJ cZ) (tyX cI cJ cZ) ad n [.ref (ad 5)] S z := by
  refine CtL.of hf (by decide +kernel) (Nat.le_of_ble_eq_true rfl) hD (fun p e s m args below meth c C hr => ?_)
  refine g_sub [0] (lv2 := [(0, .ref (ad 5))]) rfl ?_
  unfold m_X0_above
  refine g_aload_n (pc := 0) C dX0_above_0 (i := 0) rfl 0 rfl ?_
  refine gt_X0_upper (pc := 1) C q218 dX0_above_1 ?_
  exact g_lret (pc := 4) C hr dX0_above_4
noncomputable def m_X0_takeMean (x1 : Int32) (x2 : Int32) (S : St) : Option (St) :=
nm (sL S 0 0 ((x1 * ((16 : Int32) - x2))).toInt64) fun S1 =>
nm (sL S1 1 0 (16 : Int64)) fun S2 =>
bndV (m_X0_reduce S2) fun S3 =>
some S3
set_option maxRecDepth 20000 in
theorem c_X0_takeMean {l : Launch} {D : va_G} {ad : Nat → Nat} {cI cJ cZ : ClassId} {n : Nat} (hD : ∀ sz S, va_D (Adr ad n sz) (wX ad cI cJ cZ S)) {x1 : Int32} {x2 : Int32} {S : St} {z : St} (hf : m_X0_takeMean x1 x2 S = some z) : CtV l yX0_takeMean cX0_takeMean 3 none ({ frames := 1, cells := 0, slots := 0, locals := 21 } : Room) D (wX ad cI cJ cZ) (tyX cI cJ cZ) ad n [.ref (ad 5), .int x1, .int x2] S z := by
  refine CtV.of hf (by decide +kernel) (Nat.le_of_ble_eq_true rfl) hD (fun p e s m args below meth c C hr => ?_)
  refine g_sub [0, 1, 2] (lv2 := [(0, .ref (ad 5)), (1, .int x1), (2, .int x2)]) rfl ?_
  unfold m_X0_takeMean
  refine g_aload_n (pc := 0) C dX0_takeMean_0 (i := 0) rfl 0 rfl ?_
  refine g_iload_n (pc := 1) C dX0_takeMean_1 (i := 1) rfl 1 rfl ?_
  refine g_bipush (pc := 2) (v := 16) C dX0_takeMean_2 (by decide) ?_
  refine g_iload_n (pc := 4) C dX0_takeMean_4 (i := 2) rfl 2 rfl ?_
  refine g_isub (pc := 5) C dX0_takeMean_5 ?_
  refine g_imul (pc := 6) C dX0_takeMean_6 ?_
  refine g_i2l (pc := 7) C dX0_takeMean_7 ?_
  refine pt_X0_upper (pc := 8) C q218 dX0_takeMean_8 fun S1 => ?_
  refine g_aload_n (pc := 11) C dX0_takeMean_11 (i := 0) rfl 0 rfl ?_
  refine g_ldc2 (pc := 12) C q728 dX0_takeMean_12 ?_
  refine pt_X0_lower (pc := 15) C q219 dX0_takeMean_15 fun S2 => ?_
  refine g_aload_n (pc := 18) C dX0_takeMean_18 (i := 0) rfl 0 rfl ?_
  refine g_callVv (pc := 19) (As := []) C q729 mw_X0_reduce (fun _ hz => c_X0_reduce C.2.2.2.2.2.2.2.1 hz) ⟨Nat.le_of_ble_eq_true rfl, Nat.le_of_ble_eq_true rfl⟩ rfl rfl 5 rfl rfl rfl (Nat.le_of_ble_eq_true rfl) dX0_takeMean_19 fun S3 => ?_
  exact g_vret (pc := 22) C hr dX0_takeMean_22
end MM
