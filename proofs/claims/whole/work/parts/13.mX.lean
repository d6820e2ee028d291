section MM
variable {p : Program} {l : Launch} {e : Env} {s : State} {m : MethodId} {args : Array Value} {below : List Frame} {meth : Method} {c : Code} {D : va_G} {ad : Nat → Nat} {n : Nat} {cI cJ cZ : ClassId}
noncomputable def b_X6_weighFall_12 (x1 : Int32) (x2 : Int32) (k : St → Option (St)) (rec : Int32 → St → Option (St)) (x3 : Int32) (S : St) : Option (St) :=
bnd (m_X1_cells S) fun r4 S3 =>
if x3 < r4 then (
bnd (m_X5_yearAsBuilt x3 S3) fun r6 S5 =>
chk x3 12 <|
nm (sI S5 28 (ix x3) r6) fun S7 =>
rec (x3 + 1) S7)
else
k S3
noncomputable def m_X6_weighFall (x1 : Int32) (S : St) : Option (St) :=
bnd (m_X5_build x1 (0 : Int32) S) fun r2 S1 =>
it1 (b_X6_weighFall_12 x1 r2 (fun S8 =>
bnd (m_X5_build x1 r2 S8) fun r10 S9 =>
some S9)) 5000 (0 : Int32) S1
set_option maxRecDepth 20000 in
theorem u_X6_weighFall_12 (C : Cx p s m args meth c cX6_weighFall 4 RX6 D (tyX cI cJ cZ) ad n (wX ad cI cJ cZ)) (hr : meth.sig.returnType = none) (x1 : Int32) (x2 : Int32) (k : St → Option (St)) (hk : ∀ (S : St), GM p l e ({ frames := 3, cells := 0, slots := 0, locals := 75 } : Room) s m args below meth c D ad n (wX ad cI cJ cZ) 4 (QV D (wX ad cI cJ cZ) ad n args s below) (k S) S 43 [(0, .ref (ad 0)), (1, .int x1), (2, .int x2)] []) (rec : Int32 → St → Option (St)) (hrec : ∀ (x3 : Int32) (S : St), GM p l e ({ frames := 3, cells := 0, slots := 0, locals := 75 } : Room) s m args below meth c D ad n (wX ad cI cJ cZ) 4 (QV D (wX ad cI cJ cZ) ad n args s below) (rec x3 S) S 12 [(0, .ref (ad 0)), (1, .int x1), (2, .int x2), (3, .int x3)] []) (x3 : Int32) (S : St) : GM p l e ({ frames := 3, cells := 0, slots := 0, locals := 75 } : Room) s m args below meth c D ad n (wX ad cI cJ cZ) 4 (QV D (wX ad cI cJ cZ) ad n args s below) (b_X6_weighFall_12 x1 x2 k rec x3 S) S 12 [(0, .ref (ad 0)), (1, .int x1), (2, .int x2), (3, .int x3)] [] := by
  unfold b_X6_weighFall_12
  refine g_iload_n (pc := 12) C dX6_weighFall_12 (i := 3) rfl 3 rfl ?_
  refine g_aload_n (pc := 13) C dX6_weighFall_13 (i := 0) rfl 0 rfl ?_
  refine gt_X6_ground (pc := 14) C q248 dX6_weighFall_14 ?_
  refine g_callVi (pc := 17) (As := []) C q399 mw_X1_cells (fun _ hz => c_X1_cells C.2.2.2.2.2.2.2.1 hz) ⟨Nat.le_of_ble_eq_true rfl, Nat.le_of_ble_eq_true rfl⟩ rfl rfl 2 rfl rfl rfl (Nat.le_of_ble_eq_true rfl) dX6_weighFall_17 fun r4 S3 => ?_
  refine g_icmp_ge (pc := 20) (tgt := 43) C dX6_weighFall_20 (by decide) ?_ ?_
  · refine g_sub [0, 1, 2] rfl (hk _)
  · refine g_aload_n (pc := 23) C dX6_weighFall_23 (i := 0) rfl 0 rfl ?_
    refine gt_X6_yearsAfterFall (pc := 24) C q256 dX6_weighFall_24 ?_
    refine g_iload_n (pc := 27) C dX6_weighFall_27 (i := 3) rfl 3 rfl ?_
    refine g_aload_n (pc := 28) C dX6_weighFall_28 (i := 0) rfl 0 rfl ?_
    refine gt_X6_sun (pc := 29) C q247 dX6_weighFall_29 ?_
    refine g_iload_n (pc := 32) C dX6_weighFall_32 (i := 3) rfl 3 rfl ?_
    refine g_callVi (pc := 33) (As := [.int _]) C q569 mw_X5_yearAsBuilt (fun _ hz => c_X5_yearAsBuilt C.2.2.2.2.2.2.2.1 hz) ⟨Nat.le_of_ble_eq_true rfl, Nat.le_of_ble_eq_true rfl⟩ rfl rfl 1 rfl rfl rfl (Nat.le_of_ble_eq_true rfl) dX6_weighFall_33 fun r6 S5 => ?_
    refine as_X6_yearsAfterFall (pc := 36) C dX6_weighFall_36 fun S7 => ?_
    refine g_iinc (pc := 37) (v := (x3 + 1)) (lv2 := [(3, .int (x3 + 1)), (0, .ref (ad 0)), (1, .int x1), (2, .int x2)]) C dX6_weighFall_37 3 rfl rfl (by decide) rfl ?_
    refine g_goto (pc := 40) (tgt := 12) C dX6_weighFall_40 (by decide) ?_
    refine g_sub [1, 2, 3, 0] rfl (hrec _ _)
set_option maxRecDepth 20000 in
theorem c_X6_weighFall {l : Launch} {D : va_G} {ad : Nat → Nat} {cI cJ cZ : ClassId} {n : Nat} (hD : ∀ sz S, va_D (Adr ad n sz) (wX ad cI cJ cZ S)) {x1 : Int32} {S : St} {z : St} (hf : m_X6_weighFall x1 S = some z) : CtV l yX6_weighFall cX6_weighFall 4 none ({ frames := 3, cells := 0, slots := 0, locals := 75 } : Room) D (wX ad cI cJ cZ) (tyX cI cJ cZ) ad n [.ref (ad 0), .int x1] S z := by
  refine CtV.of hf (by decide +kernel) (Nat.le_of_ble_eq_true rfl) hD (fun p e s m args below meth c C hr => ?_)
  refine g_sub [0, 1] (lv2 := [(0, .ref (ad 0)), (1, .int x1)]) rfl ?_
  unfold m_X6_weighFall
  refine g_aload_n (pc := 0) C dX6_weighFall_0 (i := 0) rfl 0 rfl ?_
  refine gt_X6_sun (pc := 1) C q247 dX6_weighFall_1 ?_
  refine g_iload_n (pc := 4) C dX6_weighFall_4 (i := 1) rfl 1 rfl ?_
  refine g_iconst (pc := 5) (v := 0) C dX6_weighFall_5 (by decide) ?_
  refine g_callVi (pc := 6) (As := [.int _, .int _]) C q412 mw_X5_build (fun _ hz => c_X5_build C.2.2.2.2.2.2.2.1 hz) ⟨Nat.le_of_ble_eq_true rfl, Nat.le_of_ble_eq_true rfl⟩ rfl rfl 1 rfl rfl rfl (Nat.le_of_ble_eq_true rfl) dX6_weighFall_6 fun r2 S1 => ?_
  refine g_istore_n (pc := 9) (i := 2) (lv2 := [(2, .int r2), (0, .ref (ad 0)), (1, .int x1)]) C dX6_weighFall_9 rfl (by decide) rfl ?_
  refine g_iconst (pc := 10) (v := 0) C dX6_weighFall_10 (by decide) ?_
  refine g_istore_n (pc := 11) (i := 3) (lv2 := [(3, .int (0 : Int32)), (2, .int r2), (0, .ref (ad 0)), (1, .int x1)]) C dX6_weighFall_11 rfl (by decide) rfl ?_
  refine g_sub [2, 3, 1, 0] (lv2 := [(0, .ref (ad 0)), (1, .int x1), (2, .int r2), (3, .int (0 : Int32))]) rfl ?_
  refine g_it1 (pc := 12) (u_X6_weighFall_12 C hr _ _ _ fun S8 => ?_) _ _ _
  refine g_aload_n (pc := 43) C dX6_weighFall_43 (i := 0) rfl 0 rfl ?_
  refine gt_X6_sun (pc := 44) C q247 dX6_weighFall_44 ?_
  refine g_iload_n (pc := 47) C dX6_weighFall_47 (i := 1) rfl 1 rfl ?_
  refine g_iload_n (pc := 48) C dX6_weighFall_48 (i := 2) rfl 2 rfl ?_
  refine g_callVi (pc := 49) (As := [.int _, .int _]) C q412 mw_X5_build (fun _ hz => c_X5_build C.2.2.2.2.2.2.2.1 hz) ⟨Nat.le_of_ble_eq_true rfl, Nat.le_of_ble_eq_true rfl⟩ rfl rfl 1 rfl rfl rfl (Nat.le_of_ble_eq_true rfl) dX6_weighFall_49 fun r10 S9 => ?_
  refine g_pop (pc := 52) C dX6_weighFall_52 rfl ?_
  exact g_vret (pc := 53) C hr dX6_weighFall_53
noncomputable def b_X2_fillSums_15_28_42 (x3 : Int32) (x4 : Int32) (x6 : Int32) (k : St → Option (St)) (rec : Int32 → St → Option (St)) (x7 : Int32) (S : St) : Option (St) :=
if x7 < ((1 : Int32) <<< (x4 &&& 31)) then (
chk x7 64 <|
chk (x7 ||| ((1 : Int32) <<< (x4 &&& 31))) 64 <|
nm (sI S 15 (ix (x7 ||| ((1 : Int32) <<< (x4 &&& 31)))) ((gI S 15 (ix x7)) + x6)) fun S3 =>
rec (x7 + 1) S3)
else
k S
noncomputable def b_X2_fillSums_15_28_7 (x3 : Int32) (k : St → Option (St)) (rec : Int32 → St → Option (St)) (x4 : Int32) (S : St) : Option (St) :=
if x4 < (6 : Int32) then (
nm ((x3 + x4)) fun y2 =>
if y2 < (gI S 45 0) then (
chk y2 12 <|
nm ((gI S 28 (ix y2))) fun y5 =>
it1 (b_X2_fillSums_15_28_42 x3 x4 y5 (fun S6 =>
rec (x4 + 1) S6)) 5000 (0 : Int32) S)
else
it1 (b_X2_fillSums_15_28_42 x3 x4 (0 : Int32) (fun S4 =>
rec (x4 + 1) S4)) 5000 (0 : Int32) S)
else
k S
noncomputable def m_X2_fillSums_15_28 (x3 : Int32) (S : St) : Option (St) :=
chk (0 : Int32) 64 <|
nm (sI S 15 (ix (0 : Int32)) (0 : Int32)) fun S1 =>
it1 (b_X2_fillSums_15_28_7 x3 (fun S7 =>
some S7)) 5000 (0 : Int32) S1
set_option maxRecDepth 20000 in
theorem u_X2_fillSums_15_28_42 (C : Cx p s m args meth c cX2_fillSums 8 RX2 D (tyX cI cJ cZ) ad n (wX ad cI cJ cZ)) (hr : meth.sig.returnType = none) (x3 : Int32) (x4 : Int32) (x6 : Int32) (k : St → Option (St)) (hk : ∀ (S : St), GM p l e ({ frames := 0, cells := 0, slots := 0, locals := 0 } : Room) s m args below meth c D ad n (wX ad cI cJ cZ) 8 (QV D (wX ad cI cJ cZ) ad n args s below) (k S) S 73 [(0, .ref (ad 3)), (1, .ref (ad 15)), (2, .ref (ad 28)), (3, .int x3), (4, .int x4)] []) (rec : Int32 → St → Option (St)) (hrec : ∀ (x7 : Int32) (S : St), GM p l e ({ frames := 0, cells := 0, slots := 0, locals := 0 } : Room) s m args below meth c D ad n (wX ad cI cJ cZ) 8 (QV D (wX ad cI cJ cZ) ad n args s below) (rec x7 S) S 42 [(0, .ref (ad 3)), (1, .ref (ad 15)), (2, .ref (ad 28)), (3, .int x3), (4, .int x4), (6, .int x6), (7, .int x7)] []) (x7 : Int32) (S : St) : GM p l e ({ frames := 0, cells := 0, slots := 0, locals := 0 } : Room) s m args below meth c D ad n (wX ad cI cJ cZ) 8 (QV D (wX ad cI cJ cZ) ad n args s below) (b_X2_fillSums_15_28_42 x3 x4 x6 k rec x7 S) S 42 [(0, .ref (ad 3)), (1, .ref (ad 15)), (2, .ref (ad 28)), (3, .int x3), (4, .int x4), (6, .int x6), (7, .int x7)] [] := by
  unfold b_X2_fillSums_15_28_42
  refine g_iload (pc := 42) C dX2_fillSums_42 6 rfl ?_
  refine g_iconst (pc := 44) (v := 1) C dX2_fillSums_44 (by decide) ?_
  refine g_iload (pc := 45) C dX2_fillSums_45 4 rfl ?_
  refine g_ishl (pc := 47) C dX2_fillSums_47 ?_
  refine g_icmp_ge (pc := 48) (tgt := 73) C dX2_fillSums_48 (by decide) ?_ ?_
  · refine g_sub [0, 1, 2, 3, 4] rfl (hk _)
  · refine g_aload_n (pc := 51) C dX2_fillSums_51 (i := 1) rfl 1 rfl ?_
    refine g_iload (pc := 52) C dX2_fillSums_52 6 rfl ?_
    refine g_iconst (pc := 54) (v := 1) C dX2_fillSums_54 (by decide) ?_
    refine g_iload (pc := 55) C dX2_fillSums_55 4 rfl ?_
    refine g_ishl (pc := 57) C dX2_fillSums_57 ?_
    refine g_ior (pc := 58) C dX2_fillSums_58 ?_
    refine g_aload_n (pc := 59) C dX2_fillSums_59 (i := 1) rfl 1 rfl ?_
    refine g_iload (pc := 60) C dX2_fillSums_60 6 rfl ?_
    refine al_X2_lowSums (pc := 62) C dX2_fillSums_62 ?_
    refine g_iload (pc := 63) C dX2_fillSums_63 5 rfl ?_
    refine g_iadd (pc := 65) C dX2_fillSums_65 ?_
    refine as_X2_lowSums (pc := 66) C dX2_fillSums_66 fun S3 => ?_
    refine g_iinc (pc := 67) (v := (x7 + 1)) (lv2 := [(7, .int (x7 + 1)), (0, .ref (ad 3)), (1, .ref (ad 15)), (2, .ref (ad 28)), (3, .int x3), (4, .int x4), (6, .int x6)]) C dX2_fillSums_67 6 rfl rfl (by decide) rfl ?_
    refine g_goto (pc := 70) (tgt := 42) C dX2_fillSums_70 (by decide) ?_
    refine g_sub [1, 2, 3, 4, 5, 6, 0] rfl (hrec _ _)
set_option maxRecDepth 20000 in
theorem u_X2_fillSums_15_28_7 (C : Cx p s m args meth c cX2_fillSums 8 RX2 D (tyX cI cJ cZ) ad n (wX ad cI cJ cZ)) (hr : meth.sig.returnType = none) (x3 : Int32) (k : St → Option (St)) (hk : ∀ (S : St), GM p l e ({ frames := 0, cells := 0, slots := 0, locals := 0 } : Room) s m args below meth c D ad n (wX ad cI cJ cZ) 8 (QV D (wX ad cI cJ cZ) ad n args s below) (k S) S 79 [] []) (rec : Int32 → St → Option (St)) (hrec : ∀ (x4 : Int32) (S : St), GM p l e ({ frames := 0, cells := 0, slots := 0, locals := 0 } : Room) s m args below meth c D ad n (wX ad cI cJ cZ) 8 (QV D (wX ad cI cJ cZ) ad n args s below) (rec x4 S) S 7 [(0, .ref (ad 3)), (1, .ref (ad 15)), (2, .ref (ad 28)), (3, .int x3), (4, .int x4)] []) (x4 : Int32) (S : St) : GM p l e ({ frames := 0, cells := 0, slots := 0, locals := 0 } : Room) s m args below meth c D ad n (wX ad cI cJ cZ) 8 (QV D (wX ad cI cJ cZ) ad n args s below) (b_X2_fillSums_15_28_7 x3 k rec x4 S) S 7 [(0, .ref (ad 3)), (1, .ref (ad 15)), (2, .ref (ad 28)), (3, .int x3), (4, .int x4)] [] := by
  unfold b_X2_fillSums_15_28_7
  refine g_iload (pc := 7) C dX2_fillSums_7 4 rfl ?_
  refine g_bipush (pc := 9) (v := 6) C dX2_fillSums_9 (by decide) ?_
  refine g_icmp_ge (pc := 11) (tgt := 79) C dX2_fillSums_11 (by decide) ?_ ?_
  · refine g_sub [] rfl (hk _)
  · refine g_iload_n (pc := 14) C dX2_fillSums_14 (i := 3) rfl 3 rfl ?_
    refine g_iload (pc := 15) C dX2_fillSums_15 4 rfl ?_
    refine g_iadd (pc := 17) C dX2_fillSums_17 ?_
    refine g_nmi fun y2 => ?_
    refine g_istore (pc := 18) (i := 5) (j := 0) (lv2 := [(5, .int y2), (0, .ref (ad 3)), (1, .ref (ad 15)), (2, .ref (ad 28)), (3, .int x3), (4, .int x4)]) C dX2_fillSums_18 (by decide) rfl ?_
    refine g_iload (pc := 20) C dX2_fillSums_20 0 rfl ?_
    refine g_aload_n (pc := 22) C dX2_fillSums_22 (i := 0) rfl 1 rfl ?_
    refine gt_X2_cells (pc := 23) C q160 dX2_fillSums_23 ?_
    refine g_icmp_ge (pc := 26) (tgt := 36) C dX2_fillSums_26 (by decide) ?_ ?_
    · refine g_iconst (pc := 36) (v := 0) C dX2_fillSums_36 (by decide) ?_
      refine g_istore (pc := 37) (i := 6) (j := 0) (lv2 := [(6, .int (0 : Int32)), (5, .int y2), (0, .ref (ad 3)), (1, .ref (ad 15)), (2, .ref (ad 28)), (3, .int x3), (4, .int x4)]) C dX2_fillSums_37 (by decide) rfl ?_
      refine g_iconst (pc := 39) (v := 0) C dX2_fillSums_39 (by decide) ?_
      refine g_istore (pc := 40) (i := 7) (j := 0) (lv2 := [(7, .int (0 : Int32)), (6, .int (0 : Int32)), (5, .int y2), (0, .ref (ad 3)), (1, .ref (ad 15)), (2, .ref (ad 28)), (3, .int x3), (4, .int x4)]) C dX2_fillSums_40 (by decide) rfl ?_
      refine g_sub [3, 4, 5, 6, 7, 1, 0] (lv2 := [(0, .ref (ad 3)), (1, .ref (ad 15)), (2, .ref (ad 28)), (3, .int x3), (4, .int x4), (6, .int (0 : Int32)), (7, .int (0 : Int32))]) rfl ?_
      refine g_it1 (pc := 42) (u_X2_fillSums_15_28_42 C hr _ _ _ _ fun S4 => ?_) _ _ _
      refine g_iinc (pc := 73) (v := (x4 + 1)) (lv2 := [(4, .int (x4 + 1)), (0, .ref (ad 3)), (1, .ref (ad 15)), (2, .ref (ad 28)), (3, .int x3)]) C dX2_fillSums_73 4 rfl rfl (by decide) rfl ?_
      refine g_goto (pc := 76) (tgt := 7) C dX2_fillSums_76 (by decide) ?_
      refine g_sub [1, 2, 3, 4, 0] rfl (hrec _ _)
    · refine g_aload_n (pc := 29) C dX2_fillSums_29 (i := 2) rfl 3 rfl ?_
      refine g_iload (pc := 30) C dX2_fillSums_30 0 rfl ?_
      refine al_X6_yearsAfterFall (pc := 32) C dX2_fillSums_32 ?_
      refine g_goto (pc := 33) (tgt := 37) C dX2_fillSums_33 (by decide) ?_
      refine g_nmi fun y5 => ?_
      refine g_istore (pc := 37) (i := 6) (j := 0) (lv2 := [(6, .int y5), (5, .int y2), (0, .ref (ad 3)), (1, .ref (ad 15)), (2, .ref (ad 28)), (3, .int x3), (4, .int x4)]) C dX2_fillSums_37 (by decide) rfl ?_
      refine g_iconst (pc := 39) (v := 0) C dX2_fillSums_39 (by decide) ?_
      refine g_istore (pc := 40) (i := 7) (j := 0) (lv2 := [(7, .int (0 : Int32)), (6, .int y5), (5, .int y2), (0, .ref (ad 3)), (1, .ref (ad 15)), (2, .ref (ad 28)), (3, .int x3), (4, .int x4)]) C dX2_fillSums_40 (by decide) rfl ?_
      refine g_sub [3, 4, 5, 6, 7, 1, 0] (lv2 := [(0, .ref (ad 3)), (1, .ref (ad 15)), (2, .ref (ad 28)), (3, .int x3), (4, .int x4), (6, .int y5), (7, .int (0 : Int32))]) rfl ?_
      refine g_it1 (pc := 42) (u_X2_fillSums_15_28_42 C hr _ _ _ _ fun S6 => ?_) _ _ _
      refine g_iinc (pc := 73) (v := (x4 + 1)) (lv2 := [(4, .int (x4 + 1)), (0, .ref (ad 3)), (1, .ref (ad 15)), (2, .ref (ad 28)), (3, .int x3)]) C dX2_fillSums_73 4 rfl rfl (by decide) rfl ?_
      refine g_goto (pc := 76) (tgt := 7) C dX2_fillSums_76 (by decide) ?_
      refine g_sub [1, 2, 3, 4, 0] rfl (hrec _ _)
set_option maxRecDepth 20000 in
theorem c_X2_fillSums_15_28 {l : Launch} {D : va_G} {ad : Nat → Nat} {cI cJ cZ : ClassId} {n : Nat} (hD : ∀ sz S, va_D (Adr ad n sz) (wX ad cI cJ cZ S)) {x3 : Int32} {S : St} {z : St} (hf : m_X2_fillSums_15_28 x3 S = some z) : CtV l yX2_fillSums cX2_fillSums 8 none ({ frames := 0, cells := 0, slots := 0, locals := 0 } : Room) D (wX ad cI cJ cZ) (tyX cI cJ cZ) ad n [.ref (ad 3), .ref (ad 15), .ref (ad 28), .int x3] S z := by
  refine CtV.of hf (by decide +kernel) (Nat.le_of_ble_eq_true rfl) hD (fun p e s m args below meth c C hr => ?_)
  refine g_sub [0, 1, 2, 3] (lv2 := [(0, .ref (ad 3)), (1, .ref (ad 15)), (2, .ref (ad 28)), (3, .int x3)]) rfl ?_
  unfold m_X2_fillSums_15_28
  refine g_aload_n (pc := 0) C dX2_fillSums_0 (i := 1) rfl 1 rfl ?_
  refine g_iconst (pc := 1) (v := 0) C dX2_fillSums_1 (by decide) ?_
  refine g_iconst (pc := 2) (v := 0) C dX2_fillSums_2 (by decide) ?_
  refine as_X2_lowSums (pc := 3) C dX2_fillSums_3 fun S1 => ?_
  refine g_iconst (pc := 4) (v := 0) C dX2_fillSums_4 (by decide) ?_
  refine g_istore (pc := 5) (i := 4) (j := 0) (lv2 := [(4, .int (0 : Int32)), (0, .ref (ad 3)), (1, .ref (ad 15)), (2, .ref (ad 28)), (3, .int x3)]) C dX2_fillSums_5 (by decide) rfl ?_
  refine g_sub [1, 2, 3, 4, 0] (lv2 := [(0, .ref (ad 3)), (1, .ref (ad 15)), (2, .ref (ad 28)), (3, .int x3), (4, .int (0 : Int32))]) rfl ?_
  refine g_it1 (pc := 7) (u_X2_fillSums_15_28_7 C hr _ _ fun S7 => ?_) _ _ _
  exact g_vret (pc := 79) C hr dX2_fillSums_79
noncomputable def b_X2_fillSums_16_28_42 (x3 : Int32) (x4 : Int32) (x6 : Int32) (k : St → Option (St)) (rec : Int32 → St → Option (St)) (x7 : Int32) (S : St) : Option (St) :=
if x7 < ((1 : Int32) <<< (x4 &&& 31)) then (
chk x7 64 <|
chk (x7 ||| ((1 : Int32) <<< (x4 &&& 31))) 64 <|
nm (sI S 16 (ix (x7 ||| ((1 : Int32) <<< (x4 &&& 31)))) ((gI S 16 (ix x7)) + x6)) fun S3 =>
rec (x7 + 1) S3)
else
k S
noncomputable def b_X2_fillSums_16_28_7 (x3 : Int32) (k : St → Option (St)) (rec : Int32 → St → Option (St)) (x4 : Int32) (S : St) : Option (St) :=
if x4 < (6 : Int32) then (
nm ((x3 + x4)) fun y2 =>
if y2 < (gI S 45 0) then (
chk y2 12 <|
nm ((gI S 28 (ix y2))) fun y5 =>
it1 (b_X2_fillSums_16_28_42 x3 x4 y5 (fun S6 =>
rec (x4 + 1) S6)) 5000 (0 : Int32) S)
else
it1 (b_X2_fillSums_16_28_42 x3 x4 (0 : Int32) (fun S4 =>
rec (x4 + 1) S4)) 5000 (0 : Int32) S)
else
k S
noncomputable def m_X2_fillSums_16_28 (x3 : Int32) (S : St) : Option (St) :=
chk (0 : Int32) 64 <|
nm (sI S 16 (ix (0 : Int32)) (0 : Int32)) fun S1 =>
it1 (b_X2_fillSums_16_28_7 x3 (fun S7 =>
some S7)) 5000 (0 : Int32) S1
set_option maxRecDepth 20000 in
theorem u_X2_fillSums_16_28_42 (C : Cx p s m args meth c cX2_fillSums 8 RX2 D (tyX cI cJ cZ) ad n (wX ad cI cJ cZ)) (hr : meth.sig.returnType = none) (x3 : Int32) (x4 : Int32) (x6 : Int32) (k : St → Option (St)) (hk : ∀ (S : St), GM p l e ({ frames := 0, cells := 0, slots := 0, locals := 0 } : Room) s m args below meth c D ad n (wX ad cI cJ cZ) 8 (QV D (wX ad cI cJ cZ) ad n args s below) (k S) S 73 [(0, .ref (ad 3)), (1, .ref (ad 16)), (2, .ref (ad 28)), (3, .int x3), (4, .int x4)] []) (rec : Int32 → St → Option (St)) (hrec : ∀ (x7 : Int32) (S : St), GM p l e ({ frames := 0, cells := 0, slots := 0, locals := 0 } : Room) s m args below meth c D ad n (wX ad cI cJ cZ) 8 (QV D (wX ad cI cJ cZ) ad n args s below) (rec x7 S) S 42 [(0, .ref (ad 3)), (1, .ref (ad 16)), (2, .ref (ad 28)), (3, .int x3), (4, .int x4), (6, .int x6), (7, .int x7)] []) (x7 : Int32) (S : St) : GM p l e ({ frames := 0, cells := 0, slots := 0, locals := 0 } : Room) s m args below meth c D ad n (wX ad cI cJ cZ) 8 (QV D (wX ad cI cJ cZ) ad n args s below) (b_X2_fillSums_16_28_42 x3 x4 x6 k rec x7 S) S 42 [(0, .ref (ad 3)), (1, .ref (ad 16)), (2, .ref (ad 28)), (3, .int x3), (4, .int x4), (6, .int x6), (7, .int x7)] [] := by
  unfold b_X2_fillSums_16_28_42
  refine g_iload (pc := 42) C dX2_fillSums_42 6 rfl ?_
  refine g_iconst (pc := 44) (v := 1) C dX2_fillSums_44 (by decide) ?_
  refine g_iload (pc := 45) C dX2_fillSums_45 4 rfl ?_
  refine g_ishl (pc := 47) C dX2_fillSums_47 ?_
  refine g_icmp_ge (pc := 48) (tgt := 73) C dX2_fillSums_48 (by decide) ?_ ?_
  · refine g_sub [0, 1, 2, 3, 4] rfl (hk _)
  · refine g_aload_n (pc := 51) C dX2_fillSums_51 (i := 1) rfl 1 rfl ?_
    refine g_iload (pc := 52) C dX2_fillSums_52 6 rfl ?_
    refine g_iconst (pc := 54) (v := 1) C dX2_fillSums_54 (by decide) ?_
    refine g_iload (pc := 55) C dX2_fillSums_55 4 rfl ?_
    refine g_ishl (pc := 57) C dX2_fillSums_57 ?_
    refine g_ior (pc := 58) C dX2_fillSums_58 ?_
    refine g_aload_n (pc := 59) C dX2_fillSums_59 (i := 1) rfl 1 rfl ?_
    refine g_iload (pc := 60) C dX2_fillSums_60 6 rfl ?_
    refine al_X2_highSums (pc := 62) C dX2_fillSums_62 ?_
    refine g_iload (pc := 63) C dX2_fillSums_63 5 rfl ?_
    refine g_iadd (pc := 65) C dX2_fillSums_65 ?_
    refine as_X2_highSums (pc := 66) C dX2_fillSums_66 fun S3 => ?_
    refine g_iinc (pc := 67) (v := (x7 + 1)) (lv2 := [(7, .int (x7 + 1)), (0, .ref (ad 3)), (1, .ref (ad 16)), (2, .ref (ad 28)), (3, .int x3), (4, .int x4), (6, .int x6)]) C dX2_fillSums_67 6 rfl rfl (by decide) rfl ?_
    refine g_goto (pc := 70) (tgt := 42) C dX2_fillSums_70 (by decide) ?_
    refine g_sub [1, 2, 3, 4, 5, 6, 0] rfl (hrec _ _)
set_option maxRecDepth 20000 in
theorem u_X2_fillSums_16_28_7 (C : Cx p s m args meth c cX2_fillSums 8 RX2 D (tyX cI cJ cZ) ad n (wX ad cI cJ cZ)) (hr : meth.sig.returnType = none) (x3 : Int32) (k : St → Option (St)) (hk : ∀ (S : St), GM p l e ({ frames := 0, cells := 0, slots := 0, locals := 0 } : Room) s m args below meth c D ad n (wX ad cI cJ cZ) 8 (QV D (wX ad cI cJ cZ) ad n args s below) (k S) S 79 [] []) (rec : Int32 → St → Option (St)) (hrec : ∀ (x4 : Int32) (S : St), GM p l e ({ frames := 0, cells := 0, slots := 0, locals := 0 } : Room) s m args below meth c D ad n (wX ad cI cJ cZ) 8 (QV D (wX ad cI cJ cZ) ad n args s below) (rec x4 S) S 7 [(0, .ref (ad 3)), (1, .ref (ad 16)), (2, .ref (ad 28)), (3, .int x3), (4, .int x4)] []) (x4 : Int32) (S : St) : GM p l e ({ frames := 0, cells := 0, slots := 0, locals := 0 } : Room) s m args below meth c D ad n (wX ad cI cJ cZ) 8 (QV D (wX ad cI cJ cZ) ad n args s below) (b_X2_fillSums_16_28_7 x3 k rec x4 S) S 7 [(0, .ref (ad 3)), (1, .ref (ad 16)), (2, .ref (ad 28)), (3, .int x3), (4, .int x4)] [] := by
  unfold b_X2_fillSums_16_28_7
  refine g_iload (pc := 7) C dX2_fillSums_7 4 rfl ?_
  refine g_bipush (pc := 9) (v := 6) C dX2_fillSums_9 (by decide) ?_
  refine g_icmp_ge (pc := 11) (tgt := 79) C dX2_fillSums_11 (by decide) ?_ ?_
  · refine g_sub [] rfl (hk _)
  · refine g_iload_n (pc := 14) C dX2_fillSums_14 (i := 3) rfl 3 rfl ?_
    refine g_iload (pc := 15) C dX2_fillSums_15 4 rfl ?_
    refine g_iadd (pc := 17) C dX2_fillSums_17 ?_
    refine g_nmi fun y2 => ?_
    refine g_istore (pc := 18) (i := 5) (j := 0) (lv2 := [(5, .int y2), (0, .ref (ad 3)), (1, .ref (ad 16)), (2, .ref (ad 28)), (3, .int x3), (4, .int x4)]) C dX2_fillSums_18 (by decide) rfl ?_
    refine g_iload (pc := 20) C dX2_fillSums_20 0 rfl ?_
    refine g_aload_n (pc := 22) C dX2_fillSums_22 (i := 0) rfl 1 rfl ?_
    refine gt_X2_cells (pc := 23) C q160 dX2_fillSums_23 ?_
    refine g_icmp_ge (pc := 26) (tgt := 36) C dX2_fillSums_26 (by decide) ?_ ?_
    · refine g_iconst (pc := 36) (v := 0) C dX2_fillSums_36 (by decide) ?_
      refine g_istore (pc := 37) (i := 6) (j := 0) (lv2 := [(6, .int (0 : Int32)), (5, .int y2), (0, .ref (ad 3)), (1, .ref (ad 16)), (2, .ref (ad 28)), (3, .int x3), (4, .int x4)]) C dX2_fillSums_37 (by decide) rfl ?_
      refine g_iconst (pc := 39) (v := 0) C dX2_fillSums_39 (by decide) ?_
      refine g_istore (pc := 40) (i := 7) (j := 0) (lv2 := [(7, .int (0 : Int32)), (6, .int (0 : Int32)), (5, .int y2), (0, .ref (ad 3)), (1, .ref (ad 16)), (2, .ref (ad 28)), (3, .int x3), (4, .int x4)]) C dX2_fillSums_40 (by decide) rfl ?_
      refine g_sub [3, 4, 5, 6, 7, 1, 0] (lv2 := [(0, .ref (ad 3)), (1, .ref (ad 16)), (2, .ref (ad 28)), (3, .int x3), (4, .int x4), (6, .int (0 : Int32)), (7, .int (0 : Int32))]) rfl ?_
      refine g_it1 (pc := 42) (u_X2_fillSums_16_28_42 C hr _ _ _ _ fun S4 => ?_) _ _ _
      refine g_iinc (pc := 73) (v := (x4 + 1)) (lv2 := [(4, .int (x4 + 1)), (0, .ref (ad 3)), (1, .ref (ad 16)), (2, .ref (ad 28)), (3, .int x3)]) C dX2_fillSums_73 4 rfl rfl (by decide) rfl ?_
      refine g_goto (pc := 76) (tgt := 7) C dX2_fillSums_76 (by decide) ?_
      refine g_sub [1, 2, 3, 4, 0] rfl (hrec _ _)
    · refine g_aload_n (pc := 29) C dX2_fillSums_29 (i := 2) rfl 3 rfl ?_
      refine g_iload (pc := 30) C dX2_fillSums_30 0 rfl ?_
      refine al_X6_yearsAfterFall (pc := 32) C dX2_fillSums_32 ?_
      refine g_goto (pc := 33) (tgt := 37) C dX2_fillSums_33 (by decide) ?_
      refine g_nmi fun y5 => ?_
      refine g_istore (pc := 37) (i := 6) (j := 0) (lv2 := [(6, .int y5), (5, .int y2), (0, .ref (ad 3)), (1, .ref (ad 16)), (2, .ref (ad 28)), (3, .int x3), (4, .int x4)]) C dX2_fillSums_37 (by decide) rfl ?_
      refine g_iconst (pc := 39) (v := 0) C dX2_fillSums_39 (by decide) ?_
      refine g_istore (pc := 40) (i := 7) (j := 0) (lv2 := [(7, .int (0 : Int32)), (6, .int y5), (5, .int y2), (0, .ref (ad 3)), (1, .ref (ad 16)), (2, .ref (ad 28)), (3, .int x3), (4, .int x4)]) C dX2_fillSums_40 (by decide) rfl ?_
      refine g_sub [3, 4, 5, 6, 7, 1, 0] (lv2 := [(0, .ref (ad 3)), (1, .ref (ad 16)), (2, .ref (ad 28)), (3, .int x3), (4, .int x4), (6, .int y5), (7, .int (0 : Int32))]) rfl ?_
      refine g_it1 (pc := 42) (u_X2_fillSums_16_28_42 C hr _ _ _ _ fun S6 => ?_) _ _ _
      refine g_iinc (pc := 73) (v := (x4 + 1)) (lv2 := [(4, .int (x4 + 1)), (0, .ref (ad 3)), (1, .ref (ad 16)), (2, .ref (ad 28)), (3, .int x3)]) C dX2_fillSums_73 4 rfl rfl (by decide) rfl ?_
      refine g_goto (pc := 76) (tgt := 7) C dX2_fillSums_76 (by decide) ?_
      refine g_sub [1, 2, 3, 4, 0] rfl (hrec _ _)
set_option maxRecDepth 20000 in
theorem c_X2_fillSums_16_28 {l : Launch} {D : va_G} {ad : Nat → Nat} {cI cJ cZ : ClassId} {n : Nat} (hD : ∀ sz S, va_D (Adr ad n sz) (wX ad cI cJ cZ S)) {x3 : Int32} {S : St} {z : St} (hf : m_X2_fillSums_16_28 x3 S = some z) : CtV l yX2_fillSums cX2_fillSums 8 none ({ frames := 0, cells := 0, slots := 0, locals := 0 } : Room) D (wX ad cI cJ cZ) (tyX cI cJ cZ) ad n [.ref (ad 3), .ref (ad 16), .ref (ad 28), .int x3] S z := by
  refine CtV.of hf (by decide +kernel) (Nat.le_of_ble_eq_true rfl) hD (fun p e s m args below meth c C hr => ?_)
  refine g_sub [0, 1, 2, 3] (lv2 := [(0, .ref (ad 3)), (1, .ref (ad 16)), (2, .ref (ad 28)), (3, .int x3)]) rfl ?_
  unfold m_X2_fillSums_16_28
  refine g_aload_n (pc := 0) C dX2_fillSums_0 (i := 1) rfl 1 rfl ?_
  refine g_iconst (pc := 1) (v := 0) C dX2_fillSums_1 (by decide) ?_
  refine g_iconst (pc := 2) (v := 0) C dX2_fillSums_2 (by decide) ?_
  refine as_X2_highSums (pc := 3) C dX2_fillSums_3 fun S1 => ?_
  refine g_iconst (pc := 4) (v := 0) C dX2_fillSums_4 (by decide) ?_
  refine g_istore (pc := 5) (i := 4) (j := 0) (lv2 := [(4, .int (0 : Int32)), (0, .ref (ad 3)), (1, .ref (ad 16)), (2, .ref (ad 28)), (3, .int x3)]) C dX2_fillSums_5 (by decide) rfl ?_
  refine g_sub [1, 2, 3, 4, 0] (lv2 := [(0, .ref (ad 3)), (1, .ref (ad 16)), (2, .ref (ad 28)), (3, .int x3), (4, .int (0 : Int32))]) rfl ?_
  refine g_it1 (pc := 7) (u_X2_fillSums_16_28_7 C hr _ _ fun S7 => ?_) _ _ _
  exact g_vret (pc := 79) C hr dX2_fillSums_79
noncomputable def b_X2_prepare_2_28_40 (k : St → Option (St)) (rec : Int32 → St → Option (St)) (x3 : Int32) (S : St) : Option (St) :=
if x3 < (gI S 45 0) then (
bnd (m_X1_columnOf x3 S) fun r11 S10 =>
if r11 = 0 then (
nm (sI S10 48 0 ((gI S10 48 0) ||| ((1 : Int32) <<< (x3 &&& 31)))) fun S15 =>
if r11 = ((gI S15 46 0) - (1 : Int32)) then (
nm (sI S15 49 0 ((gI S15 49 0) ||| ((1 : Int32) <<< (x3 &&& 31)))) fun S17 =>
rec (x3 + 1) S17)
else
nm (sI S15 49 0 ((gI S15 49 0) ||| (0 : Int32))) fun S16 =>
rec (x3 + 1) S16)
else
nm (sI S10 48 0 ((gI S10 48 0) ||| (0 : Int32))) fun S12 =>
if r11 = ((gI S12 46 0) - (1 : Int32)) then (
nm (sI S12 49 0 ((gI S12 49 0) ||| ((1 : Int32) <<< (x3 &&& 31)))) fun S14 =>
rec (x3 + 1) S14)
else
nm (sI S12 49 0 ((gI S12 49 0) ||| (0 : Int32))) fun S13 =>
rec (x3 + 1) S13)
else
k S
noncomputable def m_X2_prepare_2_28 (S : St) : Option (St) :=
bnd (m_X1_cells S) fun r2 S1 =>
nm (sI S1 45 0 r2) fun S3 =>
bnd (m_X1_columns S3) fun r5 S4 =>
nm (sI S4 46 0 r5) fun S6 =>
nm (sI S6 47 0 (((1 : Int32) <<< ((gI S6 45 0) &&& 31)) - (1 : Int32))) fun S7 =>
nm (sI S7 48 0 (0 : Int32)) fun S8 =>
nm (sI S8 49 0 (0 : Int32)) fun S9 =>
it1 (b_X2_prepare_2_28_40 (fun S18 =>
bndV (m_X2_fillSums_15_28 (0 : Int32) S18) fun S19 =>
bndV (m_X2_fillSums_16_28 (6 : Int32) S19) fun S21 =>
some S21)) 5000 (0 : Int32) S9
set_option maxRecDepth 20000 in
theorem u_X2_prepare_2_28_40 (C : Cx p s m args meth c cX2_prepare 5 RX2 D (tyX cI cJ cZ) ad n (wX ad cI cJ cZ)) (hr : meth.sig.returnType = none) (k : St → Option (St)) (hk : ∀ (S : St), GM p l e ({ frames := 1, cells := 0, slots := 0, locals := 27 } : Room) s m args below meth c D ad n (wX ad cI cJ cZ) 5 (QV D (wX ad cI cJ cZ) ad n args s below) (k S) S 109 [(0, .ref (ad 3)), (2, .ref (ad 28))] []) (rec : Int32 → St → Option (St)) (hrec : ∀ (x3 : Int32) (S : St), GM p l e ({ frames := 1, cells := 0, slots := 0, locals := 27 } : Room) s m args below meth c D ad n (wX ad cI cJ cZ) 5 (QV D (wX ad cI cJ cZ) ad n args s below) (rec x3 S) S 40 [(0, .ref (ad 3)), (1, .ref (ad 2)), (2, .ref (ad 28)), (3, .int x3)] []) (x3 : Int32) (S : St) : GM p l e ({ frames := 1, cells := 0, slots := 0, locals := 27 } : Room) s m args below meth c D ad n (wX ad cI cJ cZ) 5 (QV D (wX ad cI cJ cZ) ad n args s below) (b_X2_prepare_2_28_40 k rec x3 S) S 40 [(0, .ref (ad 3)), (1, .ref (ad 2)), (2, .ref (ad 28)), (3, .int x3)] [] := by
  unfold b_X2_prepare_2_28_40
  refine g_iload_n (pc := 40) C dX2_prepare_40 (i := 3) rfl 3 rfl ?_
  refine g_aload_n (pc := 41) C dX2_prepare_41 (i := 0) rfl 0 rfl ?_
  refine gt_X2_cells (pc := 42) C q160 dX2_prepare_42 ?_
  refine g_icmp_ge (pc := 45) (tgt := 109) C dX2_prepare_45 (by decide) ?_ ?_
  · refine g_sub [0, 2] rfl (hk _)
  · refine g_aload_n (pc := 48) C dX2_prepare_48 (i := 1) rfl 1 rfl ?_
    refine g_iload_n (pc := 49) C dX2_prepare_49 (i := 3) rfl 3 rfl ?_
    refine g_callVi (pc := 50) (As := [.int _]) C q516 mw_X1_columnOf (fun _ hz => c_X1_columnOf C.2.2.2.2.2.2.2.1 hz) ⟨Nat.le_of_ble_eq_true rfl, Nat.le_of_ble_eq_true rfl⟩ rfl rfl 2 rfl rfl rfl (Nat.le_of_ble_eq_true rfl) dX2_prepare_50 fun r11 S10 => ?_
    refine g_istore (pc := 53) (i := 4) (j := 0) (lv2 := [(4, .int r11), (0, .ref (ad 3)), (1, .ref (ad 2)), (2, .ref (ad 28)), (3, .int x3)]) C dX2_prepare_53 (by decide) rfl ?_
    refine g_aload_n (pc := 55) C dX2_prepare_55 (i := 0) rfl 1 rfl ?_
    refine g_dup (pc := 56) C dX2_prepare_56 rfl ?_
    refine gt_X2_eastColumn (pc := 57) C q163 dX2_prepare_57 ?_
    refine g_iload (pc := 60) C dX2_prepare_60 0 rfl ?_
    refine g_if_ne (pc := 62) (tgt := 71) C dX2_prepare_62 (by decide) ?_ ?_
    · refine g_iconst (pc := 71) (v := 0) C dX2_prepare_71 (by decide) ?_
      refine g_ior (pc := 72) C dX2_prepare_72 ?_
      refine pt_X2_eastColumn (pc := 73) C q163 dX2_prepare_73 fun S12 => ?_
      refine g_aload_n (pc := 76) C dX2_prepare_76 (i := 0) rfl 1 rfl ?_
      refine g_dup (pc := 77) C dX2_prepare_77 rfl ?_
      refine gt_X2_westColumn (pc := 78) C q164 dX2_prepare_78 ?_
      refine g_iload (pc := 81) C dX2_prepare_81 0 rfl ?_
      refine g_aload_n (pc := 83) C dX2_prepare_83 (i := 0) rfl 1 rfl ?_
      refine gt_X2_columns (pc := 84) C q161 dX2_prepare_84 ?_
      refine g_iconst (pc := 87) (v := 1) C dX2_prepare_87 (by decide) ?_
      refine g_isub (pc := 88) C dX2_prepare_88 ?_
      refine g_icmp_ne (pc := 89) (tgt := 98) C dX2_prepare_89 (by decide) ?_ ?_
      · refine g_iconst (pc := 98) (v := 0) C dX2_prepare_98 (by decide) ?_
        refine g_ior (pc := 99) C dX2_prepare_99 ?_
        refine pt_X2_westColumn (pc := 100) C q164 dX2_prepare_100 fun S13 => ?_
        refine g_iinc (pc := 103) (v := (x3 + 1)) (lv2 := [(3, .int (x3 + 1)), (4, .int r11), (0, .ref (ad 3)), (1, .ref (ad 2)), (2, .ref (ad 28))]) C dX2_prepare_103 4 rfl rfl (by decide) rfl ?_
        refine g_goto (pc := 106) (tgt := 40) C dX2_prepare_106 (by decide) ?_
        refine g_sub [2, 3, 4, 0] rfl (hrec _ _)
      · refine g_iconst (pc := 92) (v := 1) C dX2_prepare_92 (by decide) ?_
        refine g_iload_n (pc := 93) C dX2_prepare_93 (i := 3) rfl 4 rfl ?_
        refine g_ishl (pc := 94) C dX2_prepare_94 ?_
        refine g_goto (pc := 95) (tgt := 99) C dX2_prepare_95 (by decide) ?_
        refine g_ior (pc := 99) C dX2_prepare_99 ?_
        refine pt_X2_westColumn (pc := 100) C q164 dX2_prepare_100 fun S14 => ?_
        refine g_iinc (pc := 103) (v := (x3 + 1)) (lv2 := [(3, .int (x3 + 1)), (4, .int r11), (0, .ref (ad 3)), (1, .ref (ad 2)), (2, .ref (ad 28))]) C dX2_prepare_103 4 rfl rfl (by decide) rfl ?_
        refine g_goto (pc := 106) (tgt := 40) C dX2_prepare_106 (by decide) ?_
        refine g_sub [2, 3, 4, 0] rfl (hrec _ _)
    · refine g_iconst (pc := 65) (v := 1) C dX2_prepare_65 (by decide) ?_
      refine g_iload_n (pc := 66) C dX2_prepare_66 (i := 3) rfl 4 rfl ?_
      refine g_ishl (pc := 67) C dX2_prepare_67 ?_
      refine g_goto (pc := 68) (tgt := 72) C dX2_prepare_68 (by decide) ?_
      refine g_ior (pc := 72) C dX2_prepare_72 ?_
      refine pt_X2_eastColumn (pc := 73) C q163 dX2_prepare_73 fun S15 => ?_
      refine g_aload_n (pc := 76) C dX2_prepare_76 (i := 0) rfl 1 rfl ?_
      refine g_dup (pc := 77) C dX2_prepare_77 rfl ?_
      refine gt_X2_westColumn (pc := 78) C q164 dX2_prepare_78 ?_
      refine g_iload (pc := 81) C dX2_prepare_81 0 rfl ?_
      refine g_aload_n (pc := 83) C dX2_prepare_83 (i := 0) rfl 1 rfl ?_
      refine gt_X2_columns (pc := 84) C q161 dX2_prepare_84 ?_
      refine g_iconst (pc := 87) (v := 1) C dX2_prepare_87 (by decide) ?_
      refine g_isub (pc := 88) C dX2_prepare_88 ?_
      refine g_icmp_ne (pc := 89) (tgt := 98) C dX2_prepare_89 (by decide) ?_ ?_
      · refine g_iconst (pc := 98) (v := 0) C dX2_prepare_98 (by decide) ?_
        refine g_ior (pc := 99) C dX2_prepare_99 ?_
        refine pt_X2_westColumn (pc := 100) C q164 dX2_prepare_100 fun S16 => ?_
        refine g_iinc (pc := 103) (v := (x3 + 1)) (lv2 := [(3, .int (x3 + 1)), (4, .int r11), (0, .ref (ad 3)), (1, .ref (ad 2)), (2, .ref (ad 28))]) C dX2_prepare_103 4 rfl rfl (by decide) rfl ?_
        refine g_goto (pc := 106) (tgt := 40) C dX2_prepare_106 (by decide) ?_
        refine g_sub [2, 3, 4, 0] rfl (hrec _ _)
      · refine g_iconst (pc := 92) (v := 1) C dX2_prepare_92 (by decide) ?_
        refine g_iload_n (pc := 93) C dX2_prepare_93 (i := 3) rfl 4 rfl ?_
        refine g_ishl (pc := 94) C dX2_prepare_94 ?_
        refine g_goto (pc := 95) (tgt := 99) C dX2_prepare_95 (by decide) ?_
        refine g_ior (pc := 99) C dX2_prepare_99 ?_
        refine pt_X2_westColumn (pc := 100) C q164 dX2_prepare_100 fun S17 => ?_
        refine g_iinc (pc := 103) (v := (x3 + 1)) (lv2 := [(3, .int (x3 + 1)), (4, .int r11), (0, .ref (ad 3)), (1, .ref (ad 2)), (2, .ref (ad 28))]) C dX2_prepare_103 4 rfl rfl (by decide) rfl ?_
        refine g_goto (pc := 106) (tgt := 40) C dX2_prepare_106 (by decide) ?_
        refine g_sub [2, 3, 4, 0] rfl (hrec _ _)
set_option maxRecDepth 20000 in
theorem c_X2_prepare_2_28 {l : Launch} {D : va_G} {ad : Nat → Nat} {cI cJ cZ : ClassId} {n : Nat} (hD : ∀ sz S, va_D (Adr ad n sz) (wX ad cI cJ cZ S)) {S : St} {z : St} (hf : m_X2_prepare_2_28 S = some z) : CtV l yX2_prepare cX2_prepare 5 none ({ frames := 1, cells := 0, slots := 0, locals := 27 } : Room) D (wX ad cI cJ cZ) (tyX cI cJ cZ) ad n [.ref (ad 3), .ref (ad 2), .ref (ad 28)] S z := by
  refine CtV.of hf (by decide +kernel) (Nat.le_of_ble_eq_true rfl) hD (fun p e s m args below meth c C hr => ?_)
  refine g_sub [0, 1, 2] (lv2 := [(0, .ref (ad 3)), (1, .ref (ad 2)), (2, .ref (ad 28))]) rfl ?_
  unfold m_X2_prepare_2_28
  refine g_aload_n (pc := 0) C dX2_prepare_0 (i := 0) rfl 0 rfl ?_
  refine g_aload_n (pc := 1) C dX2_prepare_1 (i := 1) rfl 1 rfl ?_
  refine g_callVi (pc := 2) (As := []) C q511 mw_X1_cells (fun _ hz => c_X1_cells C.2.2.2.2.2.2.2.1 hz) ⟨Nat.le_of_ble_eq_true rfl, Nat.le_of_ble_eq_true rfl⟩ rfl rfl 2 rfl rfl rfl (Nat.le_of_ble_eq_true rfl) dX2_prepare_2 fun r2 S1 => ?_
  refine pt_X2_cells (pc := 5) C q160 dX2_prepare_5 fun S3 => ?_
  refine g_aload_n (pc := 8) C dX2_prepare_8 (i := 0) rfl 0 rfl ?_
  refine g_aload_n (pc := 9) C dX2_prepare_9 (i := 1) rfl 1 rfl ?_
  refine g_callVi (pc := 10) (As := []) C q512 mw_X1_columns (fun _ hz => c_X1_columns C.2.2.2.2.2.2.2.1 hz) ⟨Nat.le_of_ble_eq_true rfl, Nat.le_of_ble_eq_true rfl⟩ rfl rfl 2 rfl rfl rfl (Nat.le_of_ble_eq_true rfl) dX2_prepare_10 fun r5 S4 => ?_
  refine pt_X2_columns (pc := 13) C q161 dX2_prepare_13 fun S6 => ?_
  refine g_aload_n (pc := 16) C dX2_prepare_16 (i := 0) rfl 0 rfl ?_
  refine g_iconst (pc := 17) (v := 1) C dX2_prepare_17 (by decide) ?_
  refine g_aload_n (pc := 18) C dX2_prepare_18 (i := 0) rfl 0 rfl ?_
  refine gt_X2_cells (pc := 19) C q160 dX2_prepare_19 ?_
  refine g_ishl (pc := 22) C dX2_prepare_22 ?_
  refine g_iconst (pc := 23) (v := 1) C dX2_prepare_23 (by decide) ?_
  refine g_isub (pc := 24) C dX2_prepare_24 ?_
  refine pt_X2_all (pc := 25) C q162 dX2_prepare_25 fun S7 => ?_
  refine g_aload_n (pc := 28) C dX2_prepare_28 (i := 0) rfl 0 rfl ?_
  refine g_iconst (pc := 29) (v := 0) C dX2_prepare_29 (by decide) ?_
  refine pt_X2_eastColumn (pc := 30) C q163 dX2_prepare_30 fun S8 => ?_
  refine g_aload_n (pc := 33) C dX2_prepare_33 (i := 0) rfl 0 rfl ?_
  refine g_iconst (pc := 34) (v := 0) C dX2_prepare_34 (by decide) ?_
  refine pt_X2_westColumn (pc := 35) C q164 dX2_prepare_35 fun S9 => ?_
  refine g_iconst (pc := 38) (v := 0) C dX2_prepare_38 (by decide) ?_
  refine g_istore_n (pc := 39) (i := 3) (lv2 := [(3, .int (0 : Int32)), (0, .ref (ad 3)), (1, .ref (ad 2)), (2, .ref (ad 28))]) C dX2_prepare_39 rfl (by decide) rfl ?_
  refine g_sub [1, 2, 3, 0] (lv2 := [(0, .ref (ad 3)), (1, .ref (ad 2)), (2, .ref (ad 28)), (3, .int (0 : Int32))]) rfl ?_
  refine g_it1 (pc := 40) (u_X2_prepare_2_28_40 C hr _ fun S18 => ?_) _ _ _
  refine g_aload_n (pc := 109) C dX2_prepare_109 (i := 0) rfl 0 rfl ?_
  refine g_aload_n (pc := 110) C dX2_prepare_110 (i := 0) rfl 0 rfl ?_
  refine gt_X2_lowSums (pc := 111) C q158 dX2_prepare_111 ?_
  refine g_aload_n (pc := 114) C dX2_prepare_114 (i := 2) rfl 1 rfl ?_
  refine g_iconst (pc := 115) (v := 0) C dX2_prepare_115 (by decide) ?_
  refine g_callVv (pc := 116) (As := [.ref _, .ref _, .int _]) C q520 mw_X2_fillSums (fun _ hz => c_X2_fillSums_15_28 C.2.2.2.2.2.2.2.1 hz) ⟨Nat.le_of_ble_eq_true rfl, Nat.le_of_ble_eq_true rfl⟩ rfl rfl 3 rfl rfl rfl (Nat.le_of_ble_eq_true rfl) dX2_prepare_116 fun S19 => ?_
  refine g_aload_n (pc := 119) C dX2_prepare_119 (i := 0) rfl 0 rfl ?_
  refine g_aload_n (pc := 120) C dX2_prepare_120 (i := 0) rfl 0 rfl ?_
  refine gt_X2_highSums (pc := 121) C q159 dX2_prepare_121 ?_
  refine g_aload_n (pc := 124) C dX2_prepare_124 (i := 2) rfl 1 rfl ?_
  refine g_bipush (pc := 125) (v := 6) C dX2_prepare_125 (by decide) ?_
  refine g_callVv (pc := 127) (As := [.ref _, .ref _, .int _]) C q520 mw_X2_fillSums (fun _ hz => c_X2_fillSums_16_28 C.2.2.2.2.2.2.2.1 hz) ⟨Nat.le_of_ble_eq_true rfl, Nat.le_of_ble_eq_true rfl⟩ rfl rfl 3 rfl rfl rfl (Nat.le_of_ble_eq_true rfl) dX2_prepare_127 fun S21 => ?_
  exact g_vret (pc := 130) C hr dX2_prepare_130
noncomputable def b_X2_partAgain_2_28_19 (x3 : Int32) (k : St → Option (St)) (rec : Int32 → St → Option (St)) (x4 : Int32) (S : St) : Option (St) :=
if x4 < (gI S 47 0) then (
bnd (m_J6_bitCount_0f7a4 (x4 ^^^ (gI S 50 0)) S) fun r6 S5 =>
if (gI S5 53 0) = (-1 : Int32) then (
bnd (m_X2_differenceOf x4 S5) fun r8 S7 =>
if x3 < r8 then (
rec (x4 + 2) S7)
else
bnd (m_X2_bothHang x4 S7) fun r10 S9 =>
if r10 = 0 then (
rec (x4 + 2) S9)
else
nm (sI S9 53 0 r6) fun S11 =>
nm (sI S11 52 0 x4) fun S12 =>
rec (x4 + 2) S12)
else
if r6 < (gI S5 53 0) then (
bnd (m_X2_differenceOf x4 S5) fun r14 S13 =>
if x3 < r14 then (
rec (x4 + 2) S13)
else
bnd (m_X2_bothHang x4 S13) fun r16 S15 =>
if r16 = 0 then (
rec (x4 + 2) S15)
else
nm (sI S15 53 0 r6) fun S17 =>
nm (sI S17 52 0 x4) fun S18 =>
rec (x4 + 2) S18)
else
rec (x4 + 2) S5)
else
k S
noncomputable def m_X2_partAgain_2_28 (x3 : Int32) (S : St) : Option (St) :=
bndV (m_X2_prepare_2_28 S) fun S1 =>
nm (sI S1 52 0 (-1 : Int32)) fun S3 =>
nm (sI S3 53 0 (-1 : Int32)) fun S4 =>
it1 (b_X2_partAgain_2_28_19 x3 (fun S19 =>
some S19)) 5000 (1 : Int32) S4
set_option maxRecDepth 20000 in
theorem u_X2_partAgain_2_28_19 (C : Cx p s m args meth c cX2_partAgain 6 RX2 D (tyX cI cJ cZ) ad n (wX ad cI cJ cZ)) (hr : meth.sig.returnType = none) (x3 : Int32) (k : St → Option (St)) (hk : ∀ (S : St), GM p l e ({ frames := 3, cells := 0, slots := 0, locals := 68 } : Room) s m args below meth c D ad n (wX ad cI cJ cZ) 6 (QV D (wX ad cI cJ cZ) ad n args s below) (k S) S 94 [] []) (rec : Int32 → St → Option (St)) (hrec : ∀ (x4 : Int32) (S : St), GM p l e ({ frames := 3, cells := 0, slots := 0, locals := 68 } : Room) s m args below meth c D ad n (wX ad cI cJ cZ) 6 (QV D (wX ad cI cJ cZ) ad n args s below) (rec x4 S) S 19 [(0, .ref (ad 3)), (3, .int x3), (4, .int x4)] []) (x4 : Int32) (S : St) : GM p l e ({ frames := 3, cells := 0, slots := 0, locals := 68 } : Room) s m args below meth c D ad n (wX ad cI cJ cZ) 6 (QV D (wX ad cI cJ cZ) ad n args s below) (b_X2_partAgain_2_28_19 x3 k rec x4 S) S 19 [(0, .ref (ad 3)), (3, .int x3), (4, .int x4)] [] := by
  unfold b_X2_partAgain_2_28_19
  refine g_iload (pc := 19) C dX2_partAgain_19 2 rfl ?_
  refine g_aload_n (pc := 21) C dX2_partAgain_21 (i := 0) rfl 0 rfl ?_
  refine gt_X2_all (pc := 22) C q162 dX2_partAgain_22 ?_
  refine g_icmp_ge (pc := 25) (tgt := 94) C dX2_partAgain_25 (by decide) ?_ ?_
  · refine g_sub [] rfl (hk _)
  · refine g_iload (pc := 28) C dX2_partAgain_28 2 rfl ?_
    refine g_aload_n (pc := 30) C dX2_partAgain_30 (i := 0) rfl 0 rfl ?_
    refine gt_X2_first (pc := 31) C q165 dX2_partAgain_31 ?_
    refine g_ixor (pc := 34) C dX2_partAgain_34 ?_
    refine g_callSi (pc := 35) (As := [.int _]) C q594 mw_J6_bitCount_0f7a4 (fun _ hz => c_J6_bitCount_0f7a4 C.2.2.2.2.2.2.2.1 hz) ⟨Nat.le_of_ble_eq_true rfl, Nat.le_of_ble_eq_true rfl⟩ rfl rfl rfl (Nat.le_of_ble_eq_true rfl) dX2_partAgain_35 fun r6 S5 => ?_
    refine g_istore (pc := 38) (i := 5) (j := 0) (lv2 := [(5, .int r6), (0, .ref (ad 3)), (3, .int x3), (4, .int x4)]) C dX2_partAgain_38 (by decide) rfl ?_
    refine g_aload_n (pc := 40) C dX2_partAgain_40 (i := 0) rfl 1 rfl ?_
    refine gt_X2_moved (pc := 41) C q168 dX2_partAgain_41 ?_
    refine g_iconst (pc := 44) (v := -1) C dX2_partAgain_44 (by decide) ?_
    refine g_icmp_eq (pc := 45) (tgt := 57) C dX2_partAgain_45 (by decide) ?_ ?_
    · refine g_aload_n (pc := 57) C dX2_partAgain_57 (i := 0) rfl 1 rfl ?_
      refine g_iload (pc := 58) C dX2_partAgain_58 3 rfl ?_
      refine g_callVi (pc := 60) (As := [.int _]) C q524 mw_X2_differenceOf (fun _ hz => c_X2_differenceOf C.2.2.2.2.2.2.2.1 hz) ⟨Nat.le_of_ble_eq_true rfl, Nat.le_of_ble_eq_true rfl⟩ rfl rfl 3 rfl rfl rfl (Nat.le_of_ble_eq_true rfl) dX2_partAgain_60 fun r8 S7 => ?_
      refine g_iload_n (pc := 63) C dX2_partAgain_63 (i := 3) rfl 2 rfl ?_
      refine g_icmp_gt (pc := 64) (tgt := 88) C dX2_partAgain_64 (by decide) ?_ ?_
      · refine g_iinc (pc := 88) (v := (x4 + 2)) (lv2 := [(4, .int (x4 + 2)), (5, .int r6), (0, .ref (ad 3)), (3, .int x3)]) C dX2_partAgain_88 3 rfl rfl (by decide) rfl ?_
        refine g_goto (pc := 91) (tgt := 19) C dX2_partAgain_91 (by decide) ?_
        refine g_sub [2, 3, 0] rfl (hrec _ _)
      · refine g_aload_n (pc := 67) C dX2_partAgain_67 (i := 0) rfl 1 rfl ?_
        refine g_iload (pc := 68) C dX2_partAgain_68 3 rfl ?_
        refine g_callVi (pc := 70) (As := [.int _]) C q535 mw_X2_bothHang (fun _ hz => c_X2_bothHang C.2.2.2.2.2.2.2.1 hz) ⟨Nat.le_of_ble_eq_true rfl, Nat.le_of_ble_eq_true rfl⟩ rfl rfl 3 rfl rfl rfl (Nat.le_of_ble_eq_true rfl) dX2_partAgain_70 fun r10 S9 => ?_
        refine g_if_eq (pc := 73) (tgt := 88) C dX2_partAgain_73 (by decide) ?_ ?_
        · refine g_iinc (pc := 88) (v := (x4 + 2)) (lv2 := [(4, .int (x4 + 2)), (5, .int r6), (0, .ref (ad 3)), (3, .int x3)]) C dX2_partAgain_88 3 rfl rfl (by decide) rfl ?_
          refine g_goto (pc := 91) (tgt := 19) C dX2_partAgain_91 (by decide) ?_
          refine g_sub [2, 3, 0] rfl (hrec _ _)
        · refine g_aload_n (pc := 76) C dX2_partAgain_76 (i := 0) rfl 1 rfl ?_
          refine g_iload (pc := 77) C dX2_partAgain_77 0 rfl ?_
          refine pt_X2_moved (pc := 79) C q168 dX2_partAgain_79 fun S11 => ?_
          refine g_aload_n (pc := 82) C dX2_partAgain_82 (i := 0) rfl 1 rfl ?_
          refine g_iload (pc := 83) C dX2_partAgain_83 3 rfl ?_
          refine pt_X2_firstAfter (pc := 85) C q167 dX2_partAgain_85 fun S12 => ?_
          refine g_iinc (pc := 88) (v := (x4 + 2)) (lv2 := [(4, .int (x4 + 2)), (5, .int r6), (0, .ref (ad 3)), (3, .int x3)]) C dX2_partAgain_88 3 rfl rfl (by decide) rfl ?_
          refine g_goto (pc := 91) (tgt := 19) C dX2_partAgain_91 (by decide) ?_
          refine g_sub [2, 3, 0] rfl (hrec _ _)
    · refine g_iload (pc := 48) C dX2_partAgain_48 0 rfl ?_
      refine g_aload_n (pc := 50) C dX2_partAgain_50 (i := 0) rfl 1 rfl ?_
      refine gt_X2_moved (pc := 51) C q168 dX2_partAgain_51 ?_
      refine g_icmp_ge (pc := 54) (tgt := 88) C dX2_partAgain_54 (by decide) ?_ ?_
      · refine g_iinc (pc := 88) (v := (x4 + 2)) (lv2 := [(4, .int (x4 + 2)), (5, .int r6), (0, .ref (ad 3)), (3, .int x3)]) C dX2_partAgain_88 3 rfl rfl (by decide) rfl ?_
        refine g_goto (pc := 91) (tgt := 19) C dX2_partAgain_91 (by decide) ?_
        refine g_sub [2, 3, 0] rfl (hrec _ _)
      · refine g_aload_n (pc := 57) C dX2_partAgain_57 (i := 0) rfl 1 rfl ?_
        refine g_iload (pc := 58) C dX2_partAgain_58 3 rfl ?_
        refine g_callVi (pc := 60) (As := [.int _]) C q524 mw_X2_differenceOf (fun _ hz => c_X2_differenceOf C.2.2.2.2.2.2.2.1 hz) ⟨Nat.le_of_ble_eq_true rfl, Nat.le_of_ble_eq_true rfl⟩ rfl rfl 3 rfl rfl rfl (Nat.le_of_ble_eq_true rfl) dX2_partAgain_60 fun r14 S13 => ?_
        refine g_iload_n (pc := 63) C dX2_partAgain_63 (i := 3) rfl 2 rfl ?_
        refine g_icmp_gt (pc := 64) (tgt := 88) C dX2_partAgain_64 (by decide) ?_ ?_
        · refine g_iinc (pc := 88) (v := (x4 + 2)) (lv2 := [(4, .int (x4 + 2)), (5, .int r6), (0, .ref (ad 3)), (3, .int x3)]) C dX2_partAgain_88 3 rfl rfl (by decide) rfl ?_
          refine g_goto (pc := 91) (tgt := 19) C dX2_partAgain_91 (by decide) ?_
          refine g_sub [2, 3, 0] rfl (hrec _ _)
        · refine g_aload_n (pc := 67) C dX2_partAgain_67 (i := 0) rfl 1 rfl ?_
          refine g_iload (pc := 68) C dX2_partAgain_68 3 rfl ?_
          refine g_callVi (pc := 70) (As := [.int _]) C q535 mw_X2_bothHang (fun _ hz => c_X2_bothHang C.2.2.2.2.2.2.2.1 hz) ⟨Nat.le_of_ble_eq_true rfl, Nat.le_of_ble_eq_true rfl⟩ rfl rfl 3 rfl rfl rfl (Nat.le_of_ble_eq_true rfl) dX2_partAgain_70 fun r16 S15 => ?_
          refine g_if_eq (pc := 73) (tgt := 88) C dX2_partAgain_73 (by decide) ?_ ?_
          · refine g_iinc (pc := 88) (v := (x4 + 2)) (lv2 := [(4, .int (x4 + 2)), (5, .int r6), (0, .ref (ad 3)), (3, .int x3)]) C dX2_partAgain_88 3 rfl rfl (by decide) rfl ?_
            refine g_goto (pc := 91) (tgt := 19) C dX2_partAgain_91 (by decide) ?_
            refine g_sub [2, 3, 0] rfl (hrec _ _)
          · refine g_aload_n (pc := 76) C dX2_partAgain_76 (i := 0) rfl 1 rfl ?_
            refine g_iload (pc := 77) C dX2_partAgain_77 0 rfl ?_
            refine pt_X2_moved (pc := 79) C q168 dX2_partAgain_79 fun S17 => ?_
            refine g_aload_n (pc := 82) C dX2_partAgain_82 (i := 0) rfl 1 rfl ?_
            refine g_iload (pc := 83) C dX2_partAgain_83 3 rfl ?_
            refine pt_X2_firstAfter (pc := 85) C q167 dX2_partAgain_85 fun S18 => ?_
            refine g_iinc (pc := 88) (v := (x4 + 2)) (lv2 := [(4, .int (x4 + 2)), (5, .int r6), (0, .ref (ad 3)), (3, .int x3)]) C dX2_partAgain_88 3 rfl rfl (by decide) rfl ?_
            refine g_goto (pc := 91) (tgt := 19) C dX2_partAgain_91 (by decide) ?_
            refine g_sub [2, 3, 0] rfl (hrec _ _)
set_option maxRecDepth 20000 in
theorem c_X2_partAgain_2_28 {l : Launch} {D : va_G} {ad : Nat → Nat} {cI cJ cZ : ClassId} {n : Nat} (hD : ∀ sz S, va_D (Adr ad n sz) (wX ad cI cJ cZ S)) {x3 : Int32} {S : St} {z : St} (hf : m_X2_partAgain_2_28 x3 S = some z) : CtV l yX2_partAgain cX2_partAgain 6 none ({ frames := 3, cells := 0, slots := 0, locals := 68 } : Room) D (wX ad cI cJ cZ) (tyX cI cJ cZ) ad n [.ref (ad 3), .ref (ad 2), .ref (ad 28), .int x3] S z := by
  refine CtV.of hf (by decide +kernel) (Nat.le_of_ble_eq_true rfl) hD (fun p e s m args below meth c C hr => ?_)
  refine g_sub [0, 1, 2, 3] (lv2 := [(0, .ref (ad 3)), (1, .ref (ad 2)), (2, .ref (ad 28)), (3, .int x3)]) rfl ?_
  unfold m_X2_partAgain_2_28
  refine g_aload_n (pc := 0) C dX2_partAgain_0 (i := 0) rfl 0 rfl ?_
  refine g_aload_n (pc := 1) C dX2_partAgain_1 (i := 1) rfl 1 rfl ?_
  refine g_aload_n (pc := 2) C dX2_partAgain_2 (i := 2) rfl 2 rfl ?_
  refine g_callVv (pc := 3) (As := [.ref _, .ref _]) C q507 mw_X2_prepare (fun _ hz => c_X2_prepare_2_28 C.2.2.2.2.2.2.2.1 hz) ⟨Nat.le_of_ble_eq_true rfl, Nat.le_of_ble_eq_true rfl⟩ rfl rfl 3 rfl rfl rfl (Nat.le_of_ble_eq_true rfl) dX2_partAgain_3 fun S1 => ?_
  refine g_aload_n (pc := 6) C dX2_partAgain_6 (i := 0) rfl 0 rfl ?_
  refine g_iconst (pc := 7) (v := -1) C dX2_partAgain_7 (by decide) ?_
  refine pt_X2_firstAfter (pc := 8) C q167 dX2_partAgain_8 fun S3 => ?_
  refine g_aload_n (pc := 11) C dX2_partAgain_11 (i := 0) rfl 0 rfl ?_
  refine g_iconst (pc := 12) (v := -1) C dX2_partAgain_12 (by decide) ?_
  refine pt_X2_moved (pc := 13) C q168 dX2_partAgain_13 fun S4 => ?_
  refine g_iconst (pc := 16) (v := 1) C dX2_partAgain_16 (by decide) ?_
  refine g_istore (pc := 17) (i := 4) (j := 0) (lv2 := [(4, .int (1 : Int32)), (0, .ref (ad 3)), (1, .ref (ad 2)), (2, .ref (ad 28)), (3, .int x3)]) C dX2_partAgain_17 (by decide) rfl ?_
  refine g_sub [1, 4, 0] (lv2 := [(0, .ref (ad 3)), (3, .int x3), (4, .int (1 : Int32))]) rfl ?_
  refine g_it1 (pc := 19) (u_X2_partAgain_2_28_19 C hr _ _ fun S19 => ?_) _ _ _
  exact g_vret (pc := 94) C hr dX2_partAgain_94
noncomputable def m_X2_partAfter (S : St) : Option (Int32 × St) :=
some ((gI S 52 0), S)
set_option maxRecDepth 20000 in
theorem c_X2_partAfter {l : Launch} {D : va_G} {ad : Nat → Nat} {cI cJ cZ : ClassId} {n : Nat} (hD : ∀ sz S, va_D (Adr ad n sz) (wX ad cI cJ cZ S)) {S : St} {z : Int32 × St} (hf : m_X2_partAfter S = some z) : CtI l yX2_partAfter cX2_partAfter 1 (some .int) ({ frames := 0, cells := 0, slots := 0, locals := 0 } : Room) D (wX ad cI cJ cZ) (tyX cI cJ cZ) ad n [.ref (ad 3)] S z := by
  refine CtI.of hf (by decide +kernel) (Nat.le_of_ble_eq_true rfl) hD (fun p e s m args below meth c C hr => ?_)
  refine g_sub [0] (lv2 := [(0, .ref (ad 3))]) rfl ?_
  unfold m_X2_partAfter
  refine g_aload_n (pc := 0) C dX2_partAfter_0 (i := 0) rfl 0 rfl ?_
  refine gt_X2_firstAfter (pc := 1) C q167 dX2_partAfter_1 ?_
  exact g_iret (pc := 4) C hr dX2_partAfter_4
noncomputable def m_X2_fewestMoved (S : St) : Option (Int32 × St) :=
some ((gI S 53 0), S)
set_option maxRecDepth 20000 in
theorem c_X2_fewestMoved {l : Launch} {D : va_G} {ad : Nat → Nat} {cI cJ cZ : ClassId} {n : Nat} (hD : ∀ sz S, va_D (Adr ad n sz) (wX ad cI cJ cZ S)) {S : St} {z : Int32 × St} (hf : m_X2_fewestMoved S = some z) : CtI l yX2_fewestMoved cX2_fewestMoved 1 (some .int) ({ frames := 0, cells := 0, slots := 0, locals := 0 } : Room) D (wX ad cI cJ cZ) (tyX cI cJ cZ) ad n [.ref (ad 3)] S z := by
  refine CtI.of hf (by decide +kernel) (Nat.le_of_ble_eq_true rfl) hD (fun p e s m args below meth c C hr => ?_)
  refine g_sub [0] (lv2 := [(0, .ref (ad 3))]) rfl ?_
  unfold m_X2_fewestMoved
  refine g_aload_n (pc := 0) C dX2_fewestMoved_0 (i := 0) rfl 0 rfl ?_
  refine gt_X2_moved (pc := 1) C q168 dX2_fewestMoved_1 ?_
  exact g_iret (pc := 4) C hr dX2_fewestMoved_4
noncomputable def m_X6_again (x1 : Int32) (x2 : Int32) (x3 : Int32) (S : St) : Option (Int32 × St) :=
bnd (m_X6_isCell x1 S) fun r2 S1 =>
if r2 = 0 then (
some ((-2 : Int32), S1))
else
bnd (m_X6_isBelow x2 (100000 : Int32) S1) fun r4 S3 =>
if r4 = 0 then (
some ((-2 : Int32), S3))
else
bnd (m_X6_isBelow x3 (2 : Int32) S3) fun r6 S5 =>
if r6 = 0 then (
some ((-2 : Int32), S5))
else
bndV (m_X6_knowParts S5) fun S7 =>
bnd (m_X5_standingOn x1 S7) fun r10 S9 =>
if r10 = 0 then (
some ((-3 : Int32), S9))
else
bnd (m_X2_firstPart S9) fun r12 S11 =>
if r12 = (-1 : Int32) then (
some ((-3 : Int32), S11))
else
bndV (m_X6_weighFall x1 S11) fun S13 =>
bndV (m_X2_partAgain_2_28 x2 S13) fun S15 =>
if x3 = 0 then (
bnd (m_X2_fewestMoved S15) fun r20 S19 =>
some (r20, S19))
else
bnd (m_X2_partAfter S15) fun r18 S17 =>
some (r18, S17)
set_option maxRecDepth 20000 in
theorem c_X6_again {l : Launch} {D : va_G} {ad : Nat → Nat} {cI cJ cZ : ClassId} {n : Nat} (hD : ∀ sz S, va_D (Adr ad n sz) (wX ad cI cJ cZ S)) {x1 : Int32} {x2 : Int32} {x3 : Int32} {S : St} {z : Int32 × St} (hf : m_X6_again x1 x2 x3 S = some z) : CtI l yX6_again cX6_again 4 (some .int) ({ frames := 5, cells := 0, slots := 0, locals := 112 } : Room) D (wX ad cI cJ cZ) (tyX cI cJ cZ) ad n [.ref (ad 0), .int x1, .int x2, .int x3] S z := by
  refine CtI.of hf (by decide +kernel) (Nat.le_of_ble_eq_true rfl) hD (fun p e s m args below meth c C hr => ?_)
  refine g_sub [0, 1, 2, 3] (lv2 := [(0, .ref (ad 0)), (1, .int x1), (2, .int x2), (3, .int x3)]) rfl ?_
  unfold m_X6_again
  refine g_aload_n (pc := 0) C dX6_again_0 (i := 0) rfl 0 rfl ?_
  refine g_iload_n (pc := 1) C dX6_again_1 (i := 1) rfl 1 rfl ?_
  refine g_callVi (pc := 2) (As := [.int _]) C q395 mw_X6_isCell (fun _ hz => c_X6_isCell C.2.2.2.2.2.2.2.1 hz) ⟨Nat.le_of_ble_eq_true rfl, Nat.le_of_ble_eq_true rfl⟩ rfl rfl 0 rfl rfl rfl (Nat.le_of_ble_eq_true rfl) dX6_again_2 fun r2 S1 => ?_
  refine g_if_eq (pc := 5) (tgt := 25) C dX6_again_5 (by decide) ?_ ?_
  · refine g_bipush (pc := 25) (v := -2) C dX6_again_25 (by decide) ?_
    exact g_iret (pc := 27) C hr dX6_again_27
  · refine g_iload_n (pc := 8) C dX6_again_8 (i := 2) rfl 2 rfl ?_
    refine g_ldc (pc := 9) C q574 dX6_again_9 ?_
    refine g_callSi (pc := 11) (As := [.int _, .int _]) C q303 mw_X6_isBelow (fun _ hz => c_X6_isBelow C.2.2.2.2.2.2.2.1 hz) ⟨Nat.le_of_ble_eq_true rfl, Nat.le_of_ble_eq_true rfl⟩ rfl rfl rfl (Nat.le_of_ble_eq_true rfl) dX6_again_11 fun r4 S3 => ?_
    refine g_if_eq (pc := 14) (tgt := 25) C dX6_again_14 (by decide) ?_ ?_
    · refine g_bipush (pc := 25) (v := -2) C dX6_again_25 (by decide) ?_
      exact g_iret (pc := 27) C hr dX6_again_27
    · refine g_iload_n (pc := 17) C dX6_again_17 (i := 3) rfl 3 rfl ?_
      refine g_iconst (pc := 18) (v := 2) C dX6_again_18 (by decide) ?_
      refine g_callSi (pc := 19) (As := [.int _, .int _]) C q303 mw_X6_isBelow (fun _ hz => c_X6_isBelow C.2.2.2.2.2.2.2.1 hz) ⟨Nat.le_of_ble_eq_true rfl, Nat.le_of_ble_eq_true rfl⟩ rfl rfl rfl (Nat.le_of_ble_eq_true rfl) dX6_again_19 fun r6 S5 => ?_
      refine g_if_ne (pc := 22) (tgt := 28) C dX6_again_22 (by decide) ?_ ?_
      · refine g_aload_n (pc := 28) C dX6_again_28 (i := 0) rfl 0 rfl ?_
        refine g_callVv (pc := 29) (As := []) C q495 mw_X6_knowParts (fun _ hz => c_X6_knowParts C.2.2.2.2.2.2.2.1 hz) ⟨Nat.le_of_ble_eq_true rfl, Nat.le_of_ble_eq_true rfl⟩ rfl rfl 0 rfl rfl rfl (Nat.le_of_ble_eq_true rfl) dX6_again_29 fun S7 => ?_
        refine g_aload_n (pc := 32) C dX6_again_32 (i := 0) rfl 0 rfl ?_
        refine gt_X6_sun (pc := 33) C q247 dX6_again_33 ?_
        refine g_iload_n (pc := 36) C dX6_again_36 (i := 1) rfl 1 rfl ?_
        refine g_callVi (pc := 37) (As := [.int _]) C q404 mw_X5_standingOn (fun _ hz => c_X5_standingOn C.2.2.2.2.2.2.2.1 hz) ⟨Nat.le_of_ble_eq_true rfl, Nat.le_of_ble_eq_true rfl⟩ rfl rfl 1 rfl rfl rfl (Nat.le_of_ble_eq_true rfl) dX6_again_37 fun r10 S9 => ?_
        refine g_if_eq (pc := 40) (tgt := 54) C dX6_again_40 (by decide) ?_ ?_
        · refine g_bipush (pc := 54) (v := -3) C dX6_again_54 (by decide) ?_
          exact g_iret (pc := 56) C hr dX6_again_56
        · refine g_aload_n (pc := 43) C dX6_again_43 (i := 0) rfl 0 rfl ?_
          refine gt_X6_parting (pc := 44) C q249 dX6_again_44 ?_
          refine g_callVi (pc := 47) (As := []) C q551 mw_X2_firstPart (fun _ hz => c_X2_firstPart C.2.2.2.2.2.2.2.1 hz) ⟨Nat.le_of_ble_eq_true rfl, Nat.le_of_ble_eq_true rfl⟩ rfl rfl 3 rfl rfl rfl (Nat.le_of_ble_eq_true rfl) dX6_again_47 fun r12 S11 => ?_
          refine g_iconst (pc := 50) (v := -1) C dX6_again_50 (by decide) ?_
          refine g_icmp_ne (pc := 51) (tgt := 57) C dX6_again_51 (by decide) ?_ ?_
          · refine g_aload_n (pc := 57) C dX6_again_57 (i := 0) rfl 0 rfl ?_
            refine g_iload_n (pc := 58) C dX6_again_58 (i := 1) rfl 1 rfl ?_
            refine g_callVv (pc := 59) (As := [.int _]) C q586 mw_X6_weighFall (fun _ hz => c_X6_weighFall C.2.2.2.2.2.2.2.1 hz) ⟨Nat.le_of_ble_eq_true rfl, Nat.le_of_ble_eq_true rfl⟩ rfl rfl 0 rfl rfl rfl (Nat.le_of_ble_eq_true rfl) dX6_again_59 fun S13 => ?_
            refine g_aload_n (pc := 62) C dX6_again_62 (i := 0) rfl 0 rfl ?_
            refine gt_X6_parting (pc := 63) C q249 dX6_again_63 ?_
            refine g_aload_n (pc := 66) C dX6_again_66 (i := 0) rfl 0 rfl ?_
            refine gt_X6_ground (pc := 67) C q248 dX6_again_67 ?_
            refine g_aload_n (pc := 70) C dX6_again_70 (i := 0) rfl 0 rfl ?_
            refine gt_X6_yearsAfterFall (pc := 71) C q256 dX6_again_71 ?_
            refine g_iload_n (pc := 74) C dX6_again_74 (i := 2) rfl 2 rfl ?_
            refine g_callVv (pc := 75) (As := [.ref _, .ref _, .int _]) C q590 mw_X2_partAgain (fun _ hz => c_X2_partAgain_2_28 C.2.2.2.2.2.2.2.1 hz) ⟨Nat.le_of_ble_eq_true rfl, Nat.le_of_ble_eq_true rfl⟩ rfl rfl 3 rfl rfl rfl (Nat.le_of_ble_eq_true rfl) dX6_again_75 fun S15 => ?_
            refine g_iload_n (pc := 78) C dX6_again_78 (i := 3) rfl 3 rfl ?_
            refine g_if_ne (pc := 79) (tgt := 92) C dX6_again_79 (by decide) ?_ ?_
            · refine g_aload_n (pc := 92) C dX6_again_92 (i := 0) rfl 0 rfl ?_
              refine gt_X6_parting (pc := 93) C q249 dX6_again_93 ?_
              refine g_callVi (pc := 96) (As := []) C q599 mw_X2_partAfter (fun _ hz => c_X2_partAfter C.2.2.2.2.2.2.2.1 hz) ⟨Nat.le_of_ble_eq_true rfl, Nat.le_of_ble_eq_true rfl⟩ rfl rfl 3 rfl rfl rfl (Nat.le_of_ble_eq_true rfl) dX6_again_96 fun r18 S17 => ?_
              exact g_iret (pc := 99) C hr dX6_again_99
            · refine g_aload_n (pc := 82) C dX6_again_82 (i := 0) rfl 0 rfl ?_
              refine gt_X6_parting (pc := 83) C q249 dX6_again_83 ?_
              refine g_callVi (pc := 86) (As := []) C q595 mw_X2_fewestMoved (fun _ hz => c_X2_fewestMoved C.2.2.2.2.2.2.2.1 hz) ⟨Nat.le_of_ble_eq_true rfl, Nat.le_of_ble_eq_true rfl⟩ rfl rfl 3 rfl rfl rfl (Nat.le_of_ble_eq_true rfl) dX6_again_86 fun r20 S19 => ?_
              refine g_goto (pc := 89) (tgt := 99) C dX6_again_89 (by decide) ?_
              exact g_iret (pc := 99) C hr dX6_again_99
          · refine g_bipush (pc := 54) (v := -3) C dX6_again_54 (by decide) ?_
            exact g_iret (pc := 56) C hr dX6_again_56
      · refine g_bipush (pc := 25) (v := -2) C dX6_again_25 (by decide) ?_
        exact g_iret (pc := 27) C hr dX6_again_27
noncomputable def m_X6_worth (x1 : Int32) (x2 : Int32) (x3 : Int32) (S : St) : Option (Int32 × St) :=
bnd (m_X6_isBelow x1 (4 : Int32) S) fun r2 S1 =>
if r2 = 0 then (
some ((-2 : Int32), S1))
else
bnd (m_X6_isBelow x2 (4 : Int32) S1) fun r4 S3 =>
if r4 = 0 then (
some ((-2 : Int32), S3))
else
bnd (m_X6_isBelow x3 (10 : Int32) S3) fun r6 S5 =>
if r6 = 0 then (
some ((-2 : Int32), S5))
else
nm (((x1 * (4 : Int32)) + x2)) fun y7 =>
chk y7 16 <|
nm ((gI S5 26 (ix y7))) fun y8 =>
chk y7 16 <|
nm (sI S5 26 (ix y7) x3) fun S9 =>
some (y8, S9)
set_option maxRecDepth 20000 in
theorem c_X6_worth {l : Launch} {D : va_G} {ad : Nat → Nat} {cI cJ cZ : ClassId} {n : Nat} (hD : ∀ sz S, va_D (Adr ad n sz) (wX ad cI cJ cZ S)) {x1 : Int32} {x2 : Int32} {x3 : Int32} {S : St} {z : Int32 × St} (hf : m_X6_worth x1 x2 x3 S = some z) : CtI l yX6_worth cX6_worth 6 (some .int) ({ frames := 1, cells := 0, slots := 0, locals := 21 } : Room) D (wX ad cI cJ cZ) (tyX cI cJ cZ) ad n [.ref (ad 0), .int x1, .int x2, .int x3] S z := by
  refine CtI.of hf (by decide +kernel) (Nat.le_of_ble_eq_true rfl) hD (fun p e s m args below meth c C hr => ?_)
  refine g_sub [0, 1, 2, 3] (lv2 := [(0, .ref (ad 0)), (1, .int x1), (2, .int x2), (3, .int x3)]) rfl ?_
  unfold m_X6_worth
  refine g_iload_n (pc := 0) C dX6_worth_0 (i := 1) rfl 1 rfl ?_
  refine g_iconst (pc := 1) (v := 4) C dX6_worth_1 (by decide) ?_
  refine g_callSi (pc := 2) (As := [.int _, .int _]) C q303 mw_X6_isBelow (fun _ hz => c_X6_isBelow C.2.2.2.2.2.2.2.1 hz) ⟨Nat.le_of_ble_eq_true rfl, Nat.le_of_ble_eq_true rfl⟩ rfl rfl rfl (Nat.le_of_ble_eq_true rfl) dX6_worth_2 fun r2 S1 => ?_
  refine g_if_eq (pc := 5) (tgt := 25) C dX6_worth_5 (by decide) ?_ ?_
  · refine g_bipush (pc := 25) (v := -2) C dX6_worth_25 (by decide) ?_
    exact g_iret (pc := 27) C hr dX6_worth_27
  · refine g_iload_n (pc := 8) C dX6_worth_8 (i := 2) rfl 2 rfl ?_
    refine g_iconst (pc := 9) (v := 4) C dX6_worth_9 (by decide) ?_
    refine g_callSi (pc := 10) (As := [.int _, .int _]) C q303 mw_X6_isBelow (fun _ hz => c_X6_isBelow C.2.2.2.2.2.2.2.1 hz) ⟨Nat.le_of_ble_eq_true rfl, Nat.le_of_ble_eq_true rfl⟩ rfl rfl rfl (Nat.le_of_ble_eq_true rfl) dX6_worth_10 fun r4 S3 => ?_
    refine g_if_eq (pc := 13) (tgt := 25) C dX6_worth_13 (by decide) ?_ ?_
    · refine g_bipush (pc := 25) (v := -2) C dX6_worth_25 (by decide) ?_
      exact g_iret (pc := 27) C hr dX6_worth_27
    · refine g_iload_n (pc := 16) C dX6_worth_16 (i := 3) rfl 3 rfl ?_
      refine g_bipush (pc := 17) (v := 10) C dX6_worth_17 (by decide) ?_
      refine g_callSi (pc := 19) (As := [.int _, .int _]) C q303 mw_X6_isBelow (fun _ hz => c_X6_isBelow C.2.2.2.2.2.2.2.1 hz) ⟨Nat.le_of_ble_eq_true rfl, Nat.le_of_ble_eq_true rfl⟩ rfl rfl rfl (Nat.le_of_ble_eq_true rfl) dX6_worth_19 fun r6 S5 => ?_
      refine g_if_ne (pc := 22) (tgt := 28) C dX6_worth_22 (by decide) ?_ ?_
      · refine g_iload_n (pc := 28) C dX6_worth_28 (i := 1) rfl 1 rfl ?_
        refine g_iconst (pc := 29) (v := 4) C dX6_worth_29 (by decide) ?_
        refine g_imul (pc := 30) C dX6_worth_30 ?_
        refine g_iload_n (pc := 31) C dX6_worth_31 (i := 2) rfl 2 rfl ?_
        refine g_iadd (pc := 32) C dX6_worth_32 ?_
        refine g_nmi fun y7 => ?_
        refine g_istore (pc := 33) (i := 4) (j := 0) (lv2 := [(4, .int y7), (0, .ref (ad 0)), (1, .int x1), (2, .int x2), (3, .int x3)]) C dX6_worth_33 (by decide) rfl ?_
        refine g_aload_n (pc := 35) C dX6_worth_35 (i := 0) rfl 1 rfl ?_
        refine gt_X6_worths (pc := 36) C q254 dX6_worth_36 ?_
        refine g_iload (pc := 39) C dX6_worth_39 0 rfl ?_
        refine al_X6_worths (pc := 41) C dX6_worth_41 ?_
        refine g_nmi fun y8 => ?_
        refine g_istore (pc := 42) (i := 5) (j := 0) (lv2 := [(5, .int y8), (4, .int y7), (0, .ref (ad 0)), (1, .int x1), (2, .int x2), (3, .int x3)]) C dX6_worth_42 (by decide) rfl ?_
        refine g_aload_n (pc := 44) C dX6_worth_44 (i := 0) rfl 2 rfl ?_
        refine gt_X6_worths (pc := 45) C q254 dX6_worth_45 ?_
        refine g_iload (pc := 48) C dX6_worth_48 1 rfl ?_
        refine g_iload_n (pc := 50) C dX6_worth_50 (i := 3) rfl 5 rfl ?_
        refine as_X6_worths (pc := 51) C dX6_worth_51 fun S9 => ?_
        refine g_iload (pc := 52) C dX6_worth_52 0 rfl ?_
        exact g_iret (pc := 54) C hr dX6_worth_54
      · refine g_bipush (pc := 25) (v := -2) C dX6_worth_25 (by decide) ?_
        exact g_iret (pc := 27) C hr dX6_worth_27
noncomputable def m_X5_daysOf (x1 : Int32) (S : St) : Option (Int32 × St) :=
chk x1 4 <|
some ((gI S 11 (ix x1)), S)
set_option maxRecDepth 20000 in
theorem c_X5_daysOf {l : Launch} {D : va_G} {ad : Nat → Nat} {cI cJ cZ : ClassId} {n : Nat} (hD : ∀ sz S, va_D (Adr ad n sz) (wX ad cI cJ cZ S)) {x1 : Int32} {S : St} {z : Int32 × St} (hf : m_X5_daysOf x1 S = some z) : CtI l yX5_daysOf cX5_daysOf 2 (some .int) ({ frames := 0, cells := 0, slots := 0, locals := 0 } : Room) D (wX ad cI cJ cZ) (tyX cI cJ cZ) ad n [.ref (ad 1), .int x1] S z := by
  refine CtI.of hf (by decide +kernel) (Nat.le_of_ble_eq_true rfl) hD (fun p e s m args below meth c C hr => ?_)
  refine g_sub [0, 1] (lv2 := [(0, .ref (ad 1)), (1, .int x1)]) rfl ?_
  unfold m_X5_daysOf
  refine g_aload_n (pc := 0) C dX5_daysOf_0 (i := 0) rfl 0 rfl ?_
  refine gt_X5_dayCounts (pc := 1) C q135 dX5_daysOf_1 ?_
  refine g_iload_n (pc := 4) C dX5_daysOf_4 (i := 1) rfl 1 rfl ?_
  refine al_X5_dayCounts (pc := 5) C dX5_daysOf_5 ?_
  exact g_iret (pc := 6) C hr dX5_daysOf_6
noncomputable def b_X6_worthTo_5 (x1 : Int32) (x2 : Int32) (k : Int32 → St → Option (Int32 × St)) (rec : Int32 → Int32 → St → Option (Int32 × St)) (x3 : Int32) (x4 : Int32) (S : St) : Option (Int32 × St) :=
if x4 < (4 : Int32) then (
bnd (m_X5_hoursOf x2 x4 S) fun r2 S1 =>
bnd (m_X5_daysOf x4 S1) fun r4 S3 =>
chk ((x1 * (4 : Int32)) + x4) 16 <|
nm ((x3 + ((r2 * r4) * (gI S3 26 (ix ((x1 * (4 : Int32)) + x4)))))) fun y5 =>
rec y5 (x4 + 1) S3)
else
k x3 S
noncomputable def m_X6_worthTo (x1 : Int32) (x2 : Int32) (S : St) : Option (Int32 × St) :=
it2 (b_X6_worthTo_5 x1 x2 (fun x3_S6 S6 =>
some (x3_S6, S6))) 5000 (0 : Int32) (0 : Int32) S
set_option maxRecDepth 20000 in
theorem u_X6_worthTo_5 (C : Cx p s m args meth c cX6_worthTo 5 RX6 D (tyX cI cJ cZ) ad n (wX ad cI cJ cZ)) (hr : meth.sig.returnType = (some .int)) (x1 : Int32) (x2 : Int32) (k : Int32 → St → Option (Int32 × St)) (hk : ∀ (x3 : Int32) (S : St), GM p l e ({ frames := 1, cells := 0, slots := 0, locals := 22 } : Room) s m args below meth c D ad n (wX ad cI cJ cZ) 5 (QI D (wX ad cI cJ cZ) ad n args s below) (k x3 S) S 52 [(3, .int x3)] []) (rec : Int32 → Int32 → St → Option (Int32 × St)) (hrec : ∀ (x3 : Int32) (x4 : Int32) (S : St), GM p l e ({ frames := 1, cells := 0, slots := 0, locals := 22 } : Room) s m args below meth c D ad n (wX ad cI cJ cZ) 5 (QI D (wX ad cI cJ cZ) ad n args s below) (rec x3 x4 S) S 5 [(0, .ref (ad 0)), (1, .int x1), (2, .int x2), (3, .int x3), (4, .int x4)] []) (x3 : Int32) (x4 : Int32) (S : St) : GM p l e ({ frames := 1, cells := 0, slots := 0, locals := 22 } : Room) s m args below meth c D ad n (wX ad cI cJ cZ) 5 (QI D (wX ad cI cJ cZ) ad n args s below) (b_X6_worthTo_5 x1 x2 k rec x3 x4 S) S 5 [(0, .ref (ad 0)), (1, .int x1), (2, .int x2), (3, .int x3), (4, .int x4)] [] := by
  unfold b_X6_worthTo_5
  refine g_iload (pc := 5) C dX6_worthTo_5 4 rfl ?_
  refine g_iconst (pc := 7) (v := 4) C dX6_worthTo_7 (by decide) ?_
  refine g_icmp_ge (pc := 8) (tgt := 52) C dX6_worthTo_8 (by decide) ?_ ?_
  · refine g_sub [3] rfl (hk _ _)
  · refine g_iload_n (pc := 11) C dX6_worthTo_11 (i := 3) rfl 3 rfl ?_
    refine g_aload_n (pc := 12) C dX6_worthTo_12 (i := 0) rfl 0 rfl ?_
    refine gt_X6_sun (pc := 13) C q247 dX6_worthTo_13 ?_
    refine g_iload_n (pc := 16) C dX6_worthTo_16 (i := 2) rfl 2 rfl ?_
    refine g_iload (pc := 17) C dX6_worthTo_17 4 rfl ?_
    refine g_callVi (pc := 19) (As := [.int _, .int _]) C q483 mw_X5_hoursOf (fun _ hz => c_X5_hoursOf C.2.2.2.2.2.2.2.1 hz) ⟨Nat.le_of_ble_eq_true rfl, Nat.le_of_ble_eq_true rfl⟩ rfl rfl 1 rfl rfl rfl (Nat.le_of_ble_eq_true rfl) dX6_worthTo_19 fun r2 S1 => ?_
    refine g_aload_n (pc := 22) C dX6_worthTo_22 (i := 0) rfl 0 rfl ?_
    refine gt_X6_sun (pc := 23) C q247 dX6_worthTo_23 ?_
    refine g_iload (pc := 26) C dX6_worthTo_26 4 rfl ?_
    refine g_callVi (pc := 28) (As := [.int _]) C q615 mw_X5_daysOf (fun _ hz => c_X5_daysOf C.2.2.2.2.2.2.2.1 hz) ⟨Nat.le_of_ble_eq_true rfl, Nat.le_of_ble_eq_true rfl⟩ rfl rfl 1 rfl rfl rfl (Nat.le_of_ble_eq_true rfl) dX6_worthTo_28 fun r4 S3 => ?_
    refine g_imul (pc := 31) C dX6_worthTo_31 ?_
    refine g_aload_n (pc := 32) C dX6_worthTo_32 (i := 0) rfl 0 rfl ?_
    refine gt_X6_worths (pc := 33) C q254 dX6_worthTo_33 ?_
    refine g_iload_n (pc := 36) C dX6_worthTo_36 (i := 1) rfl 1 rfl ?_
    refine g_iconst (pc := 37) (v := 4) C dX6_worthTo_37 (by decide) ?_
    refine g_imul (pc := 38) C dX6_worthTo_38 ?_
    refine g_iload (pc := 39) C dX6_worthTo_39 4 rfl ?_
    refine g_iadd (pc := 41) C dX6_worthTo_41 ?_
    refine al_X6_worths (pc := 42) C dX6_worthTo_42 ?_
    refine g_imul (pc := 43) C dX6_worthTo_43 ?_
    refine g_iadd (pc := 44) C dX6_worthTo_44 ?_
    refine g_nmi fun y5 => ?_
    refine g_istore_n (pc := 45) (i := 3) (lv2 := [(3, .int y5), (0, .ref (ad 0)), (1, .int x1), (2, .int x2), (4, .int x4)]) C dX6_worthTo_45 rfl (by decide) rfl ?_
    refine g_iinc (pc := 46) (v := (x4 + 1)) (lv2 := [(4, .int (x4 + 1)), (3, .int y5), (0, .ref (ad 0)), (1, .int x1), (2, .int x2)]) C dX6_worthTo_46 4 rfl rfl (by decide) rfl ?_
    refine g_goto (pc := 49) (tgt := 5) C dX6_worthTo_49 (by decide) ?_
    refine g_sub [2, 3, 4, 1, 0] rfl (hrec _ _ _)
set_option maxRecDepth 20000 in
theorem c_X6_worthTo {l : Launch} {D : va_G} {ad : Nat → Nat} {cI cJ cZ : ClassId} {n : Nat} (hD : ∀ sz S, va_D (Adr ad n sz) (wX ad cI cJ cZ S)) {x1 : Int32} {x2 : Int32} {S : St} {z : Int32 × St} (hf : m_X6_worthTo x1 x2 S = some z) : CtI l yX6_worthTo cX6_worthTo 5 (some .int) ({ frames := 1, cells := 0, slots := 0, locals := 22 } : Room) D (wX ad cI cJ cZ) (tyX cI cJ cZ) ad n [.ref (ad 0), .int x1, .int x2] S z := by
  refine CtI.of hf (by decide +kernel) (Nat.le_of_ble_eq_true rfl) hD (fun p e s m args below meth c C hr => ?_)
  refine g_sub [0, 1, 2] (lv2 := [(0, .ref (ad 0)), (1, .int x1), (2, .int x2)]) rfl ?_
  unfold m_X6_worthTo
  refine g_iconst (pc := 0) (v := 0) C dX6_worthTo_0 (by decide) ?_
  refine g_istore_n (pc := 1) (i := 3) (lv2 := [(3, .int (0 : Int32)), (0, .ref (ad 0)), (1, .int x1), (2, .int x2)]) C dX6_worthTo_1 rfl (by decide) rfl ?_
  refine g_iconst (pc := 2) (v := 0) C dX6_worthTo_2 (by decide) ?_
  refine g_istore (pc := 3) (i := 4) (j := 0) (lv2 := [(4, .int (0 : Int32)), (3, .int (0 : Int32)), (0, .ref (ad 0)), (1, .int x1), (2, .int x2)]) C dX6_worthTo_3 (by decide) rfl ?_
  refine g_sub [2, 3, 4, 1, 0] (lv2 := [(0, .ref (ad 0)), (1, .int x1), (2, .int x2), (3, .int (0 : Int32)), (4, .int (0 : Int32))]) rfl ?_
  refine g_it2 (pc := 5) (u_X6_worthTo_5 C hr _ _ _ fun x3_S6 S6 => ?_) _ _ _ _
  refine g_iload_n (pc := 52) C dX6_worthTo_52 (i := 3) rfl 0 rfl ?_
  exact g_iret (pc := 53) C hr dX6_worthTo_53
noncomputable def m_X6_value (x1 : Int32) (x2 : Int32) (S : St) : Option (Int32 × St) :=
bnd (m_X6_isCell x1 S) fun r2 S1 =>
if r2 = 0 then (
some ((-2 : Int32), S1))
else
bnd (m_X6_isBelow x2 (4 : Int32) S1) fun r4 S3 =>
if r4 = 0 then (
some ((-2 : Int32), S3))
else
bnd (m_X6_worthTo x2 x1 S3) fun r6 S5 =>
some (r6, S5)
set_option maxRecDepth 20000 in
theorem c_X6_value {l : Launch} {D : va_G} {ad : Nat → Nat} {cI cJ cZ : ClassId} {n : Nat} (hD : ∀ sz S, va_D (Adr ad n sz) (wX ad cI cJ cZ S)) {x1 : Int32} {x2 : Int32} {S : St} {z : Int32 × St} (hf : m_X6_value x1 x2 S = some z) : CtI l yX6_value cX6_value 3 (some .int) ({ frames := 2, cells := 0, slots := 0, locals := 46 } : Room) D (wX ad cI cJ cZ) (tyX cI cJ cZ) ad n [.ref (ad 0), .int x1, .int x2] S z := by
  refine CtI.of hf (by decide +kernel) (Nat.le_of_ble_eq_true rfl) hD (fun p e s m args below meth c C hr => ?_)
  refine g_sub [0, 1, 2] (lv2 := [(0, .ref (ad 0)), (1, .int x1), (2, .int x2)]) rfl ?_
  unfold m_X6_value
  refine g_aload_n (pc := 0) C dX6_value_0 (i := 0) rfl 0 rfl ?_
  refine g_iload_n (pc := 1) C dX6_value_1 (i := 1) rfl 1 rfl ?_
  refine g_callVi (pc := 2) (As := [.int _]) C q395 mw_X6_isCell (fun _ hz => c_X6_isCell C.2.2.2.2.2.2.2.1 hz) ⟨Nat.le_of_ble_eq_true rfl, Nat.le_of_ble_eq_true rfl⟩ rfl rfl 0 rfl rfl rfl (Nat.le_of_ble_eq_true rfl) dX6_value_2 fun r2 S1 => ?_
  refine g_if_eq (pc := 5) (tgt := 16) C dX6_value_5 (by decide) ?_ ?_
  · refine g_bipush (pc := 16) (v := -2) C dX6_value_16 (by decide) ?_
    exact g_iret (pc := 18) C hr dX6_value_18
  · refine g_iload_n (pc := 8) C dX6_value_8 (i := 2) rfl 2 rfl ?_
    refine g_iconst (pc := 9) (v := 4) C dX6_value_9 (by decide) ?_
    refine g_callSi (pc := 10) (As := [.int _, .int _]) C q303 mw_X6_isBelow (fun _ hz => c_X6_isBelow C.2.2.2.2.2.2.2.1 hz) ⟨Nat.le_of_ble_eq_true rfl, Nat.le_of_ble_eq_true rfl⟩ rfl rfl rfl (Nat.le_of_ble_eq_true rfl) dX6_value_10 fun r4 S3 => ?_
    refine g_if_ne (pc := 13) (tgt := 19) C dX6_value_13 (by decide) ?_ ?_
    · refine g_aload_n (pc := 19) C dX6_value_19 (i := 0) rfl 0 rfl ?_
      refine g_iload_n (pc := 20) C dX6_value_20 (i := 2) rfl 2 rfl ?_
      refine g_iload_n (pc := 21) C dX6_value_21 (i := 1) rfl 1 rfl ?_
      refine g_callVi (pc := 22) (As := [.int _, .int _]) C q611 mw_X6_worthTo (fun _ hz => c_X6_worthTo C.2.2.2.2.2.2.2.1 hz) ⟨Nat.le_of_ble_eq_true rfl, Nat.le_of_ble_eq_true rfl⟩ rfl rfl 0 rfl rfl rfl (Nat.le_of_ble_eq_true rfl) dX6_value_22 fun r6 S5 => ?_
      exact g_iret (pc := 25) C hr dX6_value_25
    · refine g_bipush (pc := 16) (v := -2) C dX6_value_16 (by decide) ?_
      exact g_iret (pc := 18) C hr dX6_value_18
noncomputable def m_X6_wouldRather (x1 : Int32) (x2 : Int32) (S : St) : Option (Int32 × St) :=
chk x1 12 <|
bnd (m_X6_worthTo (gI S 25 (ix x1)) x2 S) fun r2 S1 =>
chk x1 12 <|
bnd (m_X6_worthTo (gI S1 25 (ix x1)) x1 S1) fun r4 S3 =>
if r4 < r2 then (
some ((1 : Int32), S3))
else
some ((0 : Int32), S3)
set_option maxRecDepth 20000 in
theorem c_X6_wouldRather {l : Launch} {D : va_G} {ad : Nat → Nat} {cI cJ cZ : ClassId} {n : Nat} (hD : ∀ sz S, va_D (Adr ad n sz) (wX ad cI cJ cZ S)) {x1 : Int32} {x2 : Int32} {S : St} {z : Int32 × St} (hf : m_X6_wouldRather x1 x2 S = some z) : CtI l yX6_wouldRather cX6_wouldRather 3 (some .boolean) ({ frames := 2, cells := 0, slots := 0, locals := 46 } : Room) D (wX ad cI cJ cZ) (tyX cI cJ cZ) ad n [.ref (ad 0), .int x1, .int x2] S z := by
  refine CtI.of hf (by decide +kernel) (Nat.le_of_ble_eq_true rfl) hD (fun p e s m args below meth c C hr => ?_)
  refine g_sub [0, 1, 2] (lv2 := [(0, .ref (ad 0)), (1, .int x1), (2, .int x2)]) rfl ?_
  unfold m_X6_wouldRather
  refine g_aload_n (pc := 0) C dX6_wouldRather_0 (i := 0) rfl 0 rfl ?_
  refine g_aload_n (pc := 1) C dX6_wouldRather_1 (i := 0) rfl 0 rfl ?_
  refine gt_X6_owners (pc := 2) C q253 dX6_wouldRather_2 ?_
  refine g_iload_n (pc := 5) C dX6_wouldRather_5 (i := 1) rfl 1 rfl ?_
  refine al_X6_owners (pc := 6) C dX6_wouldRather_6 ?_
  refine g_iload_n (pc := 7) C dX6_wouldRather_7 (i := 2) rfl 2 rfl ?_
  refine g_callVi (pc := 8) (As := [.int _, .int _]) C q611 mw_X6_worthTo (fun _ hz => c_X6_worthTo C.2.2.2.2.2.2.2.1 hz) ⟨Nat.le_of_ble_eq_true rfl, Nat.le_of_ble_eq_true rfl⟩ rfl rfl 0 rfl rfl rfl (Nat.le_of_ble_eq_true rfl) dX6_wouldRather_8 fun r2 S1 => ?_
  refine g_aload_n (pc := 11) C dX6_wouldRather_11 (i := 0) rfl 0 rfl ?_
  refine g_aload_n (pc := 12) C dX6_wouldRather_12 (i := 0) rfl 0 rfl ?_
  refine gt_X6_owners (pc := 13) C q253 dX6_wouldRather_13 ?_
  refine g_iload_n (pc := 16) C dX6_wouldRather_16 (i := 1) rfl 1 rfl ?_
  refine al_X6_owners (pc := 17) C dX6_wouldRather_17 ?_
  refine g_iload_n (pc := 18) C dX6_wouldRather_18 (i := 1) rfl 1 rfl ?_
  refine g_callVi (pc := 19) (As := [.int _, .int _]) C q611 mw_X6_worthTo (fun _ hz => c_X6_worthTo C.2.2.2.2.2.2.2.1 hz) ⟨Nat.le_of_ble_eq_true rfl, Nat.le_of_ble_eq_true rfl⟩ rfl rfl 0 rfl rfl rfl (Nat.le_of_ble_eq_true rfl) dX6_wouldRather_19 fun r4 S3 => ?_
  refine g_icmp_le (pc := 22) (tgt := 29) C dX6_wouldRather_22 (by decide) ?_ ?_
  · refine g_iconst (pc := 29) (v := 0) C dX6_wouldRather_29 (by decide) ?_
    exact g_zretq (pc := 30) C hr (Or.inl rfl) dX6_wouldRather_30
  · refine g_iconst (pc := 25) (v := 1) C dX6_wouldRather_25 (by decide) ?_
    refine g_goto (pc := 26) (tgt := 30) C dX6_wouldRather_26 (by decide) ?_
    exact g_zretq (pc := 30) C hr (Or.inr rfl) dX6_wouldRather_30
noncomputable def m_X6_wouldSwap (x1 : Int32) (x2 : Int32) (S : St) : Option (Int32 × St) :=
chk x1 12 <|
chk x2 12 <|
if (gI S 25 (ix x1)) = (gI S 25 (ix x2)) then (
some ((0 : Int32), S))
else
bnd (m_X6_wouldRather x1 x2 S) fun r2 S1 =>
if r2 = 0 then (
some ((0 : Int32), S1))
else
bnd (m_X6_wouldRather x2 x1 S1) fun r4 S3 =>
if r4 = 0 then (
some ((0 : Int32), S3))
else
some ((1 : Int32), S3)
set_option maxRecDepth 20000 in
theorem c_X6_wouldSwap {l : Launch} {D : va_G} {ad : Nat → Nat} {cI cJ cZ : ClassId} {n : Nat} (hD : ∀ sz S, va_D (Adr ad n sz) (wX ad cI cJ cZ S)) {x1 : Int32} {x2 : Int32} {S : St} {z : Int32 × St} (hf : m_X6_wouldSwap x1 x2 S = some z) : CtI l yX6_wouldSwap cX6_wouldSwap 3 (some .boolean) ({ frames := 3, cells := 0, slots := 0, locals := 68 } : Room) D (wX ad cI cJ cZ) (tyX cI cJ cZ) ad n [.ref (ad 0), .int x1, .int x2] S z := by
  refine CtI.of hf (by decide +kernel) (Nat.le_of_ble_eq_true rfl) hD (fun p e s m args below meth c C hr => ?_)
  refine g_sub [0, 1, 2] (lv2 := [(0, .ref (ad 0)), (1, .int x1), (2, .int x2)]) rfl ?_
  unfold m_X6_wouldSwap
  refine g_aload_n (pc := 0) C dX6_wouldSwap_0 (i := 0) rfl 0 rfl ?_
  refine gt_X6_owners (pc := 1) C q253 dX6_wouldSwap_1 ?_
  refine g_iload_n (pc := 4) C dX6_wouldSwap_4 (i := 1) rfl 1 rfl ?_
  refine al_X6_owners (pc := 5) C dX6_wouldSwap_5 ?_
  refine g_aload_n (pc := 6) C dX6_wouldSwap_6 (i := 0) rfl 0 rfl ?_
  refine gt_X6_owners (pc := 7) C q253 dX6_wouldSwap_7 ?_
  refine g_iload_n (pc := 10) C dX6_wouldSwap_10 (i := 2) rfl 2 rfl ?_
  refine al_X6_owners (pc := 11) C dX6_wouldSwap_11 ?_
  refine g_icmp_eq (pc := 12) (tgt := 37) C dX6_wouldSwap_12 (by decide) ?_ ?_
  · refine g_iconst (pc := 37) (v := 0) C dX6_wouldSwap_37 (by decide) ?_
    exact g_zretq (pc := 38) C hr (Or.inl rfl) dX6_wouldSwap_38
  · refine g_aload_n (pc := 15) C dX6_wouldSwap_15 (i := 0) rfl 0 rfl ?_
    refine g_iload_n (pc := 16) C dX6_wouldSwap_16 (i := 1) rfl 1 rfl ?_
    refine g_iload_n (pc := 17) C dX6_wouldSwap_17 (i := 2) rfl 2 rfl ?_
    refine g_callVi (pc := 18) (As := [.int _, .int _]) C q627 mw_X6_wouldRather (fun _ hz => c_X6_wouldRather C.2.2.2.2.2.2.2.1 hz) ⟨Nat.le_of_ble_eq_true rfl, Nat.le_of_ble_eq_true rfl⟩ rfl rfl 0 rfl rfl rfl (Nat.le_of_ble_eq_true rfl) dX6_wouldSwap_18 fun r2 S1 => ?_
    refine g_if_eq (pc := 21) (tgt := 37) C dX6_wouldSwap_21 (by decide) ?_ ?_
    · refine g_iconst (pc := 37) (v := 0) C dX6_wouldSwap_37 (by decide) ?_
      exact g_zretq (pc := 38) C hr (Or.inl rfl) dX6_wouldSwap_38
    · refine g_aload_n (pc := 24) C dX6_wouldSwap_24 (i := 0) rfl 0 rfl ?_
      refine g_iload_n (pc := 25) C dX6_wouldSwap_25 (i := 2) rfl 2 rfl ?_
      refine g_iload_n (pc := 26) C dX6_wouldSwap_26 (i := 1) rfl 1 rfl ?_
      refine g_callVi (pc := 27) (As := [.int _, .int _]) C q627 mw_X6_wouldRather (fun _ hz => c_X6_wouldRather C.2.2.2.2.2.2.2.1 hz) ⟨Nat.le_of_ble_eq_true rfl, Nat.le_of_ble_eq_true rfl⟩ rfl rfl 0 rfl rfl rfl (Nat.le_of_ble_eq_true rfl) dX6_wouldSwap_27 fun r4 S3 => ?_
      refine g_if_eq (pc := 30) (tgt := 37) C dX6_wouldSwap_30 (by decide) ?_ ?_
      · refine g_iconst (pc := 37) (v := 0) C dX6_wouldSwap_37 (by decide) ?_
        exact g_zretq (pc := 38) C hr (Or.inl rfl) dX6_wouldSwap_38
      · refine g_iconst (pc := 33) (v := 1) C dX6_wouldSwap_33 (by decide) ?_
        refine g_goto (pc := 34) (tgt := 38) C dX6_wouldSwap_34 (by decide) ?_
        exact g_zretq (pc := 38) C hr (Or.inr rfl) dX6_wouldSwap_38
noncomputable def m_X6_change (x1 : Int32) (x2 : Int32) (S : St) : Option (Int32 × St) :=
bnd (m_X6_isCell x1 S) fun r2 S1 =>
if r2 = 0 then (
some ((-2 : Int32), S1))
else
bnd (m_X6_isCell x2 S1) fun r4 S3 =>
if r4 = 0 then (
some ((-2 : Int32), S3))
else
if x1 = x2 then (
some ((-2 : Int32), S3))
else
bnd (m_X6_wouldSwap x1 x2 S3) fun r6 S5 =>
if r6 = 0 then (
some ((0 : Int32), S5))
else
some ((1 : Int32), S5)
set_option maxRecDepth 20000 in
theorem c_X6_change {l : Launch} {D : va_G} {ad : Nat → Nat} {cI cJ cZ : ClassId} {n : Nat} (hD : ∀ sz S, va_D (Adr ad n sz) (wX ad cI cJ cZ S)) {x1 : Int32} {x2 : Int32} {S : St} {z : Int32 × St} (hf : m_X6_change x1 x2 S = some z) : CtI l yX6_change cX6_change 3 (some .int) ({ frames := 4, cells := 0, slots := 0, locals := 90 } : Room) D (wX ad cI cJ cZ) (tyX cI cJ cZ) ad n [.ref (ad 0), .int x1, .int x2] S z := by
  refine CtI.of hf (by decide +kernel) (Nat.le_of_ble_eq_true rfl) hD (fun p e s m args below meth c C hr => ?_)
  refine g_sub [0, 1, 2] (lv2 := [(0, .ref (ad 0)), (1, .int x1), (2, .int x2)]) rfl ?_
  unfold m_X6_change
  refine g_aload_n (pc := 0) C dX6_change_0 (i := 0) rfl 0 rfl ?_
  refine g_iload_n (pc := 1) C dX6_change_1 (i := 1) rfl 1 rfl ?_
  refine g_callVi (pc := 2) (As := [.int _]) C q395 mw_X6_isCell (fun _ hz => c_X6_isCell C.2.2.2.2.2.2.2.1 hz) ⟨Nat.le_of_ble_eq_true rfl, Nat.le_of_ble_eq_true rfl⟩ rfl rfl 0 rfl rfl rfl (Nat.le_of_ble_eq_true rfl) dX6_change_2 fun r2 S1 => ?_
  refine g_if_eq (pc := 5) (tgt := 21) C dX6_change_5 (by decide) ?_ ?_
  · refine g_bipush (pc := 21) (v := -2) C dX6_change_21 (by decide) ?_
    exact g_iret (pc := 23) C hr dX6_change_23
  · refine g_aload_n (pc := 8) C dX6_change_8 (i := 0) rfl 0 rfl ?_
    refine g_iload_n (pc := 9) C dX6_change_9 (i := 2) rfl 2 rfl ?_
    refine g_callVi (pc := 10) (As := [.int _]) C q395 mw_X6_isCell (fun _ hz => c_X6_isCell C.2.2.2.2.2.2.2.1 hz) ⟨Nat.le_of_ble_eq_true rfl, Nat.le_of_ble_eq_true rfl⟩ rfl rfl 0 rfl rfl rfl (Nat.le_of_ble_eq_true rfl) dX6_change_10 fun r4 S3 => ?_
    refine g_if_eq (pc := 13) (tgt := 21) C dX6_change_13 (by decide) ?_ ?_
    · refine g_bipush (pc := 21) (v := -2) C dX6_change_21 (by decide) ?_
      exact g_iret (pc := 23) C hr dX6_change_23
    · refine g_iload_n (pc := 16) C dX6_change_16 (i := 1) rfl 1 rfl ?_
      refine g_iload_n (pc := 17) C dX6_change_17 (i := 2) rfl 2 rfl ?_
      refine g_icmp_ne (pc := 18) (tgt := 24) C dX6_change_18 (by decide) ?_ ?_
      · refine g_aload_n (pc := 24) C dX6_change_24 (i := 0) rfl 0 rfl ?_
        refine g_iload_n (pc := 25) C dX6_change_25 (i := 1) rfl 1 rfl ?_
        refine g_iload_n (pc := 26) C dX6_change_26 (i := 2) rfl 2 rfl ?_
        refine g_callVi (pc := 27) (As := [.int _, .int _]) C q623 mw_X6_wouldSwap (fun _ hz => c_X6_wouldSwap C.2.2.2.2.2.2.2.1 hz) ⟨Nat.le_of_ble_eq_true rfl, Nat.le_of_ble_eq_true rfl⟩ rfl rfl 0 rfl rfl rfl (Nat.le_of_ble_eq_true rfl) dX6_change_27 fun r6 S5 => ?_
        refine g_if_eq (pc := 30) (tgt := 37) C dX6_change_30 (by decide) ?_ ?_
        · refine g_iconst (pc := 37) (v := 0) C dX6_change_37 (by decide) ?_
          exact g_iret (pc := 38) C hr dX6_change_38
        · refine g_iconst (pc := 33) (v := 1) C dX6_change_33 (by decide) ?_
          refine g_goto (pc := 34) (tgt := 38) C dX6_change_34 (by decide) ?_
          exact g_iret (pc := 38) C hr dX6_change_38
      · refine g_bipush (pc := 21) (v := -2) C dX6_change_21 (by decide) ?_
        exact g_iret (pc := 23) C hr dX6_change_23
end MM
